theorem ak_20 : Ak 20 4 4 := ⟨by decide, by decide, rfl, rfl, by decide⟩
theorem ak_21 : Ak 21 0 0 := ⟨by decide, by decide, rfl, rfl, by decide⟩
theorem ak_22 : Ak 22 0 0 := ⟨by decide, by decide, rfl, rfl, by decide⟩
theorem ak_23 : Ak 23 0 0 := ⟨by decide, by decide, rfl, rfl, by decide⟩
theorem ak_24 : Ak 24 0 0 := ⟨by decide, by decide, rfl, rfl, by decide⟩
theorem ak_25 : Ak 25 0 0 := ⟨by decide, by decide, rfl, rfl, by decide⟩
theorem ak_26 : Ak 26 0 0 := ⟨by decide, by decide, rfl, rfl, by decide⟩
theorem ak_27 : Ak 27 3 3 := ⟨by decide, by decide, rfl, rfl, by decide⟩
theorem ak_28 : Ak 28 3 3 := ⟨by decide, by decide, rfl, rfl, by decide⟩
theorem ak_29 : Ak 29 0 0 := ⟨by decide, by decide, rfl, rfl, by decide⟩
theorem ak_30 : Ak 30 0 0 := ⟨by decide, by decide, rfl, rfl, by decide⟩
theorem ak_31 : Ak 31 0 0 := ⟨by decide, by decide, rfl, rfl, by decide⟩
theorem ak_32 : Ak 32 0 0 := ⟨by decide, by decide, rfl, rfl, by decide⟩
theorem ak_33 : Ak 33 0 0 := ⟨by decide, by decide, rfl, rfl, by decide⟩
theorem ak_34 : Ak 34 0 0 := ⟨by decide, by decide, rfl, rfl, by decide⟩
theorem ak_35 : Ak 35 0 0 := ⟨by decide, by decide, rfl, rfl, by decide⟩
theorem ak_36 : Ak 36 0 0 := ⟨by decide, by decide, rfl, rfl, by decide⟩
theorem ak_37 : Ak 37 0 0 := ⟨by decide, by decide, rfl, rfl, by decide⟩
theorem ak_38 : Ak 38 0 0 := ⟨by decide, by decide, rfl, rfl, by decide⟩
theorem ak_39 : Ak 39 0 0 := ⟨by decide, by decide, rfl, rfl, by decide⟩
theorem ak_40 : Ak 40 0 0 := ⟨by decide, by decide, rfl, rfl, by decide⟩
theorem ak_41 : Ak 41 0 0 := ⟨by decide, by decide, rfl, rfl, by decide⟩
theorem ak_42 : Ak 42 2 2 := ⟨by decide, by decide, rfl, rfl, by decide⟩
theorem ak_43 : Ak 43 4 5 := ⟨by decide, by decide, rfl, rfl, by decide⟩
theorem ak_44 : Ak 44 0 0 := ⟨by decide, by decide, rfl, rfl, by decide⟩
theorem ak_45 : Ak 45 0 0 := ⟨by decide, by decide, rfl, rfl, by decide⟩
theorem ak_46 : Ak 46 0 0 := ⟨by decide, by decide, rfl, rfl, by decide⟩
theorem ak_47 : Ak 47 0 0 := ⟨by decide, by decide, rfl, rfl, by decide⟩
theorem ak_48 : Ak 48 0 0 := ⟨by decide, by decide, rfl, rfl, by decide⟩
theorem ak_49 : Ak 49 0 0 := ⟨by decide, by decide, rfl, rfl, by decide⟩
theorem ak_50 : Ak 50 0 0 := ⟨by decide, by decide, rfl, rfl, by decide⟩
theorem ak_51 : Ak 51 0 0 := ⟨by decide, by decide, rfl, rfl, by decide⟩
theorem ak_52 : Ak 52 0 0 := ⟨by decide, by decide, rfl, rfl, by decide⟩
theorem ak_53 : Ak 53 0 0 := ⟨by decide, by decide, rfl, rfl, by decide⟩
theorem ak_54 : Ak 54 0 0 := ⟨by decide, by decide, rfl, rfl, by decide⟩
theorem ak_55 : Ak 55 0 0 := ⟨by decide, by decide, rfl, rfl, by decide⟩
theorem ak_56 : Ak 56 0 0 := ⟨by decide, by decide, rfl, rfl, by decide⟩
theorem ak_57 : Ak 57 0 0 := ⟨by decide, by decide, rfl, rfl, by decide⟩
theorem ak_58 : Ak 58 1 1 := ⟨by decide, by decide, rfl, rfl, by decide⟩
theorem ak_59 : Ak 59 4 5 := ⟨by decide, by decide, rfl, rfl, by decide⟩
theorem ak_60 : Ak 60 0 0 := ⟨by decide, by decide, rfl, rfl, by decide⟩
theorem ak_61 : Ak 61 0 0 := ⟨by decide, by decide, rfl, rfl, by decide⟩
theorem ak_62 : Ak 62 2 2 := ⟨by decide, by decide, rfl, rfl, by decide⟩
theorem ak_63 : Ak 63 0 0 := ⟨by decide, by decide, rfl, rfl, by decide⟩
theorem ak_64 : Ak 64 0 0 := ⟨by decide, by decide, rfl, rfl, by decide⟩
theorem ak_65 : Ak 65 0 0 := ⟨by decide, by decide, rfl, rfl, by decide⟩
theorem ak_66 : Ak 66 0 0 := ⟨by decide, by decide, rfl, rfl, by decide⟩
theorem ak_67 : Ak 67 0 0 := ⟨by decide, by decide, rfl, rfl, by decide⟩
theorem ak_68 : Ak 68 0 0 := ⟨by decide, by decide, rfl, rfl, by decide⟩
theorem ak_69 : Ak 69 0 0 := ⟨by decide, by decide, rfl, rfl, by decide⟩
theorem ak_70 : Ak 70 0 0 := ⟨by decide, by decide, rfl, rfl, by decide⟩
theorem ak_71 : Ak 71 0 0 := ⟨by decide, by decide, rfl, rfl, by decide⟩
theorem ak_72 : Ak 72 0 0 := ⟨by decide, by decide, rfl, rfl, by decide⟩
theorem ak_73 : Ak 73 0 0 := ⟨by decide, by decide, rfl, rfl, by decide⟩
theorem ak_74 : Ak 74 0 0 := ⟨by decide, by decide, rfl, rfl, by decide⟩
theorem ak_75 : Ak 75 0 0 := ⟨by decide, by decide, rfl, rfl, by decide⟩
theorem ak_76 : Ak 76 0 0 := ⟨by decide, by decide, rfl, rfl, by decide⟩
theorem ak_77 : Ak 77 0 0 := ⟨by decide, by decide, rfl, rfl, by decide⟩
theorem ak_78 : Ak 78 0 0 := ⟨by decide, by decide, rfl, rfl, by decide⟩
theorem ak_79 : Ak 79 0 0 := ⟨by decide, by decide, rfl, rfl, by decide⟩
theorem ak_80 : Ak 80 0 0 := ⟨by decide, by decide, rfl, rfl, by decide⟩
theorem ak_81 : Ak 81 0 0 := ⟨by decide, by decide, rfl, rfl, by decide⟩
theorem ak_82 : Ak 82 0 0 := ⟨by decide, by decide, rfl, rfl, by decide⟩
theorem ak_83 : Ak 83 0 0 := ⟨by decide, by decide, rfl, rfl, by decide⟩
theorem ak_84 : Ak 84 0 0 := ⟨by decide, by decide, rfl, rfl, by decide⟩
theorem ak_85 : Ak 85 0 0 := ⟨by decide, by decide, rfl, rfl, by decide⟩
theorem ak_86 : Ak 86 0 0 := ⟨by decide, by decide, rfl, rfl, by decide⟩
theorem ak_87 : Ak 87 0 0 := ⟨by decide, by decide, rfl, rfl, by decide⟩
theorem ak_88 : Ak 88 0 0 := ⟨by decide, by decide, rfl, rfl, by decide⟩
theorem ak_89 : Ak 89 0 0 := ⟨by decide, by decide, rfl, rfl, by decide⟩
theorem ak_90 : Ak 90 0 0 := ⟨by decide, by decide, rfl, rfl, by decide⟩
theorem ak_91 : Ak 91 0 0 := ⟨by decide, by decide, rfl, rfl, by decide⟩
theorem ak_92 : Ak 92 2 2 := ⟨by decide, by decide, rfl, rfl, by decide⟩
theorem ak_93 : Ak 93 0 0 := ⟨by decide, by decide, rfl, rfl, by decide⟩
theorem ak_94 : Ak 94 0 0 := ⟨by decide, by decide, rfl, rfl, by decide⟩
theorem ak_95 : Ak 95 0 0 := ⟨by decide, by decide, rfl, rfl, by decide⟩
theorem ak_96 : Ak 96 0 0 := ⟨by decide, by decide, rfl, rfl, by decide⟩
theorem ak_97 : Ak 97 0 0 := ⟨by decide, by decide, rfl, rfl, by decide⟩
theorem ak_98 : Ak 98 3 3 := ⟨by decide, by decide, rfl, rfl, by decide⟩
theorem ak_99 : Ak 99 3 3 := ⟨by decide, by decide, rfl, rfl, by decide⟩
theorem ak_100 : Ak 100 0 0 := ⟨by decide, by decide, rfl, rfl, by decide⟩
theorem ak_101 : Ak 101 0 0 := ⟨by decide, by decide, rfl, rfl, by decide⟩
theorem ak_102 : Ak 102 0 0 := ⟨by decide, by decide, rfl, rfl, by decide⟩
theorem ak_103 : Ak 103 0 0 := ⟨by decide, by decide, rfl, rfl, by decide⟩
theorem ak_104 : Ak 104 0 0 := ⟨by decide, by decide, rfl, rfl, by decide⟩
theorem ak_105 : Ak 105 0 0 := ⟨by decide, by decide, rfl, rfl, by decide⟩
theorem ak_106 : Ak 106 0 0 := ⟨by decide, by decide, rfl, rfl, by decide⟩
theorem ak_107 : Ak 107 0 0 := ⟨by decide, by decide, rfl, rfl, by decide⟩
theorem ak_108 : Ak 108 0 0 := ⟨by decide, by decide, rfl, rfl, by decide⟩
theorem ak_109 : Ak 109 2 2 := ⟨by decide, by decide, rfl, rfl, by decide⟩
theorem ak_110 : Ak 110 0 0 := ⟨by decide, by decide, rfl, rfl, by decide⟩
theorem ak_111 : Ak 111 0 0 := ⟨by decide, by decide, rfl, rfl, by decide⟩
theorem ak_112 : Ak 112 0 0 := ⟨by decide, by decide, rfl, rfl, by decide⟩
theorem ak_113 : Ak 113 2 2 := ⟨by decide, by decide, rfl, rfl, by decide⟩
theorem ak_114 : Ak 114 3 3 := ⟨by decide, by decide, rfl, rfl, by decide⟩
theorem dJ6_bitCount_0f7a4_0 : decode cJ6_bitCount_0f7a4 0 = .ok (.iload_n 0, 1) := by decide +kernel
theorem dJ6_bitCount_0f7a4_1 : decode cJ6_bitCount_0f7a4 1 = .ok (.iload_n 0, 1) := by decide +kernel
theorem dJ6_bitCount_0f7a4_2 : decode cJ6_bitCount_0f7a4 2 = .ok (.iconst 1, 1) := by decide +kernel
theorem dJ6_bitCount_0f7a4_3 : decode cJ6_bitCount_0f7a4 3 = .ok (.iushr, 1) := by decide +kernel
theorem dJ6_bitCount_0f7a4_4 : decode cJ6_bitCount_0f7a4 4 = .ok (.ldc_w 265, 3) := by decide +kernel
theorem dJ6_bitCount_0f7a4_7 : decode cJ6_bitCount_0f7a4 7 = .ok (.iand, 1) := by decide +kernel
theorem dJ6_bitCount_0f7a4_8 : decode cJ6_bitCount_0f7a4 8 = .ok (.isub, 1) := by decide +kernel
theorem dJ6_bitCount_0f7a4_9 : decode cJ6_bitCount_0f7a4 9 = .ok (.istore_n 0, 1) := by decide +kernel
theorem dJ6_bitCount_0f7a4_10 : decode cJ6_bitCount_0f7a4 10 = .ok (.iload_n 0, 1) := by decide +kernel
theorem dJ6_bitCount_0f7a4_11 : decode cJ6_bitCount_0f7a4 11 = .ok (.ldc_w 266, 3) := by decide +kernel
theorem dJ6_bitCount_0f7a4_14 : decode cJ6_bitCount_0f7a4 14 = .ok (.iand, 1) := by decide +kernel
theorem dJ6_bitCount_0f7a4_15 : decode cJ6_bitCount_0f7a4 15 = .ok (.iload_n 0, 1) := by decide +kernel
theorem dJ6_bitCount_0f7a4_16 : decode cJ6_bitCount_0f7a4 16 = .ok (.iconst 2, 1) := by decide +kernel
theorem dJ6_bitCount_0f7a4_17 : decode cJ6_bitCount_0f7a4 17 = .ok (.iushr, 1) := by decide +kernel
theorem dJ6_bitCount_0f7a4_18 : decode cJ6_bitCount_0f7a4 18 = .ok (.ldc_w 266, 3) := by decide +kernel
theorem dJ6_bitCount_0f7a4_21 : decode cJ6_bitCount_0f7a4 21 = .ok (.iand, 1) := by decide +kernel
theorem dJ6_bitCount_0f7a4_22 : decode cJ6_bitCount_0f7a4 22 = .ok (.iadd, 1) := by decide +kernel
theorem dJ6_bitCount_0f7a4_23 : decode cJ6_bitCount_0f7a4 23 = .ok (.istore_n 0, 1) := by decide +kernel
theorem dJ6_bitCount_0f7a4_24 : decode cJ6_bitCount_0f7a4 24 = .ok (.iload_n 0, 1) := by decide +kernel
theorem dJ6_bitCount_0f7a4_25 : decode cJ6_bitCount_0f7a4 25 = .ok (.iload_n 0, 1) := by decide +kernel
theorem dJ6_bitCount_0f7a4_26 : decode cJ6_bitCount_0f7a4 26 = .ok (.iconst 4, 1) := by decide +kernel
theorem dJ6_bitCount_0f7a4_27 : decode cJ6_bitCount_0f7a4 27 = .ok (.iushr, 1) := by decide +kernel
theorem dJ6_bitCount_0f7a4_28 : decode cJ6_bitCount_0f7a4 28 = .ok (.iadd, 1) := by decide +kernel
theorem dJ6_bitCount_0f7a4_29 : decode cJ6_bitCount_0f7a4 29 = .ok (.ldc_w 267, 3) := by decide +kernel
theorem dJ6_bitCount_0f7a4_32 : decode cJ6_bitCount_0f7a4 32 = .ok (.iand, 1) := by decide +kernel
theorem dJ6_bitCount_0f7a4_33 : decode cJ6_bitCount_0f7a4 33 = .ok (.istore_n 0, 1) := by decide +kernel
theorem dJ6_bitCount_0f7a4_34 : decode cJ6_bitCount_0f7a4 34 = .ok (.iload_n 0, 1) := by decide +kernel
theorem dJ6_bitCount_0f7a4_35 : decode cJ6_bitCount_0f7a4 35 = .ok (.iload_n 0, 1) := by decide +kernel
theorem dJ6_bitCount_0f7a4_36 : decode cJ6_bitCount_0f7a4 36 = .ok (.bipush 8, 2) := by decide +kernel
theorem dJ6_bitCount_0f7a4_38 : decode cJ6_bitCount_0f7a4 38 = .ok (.iushr, 1) := by decide +kernel
theorem dJ6_bitCount_0f7a4_39 : decode cJ6_bitCount_0f7a4 39 = .ok (.iadd, 1) := by decide +kernel
theorem dJ6_bitCount_0f7a4_40 : decode cJ6_bitCount_0f7a4 40 = .ok (.istore_n 0, 1) := by decide +kernel
theorem dJ6_bitCount_0f7a4_41 : decode cJ6_bitCount_0f7a4 41 = .ok (.iload_n 0, 1) := by decide +kernel
theorem dJ6_bitCount_0f7a4_42 : decode cJ6_bitCount_0f7a4 42 = .ok (.iload_n 0, 1) := by decide +kernel
theorem dJ6_bitCount_0f7a4_43 : decode cJ6_bitCount_0f7a4 43 = .ok (.bipush 16, 2) := by decide +kernel
theorem dJ6_bitCount_0f7a4_45 : decode cJ6_bitCount_0f7a4 45 = .ok (.iushr, 1) := by decide +kernel
theorem dJ6_bitCount_0f7a4_46 : decode cJ6_bitCount_0f7a4 46 = .ok (.iadd, 1) := by decide +kernel
theorem dJ6_bitCount_0f7a4_47 : decode cJ6_bitCount_0f7a4 47 = .ok (.istore_n 0, 1) := by decide +kernel
theorem dJ6_bitCount_0f7a4_48 : decode cJ6_bitCount_0f7a4 48 = .ok (.iload_n 0, 1) := by decide +kernel
theorem dJ6_bitCount_0f7a4_49 : decode cJ6_bitCount_0f7a4 49 = .ok (.bipush 63, 2) := by decide +kernel
theorem dJ6_bitCount_0f7a4_51 : decode cJ6_bitCount_0f7a4 51 = .ok (.iand, 1) := by decide +kernel
theorem dJ6_bitCount_0f7a4_52 : decode cJ6_bitCount_0f7a4 52 = .ok (.ireturn, 1) := by decide +kernel
noncomputable def b_J6_bitCount_0f7a4_0 (rec : Rk) (x0 : Int) (h : Hp) : Option (Int × Hp) :=
  lt (w32 (x0 - (band (bushr x0 1) 1431655765))) fun z1 =>
  lt (w32 ((band z1 858993459) + (band (bushr z1 2) 858993459))) fun z2 =>
  lt (band (w32 (z2 + (bushr z2 4))) 252645135) fun z3 =>
  lt (w32 (z3 + (bushr z3 8))) fun z4 =>
  lt (w32 (z4 + (bushr z4 16))) fun z5 =>
  some (band z5 63, h)
noncomputable def g_J6_bitCount_0f7a4 (n : Nat) : Rk := Nat.rec (motive := fun _ => Rk) (fun _ _ _ => none) (fun _ rec k l h => if k = 0 then b_J6_bitCount_0f7a4_0 rec (l.getD 0 0) h else none) n
noncomputable def f_J6_bitCount_0f7a4 (x0 : Int) (h : Hp) : Option (Int × Hp) := g_J6_bitCount_0f7a4 FU 0 [x0] h
set_option maxHeartbeats 4000000 in
set_option maxRecDepth 100000 in
theorem t_J6_bitCount_0f7a4_0 (E : xE) (d : Nat) (rec : Rk) (r : Int × Hp) (x0 : Int) (h : Hp) (hL : Lay h) (hF : b_J6_bitCount_0f7a4_0 rec x0 h = some r) : X E mJ6_bitCount_0f7a4 (d + 1) (0, 0) (0, 0) 0 [some (xi x0)] [] h (PoI r) := by
  unfold b_J6_bitCount_0f7a4_0 at hF
  refine x_iload_n (i := 0) (b := 1) dJ6_bitCount_0f7a4_0 rfl rfl rfl ?_
  refine x_iload_n (i := 0) (b := 2) dJ6_bitCount_0f7a4_1 rfl rfl rfl ?_
  refine x_iconst (n := 1) (b := 3) dJ6_bitCount_0f7a4_2 (by decide) rfl ?_
  refine x_iushr (b := 4) dJ6_bitCount_0f7a4_3 rfl ?_
  refine x_ldcw (z := 1431655765) (b := 7) dJ6_bitCount_0f7a4_4 kw_1288 (by decide) rfl ?_
  refine x_iand (b := 8) dJ6_bitCount_0f7a4_7 rfl ?_
  refine x_isubw (b := 9) dJ6_bitCount_0f7a4_8 rfl ?_
  obtain ⟨z1, e_z1, hF⟩ := lt_e hF
  refine x_eq (y := z1) e_z1 ?_
  refine x_istore_n (i := 0) (b := 10) (ls2 := [some (xi z1)]) dJ6_bitCount_0f7a4_9 rfl (Nat.le_of_ble_eq_true rfl) rfl rfl ?_
  refine x_iload_n (i := 0) (b := 11) dJ6_bitCount_0f7a4_10 rfl rfl rfl ?_
  refine x_ldcw (z := 858993459) (b := 14) dJ6_bitCount_0f7a4_11 kw_1289 (by decide) rfl ?_
  refine x_iand (b := 15) dJ6_bitCount_0f7a4_14 rfl ?_
  refine x_iload_n (i := 0) (b := 16) dJ6_bitCount_0f7a4_15 rfl rfl rfl ?_
  refine x_iconst (n := 2) (b := 17) dJ6_bitCount_0f7a4_16 (by decide) rfl ?_
  refine x_iushr (b := 18) dJ6_bitCount_0f7a4_17 rfl ?_
  refine x_ldcw (z := 858993459) (b := 21) dJ6_bitCount_0f7a4_18 kw_1289 (by decide) rfl ?_
  refine x_iand (b := 22) dJ6_bitCount_0f7a4_21 rfl ?_
  refine x_iaddw (b := 23) dJ6_bitCount_0f7a4_22 rfl ?_
  obtain ⟨z2, e_z2, hF⟩ := lt_e hF
  refine x_eq (y := z2) e_z2 ?_
  refine x_istore_n (i := 0) (b := 24) (ls2 := [some (xi z2)]) dJ6_bitCount_0f7a4_23 rfl (Nat.le_of_ble_eq_true rfl) rfl rfl ?_
  refine x_iload_n (i := 0) (b := 25) dJ6_bitCount_0f7a4_24 rfl rfl rfl ?_
  refine x_iload_n (i := 0) (b := 26) dJ6_bitCount_0f7a4_25 rfl rfl rfl ?_
  refine x_iconst (n := 4) (b := 27) dJ6_bitCount_0f7a4_26 (by decide) rfl ?_
  refine x_iushr (b := 28) dJ6_bitCount_0f7a4_27 rfl ?_
  refine x_iaddw (b := 29) dJ6_bitCount_0f7a4_28 rfl ?_
  refine x_ldcw (z := 252645135) (b := 32) dJ6_bitCount_0f7a4_29 kw_1290 (by decide) rfl ?_
  refine x_iand (b := 33) dJ6_bitCount_0f7a4_32 rfl ?_
  obtain ⟨z3, e_z3, hF⟩ := lt_e hF
  refine x_eq (y := z3) e_z3 ?_
  refine x_istore_n (i := 0) (b := 34) (ls2 := [some (xi z3)]) dJ6_bitCount_0f7a4_33 rfl (Nat.le_of_ble_eq_true rfl) rfl rfl ?_
  refine x_iload_n (i := 0) (b := 35) dJ6_bitCount_0f7a4_34 rfl rfl rfl ?_
  refine x_iload_n (i := 0) (b := 36) dJ6_bitCount_0f7a4_35 rfl rfl rfl ?_
  refine x_bipush (n := 8) (b := 38) dJ6_bitCount_0f7a4_36 (by decide) rfl ?_
  refine x_iushr (b := 39) dJ6_bitCount_0f7a4_38 rfl ?_
  refine x_iaddw (b := 40) dJ6_bitCount_0f7a4_39 rfl ?_
  obtain ⟨z4, e_z4, hF⟩ := lt_e hF
  refine x_eq (y := z4) e_z4 ?_
  refine x_istore_n (i := 0) (b := 41) (ls2 := [some (xi z4)]) dJ6_bitCount_0f7a4_40 rfl (Nat.le_of_ble_eq_true rfl) rfl rfl ?_
  refine x_iload_n (i := 0) (b := 42) dJ6_bitCount_0f7a4_41 rfl rfl rfl ?_
  refine x_iload_n (i := 0) (b := 43) dJ6_bitCount_0f7a4_42 rfl rfl rfl ?_
  refine x_bipush (n := 16) (b := 45) dJ6_bitCount_0f7a4_43 (by decide) rfl ?_
  refine x_iushr (b := 46) dJ6_bitCount_0f7a4_45 rfl ?_
  refine x_iaddw (b := 47) dJ6_bitCount_0f7a4_46 rfl ?_
  obtain ⟨z5, e_z5, hF⟩ := lt_e hF
  refine x_eq (y := z5) e_z5 ?_
  refine x_istore_n (i := 0) (b := 48) (ls2 := [some (xi z5)]) dJ6_bitCount_0f7a4_47 rfl (Nat.le_of_ble_eq_true rfl) rfl rfl ?_
  refine x_iload_n (i := 0) (b := 49) dJ6_bitCount_0f7a4_48 rfl rfl rfl ?_
  refine x_bipush (n := 63) (b := 51) dJ6_bitCount_0f7a4_49 (by decide) rfl ?_
  refine x_iand (b := 52) dJ6_bitCount_0f7a4_51 rfl ?_
  refine x_ireturn dJ6_bitCount_0f7a4_52 rfl ⟨Nat.le_refl _, Nat.le_refl _⟩ ?_
  cases hF
  exact ⟨rfl, rfl, hL⟩
set_option maxHeartbeats 4000000 in
set_option maxRecDepth 100000 in
theorem u_J6_bitCount_0f7a4 (E : xE) (d : Nat) (r : Int × Hp) : ∀ n : Nat, (∀ (x0 : Int) (h : Hp), Lay h → g_J6_bitCount_0f7a4 n 0 [x0] h = some r → X E mJ6_bitCount_0f7a4 (d + 1) (0, 0) (0, 0) 0 [some (xi x0)] [] h (PoI r)) := by
  intro n
  induction n with
  | zero => exact fun _ _ _ hF => no_e (r := r) hF
  | succ n ih => exact fun x0 h hL hF => t_J6_bitCount_0f7a4_0 E d (g_J6_bitCount_0f7a4 n) r  x0 h hL hF
theorem c_J6_bitCount_0f7a4 (d : Nat) (x0 : Int) (h : Hp) (r : Int × Hp) (hL : Lay h) (hF : f_J6_bitCount_0f7a4 x0 h = some r) : Sp mJ6_bitCount_0f7a4 (d + 1) (0, 0) [xi x0] h (PoI r) :=
  sp_of (by decide) rfl (Nat.le_of_ble_eq_true rfl) (ls := [some (xi x0)]) rfl (fun E _ => (u_J6_bitCount_0f7a4 E d r FU) x0 h hL hF)
theorem dX0_size_0 : decode cX0_size 0 = .ok (.bipush 9, 2) := by decide +kernel
theorem dX0_size_2 : decode cX0_size 2 = .ok (.aload_n 0, 1) := by decide +kernel
theorem dX0_size_3 : decode cX0_size 3 = .ok (.getfield 31, 3) := by decide +kernel
theorem dX0_size_6 : decode cX0_size 6 = .ok (.aload_n 0, 1) := by decide +kernel
theorem dX0_size_7 : decode cX0_size 7 = .ok (.getfield 35, 3) := by decide +kernel
theorem dX0_size_10 : decode cX0_size 10 = .ok (.iadd, 1) := by decide +kernel
theorem dX0_size_11 : decode cX0_size 11 = .ok (.invokestatic 80, 3) := by decide +kernel
theorem dX0_size_14 : decode cX0_size 14 = .ok (.ireturn, 1) := by decide +kernel
noncomputable def b_X0_size_0 (rec : Rk) (x0 : Int) (h : Hp) : Option (Int × Hp) :=
  ck (-2147483648 ≤ (gI h 0 x0 3) + (gI h 0 x0 4) ∧ (gI h 0 x0 3) + (gI h 0 x0 4) < 2147483648) <|
  some (min 9 ((gI h 0 x0 3) + (gI h 0 x0 4)), h)
noncomputable def g_X0_size (n : Nat) : Rk := Nat.rec (motive := fun _ => Rk) (fun _ _ _ => none) (fun _ rec k l h => if k = 0 then b_X0_size_0 rec (l.getD 0 0) h else none) n
noncomputable def f_X0_size (x0 : Int) (h : Hp) : Option (Int × Hp) := g_X0_size FU 0 [x0] h
set_option maxHeartbeats 4000000 in
set_option maxRecDepth 100000 in
theorem t_X0_size_0 (E : xE) (d : Nat) (rec : Rk) (r : Int × Hp) (x0 : Int) (h : Hp) (hL : Lay h) (hF : b_X0_size_0 rec x0 h = some r) : X E mX0_size (d + 1) (0, 0) (0, 0) 0 [some (xr 0 x0)] [] h (PoI r) := by
  unfold b_X0_size_0 at hF
  refine x_bipush (n := 9) (b := 2) dX0_size_0 (by decide) rfl ?_
  refine x_aload_n (i := 0) (b := 3) dX0_size_2 rfl rfl rfl ?_
  refine x_getI (v := gI h 0 x0 3) (b := 6) fk_X0_31 dX0_size_3 (by decide) rfl rfl ?_
  refine x_aload_n (i := 0) (b := 7) dX0_size_6 rfl rfl rfl ?_
  refine x_getI (v := gI h 0 x0 4) (b := 10) fk_X0_35 dX0_size_7 (by decide) rfl rfl ?_
  obtain ⟨hs, hF⟩ := ck_e hF
  refine x_iadd (b := 11) dX0_size_10 hs rfl ?_
  refine x_min (b := 14) dX0_size_11 mw_X0_80 (Nat.le_of_ble_eq_true rfl) ⟨Nat.le_refl _, Nat.le_refl _⟩ rfl ?_
  refine x_ireturn dX0_size_14 rfl ⟨Nat.le_refl _, Nat.le_refl _⟩ ?_
  cases hF
  exact ⟨rfl, rfl, hL⟩
set_option maxHeartbeats 4000000 in
set_option maxRecDepth 100000 in
theorem u_X0_size (E : xE) (d : Nat) (r : Int × Hp) : ∀ n : Nat, (∀ (x0 : Int) (h : Hp), Lay h → g_X0_size n 0 [x0] h = some r → X E mX0_size (d + 1) (0, 0) (0, 0) 0 [some (xr 0 x0)] [] h (PoI r)) := by
  intro n
  induction n with
  | zero => exact fun _ _ _ hF => no_e (r := r) hF
  | succ n ih => exact fun x0 h hL hF => t_X0_size_0 E d (g_X0_size n) r  x0 h hL hF
theorem c_X0_size (d : Nat) (x0 : Int) (h : Hp) (r : Int × Hp) (hL : Lay h) (hF : f_X0_size x0 h = some r) : Sp mX0_size (d + 1) (0, 0) [xr 0 x0] h (PoI r) :=
  sp_of (by decide) rfl (Nat.le_of_ble_eq_true rfl) (ls := [some (xr 0 x0)]) rfl (fun E _ => (u_X0_size E d r FU) x0 h hL hF)
theorem dX0_weight_0 : decode cX0_weight 0 = .ok (.iconst 1, 1) := by decide +kernel
theorem dX0_weight_1 : decode cX0_weight 1 = .ok (.istore_n 2, 1) := by decide +kernel
theorem dX0_weight_2 : decode cX0_weight 2 = .ok (.iconst 0, 1) := by decide +kernel
theorem dX0_weight_3 : decode cX0_weight 3 = .ok (.istore_n 3, 1) := by decide +kernel
theorem dX0_weight_4 : decode cX0_weight 4 = .ok (.iload_n 3, 1) := by decide +kernel
theorem dX0_weight_5 : decode cX0_weight 5 = .ok (.aload_n 0, 1) := by decide +kernel
theorem dX0_weight_6 : decode cX0_weight 6 = .ok (.getfield 35, 3) := by decide +kernel
theorem dX0_weight_9 : decode cX0_weight 9 = .ok (.if_icmp .ge 58, 3) := by decide +kernel
theorem dX0_weight_12 : decode cX0_weight 12 = .ok (.aload_n 0, 1) := by decide +kernel
theorem dX0_weight_13 : decode cX0_weight 13 = .ok (.getfield 31, 3) := by decide +kernel
theorem dX0_weight_16 : decode cX0_weight 16 = .ok (.iload_n 3, 1) := by decide +kernel
theorem dX0_weight_17 : decode cX0_weight 17 = .ok (.iadd, 1) := by decide +kernel
theorem dX0_weight_18 : decode cX0_weight 18 = .ok (.bipush 9, 2) := by decide +kernel
theorem dX0_weight_20 : decode cX0_weight 20 = .ok (.if_icmp .ge 47, 3) := by decide +kernel
theorem dX0_weight_23 : decode cX0_weight 23 = .ok (.aload_n 0, 1) := by decide +kernel
theorem dX0_weight_24 : decode cX0_weight 24 = .ok (.getfield 27, 3) := by decide +kernel
theorem dX0_weight_27 : decode cX0_weight 27 = .ok (.aload_n 0, 1) := by decide +kernel
theorem dX0_weight_28 : decode cX0_weight 28 = .ok (.getfield 31, 3) := by decide +kernel
theorem dX0_weight_31 : decode cX0_weight 31 = .ok (.iload_n 3, 1) := by decide +kernel
theorem dX0_weight_32 : decode cX0_weight 32 = .ok (.iadd, 1) := by decide +kernel
theorem dX0_weight_33 : decode cX0_weight 33 = .ok (.aaload, 1) := by decide +kernel
theorem dX0_weight_34 : decode cX0_weight 34 = .ok (.getfield 92, 3) := by decide +kernel
theorem dX0_weight_37 : decode cX0_weight 37 = .ok (.istore 4, 2) := by decide +kernel
theorem dX0_weight_39 : decode cX0_weight 39 = .ok (.iload_n 2, 1) := by decide +kernel
theorem dX0_weight_40 : decode cX0_weight 40 = .ok (.iload_n 1, 1) := by decide +kernel
theorem dX0_weight_41 : decode cX0_weight 41 = .ok (.iload_n 3, 1) := by decide +kernel
theorem dX0_weight_42 : decode cX0_weight 42 = .ok (.ishr, 1) := by decide +kernel
theorem dX0_weight_43 : decode cX0_weight 43 = .ok (.iconst 1, 1) := by decide +kernel
theorem dX0_weight_44 : decode cX0_weight 44 = .ok (.iand, 1) := by decide +kernel
theorem dX0_weight_45 : decode cX0_weight 45 = .ok (.iconst 1, 1) := by decide +kernel
theorem dX0_weight_46 : decode cX0_weight 46 = .ok (.if_icmp .ne 8, 3) := by decide +kernel
theorem dX0_weight_49 : decode cX0_weight 49 = .ok (.iload 4, 2) := by decide +kernel
theorem dX0_weight_51 : decode cX0_weight 51 = .ok (.goto 8, 3) := by decide +kernel
theorem dX0_weight_54 : decode cX0_weight 54 = .ok (.bipush 100, 2) := by decide +kernel
theorem dX0_weight_56 : decode cX0_weight 56 = .ok (.iload 4, 2) := by decide +kernel
theorem dX0_weight_58 : decode cX0_weight 58 = .ok (.isub, 1) := by decide +kernel
theorem dX0_weight_59 : decode cX0_weight 59 = .ok (.imul, 1) := by decide +kernel
theorem dX0_weight_60 : decode cX0_weight 60 = .ok (.istore_n 2, 1) := by decide +kernel
theorem dX0_weight_61 : decode cX0_weight 61 = .ok (.iinc 3 1, 3) := by decide +kernel
theorem dX0_weight_64 : decode cX0_weight 64 = .ok (.goto (-60), 3) := by decide +kernel
theorem dX0_weight_67 : decode cX0_weight 67 = .ok (.iload_n 2, 1) := by decide +kernel
theorem dX0_weight_68 : decode cX0_weight 68 = .ok (.ireturn, 1) := by decide +kernel
noncomputable def b_X0_weight_0 (rec : Rk) (x0 x1 : Int) (h : Hp) : Option (Int × Hp) :=
  rec 1 [x0, x1, 1, 0] h
noncomputable def b_X0_weight_1 (rec : Rk) (x0 x1 x2 x3 : Int) (h : Hp) : Option (Int × Hp) :=
  if (gI h 0 x0 4) ≤ x3 then (
    some (x2, h)
  ) else (
    ck (-2147483648 ≤ (gI h 0 x0 3) + x3 ∧ (gI h 0 x0 3) + x3 < 2147483648) <|
    if 9 ≤ ((gI h 0 x0 3) + x3) then (
      some (x2, h)
    ) else (
      ck (-2147483648 ≤ (gI h 0 x0 3) + x3 ∧ (gI h 0 x0 3) + x3 < 2147483648) <|
      ck (0 ≤ ((gI h 0 x0 3) + x3) ∧ ((gI h 0 x0 3) + x3) < 9) <|
      rf (gR h 20 x0 ((gI h 0 x0 3) + x3)) 4 fun j1 =>
      lt (gI h 4 j1 2) fun z2 =>
      if (band (bshr x1 x3) 1) = 1 then (
        rec 2 [x0, x1, x3, z2, x2] h
      ) else (
        ck (-2147483648 ≤ 100 - z2 ∧ 100 - z2 < 2147483648) <|
        rec 2 [x0, x1, x3, 100 - z2, x2] h
      )
    )
  )
noncomputable def b_X0_weight_2 (rec : Rk) (x0 x1 x3 y0 y1 : Int) (h : Hp) : Option (Int × Hp) :=
  ck (-2147483648 ≤ y1 * y0 ∧ y1 * y0 < 2147483648) <|
  lt (y1 * y0) fun z1 =>
  ck (-2147483648 ≤ x3 + 1 ∧ x3 + 1 < 2147483648) <|
  rec 1 [x0, x1, z1, x3 + 1] h
noncomputable def g_X0_weight (n : Nat) : Rk := Nat.rec (motive := fun _ => Rk) (fun _ _ _ => none) (fun _ rec k l h => if k = 0 then b_X0_weight_0 rec (l.getD 0 0) (l.getD 1 0) h else if k = 1 then b_X0_weight_1 rec (l.getD 0 0) (l.getD 1 0) (l.getD 2 0) (l.getD 3 0) h else if k = 2 then b_X0_weight_2 rec (l.getD 0 0) (l.getD 1 0) (l.getD 2 0) (l.getD 3 0) (l.getD 4 0) h else none) n
noncomputable def f_X0_weight (x0 x1 : Int) (h : Hp) : Option (Int × Hp) := g_X0_weight FU 0 [x0, x1] h
set_option maxHeartbeats 4000000 in
set_option maxRecDepth 100000 in
theorem t_X0_weight_0 (E : xE) (d : Nat) (rec : Rk) (r : Int × Hp) (hr_4 : ∀ (x0 x1 x2 x3 : Int) (h : Hp), Lay h → rec 1 [x0, x1, x2, x3] h = some r → X E mX0_weight (d + 1) (0, 0) (0, 0) 4 [some (xr 0 x0), some (xi x1), some (xi x2), some (xi x3), none] [] h (PoI r)) (x0 x1 : Int) (h : Hp) (hL : Lay h) (hF : b_X0_weight_0 rec x0 x1 h = some r) : X E mX0_weight (d + 1) (0, 0) (0, 0) 0 [some (xr 0 x0), some (xi x1), none, none, none] [] h (PoI r) := by
  unfold b_X0_weight_0 at hF
  refine x_iconst (n := 1) (b := 1) dX0_weight_0 (by decide) rfl ?_
  refine x_istore_n (i := 2) (b := 2) (ls2 := [some (xr 0 x0), some (xi x1), some (xi 1), none, none]) dX0_weight_1 rfl (Nat.le_of_ble_eq_true rfl) rfl rfl ?_
  refine x_iconst (n := 0) (b := 3) dX0_weight_2 (by decide) rfl ?_
  refine x_istore_n (i := 3) (b := 4) (ls2 := [some (xr 0 x0), some (xi x1), some (xi 1), some (xi 0), none]) dX0_weight_3 rfl (Nat.le_of_ble_eq_true rfl) rfl rfl ?_
  exact x_dp (ls2 := [some (xr 0 x0), some (xi x1), some (xi 1), some (xi 0), none]) ⟨rfl, rfl, rfl, rfl, trivial⟩ (hr_4 x0 x1 1 0 h hL hF)
set_option maxHeartbeats 4000000 in
set_option maxRecDepth 100000 in
theorem t_X0_weight_1 (E : xE) (d : Nat) (rec : Rk) (r : Int × Hp) (hr_59 : ∀ (x0 x1 x3 y0 y1 : Int) (h : Hp), Lay h → rec 2 [x0, x1, x3, y0, y1] h = some r → X E mX0_weight (d + 1) (0, 0) (0, 0) 59 [some (xr 0 x0), some (xi x1), none, some (xi x3), none] [xi y0, xi y1] h (PoI r)) (x0 x1 x2 x3 : Int) (h : Hp) (hL : Lay h) (hF : b_X0_weight_1 rec x0 x1 x2 x3 h = some r) : X E mX0_weight (d + 1) (0, 0) (0, 0) 4 [some (xr 0 x0), some (xi x1), some (xi x2), some (xi x3), none] [] h (PoI r) := by
  unfold b_X0_weight_1 at hF
  refine x_iload_n (i := 3) (b := 5) dX0_weight_4 rfl rfl rfl ?_
  refine x_aload_n (i := 0) (b := 6) dX0_weight_5 rfl rfl rfl ?_
  refine x_getI (v := gI h 0 x0 4) (b := 9) fk_X0_35 dX0_weight_6 (by decide) rfl rfl ?_
  refine x_icmp_ge (tgt := 67) (b := 12) dX0_weight_9 (by decide) rfl (fun hc => ?_) (fun hc => ?_)
  · replace hF := br_T hc hF
    refine x_iload_n (i := 2) (b := 68) dX0_weight_67 rfl rfl rfl ?_
    refine x_ireturn dX0_weight_68 rfl ⟨Nat.le_refl _, Nat.le_refl _⟩ ?_
    cases hF
    exact ⟨rfl, rfl, hL⟩
  · replace hF := br_F hc hF
    refine x_aload_n (i := 0) (b := 13) dX0_weight_12 rfl rfl rfl ?_
    refine x_getI (v := gI h 0 x0 3) (b := 16) fk_X0_31 dX0_weight_13 (by decide) rfl rfl ?_
    refine x_iload_n (i := 3) (b := 17) dX0_weight_16 rfl rfl rfl ?_
    obtain ⟨hs, hF⟩ := ck_e hF
    refine x_iadd (b := 18) dX0_weight_17 hs rfl ?_
    refine x_bipush (n := 9) (b := 20) dX0_weight_18 (by decide) rfl ?_
    refine x_icmp_ge (tgt := 67) (b := 23) dX0_weight_20 (by decide) rfl (fun hc => ?_) (fun hc => ?_)
    · replace hF := br_T hc hF
      refine x_iload_n (i := 2) (b := 68) dX0_weight_67 rfl rfl rfl ?_
      refine x_ireturn dX0_weight_68 rfl ⟨Nat.le_refl _, Nat.le_refl _⟩ ?_
      cases hF
      exact ⟨rfl, rfl, hL⟩
    · replace hF := br_F hc hF
      refine x_aload_n (i := 0) (b := 24) dX0_weight_23 rfl rfl rfl ?_
      refine x_getL (j := x0) (t := (20, 0, true)) (b := 27) fk_X0_27 dX0_weight_24 rfl hL rfl rfl rfl ?_
      refine x_aload_n (i := 0) (b := 28) dX0_weight_27 rfl rfl rfl ?_
      refine x_getI (v := gI h 0 x0 3) (b := 31) fk_X0_31 dX0_weight_28 (by decide) rfl rfl ?_
      refine x_iload_n (i := 3) (b := 32) dX0_weight_31 rfl rfl rfl ?_
      obtain ⟨hs, hF⟩ := ck_e hF
      refine x_iadd (b := 33) dX0_weight_32 hs rfl ?_
      obtain ⟨hs, hF⟩ := ck_e hF
      obtain ⟨j1, e_j1, hF⟩ := rf_e hF
      refine x_aaldM (v := some (4, j1)) (b := 34) ak_20 dX0_weight_33 hs e_j1 rfl ?_
      refine x_getI (v := gI h 4 j1 2) (b := 37) fk_X0_92 dX0_weight_34 (by decide) rfl rfl ?_
      obtain ⟨z2, e_z2, hF⟩ := lt_e hF
      refine x_eq (y := z2) e_z2 ?_
      refine x_istore (i := 4) (b := 39) (ls2 := [some (xr 0 x0), some (xi x1), some (xi x2), some (xi x3), some (xi z2)]) dX0_weight_37 (Nat.le_of_ble_eq_true rfl) rfl rfl ?_
      refine x_iload_n (i := 2) (b := 40) dX0_weight_39 rfl rfl rfl ?_
      refine x_iload_n (i := 1) (b := 41) dX0_weight_40 rfl rfl rfl ?_
      refine x_iload_n (i := 3) (b := 42) dX0_weight_41 rfl rfl rfl ?_
      refine x_ishr (b := 43) dX0_weight_42 rfl ?_
      refine x_iconst (n := 1) (b := 44) dX0_weight_43 (by decide) rfl ?_
      refine x_iand (b := 45) dX0_weight_44 rfl ?_
      refine x_iconst (n := 1) (b := 46) dX0_weight_45 (by decide) rfl ?_
      refine x_icmp_ne (tgt := 54) (b := 49) dX0_weight_46 (by decide) rfl (fun hc => ?_) (fun hc => ?_)
      · replace hF := br_F hc hF
        refine x_bipush (n := 100) (b := 56) dX0_weight_54 (by decide) rfl ?_
        refine x_iload (i := 4) (b := 58) dX0_weight_56 rfl rfl ?_
        obtain ⟨hs, hF⟩ := ck_e hF
        refine x_isub (b := 59) dX0_weight_58 hs rfl ?_
        exact x_dp (ls2 := [some (xr 0 x0), some (xi x1), none, some (xi x3), none]) ⟨rfl, rfl, rfl, trivial⟩ (hr_59 x0 x1 x3 (100 - z2) x2 h hL hF)
      · replace hF := br_T hc hF
        refine x_iload (i := 4) (b := 51) dX0_weight_49 rfl rfl ?_
        refine x_goto (tgt := 59) dX0_weight_51 (by decide) ?_
        exact x_dp (ls2 := [some (xr 0 x0), some (xi x1), none, some (xi x3), none]) ⟨rfl, rfl, rfl, trivial⟩ (hr_59 x0 x1 x3 z2 x2 h hL hF)
set_option maxHeartbeats 4000000 in
set_option maxRecDepth 100000 in
theorem t_X0_weight_2 (E : xE) (d : Nat) (rec : Rk) (r : Int × Hp) (hr_4 : ∀ (x0 x1 x2 x3 : Int) (h : Hp), Lay h → rec 1 [x0, x1, x2, x3] h = some r → X E mX0_weight (d + 1) (0, 0) (0, 0) 4 [some (xr 0 x0), some (xi x1), some (xi x2), some (xi x3), none] [] h (PoI r)) (x0 x1 x3 y0 y1 : Int) (h : Hp) (hL : Lay h) (hF : b_X0_weight_2 rec x0 x1 x3 y0 y1 h = some r) : X E mX0_weight (d + 1) (0, 0) (0, 0) 59 [some (xr 0 x0), some (xi x1), none, some (xi x3), none] [xi y0, xi y1] h (PoI r) := by
  unfold b_X0_weight_2 at hF
  obtain ⟨hs, hF⟩ := ck_e hF
  refine x_imul (b := 60) dX0_weight_59 hs rfl ?_
  obtain ⟨z1, e_z1, hF⟩ := lt_e hF
  refine x_eq (y := z1) e_z1 ?_
  refine x_istore_n (i := 2) (b := 61) (ls2 := [some (xr 0 x0), some (xi x1), some (xi z1), some (xi x3), none]) dX0_weight_60 rfl (Nat.le_of_ble_eq_true rfl) rfl rfl ?_
  obtain ⟨hs, hF⟩ := ck_e hF
  refine x_iinc (i := 3) (b := 64) (ls2 := [some (xr 0 x0), some (xi x1), some (xi z1), some (xi (x3 + 1)), none]) dX0_weight_61 rfl (Nat.le_of_ble_eq_true rfl) hs rfl rfl ?_
  refine x_goto (tgt := 4) dX0_weight_64 (by decide) ?_
  exact x_dp (ls2 := [some (xr 0 x0), some (xi x1), some (xi z1), some (xi (x3 + 1)), none]) ⟨rfl, rfl, rfl, rfl, trivial⟩ (hr_4 x0 x1 z1 (x3 + 1) h hL hF)
set_option maxHeartbeats 4000000 in
set_option maxRecDepth 100000 in
theorem u_X0_weight (E : xE) (d : Nat) (r : Int × Hp) : ∀ n : Nat, (∀ (x0 x1 : Int) (h : Hp), Lay h → g_X0_weight n 0 [x0, x1] h = some r → X E mX0_weight (d + 1) (0, 0) (0, 0) 0 [some (xr 0 x0), some (xi x1), none, none, none] [] h (PoI r)) ∧ (∀ (x0 x1 x2 x3 : Int) (h : Hp), Lay h → g_X0_weight n 1 [x0, x1, x2, x3] h = some r → X E mX0_weight (d + 1) (0, 0) (0, 0) 4 [some (xr 0 x0), some (xi x1), some (xi x2), some (xi x3), none] [] h (PoI r)) ∧ (∀ (x0 x1 x3 y0 y1 : Int) (h : Hp), Lay h → g_X0_weight n 2 [x0, x1, x3, y0, y1] h = some r → X E mX0_weight (d + 1) (0, 0) (0, 0) 59 [some (xr 0 x0), some (xi x1), none, some (xi x3), none] [xi y0, xi y1] h (PoI r)) := by
  intro n
  induction n with
  | zero => exact ⟨fun _ _ _ _ hF => no_e (r := r) hF, fun _ _ _ _ _ _ hF => no_e (r := r) hF, fun _ _ _ _ _ _ _ hF => no_e (r := r) hF⟩
  | succ n ih => exact ⟨fun x0 x1 h hL hF => t_X0_weight_0 E d (g_X0_weight n) r ih.2.1 x0 x1 h hL hF, fun x0 x1 x2 x3 h hL hF => t_X0_weight_1 E d (g_X0_weight n) r ih.2.2 x0 x1 x2 x3 h hL hF, fun x0 x1 x3 y0 y1 h hL hF => t_X0_weight_2 E d (g_X0_weight n) r ih.2.1 x0 x1 x3 y0 y1 h hL hF⟩
theorem c_X0_weight (d : Nat) (x0 x1 : Int) (h : Hp) (r : Int × Hp) (hL : Lay h) (hF : f_X0_weight x0 x1 h = some r) : Sp mX0_weight (d + 1) (0, 0) [xr 0 x0, xi x1] h (PoI r) :=
  sp_of (by decide) rfl (Nat.le_of_ble_eq_true rfl) (ls := [some (xr 0 x0), some (xi x1), none, none, none]) rfl (fun E _ => (u_X0_weight E d r FU).1 x0 x1 h hL hF)
theorem dX0_windAt_0 : decode cX0_windAt 0 = .ok (.aload_n 0, 1) := by decide +kernel
theorem dX0_windAt_1 : decode cX0_windAt 1 = .ok (.getfield 42, 3) := by decide +kernel
theorem dX0_windAt_4 : decode cX0_windAt 4 = .ok (.iconst 1, 1) := by decide +kernel
theorem dX0_windAt_5 : decode cX0_windAt 5 = .ok (.if_icmp .lt 16, 3) := by decide +kernel
theorem dX0_windAt_8 : decode cX0_windAt 8 = .ok (.aload_n 0, 1) := by decide +kernel
theorem dX0_windAt_9 : decode cX0_windAt 9 = .ok (.getfield 42, 3) := by decide +kernel
theorem dX0_windAt_12 : decode cX0_windAt 12 = .ok (.bipush 8, 2) := by decide +kernel
theorem dX0_windAt_14 : decode cX0_windAt 14 = .ok (.if_icmp .gt 7, 3) := by decide +kernel
theorem dX0_windAt_17 : decode cX0_windAt 17 = .ok (.iload_n 1, 1) := by decide +kernel
theorem dX0_windAt_18 : decode cX0_windAt 18 = .ok (.ifCond .ge 5, 3) := by decide +kernel
theorem dX0_windAt_21 : decode cX0_windAt 21 = .ok (.iconst 0, 1) := by decide +kernel
theorem dX0_windAt_22 : decode cX0_windAt 22 = .ok (.ireturn, 1) := by decide +kernel
theorem dX0_windAt_23 : decode cX0_windAt 23 = .ok (.aload_n 0, 1) := by decide +kernel
theorem dX0_windAt_24 : decode cX0_windAt 24 = .ok (.getfield 38, 3) := by decide +kernel
theorem dX0_windAt_27 : decode cX0_windAt 27 = .ok (.iload_n 1, 1) := by decide +kernel
theorem dX0_windAt_28 : decode cX0_windAt 28 = .ok (.aload_n 0, 1) := by decide +kernel
theorem dX0_windAt_29 : decode cX0_windAt 29 = .ok (.getfield 42, 3) := by decide +kernel
theorem dX0_windAt_32 : decode cX0_windAt 32 = .ok (.irem, 1) := by decide +kernel
theorem dX0_windAt_33 : decode cX0_windAt 33 = .ok (.iaload, 1) := by decide +kernel
theorem dX0_windAt_34 : decode cX0_windAt 34 = .ok (.ireturn, 1) := by decide +kernel
noncomputable def b_X0_windAt_0 (rec : Rk) (x0 x1 : Int) (h : Hp) : Option (Int × Hp) :=
  if (gI h 0 x0 6) < 1 then (
    some (0, h)
  ) else (
    if 8 < (gI h 0 x0 6) then (
      some (0, h)
    ) else (
      if 0 ≤ x1 then (
        ck ((0 : Int) ≤ x1 ∧ (0 : Int) < (gI h 0 x0 6)) <|
        ck (0 ≤ (x1 % (gI h 0 x0 6)) ∧ (x1 % (gI h 0 x0 6)) < 8) <|
        some (gI h 21 x0 (x1 % (gI h 0 x0 6)), h)
      ) else (
        some (0, h)
      )
    )
  )
noncomputable def g_X0_windAt (n : Nat) : Rk := Nat.rec (motive := fun _ => Rk) (fun _ _ _ => none) (fun _ rec k l h => if k = 0 then b_X0_windAt_0 rec (l.getD 0 0) (l.getD 1 0) h else none) n
noncomputable def f_X0_windAt (x0 x1 : Int) (h : Hp) : Option (Int × Hp) := g_X0_windAt FU 0 [x0, x1] h
set_option maxHeartbeats 4000000 in
set_option maxRecDepth 100000 in
theorem t_X0_windAt_0 (E : xE) (d : Nat) (rec : Rk) (r : Int × Hp) (x0 x1 : Int) (h : Hp) (hL : Lay h) (hF : b_X0_windAt_0 rec x0 x1 h = some r) : X E mX0_windAt (d + 1) (0, 0) (0, 0) 0 [some (xr 0 x0), some (xi x1)] [] h (PoI r) := by
  unfold b_X0_windAt_0 at hF
  refine x_aload_n (i := 0) (b := 1) dX0_windAt_0 rfl rfl rfl ?_
  refine x_getI (v := gI h 0 x0 6) (b := 4) fk_X0_42 dX0_windAt_1 (by decide) rfl rfl ?_
  refine x_iconst (n := 1) (b := 5) dX0_windAt_4 (by decide) rfl ?_
  refine x_icmp_lt (tgt := 21) (b := 8) dX0_windAt_5 (by decide) rfl (fun hc => ?_) (fun hc => ?_)
  · replace hF := br_T hc hF
    refine x_iconst (n := 0) (b := 22) dX0_windAt_21 (by decide) rfl ?_
    refine x_ireturn dX0_windAt_22 rfl ⟨Nat.le_refl _, Nat.le_refl _⟩ ?_
    cases hF
    exact ⟨rfl, rfl, hL⟩
  · replace hF := br_F hc hF
    refine x_aload_n (i := 0) (b := 9) dX0_windAt_8 rfl rfl rfl ?_
    refine x_getI (v := gI h 0 x0 6) (b := 12) fk_X0_42 dX0_windAt_9 (by decide) rfl rfl ?_
    refine x_bipush (n := 8) (b := 14) dX0_windAt_12 (by decide) rfl ?_
    refine x_icmp_gt (tgt := 21) (b := 17) dX0_windAt_14 (by decide) rfl (fun hc => ?_) (fun hc => ?_)
    · replace hF := br_T hc hF
      refine x_iconst (n := 0) (b := 22) dX0_windAt_21 (by decide) rfl ?_
      refine x_ireturn dX0_windAt_22 rfl ⟨Nat.le_refl _, Nat.le_refl _⟩ ?_
      cases hF
      exact ⟨rfl, rfl, hL⟩
    · replace hF := br_F hc hF
      refine x_iload_n (i := 1) (b := 18) dX0_windAt_17 rfl rfl rfl ?_
      refine x_if_ge (tgt := 23) (b := 21) dX0_windAt_18 (by decide) rfl (fun hc => ?_) (fun hc => ?_)
      · replace hF := br_T hc hF
        refine x_aload_n (i := 0) (b := 24) dX0_windAt_23 rfl rfl rfl ?_
        refine x_getL (j := x0) (t := (21, 0, true)) (b := 27) fk_X0_38 dX0_windAt_24 rfl hL rfl rfl rfl ?_
        refine x_iload_n (i := 1) (b := 28) dX0_windAt_27 rfl rfl rfl ?_
        refine x_aload_n (i := 0) (b := 29) dX0_windAt_28 rfl rfl rfl ?_
        refine x_getI (v := gI h 0 x0 6) (b := 32) fk_X0_42 dX0_windAt_29 (by decide) rfl rfl ?_
        obtain ⟨hs, hF⟩ := ck_e hF
        refine x_irem (b := 33) dX0_windAt_32 hs.1 hs.2 rfl ?_
        obtain ⟨hs, hF⟩ := ck_e hF
        refine x_iald (v := gI h 21 x0 (x1 % (gI h 0 x0 6))) (b := 34) ak_21 dX0_windAt_33 hs rfl rfl ?_
        refine x_ireturn dX0_windAt_34 rfl ⟨Nat.le_refl _, Nat.le_refl _⟩ ?_
        cases hF
        exact ⟨rfl, rfl, hL⟩
      · replace hF := br_F hc hF
        refine x_iconst (n := 0) (b := 22) dX0_windAt_21 (by decide) rfl ?_
        refine x_ireturn dX0_windAt_22 rfl ⟨Nat.le_refl _, Nat.le_refl _⟩ ?_
        cases hF
        exact ⟨rfl, rfl, hL⟩
set_option maxHeartbeats 4000000 in
set_option maxRecDepth 100000 in
theorem u_X0_windAt (E : xE) (d : Nat) (r : Int × Hp) : ∀ n : Nat, (∀ (x0 x1 : Int) (h : Hp), Lay h → g_X0_windAt n 0 [x0, x1] h = some r → X E mX0_windAt (d + 1) (0, 0) (0, 0) 0 [some (xr 0 x0), some (xi x1)] [] h (PoI r)) := by
  intro n
  induction n with
  | zero => exact fun _ _ _ _ hF => no_e (r := r) hF
  | succ n ih => exact fun x0 x1 h hL hF => t_X0_windAt_0 E d (g_X0_windAt n) r  x0 x1 h hL hF
theorem c_X0_windAt (d : Nat) (x0 x1 : Int) (h : Hp) (r : Int × Hp) (hL : Lay h) (hF : f_X0_windAt x0 x1 h = some r) : Sp mX0_windAt (d + 1) (0, 0) [xr 0 x0, xi x1] h (PoI r) :=
  sp_of (by decide) rfl (Nat.le_of_ble_eq_true rfl) (ls := [some (xr 0 x0), some (xi x1)]) rfl (fun E _ => (u_X0_windAt E d r FU) x0 x1 h hL hF)
theorem dX10_begin_0 : decode cX10_begin 0 = .ok (.aload_n 0, 1) := by decide +kernel
theorem dX10_begin_1 : decode cX10_begin 1 = .ok (.iconst 0, 1) := by decide +kernel
theorem dX10_begin_2 : decode cX10_begin 2 = .ok (.putfield 9, 3) := by decide +kernel
theorem dX10_begin_5 : decode cX10_begin 5 = .ok (.aload_n 0, 1) := by decide +kernel
theorem dX10_begin_6 : decode cX10_begin 6 = .ok (.aload_n 1, 1) := by decide +kernel
theorem dX10_begin_7 : decode cX10_begin 7 = .ok (.getfield 41, 3) := by decide +kernel
theorem dX10_begin_10 : decode cX10_begin 10 = .ok (.getfield 47, 3) := by decide +kernel
theorem dX10_begin_13 : decode cX10_begin 13 = .ok (.putfield 15, 3) := by decide +kernel
theorem dX10_begin_16 : decode cX10_begin 16 = .ok (.aload_n 0, 1) := by decide +kernel
theorem dX10_begin_17 : decode cX10_begin 17 = .ok (.aload_n 1, 1) := by decide +kernel
theorem dX10_begin_18 : decode cX10_begin 18 = .ok (.getfield 52, 3) := by decide +kernel
theorem dX10_begin_21 : decode cX10_begin 21 = .ok (.putfield 18, 3) := by decide +kernel
theorem dX10_begin_24 : decode cX10_begin 24 = .ok (.aload_n 0, 1) := by decide +kernel
theorem dX10_begin_25 : decode cX10_begin 25 = .ok (.aload_n 1, 1) := by decide +kernel
theorem dX10_begin_26 : decode cX10_begin 26 = .ok (.getfield 53, 3) := by decide +kernel
theorem dX10_begin_29 : decode cX10_begin 29 = .ok (.i2l, 1) := by decide +kernel
theorem dX10_begin_30 : decode cX10_begin 30 = .ok (.putfield 21, 3) := by decide +kernel
theorem dX10_begin_33 : decode cX10_begin 33 = .ok (.aload_n 0, 1) := by decide +kernel
theorem dX10_begin_34 : decode cX10_begin 34 = .ok (.iconst 1, 1) := by decide +kernel
theorem dX10_begin_35 : decode cX10_begin 35 = .ok (.aload_n 1, 1) := by decide +kernel
theorem dX10_begin_36 : decode cX10_begin 36 = .ok (.getfield 56, 3) := by decide +kernel
theorem dX10_begin_39 : decode cX10_begin 39 = .ok (.ishl, 1) := by decide +kernel
theorem dX10_begin_40 : decode cX10_begin 40 = .ok (.iconst 1, 1) := by decide +kernel
theorem dX10_begin_41 : decode cX10_begin 41 = .ok (.isub, 1) := by decide +kernel
theorem dX10_begin_42 : decode cX10_begin 42 = .ok (.putfield 25, 3) := by decide +kernel
theorem dX10_begin_45 : decode cX10_begin 45 = .ok (.aload_n 0, 1) := by decide +kernel
theorem dX10_begin_46 : decode cX10_begin 46 = .ok (.iconst 0, 1) := by decide +kernel
theorem dX10_begin_47 : decode cX10_begin 47 = .ok (.putfield 28, 3) := by decide +kernel
theorem dX10_begin_50 : decode cX10_begin 50 = .ok (.aload_n 0, 1) := by decide +kernel
theorem dX10_begin_51 : decode cX10_begin 51 = .ok (.iconst 0, 1) := by decide +kernel
theorem dX10_begin_52 : decode cX10_begin 52 = .ok (.putfield 31, 3) := by decide +kernel
theorem dX10_begin_55 : decode cX10_begin 55 = .ok (.aload_n 0, 1) := by decide +kernel
theorem dX10_begin_56 : decode cX10_begin 56 = .ok (.aload_n 0, 1) := by decide +kernel
theorem dX10_begin_57 : decode cX10_begin 57 = .ok (.getfield 15, 3) := by decide +kernel
theorem dX10_begin_60 : decode cX10_begin 60 = .ok (.aload_n 1, 1) := by decide +kernel
theorem dX10_begin_61 : decode cX10_begin 61 = .ok (.getfield 41, 3) := by decide +kernel
theorem dX10_begin_64 : decode cX10_begin 64 = .ok (.getfield 59, 3) := by decide +kernel
theorem dX10_begin_67 : decode cX10_begin 67 = .ok (.if_icmp .ne 7, 3) := by decide +kernel
theorem dX10_begin_70 : decode cX10_begin 70 = .ok (.iconst 0, 1) := by decide +kernel
theorem dX10_begin_71 : decode cX10_begin 71 = .ok (.goto 4, 3) := by decide +kernel
theorem dX10_begin_74 : decode cX10_begin 74 = .ok (.iconst (-1), 1) := by decide +kernel
theorem dX10_begin_75 : decode cX10_begin 75 = .ok (.putfield 34, 3) := by decide +kernel
theorem dX10_begin_78 : decode cX10_begin 78 = .ok (.iconst 0, 1) := by decide +kernel
theorem dX10_begin_79 : decode cX10_begin 79 = .ok (.istore_n 2, 1) := by decide +kernel
theorem dX10_begin_80 : decode cX10_begin 80 = .ok (.iload_n 2, 1) := by decide +kernel
theorem dX10_begin_81 : decode cX10_begin 81 = .ok (.bipush 9, 2) := by decide +kernel
theorem dX10_begin_83 : decode cX10_begin 83 = .ok (.if_icmp .ge 16, 3) := by decide +kernel
theorem dX10_begin_86 : decode cX10_begin 86 = .ok (.aload_n 0, 1) := by decide +kernel
theorem dX10_begin_87 : decode cX10_begin 87 = .ok (.getfield 37, 3) := by decide +kernel
theorem dX10_begin_90 : decode cX10_begin 90 = .ok (.iload_n 2, 1) := by decide +kernel
theorem dX10_begin_91 : decode cX10_begin 91 = .ok (.iconst 0, 1) := by decide +kernel
theorem dX10_begin_92 : decode cX10_begin 92 = .ok (.iastore, 1) := by decide +kernel
theorem dX10_begin_93 : decode cX10_begin 93 = .ok (.iinc 2 1, 3) := by decide +kernel
theorem dX10_begin_96 : decode cX10_begin 96 = .ok (.goto (-16), 3) := by decide +kernel
theorem dX10_begin_99 : decode cX10_begin 99 = .ok (.return_, 1) := by decide +kernel
noncomputable def b_X10_begin_0 (rec : Rk) (x0 x1 : Int) (h : Hp) : Option (Int × Hp) :=
  lt (sI h 10 x0 0 0) fun h1 =>
  lt (sI h1 10 x0 1 (gI h1 9 x1 4)) fun h2 =>
  lt (sI h2 10 x0 2 (gI h2 0 x1 13)) fun h3 =>
  lt (sI h3 10 x0 3 (gI h3 0 x1 14)) fun h4 =>
  ck (-2147483648 ≤ (bshl 1 (gI h4 0 x1 3)) - 1 ∧ (bshl 1 (gI h4 0 x1 3)) - 1 < 2147483648) <|
  lt (sI h4 10 x0 4 ((bshl 1 (gI h4 0 x1 3)) - 1)) fun h5 =>
  lt (sI h5 10 x0 5 0) fun h6 =>
  lt (sI h6 10 x0 6 0) fun h7 =>
  if (gI h7 10 x0 1) = (gI h7 9 x1 5) then (
    rec 1 [x0, 0, x0] h7
  ) else (
    rec 1 [x0, (-1), x0] h7
  )
noncomputable def b_X10_begin_1 (rec : Rk) (x0 y0 y1 : Int) (h : Hp) : Option (Int × Hp) :=
  lt (sI h 10 y1 7 y0) fun h1 =>
  rec 2 [x0, 0] h1
noncomputable def b_X10_begin_2 (rec : Rk) (x0 x2 : Int) (h : Hp) : Option (Int × Hp) :=
  if 9 ≤ x2 then (
    some (0, h)
  ) else (
    ck (0 ≤ x2 ∧ x2 < 9) <|
    lt (sI h 57 x0 x2 0) fun h1 =>
    ck (-2147483648 ≤ x2 + 1 ∧ x2 + 1 < 2147483648) <|
    rec 2 [x0, x2 + 1] h1
  )
noncomputable def g_X10_begin (n : Nat) : Rk := Nat.rec (motive := fun _ => Rk) (fun _ _ _ => none) (fun _ rec k l h => if k = 0 then b_X10_begin_0 rec (l.getD 0 0) (l.getD 1 0) h else if k = 1 then b_X10_begin_1 rec (l.getD 0 0) (l.getD 1 0) (l.getD 2 0) h else if k = 2 then b_X10_begin_2 rec (l.getD 0 0) (l.getD 1 0) h else none) n
noncomputable def f_X10_begin (x0 x1 : Int) (h : Hp) : Option (Int × Hp) := g_X10_begin FU 0 [x0, x1] h
set_option maxHeartbeats 4000000 in
set_option maxRecDepth 100000 in
theorem t_X10_begin_0 (E : xE) (d : Nat) (rec : Rk) (r : Int × Hp) (hr_75 : ∀ (x0 y0 y1 : Int) (h : Hp), Lay h → rec 1 [x0, y0, y1] h = some r → X E mX10_begin (d + 1) (0, 0) (0, 0) 75 [some (xr 10 x0), none, none] [xi y0, xr 10 y1] h (PoV r)) (x0 x1 : Int) (h : Hp) (hL : Lay h) (hF : b_X10_begin_0 rec x0 x1 h = some r) : X E mX10_begin (d + 1) (0, 0) (0, 0) 0 [some (xr 10 x0), some (xr 0 x1), none] [] h (PoV r) := by
  unfold b_X10_begin_0 at hF
  refine x_aload_n (i := 0) (b := 1) dX10_begin_0 rfl rfl rfl ?_
  refine x_iconst (n := 0) (b := 2) dX10_begin_1 (by decide) rfl ?_
  refine x_putI (b := 5) fk_X10_9 dX10_begin_2 rfl rfl 0 rfl ?_
  obtain ⟨h1, e_h1, hF⟩ := lt_e hF
  refine x_hp (h2 := h1) e_h1 ?_
  replace hL : Lay h1 := by rw [← e_h1]; exact hL
  refine x_aload_n (i := 0) (b := 6) dX10_begin_5 rfl rfl rfl ?_
  refine x_aload_n (i := 1) (b := 7) dX10_begin_6 rfl rfl rfl ?_
  refine x_getL (j := x1) (t := (9, 0, true)) (b := 10) fk_X10_41 dX10_begin_7 rfl hL rfl rfl rfl ?_
  refine x_getI (v := gI h1 9 x1 4) (b := 13) fk_X10_47 dX10_begin_10 (by decide) rfl rfl ?_
  refine x_putI (b := 16) fk_X10_15 dX10_begin_13 rfl rfl 1 rfl ?_
  obtain ⟨h2, e_h2, hF⟩ := lt_e hF
  refine x_hp (h2 := h2) e_h2 ?_
  replace hL : Lay h2 := by rw [← e_h2]; exact hL
  refine x_aload_n (i := 0) (b := 17) dX10_begin_16 rfl rfl rfl ?_
  refine x_aload_n (i := 1) (b := 18) dX10_begin_17 rfl rfl rfl ?_
  refine x_getI (v := gI h2 0 x1 13) (b := 21) fk_X10_52 dX10_begin_18 (by decide) rfl rfl ?_
  refine x_putI (b := 24) fk_X10_18 dX10_begin_21 rfl rfl 2 rfl ?_
  obtain ⟨h3, e_h3, hF⟩ := lt_e hF
  refine x_hp (h2 := h3) e_h3 ?_
  replace hL : Lay h3 := by rw [← e_h3]; exact hL
  refine x_aload_n (i := 0) (b := 25) dX10_begin_24 rfl rfl rfl ?_
  refine x_aload_n (i := 1) (b := 26) dX10_begin_25 rfl rfl rfl ?_
  refine x_getI (v := gI h3 0 x1 14) (b := 29) fk_X10_53 dX10_begin_26 (by decide) rfl rfl ?_
  refine x_i2l (b := 30) dX10_begin_29 rfl ?_
  refine x_putJ (b := 33) fk_X10_21 dX10_begin_30 rfl rfl 3 rfl ?_
  obtain ⟨h4, e_h4, hF⟩ := lt_e hF
  refine x_hp (h2 := h4) e_h4 ?_
  replace hL : Lay h4 := by rw [← e_h4]; exact hL
  refine x_aload_n (i := 0) (b := 34) dX10_begin_33 rfl rfl rfl ?_
  refine x_iconst (n := 1) (b := 35) dX10_begin_34 (by decide) rfl ?_
  refine x_aload_n (i := 1) (b := 36) dX10_begin_35 rfl rfl rfl ?_
  refine x_getI (v := gI h4 0 x1 3) (b := 39) fk_X10_56 dX10_begin_36 (by decide) rfl rfl ?_
  refine x_ishl (b := 40) dX10_begin_39 rfl ?_
  refine x_iconst (n := 1) (b := 41) dX10_begin_40 (by decide) rfl ?_
  obtain ⟨hs, hF⟩ := ck_e hF
  refine x_isub (b := 42) dX10_begin_41 hs rfl ?_
  refine x_putI (b := 45) fk_X10_25 dX10_begin_42 rfl rfl 4 rfl ?_
  obtain ⟨h5, e_h5, hF⟩ := lt_e hF
  refine x_hp (h2 := h5) e_h5 ?_
  replace hL : Lay h5 := by rw [← e_h5]; exact hL
  refine x_aload_n (i := 0) (b := 46) dX10_begin_45 rfl rfl rfl ?_
  refine x_iconst (n := 0) (b := 47) dX10_begin_46 (by decide) rfl ?_
  refine x_putI (b := 50) fk_X10_28 dX10_begin_47 rfl rfl 5 rfl ?_
  obtain ⟨h6, e_h6, hF⟩ := lt_e hF
  refine x_hp (h2 := h6) e_h6 ?_
  replace hL : Lay h6 := by rw [← e_h6]; exact hL
  refine x_aload_n (i := 0) (b := 51) dX10_begin_50 rfl rfl rfl ?_
  refine x_iconst (n := 0) (b := 52) dX10_begin_51 (by decide) rfl ?_
  refine x_putI (b := 55) fk_X10_31 dX10_begin_52 rfl rfl 6 rfl ?_
  obtain ⟨h7, e_h7, hF⟩ := lt_e hF
  refine x_hp (h2 := h7) e_h7 ?_
  replace hL : Lay h7 := by rw [← e_h7]; exact hL
  refine x_aload_n (i := 0) (b := 56) dX10_begin_55 rfl rfl rfl ?_
  refine x_aload_n (i := 0) (b := 57) dX10_begin_56 rfl rfl rfl ?_
  refine x_getI (v := gI h7 10 x0 1) (b := 60) fk_X10_15 dX10_begin_57 (by decide) rfl rfl ?_
  refine x_aload_n (i := 1) (b := 61) dX10_begin_60 rfl rfl rfl ?_
  refine x_getL (j := x1) (t := (9, 0, true)) (b := 64) fk_X10_41 dX10_begin_61 rfl hL rfl rfl rfl ?_
  refine x_getI (v := gI h7 9 x1 5) (b := 67) fk_X10_59 dX10_begin_64 (by decide) rfl rfl ?_
  refine x_icmp_ne (tgt := 74) (b := 70) dX10_begin_67 (by decide) rfl (fun hc => ?_) (fun hc => ?_)
  · replace hF := br_F hc hF
    refine x_iconst (n := (-1)) (b := 75) dX10_begin_74 (by decide) rfl ?_
    exact x_dp (ls2 := [some (xr 10 x0), none, none]) ⟨rfl, trivial⟩ (hr_75 x0 (-1) x0 h7 hL hF)
  · replace hF := br_T hc hF
    refine x_iconst (n := 0) (b := 71) dX10_begin_70 (by decide) rfl ?_
    refine x_goto (tgt := 75) dX10_begin_71 (by decide) ?_
    exact x_dp (ls2 := [some (xr 10 x0), none, none]) ⟨rfl, trivial⟩ (hr_75 x0 0 x0 h7 hL hF)
set_option maxHeartbeats 4000000 in
set_option maxRecDepth 100000 in
theorem t_X10_begin_1 (E : xE) (d : Nat) (rec : Rk) (r : Int × Hp) (hr_80 : ∀ (x0 x2 : Int) (h : Hp), Lay h → rec 2 [x0, x2] h = some r → X E mX10_begin (d + 1) (0, 0) (0, 0) 80 [some (xr 10 x0), none, some (xi x2)] [] h (PoV r)) (x0 y0 y1 : Int) (h : Hp) (hL : Lay h) (hF : b_X10_begin_1 rec x0 y0 y1 h = some r) : X E mX10_begin (d + 1) (0, 0) (0, 0) 75 [some (xr 10 x0), none, none] [xi y0, xr 10 y1] h (PoV r) := by
  unfold b_X10_begin_1 at hF
  refine x_putI (b := 78) fk_X10_34 dX10_begin_75 rfl rfl 7 rfl ?_
  obtain ⟨h1, e_h1, hF⟩ := lt_e hF
  refine x_hp (h2 := h1) e_h1 ?_
  replace hL : Lay h1 := by rw [← e_h1]; exact hL
  refine x_iconst (n := 0) (b := 79) dX10_begin_78 (by decide) rfl ?_
  refine x_istore_n (i := 2) (b := 80) (ls2 := [some (xr 10 x0), none, some (xi 0)]) dX10_begin_79 rfl (Nat.le_of_ble_eq_true rfl) rfl rfl ?_
  exact x_dp (ls2 := [some (xr 10 x0), none, some (xi 0)]) ⟨rfl, rfl, trivial⟩ (hr_80 x0 0 h1 hL hF)
set_option maxHeartbeats 4000000 in
set_option maxRecDepth 100000 in
theorem t_X10_begin_2 (E : xE) (d : Nat) (rec : Rk) (r : Int × Hp) (hr_80 : ∀ (x0 x2 : Int) (h : Hp), Lay h → rec 2 [x0, x2] h = some r → X E mX10_begin (d + 1) (0, 0) (0, 0) 80 [some (xr 10 x0), none, some (xi x2)] [] h (PoV r)) (x0 x2 : Int) (h : Hp) (hL : Lay h) (hF : b_X10_begin_2 rec x0 x2 h = some r) : X E mX10_begin (d + 1) (0, 0) (0, 0) 80 [some (xr 10 x0), none, some (xi x2)] [] h (PoV r) := by
  unfold b_X10_begin_2 at hF
  refine x_iload_n (i := 2) (b := 81) dX10_begin_80 rfl rfl rfl ?_
  refine x_bipush (n := 9) (b := 83) dX10_begin_81 (by decide) rfl ?_
  refine x_icmp_ge (tgt := 99) (b := 86) dX10_begin_83 (by decide) rfl (fun hc => ?_) (fun hc => ?_)
  · replace hF := br_T hc hF
    refine x_return dX10_begin_99 rfl ⟨Nat.le_refl _, Nat.le_refl _⟩ ?_
    cases hF
    exact ⟨rfl, rfl, hL⟩
  · replace hF := br_F hc hF
    refine x_aload_n (i := 0) (b := 87) dX10_begin_86 rfl rfl rfl ?_
    refine x_getL (j := x0) (t := (57, 0, true)) (b := 90) fk_X10_37 dX10_begin_87 rfl hL rfl rfl rfl ?_
    refine x_iload_n (i := 2) (b := 91) dX10_begin_90 rfl rfl rfl ?_
    refine x_iconst (n := 0) (b := 92) dX10_begin_91 (by decide) rfl ?_
    obtain ⟨hs, hF⟩ := ck_e hF
    have hs1 := hs
    refine x_iast (b := 93) ak_57 dX10_begin_92 hs1 rfl ?_
    obtain ⟨h1, e_h1, hF⟩ := lt_e hF
    refine x_hp (h2 := h1) e_h1 ?_
    replace hL : Lay h1 := by rw [← e_h1]; exact hL
    obtain ⟨hs, hF⟩ := ck_e hF
    refine x_iinc (i := 2) (b := 96) (ls2 := [some (xr 10 x0), none, some (xi (x2 + 1))]) dX10_begin_93 rfl (Nat.le_of_ble_eq_true rfl) hs rfl rfl ?_
    refine x_goto (tgt := 80) dX10_begin_96 (by decide) ?_
    exact x_dp (ls2 := [some (xr 10 x0), none, some (xi (x2 + 1))]) ⟨rfl, rfl, trivial⟩ (hr_80 x0 (x2 + 1) h1 hL hF)
set_option maxHeartbeats 4000000 in
set_option maxRecDepth 100000 in
theorem u_X10_begin (E : xE) (d : Nat) (r : Int × Hp) : ∀ n : Nat, (∀ (x0 x1 : Int) (h : Hp), Lay h → g_X10_begin n 0 [x0, x1] h = some r → X E mX10_begin (d + 1) (0, 0) (0, 0) 0 [some (xr 10 x0), some (xr 0 x1), none] [] h (PoV r)) ∧ (∀ (x0 y0 y1 : Int) (h : Hp), Lay h → g_X10_begin n 1 [x0, y0, y1] h = some r → X E mX10_begin (d + 1) (0, 0) (0, 0) 75 [some (xr 10 x0), none, none] [xi y0, xr 10 y1] h (PoV r)) ∧ (∀ (x0 x2 : Int) (h : Hp), Lay h → g_X10_begin n 2 [x0, x2] h = some r → X E mX10_begin (d + 1) (0, 0) (0, 0) 80 [some (xr 10 x0), none, some (xi x2)] [] h (PoV r)) := by
  intro n
  induction n with
  | zero => exact ⟨fun _ _ _ _ hF => no_e (r := r) hF, fun _ _ _ _ _ hF => no_e (r := r) hF, fun _ _ _ _ hF => no_e (r := r) hF⟩
  | succ n ih => exact ⟨fun x0 x1 h hL hF => t_X10_begin_0 E d (g_X10_begin n) r ih.2.1 x0 x1 h hL hF, fun x0 y0 y1 h hL hF => t_X10_begin_1 E d (g_X10_begin n) r ih.2.2 x0 y0 y1 h hL hF, fun x0 x2 h hL hF => t_X10_begin_2 E d (g_X10_begin n) r ih.2.2 x0 x2 h hL hF⟩
theorem c_X10_begin (d : Nat) (x0 x1 : Int) (h : Hp) (r : Int × Hp) (hL : Lay h) (hF : f_X10_begin x0 x1 h = some r) : Sp mX10_begin (d + 1) (0, 0) [xr 10 x0, xr 0 x1] h (PoV r) :=
  sp_of (by decide) rfl (Nat.le_of_ble_eq_true rfl) (ls := [some (xr 10 x0), some (xr 0 x1), none]) rfl (fun E _ => (u_X10_begin E d r FU).1 x0 x1 h hL hF)
theorem dX10_copyFrom_0 : decode cX10_copyFrom 0 = .ok (.aload_n 0, 1) := by decide +kernel
theorem dX10_copyFrom_1 : decode cX10_copyFrom 1 = .ok (.aload_n 1, 1) := by decide +kernel
theorem dX10_copyFrom_2 : decode cX10_copyFrom 2 = .ok (.getfield 9, 3) := by decide +kernel
theorem dX10_copyFrom_5 : decode cX10_copyFrom 5 = .ok (.putfield 9, 3) := by decide +kernel
theorem dX10_copyFrom_8 : decode cX10_copyFrom 8 = .ok (.aload_n 0, 1) := by decide +kernel
theorem dX10_copyFrom_9 : decode cX10_copyFrom 9 = .ok (.aload_n 1, 1) := by decide +kernel
theorem dX10_copyFrom_10 : decode cX10_copyFrom 10 = .ok (.getfield 15, 3) := by decide +kernel
theorem dX10_copyFrom_13 : decode cX10_copyFrom 13 = .ok (.putfield 15, 3) := by decide +kernel
theorem dX10_copyFrom_16 : decode cX10_copyFrom 16 = .ok (.aload_n 0, 1) := by decide +kernel
theorem dX10_copyFrom_17 : decode cX10_copyFrom 17 = .ok (.aload_n 1, 1) := by decide +kernel
theorem dX10_copyFrom_18 : decode cX10_copyFrom 18 = .ok (.getfield 18, 3) := by decide +kernel
theorem dX10_copyFrom_21 : decode cX10_copyFrom 21 = .ok (.putfield 18, 3) := by decide +kernel
theorem dX10_copyFrom_24 : decode cX10_copyFrom 24 = .ok (.aload_n 0, 1) := by decide +kernel
theorem dX10_copyFrom_25 : decode cX10_copyFrom 25 = .ok (.aload_n 1, 1) := by decide +kernel
theorem dX10_copyFrom_26 : decode cX10_copyFrom 26 = .ok (.getfield 21, 3) := by decide +kernel
theorem dX10_copyFrom_29 : decode cX10_copyFrom 29 = .ok (.putfield 21, 3) := by decide +kernel
theorem dX10_copyFrom_32 : decode cX10_copyFrom 32 = .ok (.aload_n 0, 1) := by decide +kernel
theorem dX10_copyFrom_33 : decode cX10_copyFrom 33 = .ok (.aload_n 1, 1) := by decide +kernel
theorem dX10_copyFrom_34 : decode cX10_copyFrom 34 = .ok (.getfield 25, 3) := by decide +kernel
theorem dX10_copyFrom_37 : decode cX10_copyFrom 37 = .ok (.putfield 25, 3) := by decide +kernel
theorem dX10_copyFrom_40 : decode cX10_copyFrom 40 = .ok (.aload_n 0, 1) := by decide +kernel
theorem dX10_copyFrom_41 : decode cX10_copyFrom 41 = .ok (.aload_n 1, 1) := by decide +kernel
theorem dX10_copyFrom_42 : decode cX10_copyFrom 42 = .ok (.getfield 28, 3) := by decide +kernel
theorem dX10_copyFrom_45 : decode cX10_copyFrom 45 = .ok (.putfield 28, 3) := by decide +kernel
theorem dX10_copyFrom_48 : decode cX10_copyFrom 48 = .ok (.aload_n 0, 1) := by decide +kernel
theorem dX10_copyFrom_49 : decode cX10_copyFrom 49 = .ok (.aload_n 1, 1) := by decide +kernel
theorem dX10_copyFrom_50 : decode cX10_copyFrom 50 = .ok (.getfield 31, 3) := by decide +kernel
theorem dX10_copyFrom_53 : decode cX10_copyFrom 53 = .ok (.putfield 31, 3) := by decide +kernel
theorem dX10_copyFrom_56 : decode cX10_copyFrom 56 = .ok (.aload_n 0, 1) := by decide +kernel
theorem dX10_copyFrom_57 : decode cX10_copyFrom 57 = .ok (.aload_n 1, 1) := by decide +kernel
theorem dX10_copyFrom_58 : decode cX10_copyFrom 58 = .ok (.getfield 34, 3) := by decide +kernel
theorem dX10_copyFrom_61 : decode cX10_copyFrom 61 = .ok (.putfield 34, 3) := by decide +kernel
theorem dX10_copyFrom_64 : decode cX10_copyFrom 64 = .ok (.iconst 0, 1) := by decide +kernel
theorem dX10_copyFrom_65 : decode cX10_copyFrom 65 = .ok (.istore_n 2, 1) := by decide +kernel
theorem dX10_copyFrom_66 : decode cX10_copyFrom 66 = .ok (.iload_n 2, 1) := by decide +kernel
theorem dX10_copyFrom_67 : decode cX10_copyFrom 67 = .ok (.bipush 9, 2) := by decide +kernel
theorem dX10_copyFrom_69 : decode cX10_copyFrom 69 = .ok (.if_icmp .ge 21, 3) := by decide +kernel
theorem dX10_copyFrom_72 : decode cX10_copyFrom 72 = .ok (.aload_n 0, 1) := by decide +kernel
theorem dX10_copyFrom_73 : decode cX10_copyFrom 73 = .ok (.getfield 37, 3) := by decide +kernel
theorem dX10_copyFrom_76 : decode cX10_copyFrom 76 = .ok (.iload_n 2, 1) := by decide +kernel
theorem dX10_copyFrom_77 : decode cX10_copyFrom 77 = .ok (.aload_n 1, 1) := by decide +kernel
theorem dX10_copyFrom_78 : decode cX10_copyFrom 78 = .ok (.getfield 37, 3) := by decide +kernel
theorem dX10_copyFrom_81 : decode cX10_copyFrom 81 = .ok (.iload_n 2, 1) := by decide +kernel
theorem dX10_copyFrom_82 : decode cX10_copyFrom 82 = .ok (.iaload, 1) := by decide +kernel
theorem dX10_copyFrom_83 : decode cX10_copyFrom 83 = .ok (.iastore, 1) := by decide +kernel
theorem dX10_copyFrom_84 : decode cX10_copyFrom 84 = .ok (.iinc 2 1, 3) := by decide +kernel
theorem dX10_copyFrom_87 : decode cX10_copyFrom 87 = .ok (.goto (-21), 3) := by decide +kernel
theorem dX10_copyFrom_90 : decode cX10_copyFrom 90 = .ok (.return_, 1) := by decide +kernel
noncomputable def b_X10_copyFrom_0 (rec : Rk) (x0 x1 : Int) (h : Hp) : Option (Int × Hp) :=
  lt (sI h 10 x0 0 (gI h 10 x1 0)) fun h1 =>
  lt (sI h1 10 x0 1 (gI h1 10 x1 1)) fun h2 =>
  lt (sI h2 10 x0 2 (gI h2 10 x1 2)) fun h3 =>
  lt (sI h3 10 x0 3 (gI h3 10 x1 3)) fun h4 =>
  lt (sI h4 10 x0 4 (gI h4 10 x1 4)) fun h5 =>
  lt (sI h5 10 x0 5 (gI h5 10 x1 5)) fun h6 =>
  lt (sI h6 10 x0 6 (gI h6 10 x1 6)) fun h7 =>
  lt (sI h7 10 x0 7 (gI h7 10 x1 7)) fun h8 =>
  rec 1 [x0, x1, 0] h8
noncomputable def b_X10_copyFrom_1 (rec : Rk) (x0 x1 x2 : Int) (h : Hp) : Option (Int × Hp) :=
  if 9 ≤ x2 then (
    some (0, h)
  ) else (
    ck (0 ≤ x2 ∧ x2 < 9) <|
    ck (0 ≤ x2 ∧ x2 < 9) <|
    lt (sI h 57 x0 x2 (gI h 57 x1 x2)) fun h1 =>
    ck (-2147483648 ≤ x2 + 1 ∧ x2 + 1 < 2147483648) <|
    rec 1 [x0, x1, x2 + 1] h1
  )
noncomputable def g_X10_copyFrom (n : Nat) : Rk := Nat.rec (motive := fun _ => Rk) (fun _ _ _ => none) (fun _ rec k l h => if k = 0 then b_X10_copyFrom_0 rec (l.getD 0 0) (l.getD 1 0) h else if k = 1 then b_X10_copyFrom_1 rec (l.getD 0 0) (l.getD 1 0) (l.getD 2 0) h else none) n
noncomputable def f_X10_copyFrom (x0 x1 : Int) (h : Hp) : Option (Int × Hp) := g_X10_copyFrom FU 0 [x0, x1] h
set_option maxHeartbeats 4000000 in
set_option maxRecDepth 100000 in
theorem t_X10_copyFrom_0 (E : xE) (d : Nat) (rec : Rk) (r : Int × Hp) (hr_66 : ∀ (x0 x1 x2 : Int) (h : Hp), Lay h → rec 1 [x0, x1, x2] h = some r → X E mX10_copyFrom (d + 1) (0, 0) (0, 0) 66 [some (xr 10 x0), some (xr 10 x1), some (xi x2)] [] h (PoV r)) (x0 x1 : Int) (h : Hp) (hL : Lay h) (hF : b_X10_copyFrom_0 rec x0 x1 h = some r) : X E mX10_copyFrom (d + 1) (0, 0) (0, 0) 0 [some (xr 10 x0), some (xr 10 x1), none] [] h (PoV r) := by
  unfold b_X10_copyFrom_0 at hF
  refine x_aload_n (i := 0) (b := 1) dX10_copyFrom_0 rfl rfl rfl ?_
  refine x_aload_n (i := 1) (b := 2) dX10_copyFrom_1 rfl rfl rfl ?_
  refine x_getI (v := gI h 10 x1 0) (b := 5) fk_X10_9 dX10_copyFrom_2 (by decide) rfl rfl ?_
  refine x_putI (b := 8) fk_X10_9 dX10_copyFrom_5 rfl rfl 0 rfl ?_
  obtain ⟨h1, e_h1, hF⟩ := lt_e hF
  refine x_hp (h2 := h1) e_h1 ?_
  replace hL : Lay h1 := by rw [← e_h1]; exact hL
  refine x_aload_n (i := 0) (b := 9) dX10_copyFrom_8 rfl rfl rfl ?_
  refine x_aload_n (i := 1) (b := 10) dX10_copyFrom_9 rfl rfl rfl ?_
  refine x_getI (v := gI h1 10 x1 1) (b := 13) fk_X10_15 dX10_copyFrom_10 (by decide) rfl rfl ?_
  refine x_putI (b := 16) fk_X10_15 dX10_copyFrom_13 rfl rfl 1 rfl ?_
  obtain ⟨h2, e_h2, hF⟩ := lt_e hF
  refine x_hp (h2 := h2) e_h2 ?_
  replace hL : Lay h2 := by rw [← e_h2]; exact hL
  refine x_aload_n (i := 0) (b := 17) dX10_copyFrom_16 rfl rfl rfl ?_
  refine x_aload_n (i := 1) (b := 18) dX10_copyFrom_17 rfl rfl rfl ?_
  refine x_getI (v := gI h2 10 x1 2) (b := 21) fk_X10_18 dX10_copyFrom_18 (by decide) rfl rfl ?_
  refine x_putI (b := 24) fk_X10_18 dX10_copyFrom_21 rfl rfl 2 rfl ?_
  obtain ⟨h3, e_h3, hF⟩ := lt_e hF
  refine x_hp (h2 := h3) e_h3 ?_
  replace hL : Lay h3 := by rw [← e_h3]; exact hL
  refine x_aload_n (i := 0) (b := 25) dX10_copyFrom_24 rfl rfl rfl ?_
  refine x_aload_n (i := 1) (b := 26) dX10_copyFrom_25 rfl rfl rfl ?_
  refine x_getJ (v := gI h3 10 x1 3) (b := 29) fk_X10_21 dX10_copyFrom_26 rfl rfl rfl ?_
  refine x_putJ (b := 32) fk_X10_21 dX10_copyFrom_29 rfl rfl 3 rfl ?_
  obtain ⟨h4, e_h4, hF⟩ := lt_e hF
  refine x_hp (h2 := h4) e_h4 ?_
  replace hL : Lay h4 := by rw [← e_h4]; exact hL
  refine x_aload_n (i := 0) (b := 33) dX10_copyFrom_32 rfl rfl rfl ?_
  refine x_aload_n (i := 1) (b := 34) dX10_copyFrom_33 rfl rfl rfl ?_
  refine x_getI (v := gI h4 10 x1 4) (b := 37) fk_X10_25 dX10_copyFrom_34 (by decide) rfl rfl ?_
  refine x_putI (b := 40) fk_X10_25 dX10_copyFrom_37 rfl rfl 4 rfl ?_
  obtain ⟨h5, e_h5, hF⟩ := lt_e hF
  refine x_hp (h2 := h5) e_h5 ?_
  replace hL : Lay h5 := by rw [← e_h5]; exact hL
  refine x_aload_n (i := 0) (b := 41) dX10_copyFrom_40 rfl rfl rfl ?_
  refine x_aload_n (i := 1) (b := 42) dX10_copyFrom_41 rfl rfl rfl ?_
  refine x_getI (v := gI h5 10 x1 5) (b := 45) fk_X10_28 dX10_copyFrom_42 (by decide) rfl rfl ?_
  refine x_putI (b := 48) fk_X10_28 dX10_copyFrom_45 rfl rfl 5 rfl ?_
  obtain ⟨h6, e_h6, hF⟩ := lt_e hF
  refine x_hp (h2 := h6) e_h6 ?_
  replace hL : Lay h6 := by rw [← e_h6]; exact hL
  refine x_aload_n (i := 0) (b := 49) dX10_copyFrom_48 rfl rfl rfl ?_
  refine x_aload_n (i := 1) (b := 50) dX10_copyFrom_49 rfl rfl rfl ?_
  refine x_getI (v := gI h6 10 x1 6) (b := 53) fk_X10_31 dX10_copyFrom_50 (by decide) rfl rfl ?_
  refine x_putI (b := 56) fk_X10_31 dX10_copyFrom_53 rfl rfl 6 rfl ?_
  obtain ⟨h7, e_h7, hF⟩ := lt_e hF
  refine x_hp (h2 := h7) e_h7 ?_
  replace hL : Lay h7 := by rw [← e_h7]; exact hL
  refine x_aload_n (i := 0) (b := 57) dX10_copyFrom_56 rfl rfl rfl ?_
  refine x_aload_n (i := 1) (b := 58) dX10_copyFrom_57 rfl rfl rfl ?_
  refine x_getI (v := gI h7 10 x1 7) (b := 61) fk_X10_34 dX10_copyFrom_58 (by decide) rfl rfl ?_
  refine x_putI (b := 64) fk_X10_34 dX10_copyFrom_61 rfl rfl 7 rfl ?_
  obtain ⟨h8, e_h8, hF⟩ := lt_e hF
  refine x_hp (h2 := h8) e_h8 ?_
  replace hL : Lay h8 := by rw [← e_h8]; exact hL
  refine x_iconst (n := 0) (b := 65) dX10_copyFrom_64 (by decide) rfl ?_
  refine x_istore_n (i := 2) (b := 66) (ls2 := [some (xr 10 x0), some (xr 10 x1), some (xi 0)]) dX10_copyFrom_65 rfl (Nat.le_of_ble_eq_true rfl) rfl rfl ?_
  exact x_dp (ls2 := [some (xr 10 x0), some (xr 10 x1), some (xi 0)]) ⟨rfl, rfl, rfl, trivial⟩ (hr_66 x0 x1 0 h8 hL hF)
set_option maxHeartbeats 4000000 in
set_option maxRecDepth 100000 in
theorem t_X10_copyFrom_1 (E : xE) (d : Nat) (rec : Rk) (r : Int × Hp) (hr_66 : ∀ (x0 x1 x2 : Int) (h : Hp), Lay h → rec 1 [x0, x1, x2] h = some r → X E mX10_copyFrom (d + 1) (0, 0) (0, 0) 66 [some (xr 10 x0), some (xr 10 x1), some (xi x2)] [] h (PoV r)) (x0 x1 x2 : Int) (h : Hp) (hL : Lay h) (hF : b_X10_copyFrom_1 rec x0 x1 x2 h = some r) : X E mX10_copyFrom (d + 1) (0, 0) (0, 0) 66 [some (xr 10 x0), some (xr 10 x1), some (xi x2)] [] h (PoV r) := by
  unfold b_X10_copyFrom_1 at hF
  refine x_iload_n (i := 2) (b := 67) dX10_copyFrom_66 rfl rfl rfl ?_
  refine x_bipush (n := 9) (b := 69) dX10_copyFrom_67 (by decide) rfl ?_
  refine x_icmp_ge (tgt := 90) (b := 72) dX10_copyFrom_69 (by decide) rfl (fun hc => ?_) (fun hc => ?_)
  · replace hF := br_T hc hF
    refine x_return dX10_copyFrom_90 rfl ⟨Nat.le_refl _, Nat.le_refl _⟩ ?_
    cases hF
    exact ⟨rfl, rfl, hL⟩
  · replace hF := br_F hc hF
    refine x_aload_n (i := 0) (b := 73) dX10_copyFrom_72 rfl rfl rfl ?_
    refine x_getL (j := x0) (t := (57, 0, true)) (b := 76) fk_X10_37 dX10_copyFrom_73 rfl hL rfl rfl rfl ?_
    refine x_iload_n (i := 2) (b := 77) dX10_copyFrom_76 rfl rfl rfl ?_
    refine x_aload_n (i := 1) (b := 78) dX10_copyFrom_77 rfl rfl rfl ?_
    refine x_getL (j := x1) (t := (57, 0, true)) (b := 81) fk_X10_37 dX10_copyFrom_78 rfl hL rfl rfl rfl ?_
    refine x_iload_n (i := 2) (b := 82) dX10_copyFrom_81 rfl rfl rfl ?_
    obtain ⟨hs, hF⟩ := ck_e hF
    refine x_iald (v := gI h 57 x1 x2) (b := 83) ak_57 dX10_copyFrom_82 hs rfl rfl ?_
    obtain ⟨hs, hF⟩ := ck_e hF
    have hs1 := hs
    refine x_iast (b := 84) ak_57 dX10_copyFrom_83 hs1 rfl ?_
    obtain ⟨h1, e_h1, hF⟩ := lt_e hF
    refine x_hp (h2 := h1) e_h1 ?_
    replace hL : Lay h1 := by rw [← e_h1]; exact hL
    obtain ⟨hs, hF⟩ := ck_e hF
    refine x_iinc (i := 2) (b := 87) (ls2 := [some (xr 10 x0), some (xr 10 x1), some (xi (x2 + 1))]) dX10_copyFrom_84 rfl (Nat.le_of_ble_eq_true rfl) hs rfl rfl ?_
    refine x_goto (tgt := 66) dX10_copyFrom_87 (by decide) ?_
    exact x_dp (ls2 := [some (xr 10 x0), some (xr 10 x1), some (xi (x2 + 1))]) ⟨rfl, rfl, rfl, trivial⟩ (hr_66 x0 x1 (x2 + 1) h1 hL hF)
set_option maxHeartbeats 4000000 in
set_option maxRecDepth 100000 in
theorem u_X10_copyFrom (E : xE) (d : Nat) (r : Int × Hp) : ∀ n : Nat, (∀ (x0 x1 : Int) (h : Hp), Lay h → g_X10_copyFrom n 0 [x0, x1] h = some r → X E mX10_copyFrom (d + 1) (0, 0) (0, 0) 0 [some (xr 10 x0), some (xr 10 x1), none] [] h (PoV r)) ∧ (∀ (x0 x1 x2 : Int) (h : Hp), Lay h → g_X10_copyFrom n 1 [x0, x1, x2] h = some r → X E mX10_copyFrom (d + 1) (0, 0) (0, 0) 66 [some (xr 10 x0), some (xr 10 x1), some (xi x2)] [] h (PoV r)) := by
  intro n
  induction n with
  | zero => exact ⟨fun _ _ _ _ hF => no_e (r := r) hF, fun _ _ _ _ _ hF => no_e (r := r) hF⟩
  | succ n ih => exact ⟨fun x0 x1 h hL hF => t_X10_copyFrom_0 E d (g_X10_copyFrom n) r ih.2 x0 x1 h hL hF, fun x0 x1 x2 h hL hF => t_X10_copyFrom_1 E d (g_X10_copyFrom n) r ih.2 x0 x1 x2 h hL hF⟩
theorem c_X10_copyFrom (d : Nat) (x0 x1 : Int) (h : Hp) (r : Int × Hp) (hL : Lay h) (hF : f_X10_copyFrom x0 x1 h = some r) : Sp mX10_copyFrom (d + 1) (0, 0) [xr 10 x0, xr 10 x1] h (PoV r) :=
  sp_of (by decide) rfl (Nat.le_of_ble_eq_true rfl) (ls := [some (xr 10 x0), some (xr 10 x1), none]) rfl (fun E _ => (u_X10_copyFrom E d r FU).1 x0 x1 h hL hF)
theorem dX10_draw_0 : decode cX10_draw 0 = .ok (.aload_n 0, 1) := by decide +kernel
theorem dX10_draw_1 : decode cX10_draw 1 = .ok (.aload_n 0, 1) := by decide +kernel
theorem dX10_draw_2 : decode cX10_draw 2 = .ok (.getfield 21, 3) := by decide +kernel
theorem dX10_draw_5 : decode cX10_draw 5 = .ok (.ldc2_w 62, 3) := by decide +kernel
theorem dX10_draw_8 : decode cX10_draw 8 = .ok (.lmul, 1) := by decide +kernel
theorem dX10_draw_9 : decode cX10_draw 9 = .ok (.ldc2_w 64, 3) := by decide +kernel
theorem dX10_draw_12 : decode cX10_draw 12 = .ok (.ladd, 1) := by decide +kernel
theorem dX10_draw_13 : decode cX10_draw 13 = .ok (.ldc2_w 66, 3) := by decide +kernel
theorem dX10_draw_16 : decode cX10_draw 16 = .ok (.land, 1) := by decide +kernel
theorem dX10_draw_17 : decode cX10_draw 17 = .ok (.putfield 21, 3) := by decide +kernel
theorem dX10_draw_20 : decode cX10_draw 20 = .ok (.aload_n 0, 1) := by decide +kernel
theorem dX10_draw_21 : decode cX10_draw 21 = .ok (.getfield 21, 3) := by decide +kernel
theorem dX10_draw_24 : decode cX10_draw 24 = .ok (.ldc2_w 68, 3) := by decide +kernel
theorem dX10_draw_27 : decode cX10_draw 27 = .ok (.ldiv, 1) := by decide +kernel
theorem dX10_draw_28 : decode cX10_draw 28 = .ok (.l2i, 1) := by decide +kernel
theorem dX10_draw_29 : decode cX10_draw 29 = .ok (.ireturn, 1) := by decide +kernel
noncomputable def b_X10_draw_0 (rec : Rk) (x0 : Int) (h : Hp) : Option (Int × Hp) :=
  ck (-9223372036854775808 ≤ (gI h 10 x0 3) * 1103515245 ∧ (gI h 10 x0 3) * 1103515245 < 9223372036854775808) <|
  ck (-9223372036854775808 ≤ ((gI h 10 x0 3) * 1103515245) + 12345 ∧ ((gI h 10 x0 3) * 1103515245) + 12345 < 9223372036854775808) <|
  lt (sI h 10 x0 3 (bandL (((gI h 10 x0 3) * 1103515245) + 12345) 2147483647)) fun h1 =>
  ck (65536 ≠ (0 : Int) ∧ -9223372036854775808 ≤ Int.tdiv (gI h1 10 x0 3) 65536 ∧ Int.tdiv (gI h1 10 x0 3) 65536 < 9223372036854775808) <|
  ck (-2147483648 ≤ (Int.tdiv (gI h1 10 x0 3) 65536) ∧ (Int.tdiv (gI h1 10 x0 3) 65536) < 2147483648) <|
  some (Int.tdiv (gI h1 10 x0 3) 65536, h1)
noncomputable def g_X10_draw (n : Nat) : Rk := Nat.rec (motive := fun _ => Rk) (fun _ _ _ => none) (fun _ rec k l h => if k = 0 then b_X10_draw_0 rec (l.getD 0 0) h else none) n
noncomputable def f_X10_draw (x0 : Int) (h : Hp) : Option (Int × Hp) := g_X10_draw FU 0 [x0] h
set_option maxHeartbeats 4000000 in
set_option maxRecDepth 100000 in
theorem t_X10_draw_0 (E : xE) (d : Nat) (rec : Rk) (r : Int × Hp) (x0 : Int) (h : Hp) (hL : Lay h) (hF : b_X10_draw_0 rec x0 h = some r) : X E mX10_draw (d + 1) (0, 0) (0, 0) 0 [some (xr 10 x0)] [] h (PoI r) := by
  unfold b_X10_draw_0 at hF
  refine x_aload_n (i := 0) (b := 1) dX10_draw_0 rfl rfl rfl ?_
  refine x_aload_n (i := 0) (b := 2) dX10_draw_1 rfl rfl rfl ?_
  refine x_getJ (v := gI h 10 x0 3) (b := 5) fk_X10_21 dX10_draw_2 rfl rfl rfl ?_
  refine x_ldc2 (z := 1103515245) (b := 8) dX10_draw_5 kw_1200 (by decide) rfl ?_
  obtain ⟨hs, hF⟩ := ck_e hF
  refine x_lmul (b := 9) dX10_draw_8 hs rfl ?_
  refine x_ldc2 (z := 12345) (b := 12) dX10_draw_9 kw_1201 (by decide) rfl ?_
  obtain ⟨hs, hF⟩ := ck_e hF
  refine x_ladd (b := 13) dX10_draw_12 hs rfl ?_
  refine x_ldc2 (z := 2147483647) (b := 16) dX10_draw_13 kw_1202 (by decide) rfl ?_
  refine x_land (b := 17) dX10_draw_16 rfl ?_
  refine x_putJ (b := 20) fk_X10_21 dX10_draw_17 rfl rfl 3 rfl ?_
  obtain ⟨h1, e_h1, hF⟩ := lt_e hF
  refine x_hp (h2 := h1) e_h1 ?_
  replace hL : Lay h1 := by rw [← e_h1]; exact hL
  refine x_aload_n (i := 0) (b := 21) dX10_draw_20 rfl rfl rfl ?_
  refine x_getJ (v := gI h1 10 x0 3) (b := 24) fk_X10_21 dX10_draw_21 rfl rfl rfl ?_
  refine x_ldc2 (z := 65536) (b := 27) dX10_draw_24 kw_1203 (by decide) rfl ?_
  obtain ⟨hs, hF⟩ := ck_e hF
  refine x_ldiv (b := 28) dX10_draw_27 hs.1 hs.2 rfl ?_
  obtain ⟨hs, hF⟩ := ck_e hF
  refine x_l2i (b := 29) dX10_draw_28 hs rfl ?_
  refine x_ireturn dX10_draw_29 rfl ⟨Nat.le_refl _, Nat.le_refl _⟩ ?_
  cases hF
  exact ⟨rfl, rfl, hL⟩
set_option maxHeartbeats 4000000 in
set_option maxRecDepth 100000 in
theorem u_X10_draw (E : xE) (d : Nat) (r : Int × Hp) : ∀ n : Nat, (∀ (x0 : Int) (h : Hp), Lay h → g_X10_draw n 0 [x0] h = some r → X E mX10_draw (d + 1) (0, 0) (0, 0) 0 [some (xr 10 x0)] [] h (PoI r)) := by
  intro n
  induction n with
  | zero => exact fun _ _ _ hF => no_e (r := r) hF
  | succ n ih => exact fun x0 h hL hF => t_X10_draw_0 E d (g_X10_draw n) r  x0 h hL hF
theorem c_X10_draw (d : Nat) (x0 : Int) (h : Hp) (r : Int × Hp) (hL : Lay h) (hF : f_X10_draw x0 h = some r) : Sp mX10_draw (d + 1) (0, 0) [xr 10 x0] h (PoI r) :=
  sp_of (by decide) rfl (Nat.le_of_ble_eq_true rfl) (ls := [some (xr 10 x0)]) rfl (fun E _ => (u_X10_draw E d r FU) x0 h hL hF)
theorem dX11_fault_0 : decode cX11_fault 0 = .ok (.iload_n 1, 1) := by decide +kernel
theorem dX11_fault_1 : decode cX11_fault 1 = .ok (.ifCond .ne 11, 3) := by decide +kernel
theorem dX11_fault_4 : decode cX11_fault 4 = .ok (.aload_n 0, 1) := by decide +kernel
theorem dX11_fault_5 : decode cX11_fault 5 = .ok (.getfield 32, 3) := by decide +kernel
theorem dX11_fault_8 : decode cX11_fault 8 = .ok (.getfield 116, 3) := by decide +kernel
theorem dX11_fault_11 : decode cX11_fault 11 = .ok (.ireturn, 1) := by decide +kernel
theorem dX11_fault_12 : decode cX11_fault 12 = .ok (.iload_n 1, 1) := by decide +kernel
theorem dX11_fault_13 : decode cX11_fault 13 = .ok (.iconst 1, 1) := by decide +kernel
theorem dX11_fault_14 : decode cX11_fault 14 = .ok (.if_icmp .ne 13, 3) := by decide +kernel
theorem dX11_fault_17 : decode cX11_fault 17 = .ok (.aload_n 0, 1) := by decide +kernel
theorem dX11_fault_18 : decode cX11_fault 18 = .ok (.getfield 32, 3) := by decide +kernel
theorem dX11_fault_21 : decode cX11_fault 21 = .ok (.getfield 119, 3) := by decide +kernel
theorem dX11_fault_24 : decode cX11_fault 24 = .ok (.goto 4, 3) := by decide +kernel
theorem dX11_fault_27 : decode cX11_fault 27 = .ok (.iconst (-1), 1) := by decide +kernel
theorem dX11_fault_28 : decode cX11_fault 28 = .ok (.ireturn, 1) := by decide +kernel
noncomputable def b_X11_fault_0 (rec : Rk) (x1 : Int) (h : Hp) : Option (Int × Hp) :=
  if x1 = 0 then (
    some (gI h 7 0 3, h)
  ) else (
    if x1 = 1 then (
      some (gI h 7 0 4, h)
    ) else (
      some ((-1), h)
    )
  )
noncomputable def g_X11_fault (n : Nat) : Rk := Nat.rec (motive := fun _ => Rk) (fun _ _ _ => none) (fun _ rec k l h => if k = 0 then b_X11_fault_0 rec (l.getD 0 0) h else none) n
noncomputable def f_X11_fault (x1 : Int) (h : Hp) : Option (Int × Hp) := g_X11_fault FU 0 [x1] h
set_option maxHeartbeats 4000000 in
set_option maxRecDepth 100000 in
theorem t_X11_fault_0 (E : xE) (d : Nat) (rec : Rk) (r : Int × Hp) (x1 : Int) (h : Hp) (hL : Lay h) (hF : b_X11_fault_0 rec x1 h = some r) : X E mX11_fault (d + 1) (0, 0) (0, 0) 0 [some (xr 11 0), some (xi x1)] [] h (PoI r) := by
  unfold b_X11_fault_0 at hF
  refine x_iload_n (i := 1) (b := 1) dX11_fault_0 rfl rfl rfl ?_
  refine x_if_ne (tgt := 12) (b := 4) dX11_fault_1 (by decide) rfl (fun hc => ?_) (fun hc => ?_)
  · replace hF := br_F hc hF
    refine x_iload_n (i := 1) (b := 13) dX11_fault_12 rfl rfl rfl ?_
    refine x_iconst (n := 1) (b := 14) dX11_fault_13 (by decide) rfl ?_
    refine x_icmp_ne (tgt := 27) (b := 17) dX11_fault_14 (by decide) rfl (fun hc => ?_) (fun hc => ?_)
    · replace hF := br_F hc hF
      refine x_iconst (n := (-1)) (b := 28) dX11_fault_27 (by decide) rfl ?_
      refine x_ireturn dX11_fault_28 rfl ⟨Nat.le_refl _, Nat.le_refl _⟩ ?_
      cases hF
      exact ⟨rfl, rfl, hL⟩
    · replace hF := br_T hc hF
      refine x_aload_n (i := 0) (b := 18) dX11_fault_17 rfl rfl rfl ?_
      refine x_getL (j := 0) (t := (7, 0, false)) (b := 21) fk_X11_32 dX11_fault_18 rfl hL rfl rfl rfl ?_
      refine x_getI (v := gI h 7 0 4) (b := 24) fk_X11_119 dX11_fault_21 (by decide) rfl rfl ?_
      refine x_goto (tgt := 28) dX11_fault_24 (by decide) ?_
      refine x_ireturn dX11_fault_28 rfl ⟨Nat.le_refl _, Nat.le_refl _⟩ ?_
      cases hF
      exact ⟨rfl, rfl, hL⟩
  · replace hF := br_T hc hF
    refine x_aload_n (i := 0) (b := 5) dX11_fault_4 rfl rfl rfl ?_
    refine x_getL (j := 0) (t := (7, 0, false)) (b := 8) fk_X11_32 dX11_fault_5 rfl hL rfl rfl rfl ?_
    refine x_getI (v := gI h 7 0 3) (b := 11) fk_X11_116 dX11_fault_8 (by decide) rfl rfl ?_
    refine x_ireturn dX11_fault_11 rfl ⟨Nat.le_refl _, Nat.le_refl _⟩ ?_
    cases hF
    exact ⟨rfl, rfl, hL⟩
set_option maxHeartbeats 4000000 in
set_option maxRecDepth 100000 in
theorem u_X11_fault (E : xE) (d : Nat) (r : Int × Hp) : ∀ n : Nat, (∀ (x1 : Int) (h : Hp), Lay h → g_X11_fault n 0 [x1] h = some r → X E mX11_fault (d + 1) (0, 0) (0, 0) 0 [some (xr 11 0), some (xi x1)] [] h (PoI r)) := by
  intro n
  induction n with
  | zero => exact fun _ _ _ hF => no_e (r := r) hF
  | succ n ih => exact fun x1 h hL hF => t_X11_fault_0 E d (g_X11_fault n) r  x1 h hL hF
theorem c_X11_fault (d : Nat) (x1 : Int) (h : Hp) (r : Int × Hp) (hL : Lay h) (hF : f_X11_fault x1 h = some r) : Sp mX11_fault (d + 1) (0, 0) [xr 11 0, xi x1] h (PoI r) :=
  sp_of (by decide) rfl (Nat.le_of_ble_eq_true rfl) (ls := [some (xr 11 0), some (xi x1)]) rfl (fun E _ => (u_X11_fault E d r FU) x1 h hL hF)
theorem dX11_fed_0 : decode cX11_fed 0 = .ok (.iload_n 1, 1) := by decide +kernel
theorem dX11_fed_1 : decode cX11_fed 1 = .ok (.ifCond .lt 16, 3) := by decide +kernel
theorem dX11_fed_4 : decode cX11_fed 4 = .ok (.iload_n 1, 1) := by decide +kernel
theorem dX11_fed_5 : decode cX11_fed 5 = .ok (.iconst 1, 1) := by decide +kernel
theorem dX11_fed_6 : decode cX11_fed 6 = .ok (.aload_n 0, 1) := by decide +kernel
theorem dX11_fed_7 : decode cX11_fed 7 = .ok (.getfield 20, 3) := by decide +kernel
theorem dX11_fed_10 : decode cX11_fed 10 = .ok (.getfield 234, 3) := by decide +kernel
theorem dX11_fed_13 : decode cX11_fed 13 = .ok (.ishl, 1) := by decide +kernel
theorem dX11_fed_14 : decode cX11_fed 14 = .ok (.if_icmp .lt 5, 3) := by decide +kernel
theorem dX11_fed_17 : decode cX11_fed 17 = .ok (.iconst 0, 1) := by decide +kernel
theorem dX11_fed_18 : decode cX11_fed 18 = .ok (.ireturn, 1) := by decide +kernel
theorem dX11_fed_19 : decode cX11_fed 19 = .ok (.aload_n 0, 1) := by decide +kernel
theorem dX11_fed_20 : decode cX11_fed 20 = .ok (.getfield 57, 3) := by decide +kernel
theorem dX11_fed_23 : decode cX11_fed 23 = .ok (.iload_n 1, 1) := by decide +kernel
theorem dX11_fed_24 : decode cX11_fed 24 = .ok (.putfield 161, 3) := by decide +kernel
theorem dX11_fed_27 : decode cX11_fed 27 = .ok (.iconst 1, 1) := by decide +kernel
theorem dX11_fed_28 : decode cX11_fed 28 = .ok (.ireturn, 1) := by decide +kernel
noncomputable def b_X11_fed_0 (rec : Rk) (x1 : Int) (h : Hp) : Option (Int × Hp) :=
  if x1 < 0 then (
    some (0, h)
  ) else (
    rf (gR h 11 0 2) 0 fun j1 =>
    if x1 < (bshl 1 (gI h 0 j1 3)) then (
      lt (sI h 10 0 4 x1) fun h2 =>
      some (1, h2)
    ) else (
      some (0, h)
    )
  )
noncomputable def g_X11_fed (n : Nat) : Rk := Nat.rec (motive := fun _ => Rk) (fun _ _ _ => none) (fun _ rec k l h => if k = 0 then b_X11_fed_0 rec (l.getD 0 0) h else none) n
noncomputable def f_X11_fed (x1 : Int) (h : Hp) : Option (Int × Hp) := g_X11_fed FU 0 [x1] h
set_option maxHeartbeats 4000000 in
set_option maxRecDepth 100000 in
theorem t_X11_fed_0 (E : xE) (d : Nat) (rec : Rk) (r : Int × Hp) (x1 : Int) (h : Hp) (hL : Lay h) (hF : b_X11_fed_0 rec x1 h = some r) : X E mX11_fed (d + 1) (0, 0) (0, 0) 0 [some (xr 11 0), some (xi x1)] [] h (PoI r) := by
  unfold b_X11_fed_0 at hF
  refine x_iload_n (i := 1) (b := 1) dX11_fed_0 rfl rfl rfl ?_
  refine x_if_lt (tgt := 17) (b := 4) dX11_fed_1 (by decide) rfl (fun hc => ?_) (fun hc => ?_)
  · replace hF := br_T hc hF
    refine x_iconst (n := 0) (b := 18) dX11_fed_17 (by decide) rfl ?_
    refine x_zreturn dX11_fed_18 rfl ⟨Nat.le_refl _, Nat.le_refl _⟩ (by decide) ?_
    cases hF
    exact ⟨rfl, rfl, hL⟩
  · replace hF := br_F hc hF
    refine x_iload_n (i := 1) (b := 5) dX11_fed_4 rfl rfl rfl ?_
    refine x_iconst (n := 1) (b := 6) dX11_fed_5 (by decide) rfl ?_
    refine x_aload_n (i := 0) (b := 7) dX11_fed_6 rfl rfl rfl ?_
    obtain ⟨j1, e_j1, hF⟩ := rf_e hF
    refine x_getR (v := some (0, j1)) (b := 10) fk_X11_20 dX11_fed_7 rfl e_j1 rfl ?_
    refine x_getI (v := gI h 0 j1 3) (b := 13) fk_X11_234 dX11_fed_10 (by decide) rfl rfl ?_
    refine x_ishl (b := 14) dX11_fed_13 rfl ?_
    refine x_icmp_lt (tgt := 19) (b := 17) dX11_fed_14 (by decide) rfl (fun hc => ?_) (fun hc => ?_)
    · replace hF := br_T hc hF
      refine x_aload_n (i := 0) (b := 20) dX11_fed_19 rfl rfl rfl ?_
      refine x_getL (j := 0) (t := (10, 0, false)) (b := 23) fk_X11_57 dX11_fed_20 rfl hL rfl rfl rfl ?_
      refine x_iload_n (i := 1) (b := 24) dX11_fed_23 rfl rfl rfl ?_
      refine x_putI (b := 27) fk_X11_161 dX11_fed_24 rfl rfl 4 rfl ?_
      obtain ⟨h2, e_h2, hF⟩ := lt_e hF
      refine x_hp (h2 := h2) e_h2 ?_
      replace hL : Lay h2 := by rw [← e_h2]; exact hL
      refine x_iconst (n := 1) (b := 28) dX11_fed_27 (by decide) rfl ?_
      refine x_zreturn dX11_fed_28 rfl ⟨Nat.le_refl _, Nat.le_refl _⟩ (by decide) ?_
      cases hF
      exact ⟨rfl, rfl, hL⟩
    · replace hF := br_F hc hF
      refine x_iconst (n := 0) (b := 18) dX11_fed_17 (by decide) rfl ?_
      refine x_zreturn dX11_fed_18 rfl ⟨Nat.le_refl _, Nat.le_refl _⟩ (by decide) ?_
      cases hF
      exact ⟨rfl, rfl, hL⟩
set_option maxHeartbeats 4000000 in
set_option maxRecDepth 100000 in
theorem u_X11_fed (E : xE) (d : Nat) (r : Int × Hp) : ∀ n : Nat, (∀ (x1 : Int) (h : Hp), Lay h → g_X11_fed n 0 [x1] h = some r → X E mX11_fed (d + 1) (0, 0) (0, 0) 0 [some (xr 11 0), some (xi x1)] [] h (PoI r)) := by
  intro n
  induction n with
  | zero => exact fun _ _ _ hF => no_e (r := r) hF
  | succ n ih => exact fun x1 h hL hF => t_X11_fed_0 E d (g_X11_fed n) r  x1 h hL hF
theorem c_X11_fed (d : Nat) (x1 : Int) (h : Hp) (r : Int × Hp) (hL : Lay h) (hF : f_X11_fed x1 h = some r) : Sp mX11_fed (d + 1) (0, 0) [xr 11 0, xi x1] h (PoI r) :=
  sp_of (by decide) rfl (Nat.le_of_ble_eq_true rfl) (ls := [some (xr 11 0), some (xi x1)]) rfl (fun E _ => (u_X11_fed E d r FU) x1 h hL hF)
theorem dX11_isCourse_0 : decode cX11_isCourse 0 = .ok (.iload_n 0, 1) := by decide +kernel
theorem dX11_isCourse_1 : decode cX11_isCourse 1 = .ok (.ifCond .lt 12, 3) := by decide +kernel
theorem dX11_isCourse_4 : decode cX11_isCourse 4 = .ok (.iload_n 0, 1) := by decide +kernel
theorem dX11_isCourse_5 : decode cX11_isCourse 5 = .ok (.iconst 4, 1) := by decide +kernel
theorem dX11_isCourse_6 : decode cX11_isCourse 6 = .ok (.if_icmp .ge 7, 3) := by decide +kernel
theorem dX11_isCourse_9 : decode cX11_isCourse 9 = .ok (.iconst 1, 1) := by decide +kernel
theorem dX11_isCourse_10 : decode cX11_isCourse 10 = .ok (.goto 4, 3) := by decide +kernel
theorem dX11_isCourse_13 : decode cX11_isCourse 13 = .ok (.iconst 0, 1) := by decide +kernel
theorem dX11_isCourse_14 : decode cX11_isCourse 14 = .ok (.ireturn, 1) := by decide +kernel
noncomputable def b_X11_isCourse_0 (rec : Rk) (x0 : Int) (h : Hp) : Option (Int × Hp) :=
  if x0 < 0 then (
    some (0, h)
  ) else (
    if 4 ≤ x0 then (
      some (0, h)
    ) else (
      some (1, h)
    )
  )
noncomputable def g_X11_isCourse (n : Nat) : Rk := Nat.rec (motive := fun _ => Rk) (fun _ _ _ => none) (fun _ rec k l h => if k = 0 then b_X11_isCourse_0 rec (l.getD 0 0) h else none) n
noncomputable def f_X11_isCourse (x0 : Int) (h : Hp) : Option (Int × Hp) := g_X11_isCourse FU 0 [x0] h
set_option maxHeartbeats 4000000 in
set_option maxRecDepth 100000 in
theorem t_X11_isCourse_0 (E : xE) (d : Nat) (rec : Rk) (r : Int × Hp) (x0 : Int) (h : Hp) (hL : Lay h) (hF : b_X11_isCourse_0 rec x0 h = some r) : X E mX11_isCourse (d + 1) (0, 0) (0, 0) 0 [some (xi x0)] [] h (PoI r) := by
  unfold b_X11_isCourse_0 at hF
  refine x_iload_n (i := 0) (b := 1) dX11_isCourse_0 rfl rfl rfl ?_
  refine x_if_lt (tgt := 13) (b := 4) dX11_isCourse_1 (by decide) rfl (fun hc => ?_) (fun hc => ?_)
  · replace hF := br_T hc hF
    refine x_iconst (n := 0) (b := 14) dX11_isCourse_13 (by decide) rfl ?_
    refine x_zreturn dX11_isCourse_14 rfl ⟨Nat.le_refl _, Nat.le_refl _⟩ (by decide) ?_
    cases hF
    exact ⟨rfl, rfl, hL⟩
  · replace hF := br_F hc hF
    refine x_iload_n (i := 0) (b := 5) dX11_isCourse_4 rfl rfl rfl ?_
    refine x_iconst (n := 4) (b := 6) dX11_isCourse_5 (by decide) rfl ?_
    refine x_icmp_ge (tgt := 13) (b := 9) dX11_isCourse_6 (by decide) rfl (fun hc => ?_) (fun hc => ?_)
    · replace hF := br_T hc hF
      refine x_iconst (n := 0) (b := 14) dX11_isCourse_13 (by decide) rfl ?_
      refine x_zreturn dX11_isCourse_14 rfl ⟨Nat.le_refl _, Nat.le_refl _⟩ (by decide) ?_
      cases hF
      exact ⟨rfl, rfl, hL⟩
    · replace hF := br_F hc hF
      refine x_iconst (n := 1) (b := 10) dX11_isCourse_9 (by decide) rfl ?_
      refine x_goto (tgt := 14) dX11_isCourse_10 (by decide) ?_
      refine x_zreturn dX11_isCourse_14 rfl ⟨Nat.le_refl _, Nat.le_refl _⟩ (by decide) ?_
      cases hF
      exact ⟨rfl, rfl, hL⟩
set_option maxHeartbeats 4000000 in
set_option maxRecDepth 100000 in
theorem u_X11_isCourse (E : xE) (d : Nat) (r : Int × Hp) : ∀ n : Nat, (∀ (x0 : Int) (h : Hp), Lay h → g_X11_isCourse n 0 [x0] h = some r → X E mX11_isCourse (d + 1) (0, 0) (0, 0) 0 [some (xi x0)] [] h (PoI r)) := by
  intro n
  induction n with
  | zero => exact fun _ _ _ hF => no_e (r := r) hF
  | succ n ih => exact fun x0 h hL hF => t_X11_isCourse_0 E d (g_X11_isCourse n) r  x0 h hL hF
theorem c_X11_isCourse (d : Nat) (x0 : Int) (h : Hp) (r : Int × Hp) (hL : Lay h) (hF : f_X11_isCourse x0 h = some r) : Sp mX11_isCourse (d + 1) (0, 0) [xi x0] h (PoI r) :=
  sp_of (by decide) rfl (Nat.le_of_ble_eq_true rfl) (ls := [some (xi x0)]) rfl (fun E _ => (u_X11_isCourse E d r FU) x0 h hL hF)
theorem dX11_isGone_0 : decode cX11_isGone 0 = .ok (.iload_n 1, 1) := by decide +kernel
theorem dX11_isGone_1 : decode cX11_isGone 1 = .ok (.ifCond .lt 24, 3) := by decide +kernel
theorem dX11_isGone_4 : decode cX11_isGone 4 = .ok (.iload_n 1, 1) := by decide +kernel
theorem dX11_isGone_5 : decode cX11_isGone 5 = .ok (.aload_n 0, 1) := by decide +kernel
theorem dX11_isGone_6 : decode cX11_isGone 6 = .ok (.getfield 57, 3) := by decide +kernel
theorem dX11_isGone_9 : decode cX11_isGone 9 = .ok (.getfield 195, 3) := by decide +kernel
theorem dX11_isGone_12 : decode cX11_isGone 12 = .ok (.if_icmp .ge 13, 3) := by decide +kernel
theorem dX11_isGone_15 : decode cX11_isGone 15 = .ok (.iload_n 1, 1) := by decide +kernel
theorem dX11_isGone_16 : decode cX11_isGone 16 = .ok (.bipush 60, 2) := by decide +kernel
theorem dX11_isGone_18 : decode cX11_isGone 18 = .ok (.if_icmp .ge 7, 3) := by decide +kernel
theorem dX11_isGone_21 : decode cX11_isGone 21 = .ok (.iconst 1, 1) := by decide +kernel
theorem dX11_isGone_22 : decode cX11_isGone 22 = .ok (.goto 4, 3) := by decide +kernel
theorem dX11_isGone_25 : decode cX11_isGone 25 = .ok (.iconst 0, 1) := by decide +kernel
theorem dX11_isGone_26 : decode cX11_isGone 26 = .ok (.ireturn, 1) := by decide +kernel
noncomputable def b_X11_isGone_0 (rec : Rk) (x1 : Int) (h : Hp) : Option (Int × Hp) :=
  if x1 < 0 then (
    some (0, h)
  ) else (
    if (gI h 10 0 0) ≤ x1 then (
      some (0, h)
    ) else (
      if 60 ≤ x1 then (
        some (0, h)
      ) else (
        some (1, h)
      )
    )
  )
noncomputable def g_X11_isGone (n : Nat) : Rk := Nat.rec (motive := fun _ => Rk) (fun _ _ _ => none) (fun _ rec k l h => if k = 0 then b_X11_isGone_0 rec (l.getD 0 0) h else none) n
noncomputable def f_X11_isGone (x1 : Int) (h : Hp) : Option (Int × Hp) := g_X11_isGone FU 0 [x1] h
set_option maxHeartbeats 4000000 in
set_option maxRecDepth 100000 in
theorem t_X11_isGone_0 (E : xE) (d : Nat) (rec : Rk) (r : Int × Hp) (x1 : Int) (h : Hp) (hL : Lay h) (hF : b_X11_isGone_0 rec x1 h = some r) : X E mX11_isGone (d + 1) (0, 0) (0, 0) 0 [some (xr 11 0), some (xi x1)] [] h (PoI r) := by
  unfold b_X11_isGone_0 at hF
  refine x_iload_n (i := 1) (b := 1) dX11_isGone_0 rfl rfl rfl ?_
  refine x_if_lt (tgt := 25) (b := 4) dX11_isGone_1 (by decide) rfl (fun hc => ?_) (fun hc => ?_)
  · replace hF := br_T hc hF
    refine x_iconst (n := 0) (b := 26) dX11_isGone_25 (by decide) rfl ?_
    refine x_zreturn dX11_isGone_26 rfl ⟨Nat.le_refl _, Nat.le_refl _⟩ (by decide) ?_
    cases hF
    exact ⟨rfl, rfl, hL⟩
  · replace hF := br_F hc hF
    refine x_iload_n (i := 1) (b := 5) dX11_isGone_4 rfl rfl rfl ?_
    refine x_aload_n (i := 0) (b := 6) dX11_isGone_5 rfl rfl rfl ?_
    refine x_getL (j := 0) (t := (10, 0, false)) (b := 9) fk_X11_57 dX11_isGone_6 rfl hL rfl rfl rfl ?_
    refine x_getI (v := gI h 10 0 0) (b := 12) fk_X11_195 dX11_isGone_9 (by decide) rfl rfl ?_
    refine x_icmp_ge (tgt := 25) (b := 15) dX11_isGone_12 (by decide) rfl (fun hc => ?_) (fun hc => ?_)
    · replace hF := br_T hc hF
      refine x_iconst (n := 0) (b := 26) dX11_isGone_25 (by decide) rfl ?_
      refine x_zreturn dX11_isGone_26 rfl ⟨Nat.le_refl _, Nat.le_refl _⟩ (by decide) ?_
      cases hF
      exact ⟨rfl, rfl, hL⟩
    · replace hF := br_F hc hF
      refine x_iload_n (i := 1) (b := 16) dX11_isGone_15 rfl rfl rfl ?_
      refine x_bipush (n := 60) (b := 18) dX11_isGone_16 (by decide) rfl ?_
      refine x_icmp_ge (tgt := 25) (b := 21) dX11_isGone_18 (by decide) rfl (fun hc => ?_) (fun hc => ?_)
      · replace hF := br_T hc hF
        refine x_iconst (n := 0) (b := 26) dX11_isGone_25 (by decide) rfl ?_
        refine x_zreturn dX11_isGone_26 rfl ⟨Nat.le_refl _, Nat.le_refl _⟩ (by decide) ?_
        cases hF
        exact ⟨rfl, rfl, hL⟩
      · replace hF := br_F hc hF
        refine x_iconst (n := 1) (b := 22) dX11_isGone_21 (by decide) rfl ?_
        refine x_goto (tgt := 26) dX11_isGone_22 (by decide) ?_
        refine x_zreturn dX11_isGone_26 rfl ⟨Nat.le_refl _, Nat.le_refl _⟩ (by decide) ?_
        cases hF
        exact ⟨rfl, rfl, hL⟩
set_option maxHeartbeats 4000000 in
set_option maxRecDepth 100000 in
theorem u_X11_isGone (E : xE) (d : Nat) (r : Int × Hp) : ∀ n : Nat, (∀ (x1 : Int) (h : Hp), Lay h → g_X11_isGone n 0 [x1] h = some r → X E mX11_isGone (d + 1) (0, 0) (0, 0) 0 [some (xr 11 0), some (xi x1)] [] h (PoI r)) := by
  intro n
  induction n with
  | zero => exact fun _ _ _ hF => no_e (r := r) hF
  | succ n ih => exact fun x1 h hL hF => t_X11_isGone_0 E d (g_X11_isGone n) r  x1 h hL hF
theorem c_X11_isGone (d : Nat) (x1 : Int) (h : Hp) (r : Int × Hp) (hL : Lay h) (hF : f_X11_isGone x1 h = some r) : Sp mX11_isGone (d + 1) (0, 0) [xr 11 0, xi x1] h (PoI r) :=
  sp_of (by decide) rfl (Nat.le_of_ble_eq_true rfl) (ls := [some (xr 11 0), some (xi x1)]) rfl (fun E _ => (u_X11_isGone E d r FU) x1 h hL hF)
theorem dX11_known_0 : decode cX11_known 0 = .ok (.iload_n 1, 1) := by decide +kernel
theorem dX11_known_1 : decode cX11_known 1 = .ok (.iconst (-1), 1) := by decide +kernel
theorem dX11_known_2 : decode cX11_known 2 = .ok (.if_icmp .lt 14, 3) := by decide +kernel
theorem dX11_known_5 : decode cX11_known 5 = .ok (.iload_n 1, 1) := by decide +kernel
theorem dX11_known_6 : decode cX11_known 6 = .ok (.aload_n 0, 1) := by decide +kernel
theorem dX11_known_7 : decode cX11_known 7 = .ok (.getfield 88, 3) := by decide +kernel
theorem dX11_known_10 : decode cX11_known 10 = .ok (.getfield 305, 3) := by decide +kernel
theorem dX11_known_13 : decode cX11_known 13 = .ok (.if_icmp .le 5, 3) := by decide +kernel
theorem dX11_known_16 : decode cX11_known 16 = .ok (.iconst 0, 1) := by decide +kernel
theorem dX11_known_17 : decode cX11_known 17 = .ok (.ireturn, 1) := by decide +kernel
theorem dX11_known_18 : decode cX11_known 18 = .ok (.aload_n 0, 1) := by decide +kernel
theorem dX11_known_19 : decode cX11_known 19 = .ok (.getfield 88, 3) := by decide +kernel
theorem dX11_known_22 : decode cX11_known 22 = .ok (.iload_n 1, 1) := by decide +kernel
theorem dX11_known_23 : decode cX11_known 23 = .ok (.putfield 311, 3) := by decide +kernel
theorem dX11_known_26 : decode cX11_known 26 = .ok (.aload_n 0, 1) := by decide +kernel
theorem dX11_known_27 : decode cX11_known 27 = .ok (.iconst (-1), 1) := by decide +kernel
theorem dX11_known_28 : decode cX11_known 28 = .ok (.putfield 95, 3) := by decide +kernel
theorem dX11_known_31 : decode cX11_known 31 = .ok (.iconst 1, 1) := by decide +kernel
theorem dX11_known_32 : decode cX11_known 32 = .ok (.ireturn, 1) := by decide +kernel
noncomputable def b_X11_known_0 (rec : Rk) (x1 : Int) (h : Hp) : Option (Int × Hp) :=
  if x1 < (-1) then (
    some (0, h)
  ) else (
    if x1 ≤ (gI h 5 0 4) then (
      lt (sI h 5 0 5 x1) fun h1 =>
      lt (sI h1 11 0 16 (-1)) fun h2 =>
      some (1, h2)
    ) else (
      some (0, h)
    )
  )
noncomputable def g_X11_known (n : Nat) : Rk := Nat.rec (motive := fun _ => Rk) (fun _ _ _ => none) (fun _ rec k l h => if k = 0 then b_X11_known_0 rec (l.getD 0 0) h else none) n
noncomputable def f_X11_known (x1 : Int) (h : Hp) : Option (Int × Hp) := g_X11_known FU 0 [x1] h
set_option maxHeartbeats 4000000 in
set_option maxRecDepth 100000 in
theorem t_X11_known_0 (E : xE) (d : Nat) (rec : Rk) (r : Int × Hp) (x1 : Int) (h : Hp) (hL : Lay h) (hF : b_X11_known_0 rec x1 h = some r) : X E mX11_known (d + 1) (0, 0) (0, 0) 0 [some (xr 11 0), some (xi x1)] [] h (PoI r) := by
  unfold b_X11_known_0 at hF
  refine x_iload_n (i := 1) (b := 1) dX11_known_0 rfl rfl rfl ?_
  refine x_iconst (n := (-1)) (b := 2) dX11_known_1 (by decide) rfl ?_
  refine x_icmp_lt (tgt := 16) (b := 5) dX11_known_2 (by decide) rfl (fun hc => ?_) (fun hc => ?_)
  · replace hF := br_T hc hF
    refine x_iconst (n := 0) (b := 17) dX11_known_16 (by decide) rfl ?_
    refine x_zreturn dX11_known_17 rfl ⟨Nat.le_refl _, Nat.le_refl _⟩ (by decide) ?_
    cases hF
    exact ⟨rfl, rfl, hL⟩
  · replace hF := br_F hc hF
    refine x_iload_n (i := 1) (b := 6) dX11_known_5 rfl rfl rfl ?_
    refine x_aload_n (i := 0) (b := 7) dX11_known_6 rfl rfl rfl ?_
    refine x_getL (j := 0) (t := (5, 0, false)) (b := 10) fk_X11_88 dX11_known_7 rfl hL rfl rfl rfl ?_
    refine x_getI (v := gI h 5 0 4) (b := 13) fk_X11_305 dX11_known_10 (by decide) rfl rfl ?_
    refine x_icmp_le (tgt := 18) (b := 16) dX11_known_13 (by decide) rfl (fun hc => ?_) (fun hc => ?_)
    · replace hF := br_T hc hF
      refine x_aload_n (i := 0) (b := 19) dX11_known_18 rfl rfl rfl ?_
      refine x_getL (j := 0) (t := (5, 0, false)) (b := 22) fk_X11_88 dX11_known_19 rfl hL rfl rfl rfl ?_
      refine x_iload_n (i := 1) (b := 23) dX11_known_22 rfl rfl rfl ?_
      refine x_putI (b := 26) fk_X11_311 dX11_known_23 rfl rfl 5 rfl ?_
      obtain ⟨h1, e_h1, hF⟩ := lt_e hF
      refine x_hp (h2 := h1) e_h1 ?_
      replace hL : Lay h1 := by rw [← e_h1]; exact hL
      refine x_aload_n (i := 0) (b := 27) dX11_known_26 rfl rfl rfl ?_
      refine x_iconst (n := (-1)) (b := 28) dX11_known_27 (by decide) rfl ?_
      refine x_putI (b := 31) fk_X11_95 dX11_known_28 rfl rfl 16 rfl ?_
      obtain ⟨h2, e_h2, hF⟩ := lt_e hF
      refine x_hp (h2 := h2) e_h2 ?_
      replace hL : Lay h2 := by rw [← e_h2]; exact hL
      refine x_iconst (n := 1) (b := 32) dX11_known_31 (by decide) rfl ?_
      refine x_zreturn dX11_known_32 rfl ⟨Nat.le_refl _, Nat.le_refl _⟩ (by decide) ?_
      cases hF
      exact ⟨rfl, rfl, hL⟩
    · replace hF := br_F hc hF
      refine x_iconst (n := 0) (b := 17) dX11_known_16 (by decide) rfl ?_
      refine x_zreturn dX11_known_17 rfl ⟨Nat.le_refl _, Nat.le_refl _⟩ (by decide) ?_
      cases hF
      exact ⟨rfl, rfl, hL⟩
set_option maxHeartbeats 4000000 in
set_option maxRecDepth 100000 in
theorem u_X11_known (E : xE) (d : Nat) (r : Int × Hp) : ∀ n : Nat, (∀ (x1 : Int) (h : Hp), Lay h → g_X11_known n 0 [x1] h = some r → X E mX11_known (d + 1) (0, 0) (0, 0) 0 [some (xr 11 0), some (xi x1)] [] h (PoI r)) := by
  intro n
  induction n with
  | zero => exact fun _ _ _ hF => no_e (r := r) hF
  | succ n ih => exact fun x1 h hL hF => t_X11_known_0 E d (g_X11_known n) r  x1 h hL hF
theorem c_X11_known (d : Nat) (x1 : Int) (h : Hp) (r : Int × Hp) (hL : Lay h) (hF : f_X11_known x1 h = some r) : Sp mX11_known (d + 1) (0, 0) [xr 11 0, xi x1] h (PoI r) :=
  sp_of (by decide) rfl (Nat.le_of_ble_eq_true rfl) (ls := [some (xr 11 0), some (xi x1)]) rfl (fun E _ => (u_X11_known E d r FU) x1 h hL hF)
theorem dX11_log_0 : decode cX11_log 0 = .ok (.aload_n 0, 1) := by decide +kernel
theorem dX11_log_1 : decode cX11_log 1 = .ok (.iload_n 1, 1) := by decide +kernel
theorem dX11_log_2 : decode cX11_log 2 = .ok (.invokevirtual 273, 3) := by decide +kernel
theorem dX11_log_5 : decode cX11_log 5 = .ok (.ifCond .ne 5, 3) := by decide +kernel
theorem dX11_log_8 : decode cX11_log 8 = .ok (.iconst (-1), 1) := by decide +kernel
theorem dX11_log_9 : decode cX11_log 9 = .ok (.ireturn, 1) := by decide +kernel
theorem dX11_log_10 : decode cX11_log 10 = .ok (.iload_n 2, 1) := by decide +kernel
theorem dX11_log_11 : decode cX11_log 11 = .ok (.tableswitch 69 0 3 #[29, 39, 49, 59], 29) := by decide +kernel
theorem dX11_log_40 : decode cX11_log 40 = .ok (.aload_n 0, 1) := by decide +kernel
theorem dX11_log_41 : decode cX11_log 41 = .ok (.getfield 64, 3) := by decide +kernel
theorem dX11_log_44 : decode cX11_log 44 = .ok (.getfield 257, 3) := by decide +kernel
theorem dX11_log_47 : decode cX11_log 47 = .ok (.iload_n 1, 1) := by decide +kernel
theorem dX11_log_48 : decode cX11_log 48 = .ok (.iaload, 1) := by decide +kernel
theorem dX11_log_49 : decode cX11_log 49 = .ok (.ireturn, 1) := by decide +kernel
theorem dX11_log_50 : decode cX11_log 50 = .ok (.aload_n 0, 1) := by decide +kernel
theorem dX11_log_51 : decode cX11_log 51 = .ok (.getfield 64, 3) := by decide +kernel
theorem dX11_log_54 : decode cX11_log 54 = .ok (.getfield 260, 3) := by decide +kernel
theorem dX11_log_57 : decode cX11_log 57 = .ok (.iload_n 1, 1) := by decide +kernel
theorem dX11_log_58 : decode cX11_log 58 = .ok (.iaload, 1) := by decide +kernel
theorem dX11_log_59 : decode cX11_log 59 = .ok (.ireturn, 1) := by decide +kernel
theorem dX11_log_60 : decode cX11_log 60 = .ok (.aload_n 0, 1) := by decide +kernel
theorem dX11_log_61 : decode cX11_log 61 = .ok (.getfield 64, 3) := by decide +kernel
theorem dX11_log_64 : decode cX11_log 64 = .ok (.getfield 264, 3) := by decide +kernel
theorem dX11_log_67 : decode cX11_log 67 = .ok (.iload_n 1, 1) := by decide +kernel
theorem dX11_log_68 : decode cX11_log 68 = .ok (.iaload, 1) := by decide +kernel
theorem dX11_log_69 : decode cX11_log 69 = .ok (.ireturn, 1) := by decide +kernel
theorem dX11_log_70 : decode cX11_log 70 = .ok (.aload_n 0, 1) := by decide +kernel
theorem dX11_log_71 : decode cX11_log 71 = .ok (.getfield 64, 3) := by decide +kernel
theorem dX11_log_74 : decode cX11_log 74 = .ok (.getfield 266, 3) := by decide +kernel
theorem dX11_log_77 : decode cX11_log 77 = .ok (.iload_n 1, 1) := by decide +kernel
theorem dX11_log_78 : decode cX11_log 78 = .ok (.iaload, 1) := by decide +kernel
theorem dX11_log_79 : decode cX11_log 79 = .ok (.ireturn, 1) := by decide +kernel
theorem dX11_log_80 : decode cX11_log 80 = .ok (.iconst (-1), 1) := by decide +kernel
theorem dX11_log_81 : decode cX11_log 81 = .ok (.ireturn, 1) := by decide +kernel
noncomputable def b_X11_log_0 (rec : Rk) (x1 x2 : Int) (h : Hp) : Option (Int × Hp) :=
  bd (f_X11_isGone x1 h) fun v1 h2 =>
  if v1 = 0 then (
    some ((-1), h2)
  ) else (
    if x2 = 0 then (
      ck (0 ≤ x1 ∧ x1 < 60) <|
      some (gI h2 34 0 x1, h2)
    ) else (
    if x2 = 1 then (
      ck (0 ≤ x1 ∧ x1 < 60) <|
      some (gI h2 35 0 x1, h2)
    ) else (
    if x2 = 2 then (
      ck (0 ≤ x1 ∧ x1 < 60) <|
      some (gI h2 36 0 x1, h2)
    ) else (
    if x2 = 3 then (
      ck (0 ≤ x1 ∧ x1 < 60) <|
      some (gI h2 37 0 x1, h2)
    ) else (
    some ((-1), h2)
    )
    )
    )
    )
  )
noncomputable def g_X11_log (n : Nat) : Rk := Nat.rec (motive := fun _ => Rk) (fun _ _ _ => none) (fun _ rec k l h => if k = 0 then b_X11_log_0 rec (l.getD 0 0) (l.getD 1 0) h else none) n
noncomputable def f_X11_log (x1 x2 : Int) (h : Hp) : Option (Int × Hp) := g_X11_log FU 0 [x1, x2] h
set_option maxHeartbeats 4000000 in
set_option maxRecDepth 100000 in
theorem t_X11_log_0 (E : xE) (d : Nat) (rec : Rk) (r : Int × Hp) (x1 x2 : Int) (h : Hp) (hL : Lay h) (hF : b_X11_log_0 rec x1 x2 h = some r) : X E mX11_log (d + 2) (0, 0) (0, 0) 0 [some (xr 11 0), some (xi x1), some (xi x2)] [] h (PoI r) := by
  unfold b_X11_log_0 at hF
  refine x_aload_n (i := 0) (b := 1) dX11_log_0 rfl rfl rfl ?_
  refine x_iload_n (i := 1) (b := 2) dX11_log_1 rfl rfl rfl ?_
  obtain ⟨v1, h2, hq, hF⟩ := bd_e hF
  refine x_callV (as := [xi x1]) (rest := []) (b := 5) (c_X11_isGone d x1 h _ hL hq) dX11_log_2 cw_X11_273 ⟨_, _, rfl, Nat.le_of_ble_eq_true rfl⟩ rfl rfl (Nat.le_of_ble_eq_true rfl) ⟨Nat.le_refl _, Nat.le_refl _⟩ rfl (fun rv hh hp _ => ?_)
  obtain ⟨rfl, rfl, hL⟩ := hp
  refine x_if_ne (tgt := 10) (b := 8) dX11_log_5 (by decide) rfl (fun hc => ?_) (fun hc => ?_)
  · replace hF := br_F hc hF
    refine x_iload_n (i := 2) (b := 11) dX11_log_10 rfl rfl rfl ?_
    by_cases hw11_0 : x2 = 0
    · replace hF := br_T hw11_0 hF
      refine x_tableIn (tgt := 40) dX11_log_11 0 hw11_0 ⟨by decide, by decide⟩ rfl (by decide) ?_
      refine x_aload_n (i := 0) (b := 41) dX11_log_40 rfl rfl rfl ?_
      refine x_getL (j := 0) (t := (3, 0, false)) (b := 44) fk_X11_64 dX11_log_41 rfl hL rfl rfl rfl ?_
      refine x_getL (j := 0) (t := (34, 0, true)) (b := 47) fk_X11_257 dX11_log_44 rfl hL rfl rfl rfl ?_
      refine x_iload_n (i := 1) (b := 48) dX11_log_47 rfl rfl rfl ?_
      obtain ⟨hs, hF⟩ := ck_e hF
      refine x_iald (v := gI h2 34 0 x1) (b := 49) ak_34 dX11_log_48 hs rfl rfl ?_
      refine x_ireturn dX11_log_49 rfl ⟨Nat.le_refl _, Nat.le_refl _⟩ ?_
      cases hF
      exact ⟨rfl, rfl, hL⟩
    replace hF := br_F hw11_0 hF
    by_cases hw11_1 : x2 = 1
    · replace hF := br_T hw11_1 hF
      refine x_tableIn (tgt := 50) dX11_log_11 1 hw11_1 ⟨by decide, by decide⟩ rfl (by decide) ?_
      refine x_aload_n (i := 0) (b := 51) dX11_log_50 rfl rfl rfl ?_
      refine x_getL (j := 0) (t := (3, 0, false)) (b := 54) fk_X11_64 dX11_log_51 rfl hL rfl rfl rfl ?_
      refine x_getL (j := 0) (t := (35, 0, true)) (b := 57) fk_X11_260 dX11_log_54 rfl hL rfl rfl rfl ?_
      refine x_iload_n (i := 1) (b := 58) dX11_log_57 rfl rfl rfl ?_
      obtain ⟨hs, hF⟩ := ck_e hF
      refine x_iald (v := gI h2 35 0 x1) (b := 59) ak_35 dX11_log_58 hs rfl rfl ?_
      refine x_ireturn dX11_log_59 rfl ⟨Nat.le_refl _, Nat.le_refl _⟩ ?_
      cases hF
      exact ⟨rfl, rfl, hL⟩
    replace hF := br_F hw11_1 hF
    by_cases hw11_2 : x2 = 2
    · replace hF := br_T hw11_2 hF
      refine x_tableIn (tgt := 60) dX11_log_11 2 hw11_2 ⟨by decide, by decide⟩ rfl (by decide) ?_
      refine x_aload_n (i := 0) (b := 61) dX11_log_60 rfl rfl rfl ?_
      refine x_getL (j := 0) (t := (3, 0, false)) (b := 64) fk_X11_64 dX11_log_61 rfl hL rfl rfl rfl ?_
      refine x_getL (j := 0) (t := (36, 0, true)) (b := 67) fk_X11_264 dX11_log_64 rfl hL rfl rfl rfl ?_
      refine x_iload_n (i := 1) (b := 68) dX11_log_67 rfl rfl rfl ?_
      obtain ⟨hs, hF⟩ := ck_e hF
      refine x_iald (v := gI h2 36 0 x1) (b := 69) ak_36 dX11_log_68 hs rfl rfl ?_
      refine x_ireturn dX11_log_69 rfl ⟨Nat.le_refl _, Nat.le_refl _⟩ ?_
      cases hF
      exact ⟨rfl, rfl, hL⟩
    replace hF := br_F hw11_2 hF
    by_cases hw11_3 : x2 = 3
    · replace hF := br_T hw11_3 hF
      refine x_tableIn (tgt := 70) dX11_log_11 3 hw11_3 ⟨by decide, by decide⟩ rfl (by decide) ?_
      refine x_aload_n (i := 0) (b := 71) dX11_log_70 rfl rfl rfl ?_
      refine x_getL (j := 0) (t := (3, 0, false)) (b := 74) fk_X11_64 dX11_log_71 rfl hL rfl rfl rfl ?_
      refine x_getL (j := 0) (t := (37, 0, true)) (b := 77) fk_X11_266 dX11_log_74 rfl hL rfl rfl rfl ?_
      refine x_iload_n (i := 1) (b := 78) dX11_log_77 rfl rfl rfl ?_
      obtain ⟨hs, hF⟩ := ck_e hF
      refine x_iald (v := gI h2 37 0 x1) (b := 79) ak_37 dX11_log_78 hs rfl rfl ?_
      refine x_ireturn dX11_log_79 rfl ⟨Nat.le_refl _, Nat.le_refl _⟩ ?_
      cases hF
      exact ⟨rfl, rfl, hL⟩
    replace hF := br_F hw11_3 hF
    refine x_tableOut (tgt := 80) dX11_log_11 (by omega) (by decide) ?_
    refine x_iconst (n := (-1)) (b := 81) dX11_log_80 (by decide) rfl ?_
    refine x_ireturn dX11_log_81 rfl ⟨Nat.le_refl _, Nat.le_refl _⟩ ?_
    cases hF
    exact ⟨rfl, rfl, hL⟩
  · replace hF := br_T hc hF
    refine x_iconst (n := (-1)) (b := 9) dX11_log_8 (by decide) rfl ?_
    refine x_ireturn dX11_log_9 rfl ⟨Nat.le_refl _, Nat.le_refl _⟩ ?_
    cases hF
    exact ⟨rfl, rfl, hL⟩
set_option maxHeartbeats 4000000 in
set_option maxRecDepth 100000 in
theorem u_X11_log (E : xE) (d : Nat) (r : Int × Hp) : ∀ n : Nat, (∀ (x1 x2 : Int) (h : Hp), Lay h → g_X11_log n 0 [x1, x2] h = some r → X E mX11_log (d + 2) (0, 0) (0, 0) 0 [some (xr 11 0), some (xi x1), some (xi x2)] [] h (PoI r)) := by
  intro n
  induction n with
  | zero => exact fun _ _ _ _ hF => no_e (r := r) hF
  | succ n ih => exact fun x1 x2 h hL hF => t_X11_log_0 E d (g_X11_log n) r  x1 x2 h hL hF
theorem c_X11_log (d : Nat) (x1 x2 : Int) (h : Hp) (r : Int × Hp) (hL : Lay h) (hF : f_X11_log x1 x2 h = some r) : Sp mX11_log (d + 2) (0, 0) [xr 11 0, xi x1, xi x2] h (PoI r) :=
  sp_of (by decide) rfl (Nat.le_of_ble_eq_true rfl) (ls := [some (xr 11 0), some (xi x1), some (xi x2)]) rfl (fun E _ => (u_X11_log E d r FU) x1 x2 h hL hF)
theorem dX11_mealIsNext_0 : decode cX11_mealIsNext 0 = .ok (.aload_n 0, 1) := by decide +kernel
theorem dX11_mealIsNext_1 : decode cX11_mealIsNext 1 = .ok (.getfield 57, 3) := by decide +kernel
theorem dX11_mealIsNext_4 : decode cX11_mealIsNext 4 = .ok (.getfield 195, 3) := by decide +kernel
theorem dX11_mealIsNext_7 : decode cX11_mealIsNext 7 = .ok (.bipush 60, 2) := by decide +kernel
theorem dX11_mealIsNext_9 : decode cX11_mealIsNext 9 = .ok (.if_icmp .ge 7, 3) := by decide +kernel
theorem dX11_mealIsNext_12 : decode cX11_mealIsNext 12 = .ok (.iconst 1, 1) := by decide +kernel
theorem dX11_mealIsNext_13 : decode cX11_mealIsNext 13 = .ok (.goto 4, 3) := by decide +kernel
theorem dX11_mealIsNext_16 : decode cX11_mealIsNext 16 = .ok (.iconst 0, 1) := by decide +kernel
theorem dX11_mealIsNext_17 : decode cX11_mealIsNext 17 = .ok (.ireturn, 1) := by decide +kernel
noncomputable def b_X11_mealIsNext_0 (rec : Rk) (h : Hp) : Option (Int × Hp) :=
  if 60 ≤ (gI h 10 0 0) then (
    some (0, h)
  ) else (
    some (1, h)
  )
noncomputable def g_X11_mealIsNext (n : Nat) : Rk := Nat.rec (motive := fun _ => Rk) (fun _ _ _ => none) (fun _ rec k l h => if k = 0 then b_X11_mealIsNext_0 rec  h else none) n
noncomputable def f_X11_mealIsNext (h : Hp) : Option (Int × Hp) := g_X11_mealIsNext FU 0 [] h
set_option maxHeartbeats 4000000 in
set_option maxRecDepth 100000 in
theorem t_X11_mealIsNext_0 (E : xE) (d : Nat) (rec : Rk) (r : Int × Hp) (h : Hp) (hL : Lay h) (hF : b_X11_mealIsNext_0 rec  h = some r) : X E mX11_mealIsNext (d + 1) (0, 0) (0, 0) 0 [some (xr 11 0)] [] h (PoI r) := by
  unfold b_X11_mealIsNext_0 at hF
  refine x_aload_n (i := 0) (b := 1) dX11_mealIsNext_0 rfl rfl rfl ?_
  refine x_getL (j := 0) (t := (10, 0, false)) (b := 4) fk_X11_57 dX11_mealIsNext_1 rfl hL rfl rfl rfl ?_
  refine x_getI (v := gI h 10 0 0) (b := 7) fk_X11_195 dX11_mealIsNext_4 (by decide) rfl rfl ?_
  refine x_bipush (n := 60) (b := 9) dX11_mealIsNext_7 (by decide) rfl ?_
  refine x_icmp_ge (tgt := 16) (b := 12) dX11_mealIsNext_9 (by decide) rfl (fun hc => ?_) (fun hc => ?_)
  · replace hF := br_T hc hF
    refine x_iconst (n := 0) (b := 17) dX11_mealIsNext_16 (by decide) rfl ?_
    refine x_zreturn dX11_mealIsNext_17 rfl ⟨Nat.le_refl _, Nat.le_refl _⟩ (by decide) ?_
    cases hF
    exact ⟨rfl, rfl, hL⟩
  · replace hF := br_F hc hF
    refine x_iconst (n := 1) (b := 13) dX11_mealIsNext_12 (by decide) rfl ?_
    refine x_goto (tgt := 17) dX11_mealIsNext_13 (by decide) ?_
    refine x_zreturn dX11_mealIsNext_17 rfl ⟨Nat.le_refl _, Nat.le_refl _⟩ (by decide) ?_
    cases hF
    exact ⟨rfl, rfl, hL⟩
set_option maxHeartbeats 4000000 in
set_option maxRecDepth 100000 in
theorem u_X11_mealIsNext (E : xE) (d : Nat) (r : Int × Hp) : ∀ n : Nat, (∀ (h : Hp), Lay h → g_X11_mealIsNext n 0 [] h = some r → X E mX11_mealIsNext (d + 1) (0, 0) (0, 0) 0 [some (xr 11 0)] [] h (PoI r)) := by
  intro n
  induction n with
  | zero => exact fun _ _ hF => no_e (r := r) hF
  | succ n ih => exact fun h hL hF => t_X11_mealIsNext_0 E d (g_X11_mealIsNext n) r   h hL hF
theorem c_X11_mealIsNext (d : Nat) (h : Hp) (r : Int × Hp) (hL : Lay h) (hF : f_X11_mealIsNext  h = some r) : Sp mX11_mealIsNext (d + 1) (0, 0) [xr 11 0] h (PoI r) :=
  sp_of (by decide) rfl (Nat.le_of_ble_eq_true rfl) (ls := [some (xr 11 0)]) rfl (fun E _ => (u_X11_mealIsNext E d r FU)  h hL hF)
theorem dX11_part_0 : decode cX11_part 0 = .ok (.iload_n 0, 1) := by decide +kernel
theorem dX11_part_1 : decode cX11_part 1 = .ok (.istore_n 3, 1) := by decide +kernel
theorem dX11_part_2 : decode cX11_part 2 = .ok (.iload_n 1, 1) := by decide +kernel
theorem dX11_part_3 : decode cX11_part 3 = .ok (.istore 4, 2) := by decide +kernel
theorem dX11_part_5 : decode cX11_part 5 = .ok (.iconst 0, 1) := by decide +kernel
theorem dX11_part_6 : decode cX11_part 6 = .ok (.istore 5, 2) := by decide +kernel
theorem dX11_part_8 : decode cX11_part 8 = .ok (.iload 5, 2) := by decide +kernel
theorem dX11_part_10 : decode cX11_part 10 = .ok (.bipush 64, 2) := by decide +kernel
theorem dX11_part_12 : decode cX11_part 12 = .ok (.if_icmp .ge 27, 3) := by decide +kernel
theorem dX11_part_15 : decode cX11_part 15 = .ok (.iload 4, 2) := by decide +kernel
theorem dX11_part_17 : decode cX11_part 17 = .ok (.ifCond .eq 22, 3) := by decide +kernel
theorem dX11_part_20 : decode cX11_part 20 = .ok (.iload_n 3, 1) := by decide +kernel
theorem dX11_part_21 : decode cX11_part 21 = .ok (.iload 4, 2) := by decide +kernel
theorem dX11_part_23 : decode cX11_part 23 = .ok (.irem, 1) := by decide +kernel
theorem dX11_part_24 : decode cX11_part 24 = .ok (.istore 6, 2) := by decide +kernel
theorem dX11_part_26 : decode cX11_part 26 = .ok (.iload 4, 2) := by decide +kernel
theorem dX11_part_28 : decode cX11_part 28 = .ok (.istore_n 3, 1) := by decide +kernel
theorem dX11_part_29 : decode cX11_part 29 = .ok (.iload 6, 2) := by decide +kernel
theorem dX11_part_31 : decode cX11_part 31 = .ok (.istore 4, 2) := by decide +kernel
theorem dX11_part_33 : decode cX11_part 33 = .ok (.iinc 5 1, 3) := by decide +kernel
theorem dX11_part_36 : decode cX11_part 36 = .ok (.goto (-28), 3) := by decide +kernel
theorem dX11_part_39 : decode cX11_part 39 = .ok (.iload_n 2, 1) := by decide +kernel
theorem dX11_part_40 : decode cX11_part 40 = .ok (.ifCond .ne 7, 3) := by decide +kernel
theorem dX11_part_43 : decode cX11_part 43 = .ok (.iload_n 0, 1) := by decide +kernel
theorem dX11_part_44 : decode cX11_part 44 = .ok (.goto 4, 3) := by decide +kernel
theorem dX11_part_47 : decode cX11_part 47 = .ok (.iload_n 1, 1) := by decide +kernel
theorem dX11_part_48 : decode cX11_part 48 = .ok (.istore 5, 2) := by decide +kernel
theorem dX11_part_50 : decode cX11_part 50 = .ok (.iload_n 3, 1) := by decide +kernel
theorem dX11_part_51 : decode cX11_part 51 = .ok (.ifCond .ne 8, 3) := by decide +kernel
theorem dX11_part_54 : decode cX11_part 54 = .ok (.iload 5, 2) := by decide +kernel
theorem dX11_part_56 : decode cX11_part 56 = .ok (.goto 7, 3) := by decide +kernel
theorem dX11_part_59 : decode cX11_part 59 = .ok (.iload 5, 2) := by decide +kernel
theorem dX11_part_61 : decode cX11_part 61 = .ok (.iload_n 3, 1) := by decide +kernel
theorem dX11_part_62 : decode cX11_part 62 = .ok (.idiv, 1) := by decide +kernel
theorem dX11_part_63 : decode cX11_part 63 = .ok (.ireturn, 1) := by decide +kernel
noncomputable def b_X11_part_0 (rec : Rk) (x0 x1 x2 : Int) (h : Hp) : Option (Int × Hp) :=
  rec 1 [x0, x1, x2, x0, x1, 0] h
noncomputable def b_X11_part_1 (rec : Rk) (x0 x1 x2 x3 x4 x5 : Int) (h : Hp) : Option (Int × Hp) :=
  if 64 ≤ x5 then (
    rec 2 [x0, x1, x2, x3] h
  ) else (
    if x4 = 0 then (
      rec 2 [x0, x1, x2, x3] h
    ) else (
      ck ((0 : Int) ≤ x3 ∧ (0 : Int) < x4) <|
      lt (x3 % x4) fun z1 =>
      ck (-2147483648 ≤ x5 + 1 ∧ x5 + 1 < 2147483648) <|
      rec 1 [x0, x1, x2, x4, z1, x5 + 1] h
    )
  )
noncomputable def b_X11_part_2 (rec : Rk) (x0 x1 x2 x3 : Int) (h : Hp) : Option (Int × Hp) :=
  if x2 = 0 then (
    rec 3 [x3, x0] h
  ) else (
    rec 3 [x3, x1] h
  )
noncomputable def b_X11_part_3 (rec : Rk) (x3 y0 : Int) (h : Hp) : Option (Int × Hp) :=
  if x3 = 0 then (
    some (y0, h)
  ) else (
    ck ((0 : Int) ≤ y0 ∧ (0 : Int) < x3) <|
    some (y0 / x3, h)
  )
noncomputable def g_X11_part (n : Nat) : Rk := Nat.rec (motive := fun _ => Rk) (fun _ _ _ => none) (fun _ rec k l h => if k = 0 then b_X11_part_0 rec (l.getD 0 0) (l.getD 1 0) (l.getD 2 0) h else if k = 1 then b_X11_part_1 rec (l.getD 0 0) (l.getD 1 0) (l.getD 2 0) (l.getD 3 0) (l.getD 4 0) (l.getD 5 0) h else if k = 2 then b_X11_part_2 rec (l.getD 0 0) (l.getD 1 0) (l.getD 2 0) (l.getD 3 0) h else if k = 3 then b_X11_part_3 rec (l.getD 0 0) (l.getD 1 0) h else none) n
noncomputable def f_X11_part (x0 x1 x2 : Int) (h : Hp) : Option (Int × Hp) := g_X11_part FU 0 [x0, x1, x2] h
set_option maxHeartbeats 4000000 in
set_option maxRecDepth 100000 in
theorem t_X11_part_0 (E : xE) (d : Nat) (rec : Rk) (r : Int × Hp) (hr_8 : ∀ (x0 x1 x2 x3 x4 x5 : Int) (h : Hp), Lay h → rec 1 [x0, x1, x2, x3, x4, x5] h = some r → X E mX11_part (d + 1) (0, 0) (0, 0) 8 [some (xi x0), some (xi x1), some (xi x2), some (xi x3), some (xi x4), some (xi x5), none] [] h (PoI r)) (x0 x1 x2 : Int) (h : Hp) (hL : Lay h) (hF : b_X11_part_0 rec x0 x1 x2 h = some r) : X E mX11_part (d + 1) (0, 0) (0, 0) 0 [some (xi x0), some (xi x1), some (xi x2), none, none, none, none] [] h (PoI r) := by
  unfold b_X11_part_0 at hF
  refine x_iload_n (i := 0) (b := 1) dX11_part_0 rfl rfl rfl ?_
  refine x_istore_n (i := 3) (b := 2) (ls2 := [some (xi x0), some (xi x1), some (xi x2), some (xi x0), none, none, none]) dX11_part_1 rfl (Nat.le_of_ble_eq_true rfl) rfl rfl ?_
  refine x_iload_n (i := 1) (b := 3) dX11_part_2 rfl rfl rfl ?_
  refine x_istore (i := 4) (b := 5) (ls2 := [some (xi x0), some (xi x1), some (xi x2), some (xi x0), some (xi x1), none, none]) dX11_part_3 (Nat.le_of_ble_eq_true rfl) rfl rfl ?_
  refine x_iconst (n := 0) (b := 6) dX11_part_5 (by decide) rfl ?_
  refine x_istore (i := 5) (b := 8) (ls2 := [some (xi x0), some (xi x1), some (xi x2), some (xi x0), some (xi x1), some (xi 0), none]) dX11_part_6 (Nat.le_of_ble_eq_true rfl) rfl rfl ?_
  exact x_dp (ls2 := [some (xi x0), some (xi x1), some (xi x2), some (xi x0), some (xi x1), some (xi 0), none]) ⟨rfl, rfl, rfl, rfl, rfl, rfl, trivial⟩ (hr_8 x0 x1 x2 x0 x1 0 h hL hF)
set_option maxHeartbeats 4000000 in
set_option maxRecDepth 100000 in
theorem t_X11_part_1 (E : xE) (d : Nat) (rec : Rk) (r : Int × Hp) (hr_8 : ∀ (x0 x1 x2 x3 x4 x5 : Int) (h : Hp), Lay h → rec 1 [x0, x1, x2, x3, x4, x5] h = some r → X E mX11_part (d + 1) (0, 0) (0, 0) 8 [some (xi x0), some (xi x1), some (xi x2), some (xi x3), some (xi x4), some (xi x5), none] [] h (PoI r)) (hr_39 : ∀ (x0 x1 x2 x3 : Int) (h : Hp), Lay h → rec 2 [x0, x1, x2, x3] h = some r → X E mX11_part (d + 1) (0, 0) (0, 0) 39 [some (xi x0), some (xi x1), some (xi x2), some (xi x3), none, none, none] [] h (PoI r)) (x0 x1 x2 x3 x4 x5 : Int) (h : Hp) (hL : Lay h) (hF : b_X11_part_1 rec x0 x1 x2 x3 x4 x5 h = some r) : X E mX11_part (d + 1) (0, 0) (0, 0) 8 [some (xi x0), some (xi x1), some (xi x2), some (xi x3), some (xi x4), some (xi x5), none] [] h (PoI r) := by
  unfold b_X11_part_1 at hF
  refine x_iload (i := 5) (b := 10) dX11_part_8 rfl rfl ?_
  refine x_bipush (n := 64) (b := 12) dX11_part_10 (by decide) rfl ?_
  refine x_icmp_ge (tgt := 39) (b := 15) dX11_part_12 (by decide) rfl (fun hc => ?_) (fun hc => ?_)
  · replace hF := br_T hc hF
    exact x_dp (ls2 := [some (xi x0), some (xi x1), some (xi x2), some (xi x3), none, none, none]) ⟨rfl, rfl, rfl, rfl, trivial⟩ (hr_39 x0 x1 x2 x3 h hL hF)
  · replace hF := br_F hc hF
    refine x_iload (i := 4) (b := 17) dX11_part_15 rfl rfl ?_
    refine x_if_eq (tgt := 39) (b := 20) dX11_part_17 (by decide) rfl (fun hc => ?_) (fun hc => ?_)
    · replace hF := br_T hc hF
      exact x_dp (ls2 := [some (xi x0), some (xi x1), some (xi x2), some (xi x3), none, none, none]) ⟨rfl, rfl, rfl, rfl, trivial⟩ (hr_39 x0 x1 x2 x3 h hL hF)
    · replace hF := br_F hc hF
      refine x_iload_n (i := 3) (b := 21) dX11_part_20 rfl rfl rfl ?_
      refine x_iload (i := 4) (b := 23) dX11_part_21 rfl rfl ?_
      obtain ⟨hs, hF⟩ := ck_e hF
      refine x_irem (b := 24) dX11_part_23 hs.1 hs.2 rfl ?_
      obtain ⟨z1, e_z1, hF⟩ := lt_e hF
      refine x_eq (y := z1) e_z1 ?_
      refine x_istore (i := 6) (b := 26) (ls2 := [some (xi x0), some (xi x1), some (xi x2), some (xi x3), some (xi x4), some (xi x5), some (xi z1)]) dX11_part_24 (Nat.le_of_ble_eq_true rfl) rfl rfl ?_
      refine x_iload (i := 4) (b := 28) dX11_part_26 rfl rfl ?_
      refine x_istore_n (i := 3) (b := 29) (ls2 := [some (xi x0), some (xi x1), some (xi x2), some (xi x4), some (xi x4), some (xi x5), some (xi z1)]) dX11_part_28 rfl (Nat.le_of_ble_eq_true rfl) rfl rfl ?_
      refine x_iload (i := 6) (b := 31) dX11_part_29 rfl rfl ?_
      refine x_istore (i := 4) (b := 33) (ls2 := [some (xi x0), some (xi x1), some (xi x2), some (xi x4), some (xi z1), some (xi x5), some (xi z1)]) dX11_part_31 (Nat.le_of_ble_eq_true rfl) rfl rfl ?_
      obtain ⟨hs, hF⟩ := ck_e hF
      refine x_iinc (i := 5) (b := 36) (ls2 := [some (xi x0), some (xi x1), some (xi x2), some (xi x4), some (xi z1), some (xi (x5 + 1)), some (xi z1)]) dX11_part_33 rfl (Nat.le_of_ble_eq_true rfl) hs rfl rfl ?_
      refine x_goto (tgt := 8) dX11_part_36 (by decide) ?_
      exact x_dp (ls2 := [some (xi x0), some (xi x1), some (xi x2), some (xi x4), some (xi z1), some (xi (x5 + 1)), none]) ⟨rfl, rfl, rfl, rfl, rfl, rfl, trivial⟩ (hr_8 x0 x1 x2 x4 z1 (x5 + 1) h hL hF)
set_option maxHeartbeats 4000000 in
set_option maxRecDepth 100000 in
theorem t_X11_part_2 (E : xE) (d : Nat) (rec : Rk) (r : Int × Hp) (hr_48 : ∀ (x3 y0 : Int) (h : Hp), Lay h → rec 3 [x3, y0] h = some r → X E mX11_part (d + 1) (0, 0) (0, 0) 48 [none, none, none, some (xi x3), none, none, none] [xi y0] h (PoI r)) (x0 x1 x2 x3 : Int) (h : Hp) (hL : Lay h) (hF : b_X11_part_2 rec x0 x1 x2 x3 h = some r) : X E mX11_part (d + 1) (0, 0) (0, 0) 39 [some (xi x0), some (xi x1), some (xi x2), some (xi x3), none, none, none] [] h (PoI r) := by
  unfold b_X11_part_2 at hF
  refine x_iload_n (i := 2) (b := 40) dX11_part_39 rfl rfl rfl ?_
  refine x_if_ne (tgt := 47) (b := 43) dX11_part_40 (by decide) rfl (fun hc => ?_) (fun hc => ?_)
  · replace hF := br_F hc hF
    refine x_iload_n (i := 1) (b := 48) dX11_part_47 rfl rfl rfl ?_
    exact x_dp (ls2 := [none, none, none, some (xi x3), none, none, none]) ⟨rfl, trivial⟩ (hr_48 x3 x1 h hL hF)
  · replace hF := br_T hc hF
    refine x_iload_n (i := 0) (b := 44) dX11_part_43 rfl rfl rfl ?_
    refine x_goto (tgt := 48) dX11_part_44 (by decide) ?_
    exact x_dp (ls2 := [none, none, none, some (xi x3), none, none, none]) ⟨rfl, trivial⟩ (hr_48 x3 x0 h hL hF)
set_option maxHeartbeats 4000000 in
set_option maxRecDepth 100000 in
theorem t_X11_part_3 (E : xE) (d : Nat) (rec : Rk) (r : Int × Hp) (x3 y0 : Int) (h : Hp) (hL : Lay h) (hF : b_X11_part_3 rec x3 y0 h = some r) : X E mX11_part (d + 1) (0, 0) (0, 0) 48 [none, none, none, some (xi x3), none, none, none] [xi y0] h (PoI r) := by
  unfold b_X11_part_3 at hF
  refine x_istore (i := 5) (b := 50) (ls2 := [none, none, none, some (xi x3), none, some (xi y0), none]) dX11_part_48 (Nat.le_of_ble_eq_true rfl) rfl rfl ?_
  refine x_iload_n (i := 3) (b := 51) dX11_part_50 rfl rfl rfl ?_
  refine x_if_ne (tgt := 59) (b := 54) dX11_part_51 (by decide) rfl (fun hc => ?_) (fun hc => ?_)
  · replace hF := br_F hc hF
    refine x_iload (i := 5) (b := 61) dX11_part_59 rfl rfl ?_
    refine x_iload_n (i := 3) (b := 62) dX11_part_61 rfl rfl rfl ?_
    obtain ⟨hs, hF⟩ := ck_e hF
    refine x_idiv (b := 63) dX11_part_62 hs.1 hs.2 rfl ?_
    refine x_ireturn dX11_part_63 rfl ⟨Nat.le_refl _, Nat.le_refl _⟩ ?_
    cases hF
    exact ⟨rfl, rfl, hL⟩
  · replace hF := br_T hc hF
    refine x_iload (i := 5) (b := 56) dX11_part_54 rfl rfl ?_
    refine x_goto (tgt := 63) dX11_part_56 (by decide) ?_
    refine x_ireturn dX11_part_63 rfl ⟨Nat.le_refl _, Nat.le_refl _⟩ ?_
    cases hF
    exact ⟨rfl, rfl, hL⟩
set_option maxHeartbeats 4000000 in
set_option maxRecDepth 100000 in
theorem u_X11_part (E : xE) (d : Nat) (r : Int × Hp) : ∀ n : Nat, (∀ (x0 x1 x2 : Int) (h : Hp), Lay h → g_X11_part n 0 [x0, x1, x2] h = some r → X E mX11_part (d + 1) (0, 0) (0, 0) 0 [some (xi x0), some (xi x1), some (xi x2), none, none, none, none] [] h (PoI r)) ∧ (∀ (x0 x1 x2 x3 x4 x5 : Int) (h : Hp), Lay h → g_X11_part n 1 [x0, x1, x2, x3, x4, x5] h = some r → X E mX11_part (d + 1) (0, 0) (0, 0) 8 [some (xi x0), some (xi x1), some (xi x2), some (xi x3), some (xi x4), some (xi x5), none] [] h (PoI r)) ∧ (∀ (x0 x1 x2 x3 : Int) (h : Hp), Lay h → g_X11_part n 2 [x0, x1, x2, x3] h = some r → X E mX11_part (d + 1) (0, 0) (0, 0) 39 [some (xi x0), some (xi x1), some (xi x2), some (xi x3), none, none, none] [] h (PoI r)) ∧ (∀ (x3 y0 : Int) (h : Hp), Lay h → g_X11_part n 3 [x3, y0] h = some r → X E mX11_part (d + 1) (0, 0) (0, 0) 48 [none, none, none, some (xi x3), none, none, none] [xi y0] h (PoI r)) := by
  intro n
  induction n with
  | zero => exact ⟨fun _ _ _ _ _ hF => no_e (r := r) hF, fun _ _ _ _ _ _ _ _ hF => no_e (r := r) hF, fun _ _ _ _ _ _ hF => no_e (r := r) hF, fun _ _ _ _ hF => no_e (r := r) hF⟩
  | succ n ih => exact ⟨fun x0 x1 x2 h hL hF => t_X11_part_0 E d (g_X11_part n) r ih.2.1 x0 x1 x2 h hL hF, fun x0 x1 x2 x3 x4 x5 h hL hF => t_X11_part_1 E d (g_X11_part n) r ih.2.1 ih.2.2.1 x0 x1 x2 x3 x4 x5 h hL hF, fun x0 x1 x2 x3 h hL hF => t_X11_part_2 E d (g_X11_part n) r ih.2.2.2 x0 x1 x2 x3 h hL hF, fun x3 y0 h hL hF => t_X11_part_3 E d (g_X11_part n) r  x3 y0 h hL hF⟩
theorem c_X11_part (d : Nat) (x0 x1 x2 : Int) (h : Hp) (r : Int × Hp) (hL : Lay h) (hF : f_X11_part x0 x1 x2 h = some r) : Sp mX11_part (d + 1) (0, 0) [xi x0, xi x1, xi x2] h (PoI r) :=
  sp_of (by decide) rfl (Nat.le_of_ble_eq_true rfl) (ls := [some (xi x0), some (xi x1), some (xi x2), none, none, none, none]) rfl (fun E _ => (u_X11_part E d r FU).1 x0 x1 x2 h hL hF)
theorem dX11_ship_0 : decode cX11_ship 0 = .ok (.iload_n 1, 1) := by decide +kernel
theorem dX11_ship_1 : decode cX11_ship 1 = .ok (.tableswitch 66 0 3 #[31, 39, 50, 58], 31) := by decide +kernel
theorem dX11_ship_32 : decode cX11_ship 32 = .ok (.aload_n 0, 1) := by decide +kernel
theorem dX11_ship_33 : decode cX11_ship 33 = .ok (.getfield 57, 3) := by decide +kernel
theorem dX11_ship_36 : decode cX11_ship 36 = .ok (.getfield 173, 3) := by decide +kernel
theorem dX11_ship_39 : decode cX11_ship 39 = .ok (.ireturn, 1) := by decide +kernel
theorem dX11_ship_40 : decode cX11_ship 40 = .ok (.aload_n 0, 1) := by decide +kernel
theorem dX11_ship_41 : decode cX11_ship 41 = .ok (.getfield 20, 3) := by decide +kernel
theorem dX11_ship_44 : decode cX11_ship 44 = .ok (.getfield 122, 3) := by decide +kernel
theorem dX11_ship_47 : decode cX11_ship 47 = .ok (.getfield 176, 3) := by decide +kernel
theorem dX11_ship_50 : decode cX11_ship 50 = .ok (.ireturn, 1) := by decide +kernel
theorem dX11_ship_51 : decode cX11_ship 51 = .ok (.aload_n 0, 1) := by decide +kernel
theorem dX11_ship_52 : decode cX11_ship 52 = .ok (.getfield 57, 3) := by decide +kernel
theorem dX11_ship_55 : decode cX11_ship 55 = .ok (.getfield 179, 3) := by decide +kernel
theorem dX11_ship_58 : decode cX11_ship 58 = .ok (.ireturn, 1) := by decide +kernel
theorem dX11_ship_59 : decode cX11_ship 59 = .ok (.aload_n 0, 1) := by decide +kernel
theorem dX11_ship_60 : decode cX11_ship 60 = .ok (.getfield 57, 3) := by decide +kernel
theorem dX11_ship_63 : decode cX11_ship 63 = .ok (.getfield 182, 3) := by decide +kernel
theorem dX11_ship_66 : decode cX11_ship 66 = .ok (.ireturn, 1) := by decide +kernel
theorem dX11_ship_67 : decode cX11_ship 67 = .ok (.iconst (-1), 1) := by decide +kernel
theorem dX11_ship_68 : decode cX11_ship 68 = .ok (.ireturn, 1) := by decide +kernel
noncomputable def b_X11_ship_0 (rec : Rk) (x1 : Int) (h : Hp) : Option (Int × Hp) :=
  if x1 = 0 then (
    some (gI h 10 0 1, h)
  ) else (
  if x1 = 1 then (
    rf (gR h 11 0 2) 0 fun j1 =>
    some (gI h 9 j1 5, h)
  ) else (
  if x1 = 2 then (
    some (gI h 10 0 2, h)
  ) else (
  if x1 = 3 then (
    some (gI h 10 0 7, h)
  ) else (
  some ((-1), h)
  )
  )
  )
  )
noncomputable def g_X11_ship (n : Nat) : Rk := Nat.rec (motive := fun _ => Rk) (fun _ _ _ => none) (fun _ rec k l h => if k = 0 then b_X11_ship_0 rec (l.getD 0 0) h else none) n
noncomputable def f_X11_ship (x1 : Int) (h : Hp) : Option (Int × Hp) := g_X11_ship FU 0 [x1] h
set_option maxHeartbeats 4000000 in
set_option maxRecDepth 100000 in
theorem t_X11_ship_0 (E : xE) (d : Nat) (rec : Rk) (r : Int × Hp) (x1 : Int) (h : Hp) (hL : Lay h) (hF : b_X11_ship_0 rec x1 h = some r) : X E mX11_ship (d + 1) (0, 0) (0, 0) 0 [some (xr 11 0), some (xi x1)] [] h (PoI r) := by
  unfold b_X11_ship_0 at hF
  refine x_iload_n (i := 1) (b := 1) dX11_ship_0 rfl rfl rfl ?_
  by_cases hw1_0 : x1 = 0
  · replace hF := br_T hw1_0 hF
    refine x_tableIn (tgt := 32) dX11_ship_1 0 hw1_0 ⟨by decide, by decide⟩ rfl (by decide) ?_
    refine x_aload_n (i := 0) (b := 33) dX11_ship_32 rfl rfl rfl ?_
    refine x_getL (j := 0) (t := (10, 0, false)) (b := 36) fk_X11_57 dX11_ship_33 rfl hL rfl rfl rfl ?_
    refine x_getI (v := gI h 10 0 1) (b := 39) fk_X11_173 dX11_ship_36 (by decide) rfl rfl ?_
    refine x_ireturn dX11_ship_39 rfl ⟨Nat.le_refl _, Nat.le_refl _⟩ ?_
    cases hF
    exact ⟨rfl, rfl, hL⟩
  replace hF := br_F hw1_0 hF
  by_cases hw1_1 : x1 = 1
  · replace hF := br_T hw1_1 hF
    refine x_tableIn (tgt := 40) dX11_ship_1 1 hw1_1 ⟨by decide, by decide⟩ rfl (by decide) ?_
    refine x_aload_n (i := 0) (b := 41) dX11_ship_40 rfl rfl rfl ?_
    obtain ⟨j1, e_j1, hF⟩ := rf_e hF
    refine x_getR (v := some (0, j1)) (b := 44) fk_X11_20 dX11_ship_41 rfl e_j1 rfl ?_
    refine x_getL (j := j1) (t := (9, 0, true)) (b := 47) fk_X11_122 dX11_ship_44 rfl hL rfl rfl rfl ?_
    refine x_getI (v := gI h 9 j1 5) (b := 50) fk_X11_176 dX11_ship_47 (by decide) rfl rfl ?_
    refine x_ireturn dX11_ship_50 rfl ⟨Nat.le_refl _, Nat.le_refl _⟩ ?_
    cases hF
    exact ⟨rfl, rfl, hL⟩
  replace hF := br_F hw1_1 hF
  by_cases hw1_2 : x1 = 2
  · replace hF := br_T hw1_2 hF
    refine x_tableIn (tgt := 51) dX11_ship_1 2 hw1_2 ⟨by decide, by decide⟩ rfl (by decide) ?_
    refine x_aload_n (i := 0) (b := 52) dX11_ship_51 rfl rfl rfl ?_
    refine x_getL (j := 0) (t := (10, 0, false)) (b := 55) fk_X11_57 dX11_ship_52 rfl hL rfl rfl rfl ?_
    refine x_getI (v := gI h 10 0 2) (b := 58) fk_X11_179 dX11_ship_55 (by decide) rfl rfl ?_
    refine x_ireturn dX11_ship_58 rfl ⟨Nat.le_refl _, Nat.le_refl _⟩ ?_
    cases hF
    exact ⟨rfl, rfl, hL⟩
  replace hF := br_F hw1_2 hF
  by_cases hw1_3 : x1 = 3
  · replace hF := br_T hw1_3 hF
    refine x_tableIn (tgt := 59) dX11_ship_1 3 hw1_3 ⟨by decide, by decide⟩ rfl (by decide) ?_
    refine x_aload_n (i := 0) (b := 60) dX11_ship_59 rfl rfl rfl ?_
    refine x_getL (j := 0) (t := (10, 0, false)) (b := 63) fk_X11_57 dX11_ship_60 rfl hL rfl rfl rfl ?_
    refine x_getI (v := gI h 10 0 7) (b := 66) fk_X11_182 dX11_ship_63 (by decide) rfl rfl ?_
    refine x_ireturn dX11_ship_66 rfl ⟨Nat.le_refl _, Nat.le_refl _⟩ ?_
    cases hF
    exact ⟨rfl, rfl, hL⟩
  replace hF := br_F hw1_3 hF
  refine x_tableOut (tgt := 67) dX11_ship_1 (by omega) (by decide) ?_
  refine x_iconst (n := (-1)) (b := 68) dX11_ship_67 (by decide) rfl ?_
  refine x_ireturn dX11_ship_68 rfl ⟨Nat.le_refl _, Nat.le_refl _⟩ ?_
  cases hF
  exact ⟨rfl, rfl, hL⟩
set_option maxHeartbeats 4000000 in
set_option maxRecDepth 100000 in
theorem u_X11_ship (E : xE) (d : Nat) (r : Int × Hp) : ∀ n : Nat, (∀ (x1 : Int) (h : Hp), Lay h → g_X11_ship n 0 [x1] h = some r → X E mX11_ship (d + 1) (0, 0) (0, 0) 0 [some (xr 11 0), some (xi x1)] [] h (PoI r)) := by
  intro n
  induction n with
  | zero => exact fun _ _ _ hF => no_e (r := r) hF
  | succ n ih => exact fun x1 h hL hF => t_X11_ship_0 E d (g_X11_ship n) r  x1 h hL hF
theorem c_X11_ship (d : Nat) (x1 : Int) (h : Hp) (r : Int × Hp) (hL : Lay h) (hF : f_X11_ship x1 h = some r) : Sp mX11_ship (d + 1) (0, 0) [xr 11 0, xi x1] h (PoI r) :=
  sp_of (by decide) rfl (Nat.le_of_ble_eq_true rfl) (ls := [some (xr 11 0), some (xi x1)]) rfl (fun E _ => (u_X11_ship E d r FU) x1 h hL hF)
theorem dX11_tapeNumber_0 : decode cX11_tapeNumber 0 = .ok (.bipush 24, 2) := by decide +kernel
theorem dX11_tapeNumber_2 : decode cX11_tapeNumber 2 = .ok (.istore_n 2, 1) := by decide +kernel
theorem dX11_tapeNumber_3 : decode cX11_tapeNumber 3 = .ok (.iload_n 2, 1) := by decide +kernel
theorem dX11_tapeNumber_4 : decode cX11_tapeNumber 4 = .ok (.ifCond .lt 42, 3) := by decide +kernel
theorem dX11_tapeNumber_7 : decode cX11_tapeNumber 7 = .ok (.aload_n 0, 1) := by decide +kernel
theorem dX11_tapeNumber_8 : decode cX11_tapeNumber 8 = .ok (.getfield 13, 3) := by decide +kernel
theorem dX11_tapeNumber_11 : decode cX11_tapeNumber 11 = .ok (.sipush 800, 3) := by decide +kernel
theorem dX11_tapeNumber_14 : decode cX11_tapeNumber 14 = .ok (.if_icmp .ge 32, 3) := by decide +kernel
theorem dX11_tapeNumber_17 : decode cX11_tapeNumber 17 = .ok (.aload_n 0, 1) := by decide +kernel
theorem dX11_tapeNumber_18 : decode cX11_tapeNumber 18 = .ok (.getfield 9, 3) := by decide +kernel
theorem dX11_tapeNumber_21 : decode cX11_tapeNumber 21 = .ok (.aload_n 0, 1) := by decide +kernel
theorem dX11_tapeNumber_22 : decode cX11_tapeNumber 22 = .ok (.getfield 13, 3) := by decide +kernel
theorem dX11_tapeNumber_25 : decode cX11_tapeNumber 25 = .ok (.iload_n 1, 1) := by decide +kernel
theorem dX11_tapeNumber_26 : decode cX11_tapeNumber 26 = .ok (.iload_n 2, 1) := by decide +kernel
theorem dX11_tapeNumber_27 : decode cX11_tapeNumber 27 = .ok (.ishr, 1) := by decide +kernel
theorem dX11_tapeNumber_28 : decode cX11_tapeNumber 28 = .ok (.i2b, 1) := by decide +kernel
theorem dX11_tapeNumber_29 : decode cX11_tapeNumber 29 = .ok (.bastore, 1) := by decide +kernel
theorem dX11_tapeNumber_30 : decode cX11_tapeNumber 30 = .ok (.aload_n 0, 1) := by decide +kernel
theorem dX11_tapeNumber_31 : decode cX11_tapeNumber 31 = .ok (.dup, 1) := by decide +kernel
theorem dX11_tapeNumber_32 : decode cX11_tapeNumber 32 = .ok (.getfield 13, 3) := by decide +kernel
theorem dX11_tapeNumber_35 : decode cX11_tapeNumber 35 = .ok (.iconst 1, 1) := by decide +kernel
theorem dX11_tapeNumber_36 : decode cX11_tapeNumber 36 = .ok (.iadd, 1) := by decide +kernel
theorem dX11_tapeNumber_37 : decode cX11_tapeNumber 37 = .ok (.putfield 13, 3) := by decide +kernel
theorem dX11_tapeNumber_40 : decode cX11_tapeNumber 40 = .ok (.iinc 2 (-8), 3) := by decide +kernel
theorem dX11_tapeNumber_43 : decode cX11_tapeNumber 43 = .ok (.goto (-40), 3) := by decide +kernel
theorem dX11_tapeNumber_46 : decode cX11_tapeNumber 46 = .ok (.return_, 1) := by decide +kernel
noncomputable def b_X11_tapeNumber_0 (rec : Rk) (x1 : Int) (h : Hp) : Option (Int × Hp) :=
  rec 1 [x1, 24] h
noncomputable def b_X11_tapeNumber_1 (rec : Rk) (x1 x2 : Int) (h : Hp) : Option (Int × Hp) :=
  if x2 < 0 then (
    some (0, h)
  ) else (
    if 800 ≤ (gI h 11 0 1) then (
      some (0, h)
    ) else (
      ck (0 ≤ (gI h 11 0 1) ∧ (gI h 11 0 1) < 800) <|
      ck (-128 ≤ (tobyte (bshr x1 x2)) ∧ (tobyte (bshr x1 x2)) < 128) <|
      lt (sI h 58 0 (gI h 11 0 1) (tobyte (bshr x1 x2))) fun h1 =>
      ck (-2147483648 ≤ (gI h1 11 0 1) + 1 ∧ (gI h1 11 0 1) + 1 < 2147483648) <|
      lt (sI h1 11 0 1 ((gI h1 11 0 1) + 1)) fun h2 =>
      ck (-2147483648 ≤ x2 + (-8) ∧ x2 + (-8) < 2147483648) <|
      rec 1 [x1, x2 + (-8)] h2
    )
  )
noncomputable def g_X11_tapeNumber (n : Nat) : Rk := Nat.rec (motive := fun _ => Rk) (fun _ _ _ => none) (fun _ rec k l h => if k = 0 then b_X11_tapeNumber_0 rec (l.getD 0 0) h else if k = 1 then b_X11_tapeNumber_1 rec (l.getD 0 0) (l.getD 1 0) h else none) n
noncomputable def f_X11_tapeNumber (x1 : Int) (h : Hp) : Option (Int × Hp) := g_X11_tapeNumber FU 0 [x1] h
set_option maxHeartbeats 4000000 in
set_option maxRecDepth 100000 in
theorem t_X11_tapeNumber_0 (E : xE) (d : Nat) (rec : Rk) (r : Int × Hp) (hr_3 : ∀ (x1 x2 : Int) (h : Hp), Lay h → rec 1 [x1, x2] h = some r → X E mX11_tapeNumber (d + 1) (0, 0) (0, 0) 3 [some (xr 11 0), some (xi x1), some (xi x2)] [] h (PoV r)) (x1 : Int) (h : Hp) (hL : Lay h) (hF : b_X11_tapeNumber_0 rec x1 h = some r) : X E mX11_tapeNumber (d + 1) (0, 0) (0, 0) 0 [some (xr 11 0), some (xi x1), none] [] h (PoV r) := by
  unfold b_X11_tapeNumber_0 at hF
  refine x_bipush (n := 24) (b := 2) dX11_tapeNumber_0 (by decide) rfl ?_
  refine x_istore_n (i := 2) (b := 3) (ls2 := [some (xr 11 0), some (xi x1), some (xi 24)]) dX11_tapeNumber_2 rfl (Nat.le_of_ble_eq_true rfl) rfl rfl ?_
  exact x_dp (ls2 := [some (xr 11 0), some (xi x1), some (xi 24)]) ⟨rfl, rfl, rfl, trivial⟩ (hr_3 x1 24 h hL hF)
set_option maxHeartbeats 4000000 in
set_option maxRecDepth 100000 in
theorem t_X11_tapeNumber_1 (E : xE) (d : Nat) (rec : Rk) (r : Int × Hp) (hr_3 : ∀ (x1 x2 : Int) (h : Hp), Lay h → rec 1 [x1, x2] h = some r → X E mX11_tapeNumber (d + 1) (0, 0) (0, 0) 3 [some (xr 11 0), some (xi x1), some (xi x2)] [] h (PoV r)) (x1 x2 : Int) (h : Hp) (hL : Lay h) (hF : b_X11_tapeNumber_1 rec x1 x2 h = some r) : X E mX11_tapeNumber (d + 1) (0, 0) (0, 0) 3 [some (xr 11 0), some (xi x1), some (xi x2)] [] h (PoV r) := by
  unfold b_X11_tapeNumber_1 at hF
  refine x_iload_n (i := 2) (b := 4) dX11_tapeNumber_3 rfl rfl rfl ?_
  refine x_if_lt (tgt := 46) (b := 7) dX11_tapeNumber_4 (by decide) rfl (fun hc => ?_) (fun hc => ?_)
  · replace hF := br_T hc hF
    refine x_return dX11_tapeNumber_46 rfl ⟨Nat.le_refl _, Nat.le_refl _⟩ ?_
    cases hF
    exact ⟨rfl, rfl, hL⟩
  · replace hF := br_F hc hF
    refine x_aload_n (i := 0) (b := 8) dX11_tapeNumber_7 rfl rfl rfl ?_
    refine x_getI (v := gI h 11 0 1) (b := 11) fk_X11_13 dX11_tapeNumber_8 (by decide) rfl rfl ?_
    refine x_sipush (n := 800) (b := 14) dX11_tapeNumber_11 (by decide) rfl ?_
    refine x_icmp_ge (tgt := 46) (b := 17) dX11_tapeNumber_14 (by decide) rfl (fun hc => ?_) (fun hc => ?_)
    · replace hF := br_T hc hF
      refine x_return dX11_tapeNumber_46 rfl ⟨Nat.le_refl _, Nat.le_refl _⟩ ?_
      cases hF
      exact ⟨rfl, rfl, hL⟩
    · replace hF := br_F hc hF
      refine x_aload_n (i := 0) (b := 18) dX11_tapeNumber_17 rfl rfl rfl ?_
      refine x_getL (j := 0) (t := (58, 0, true)) (b := 21) fk_X11_9 dX11_tapeNumber_18 rfl hL rfl rfl rfl ?_
      refine x_aload_n (i := 0) (b := 22) dX11_tapeNumber_21 rfl rfl rfl ?_
      refine x_getI (v := gI h 11 0 1) (b := 25) fk_X11_13 dX11_tapeNumber_22 (by decide) rfl rfl ?_
      refine x_iload_n (i := 1) (b := 26) dX11_tapeNumber_25 rfl rfl rfl ?_
      refine x_iload_n (i := 2) (b := 27) dX11_tapeNumber_26 rfl rfl rfl ?_
      refine x_ishr (b := 28) dX11_tapeNumber_27 rfl ?_
      refine x_i2b (b := 29) dX11_tapeNumber_28 rfl ?_
      obtain ⟨hs, hF⟩ := ck_e hF
      have hs1 := hs
      obtain ⟨hs, hF⟩ := ck_e hF
      refine x_bast (b := 30) ak_58 dX11_tapeNumber_29 hs1 hs rfl ?_
      obtain ⟨h1, e_h1, hF⟩ := lt_e hF
      refine x_hp (h2 := h1) e_h1 ?_
      replace hL : Lay h1 := by rw [← e_h1]; exact hL
      refine x_aload_n (i := 0) (b := 31) dX11_tapeNumber_30 rfl rfl rfl ?_
      refine x_dup (b := 32) dX11_tapeNumber_31 rfl rfl ?_
      refine x_getI (v := gI h1 11 0 1) (b := 35) fk_X11_13 dX11_tapeNumber_32 (by decide) rfl rfl ?_
      refine x_iconst (n := 1) (b := 36) dX11_tapeNumber_35 (by decide) rfl ?_
      obtain ⟨hs, hF⟩ := ck_e hF
      refine x_iadd (b := 37) dX11_tapeNumber_36 hs rfl ?_
      refine x_putI (b := 40) fk_X11_13 dX11_tapeNumber_37 rfl rfl 1 rfl ?_
      obtain ⟨h2, e_h2, hF⟩ := lt_e hF
      refine x_hp (h2 := h2) e_h2 ?_
      replace hL : Lay h2 := by rw [← e_h2]; exact hL
      obtain ⟨hs, hF⟩ := ck_e hF
      refine x_iinc (i := 2) (b := 43) (ls2 := [some (xr 11 0), some (xi x1), some (xi (x2 + (-8)))]) dX11_tapeNumber_40 rfl (Nat.le_of_ble_eq_true rfl) hs rfl rfl ?_
      refine x_goto (tgt := 3) dX11_tapeNumber_43 (by decide) ?_
      exact x_dp (ls2 := [some (xr 11 0), some (xi x1), some (xi (x2 + (-8)))]) ⟨rfl, rfl, rfl, trivial⟩ (hr_3 x1 (x2 + (-8)) h2 hL hF)
set_option maxHeartbeats 4000000 in
set_option maxRecDepth 100000 in
theorem u_X11_tapeNumber (E : xE) (d : Nat) (r : Int × Hp) : ∀ n : Nat, (∀ (x1 : Int) (h : Hp), Lay h → g_X11_tapeNumber n 0 [x1] h = some r → X E mX11_tapeNumber (d + 1) (0, 0) (0, 0) 0 [some (xr 11 0), some (xi x1), none] [] h (PoV r)) ∧ (∀ (x1 x2 : Int) (h : Hp), Lay h → g_X11_tapeNumber n 1 [x1, x2] h = some r → X E mX11_tapeNumber (d + 1) (0, 0) (0, 0) 3 [some (xr 11 0), some (xi x1), some (xi x2)] [] h (PoV r)) := by
  intro n
  induction n with
  | zero => exact ⟨fun _ _ _ hF => no_e (r := r) hF, fun _ _ _ _ hF => no_e (r := r) hF⟩
  | succ n ih => exact ⟨fun x1 h hL hF => t_X11_tapeNumber_0 E d (g_X11_tapeNumber n) r ih.2 x1 h hL hF, fun x1 x2 h hL hF => t_X11_tapeNumber_1 E d (g_X11_tapeNumber n) r ih.2 x1 x2 h hL hF⟩
theorem c_X11_tapeNumber (d : Nat) (x1 : Int) (h : Hp) (r : Int × Hp) (hL : Lay h) (hF : f_X11_tapeNumber x1 h = some r) : Sp mX11_tapeNumber (d + 1) (0, 0) [xr 11 0, xi x1] h (PoV r) :=
  sp_of (by decide) rfl (Nat.le_of_ble_eq_true rfl) (ls := [some (xr 11 0), some (xi x1), none]) rfl (fun E _ => (u_X11_tapeNumber E d r FU).1 x1 h hL hF)
theorem dX11_truth_0 : decode cX11_truth 0 = .ok (.iload_n 1, 1) := by decide +kernel
theorem dX11_truth_1 : decode cX11_truth 1 = .ok (.ifCond .lt 16, 3) := by decide +kernel
theorem dX11_truth_4 : decode cX11_truth 4 = .ok (.iload_n 1, 1) := by decide +kernel
theorem dX11_truth_5 : decode cX11_truth 5 = .ok (.iconst 1, 1) := by decide +kernel
theorem dX11_truth_6 : decode cX11_truth 6 = .ok (.aload_n 0, 1) := by decide +kernel
theorem dX11_truth_7 : decode cX11_truth 7 = .ok (.getfield 20, 3) := by decide +kernel
theorem dX11_truth_10 : decode cX11_truth 10 = .ok (.getfield 237, 3) := by decide +kernel
theorem dX11_truth_13 : decode cX11_truth 13 = .ok (.ishl, 1) := by decide +kernel
theorem dX11_truth_14 : decode cX11_truth 14 = .ok (.if_icmp .lt 5, 3) := by decide +kernel
theorem dX11_truth_17 : decode cX11_truth 17 = .ok (.iconst 0, 1) := by decide +kernel
theorem dX11_truth_18 : decode cX11_truth 18 = .ok (.ireturn, 1) := by decide +kernel
theorem dX11_truth_19 : decode cX11_truth 19 = .ok (.aload_n 0, 1) := by decide +kernel
theorem dX11_truth_20 : decode cX11_truth 20 = .ok (.getfield 57, 3) := by decide +kernel
theorem dX11_truth_23 : decode cX11_truth 23 = .ok (.iload_n 1, 1) := by decide +kernel
theorem dX11_truth_24 : decode cX11_truth 24 = .ok (.putfield 240, 3) := by decide +kernel
theorem dX11_truth_27 : decode cX11_truth 27 = .ok (.iconst 1, 1) := by decide +kernel
theorem dX11_truth_28 : decode cX11_truth 28 = .ok (.ireturn, 1) := by decide +kernel
noncomputable def b_X11_truth_0 (rec : Rk) (x1 : Int) (h : Hp) : Option (Int × Hp) :=
  if x1 < 0 then (
    some (0, h)
  ) else (
    rf (gR h 11 0 2) 0 fun j1 =>
    if x1 < (bshl 1 (gI h 0 j1 4)) then (
      lt (sI h 10 0 5 x1) fun h2 =>
      some (1, h2)
    ) else (
      some (0, h)
    )
  )
noncomputable def g_X11_truth (n : Nat) : Rk := Nat.rec (motive := fun _ => Rk) (fun _ _ _ => none) (fun _ rec k l h => if k = 0 then b_X11_truth_0 rec (l.getD 0 0) h else none) n
noncomputable def f_X11_truth (x1 : Int) (h : Hp) : Option (Int × Hp) := g_X11_truth FU 0 [x1] h
set_option maxHeartbeats 4000000 in
set_option maxRecDepth 100000 in
theorem t_X11_truth_0 (E : xE) (d : Nat) (rec : Rk) (r : Int × Hp) (x1 : Int) (h : Hp) (hL : Lay h) (hF : b_X11_truth_0 rec x1 h = some r) : X E mX11_truth (d + 1) (0, 0) (0, 0) 0 [some (xr 11 0), some (xi x1)] [] h (PoI r) := by
  unfold b_X11_truth_0 at hF
  refine x_iload_n (i := 1) (b := 1) dX11_truth_0 rfl rfl rfl ?_
  refine x_if_lt (tgt := 17) (b := 4) dX11_truth_1 (by decide) rfl (fun hc => ?_) (fun hc => ?_)
  · replace hF := br_T hc hF
    refine x_iconst (n := 0) (b := 18) dX11_truth_17 (by decide) rfl ?_
    refine x_zreturn dX11_truth_18 rfl ⟨Nat.le_refl _, Nat.le_refl _⟩ (by decide) ?_
    cases hF
    exact ⟨rfl, rfl, hL⟩
  · replace hF := br_F hc hF
    refine x_iload_n (i := 1) (b := 5) dX11_truth_4 rfl rfl rfl ?_
    refine x_iconst (n := 1) (b := 6) dX11_truth_5 (by decide) rfl ?_
    refine x_aload_n (i := 0) (b := 7) dX11_truth_6 rfl rfl rfl ?_
    obtain ⟨j1, e_j1, hF⟩ := rf_e hF
    refine x_getR (v := some (0, j1)) (b := 10) fk_X11_20 dX11_truth_7 rfl e_j1 rfl ?_
    refine x_getI (v := gI h 0 j1 4) (b := 13) fk_X11_237 dX11_truth_10 (by decide) rfl rfl ?_
    refine x_ishl (b := 14) dX11_truth_13 rfl ?_
    refine x_icmp_lt (tgt := 19) (b := 17) dX11_truth_14 (by decide) rfl (fun hc => ?_) (fun hc => ?_)
    · replace hF := br_T hc hF
      refine x_aload_n (i := 0) (b := 20) dX11_truth_19 rfl rfl rfl ?_
      refine x_getL (j := 0) (t := (10, 0, false)) (b := 23) fk_X11_57 dX11_truth_20 rfl hL rfl rfl rfl ?_
      refine x_iload_n (i := 1) (b := 24) dX11_truth_23 rfl rfl rfl ?_
      refine x_putI (b := 27) fk_X11_240 dX11_truth_24 rfl rfl 5 rfl ?_
      obtain ⟨h2, e_h2, hF⟩ := lt_e hF
      refine x_hp (h2 := h2) e_h2 ?_
      replace hL : Lay h2 := by rw [← e_h2]; exact hL
      refine x_iconst (n := 1) (b := 28) dX11_truth_27 (by decide) rfl ?_
      refine x_zreturn dX11_truth_28 rfl ⟨Nat.le_refl _, Nat.le_refl _⟩ (by decide) ?_
      cases hF
      exact ⟨rfl, rfl, hL⟩
    · replace hF := br_F hc hF
      refine x_iconst (n := 0) (b := 18) dX11_truth_17 (by decide) rfl ?_
      refine x_zreturn dX11_truth_18 rfl ⟨Nat.le_refl _, Nat.le_refl _⟩ (by decide) ?_
      cases hF
      exact ⟨rfl, rfl, hL⟩
set_option maxHeartbeats 4000000 in
set_option maxRecDepth 100000 in
theorem u_X11_truth (E : xE) (d : Nat) (r : Int × Hp) : ∀ n : Nat, (∀ (x1 : Int) (h : Hp), Lay h → g_X11_truth n 0 [x1] h = some r → X E mX11_truth (d + 1) (0, 0) (0, 0) 0 [some (xr 11 0), some (xi x1)] [] h (PoI r)) := by
  intro n
  induction n with
  | zero => exact fun _ _ _ hF => no_e (r := r) hF
  | succ n ih => exact fun x1 h hL hF => t_X11_truth_0 E d (g_X11_truth n) r  x1 h hL hF
theorem c_X11_truth (d : Nat) (x1 : Int) (h : Hp) (r : Int × Hp) (hL : Lay h) (hF : f_X11_truth x1 h = some r) : Sp mX11_truth (d + 1) (0, 0) [xr 11 0, xi x1] h (PoI r) :=
  sp_of (by decide) rfl (Nat.le_of_ble_eq_true rfl) (ls := [some (xr 11 0), some (xi x1)]) rfl (fun E _ => (u_X11_truth E d r FU) x1 h hL hF)
theorem dX11_undo_0 : decode cX11_undo 0 = .ok (.aload_n 0, 1) := by decide +kernel
theorem dX11_undo_1 : decode cX11_undo 1 = .ok (.getfield 57, 3) := by decide +kernel
theorem dX11_undo_4 : decode cX11_undo 4 = .ok (.getfield 195, 3) := by decide +kernel
theorem dX11_undo_7 : decode cX11_undo 7 = .ok (.iconst 1, 1) := by decide +kernel
theorem dX11_undo_8 : decode cX11_undo 8 = .ok (.isub, 1) := by decide +kernel
theorem dX11_undo_9 : decode cX11_undo 9 = .ok (.istore_n 1, 1) := by decide +kernel
theorem dX11_undo_10 : decode cX11_undo 10 = .ok (.aload_n 0, 1) := by decide +kernel
theorem dX11_undo_11 : decode cX11_undo 11 = .ok (.getfield 72, 3) := by decide +kernel
theorem dX11_undo_14 : decode cX11_undo 14 = .ok (.iconst 1, 1) := by decide +kernel
theorem dX11_undo_15 : decode cX11_undo 15 = .ok (.if_icmp .lt 7, 3) := by decide +kernel
theorem dX11_undo_18 : decode cX11_undo 18 = .ok (.iload_n 1, 1) := by decide +kernel
theorem dX11_undo_19 : decode cX11_undo 19 = .ok (.ifCond .ge 5, 3) := by decide +kernel
theorem dX11_undo_22 : decode cX11_undo 22 = .ok (.iconst (-1), 1) := by decide +kernel
theorem dX11_undo_23 : decode cX11_undo 23 = .ok (.ireturn, 1) := by decide +kernel
theorem dX11_undo_24 : decode cX11_undo 24 = .ok (.aload_n 0, 1) := by decide +kernel
theorem dX11_undo_25 : decode cX11_undo 25 = .ok (.getfield 57, 3) := by decide +kernel
theorem dX11_undo_28 : decode cX11_undo 28 = .ok (.aload_n 0, 1) := by decide +kernel
theorem dX11_undo_29 : decode cX11_undo 29 = .ok (.getfield 68, 3) := by decide +kernel
theorem dX11_undo_32 : decode cX11_undo 32 = .ok (.iload_n 1, 1) := by decide +kernel
theorem dX11_undo_33 : decode cX11_undo 33 = .ok (.bipush 20, 2) := by decide +kernel
theorem dX11_undo_35 : decode cX11_undo 35 = .ok (.irem, 1) := by decide +kernel
theorem dX11_undo_36 : decode cX11_undo 36 = .ok (.aaload, 1) := by decide +kernel
theorem dX11_undo_37 : decode cX11_undo 37 = .ok (.invokevirtual 246, 3) := by decide +kernel
theorem dX11_undo_40 : decode cX11_undo 40 = .ok (.aload_n 0, 1) := by decide +kernel
theorem dX11_undo_41 : decode cX11_undo 41 = .ok (.dup, 1) := by decide +kernel
theorem dX11_undo_42 : decode cX11_undo 42 = .ok (.getfield 72, 3) := by decide +kernel
theorem dX11_undo_45 : decode cX11_undo 45 = .ok (.iconst 1, 1) := by decide +kernel
theorem dX11_undo_46 : decode cX11_undo 46 = .ok (.isub, 1) := by decide +kernel
theorem dX11_undo_47 : decode cX11_undo 47 = .ok (.putfield 72, 3) := by decide +kernel
theorem dX11_undo_50 : decode cX11_undo 50 = .ok (.aload_n 0, 1) := by decide +kernel
theorem dX11_undo_51 : decode cX11_undo 51 = .ok (.iconst (-1), 1) := by decide +kernel
theorem dX11_undo_52 : decode cX11_undo 52 = .ok (.putfield 95, 3) := by decide +kernel
theorem dX11_undo_55 : decode cX11_undo 55 = .ok (.aload_n 0, 1) := by decide +kernel
theorem dX11_undo_56 : decode cX11_undo 56 = .ok (.getfield 72, 3) := by decide +kernel
theorem dX11_undo_59 : decode cX11_undo 59 = .ok (.ireturn, 1) := by decide +kernel
noncomputable def b_X11_undo_0 (rec : Rk) (h : Hp) : Option (Int × Hp) :=
  ck (-2147483648 ≤ (gI h 10 0 0) - 1 ∧ (gI h 10 0 0) - 1 < 2147483648) <|
  lt ((gI h 10 0 0) - 1) fun z1 =>
  if (gI h 11 0 10) < 1 then (
    some ((-1), h)
  ) else (
    if 0 ≤ z1 then (
      ck ((0 : Int) ≤ z1 ∧ (0 : Int) < 20) <|
      ck (0 ≤ (z1 % 20) ∧ (z1 % 20) < 20) <|
      rf (gR h 59 0 (z1 % 20)) 10 fun j2 =>
      bd (f_X10_copyFrom 0 j2 h) fun v3 h4 =>
      ck (-2147483648 ≤ (gI h4 11 0 10) - 1 ∧ (gI h4 11 0 10) - 1 < 2147483648) <|
      lt (sI h4 11 0 10 ((gI h4 11 0 10) - 1)) fun h5 =>
      lt (sI h5 11 0 16 (-1)) fun h6 =>
      some (gI h6 11 0 10, h6)
    ) else (
      some ((-1), h)
    )
  )
noncomputable def g_X11_undo (n : Nat) : Rk := Nat.rec (motive := fun _ => Rk) (fun _ _ _ => none) (fun _ rec k l h => if k = 0 then b_X11_undo_0 rec  h else none) n
noncomputable def f_X11_undo (h : Hp) : Option (Int × Hp) := g_X11_undo FU 0 [] h
set_option maxHeartbeats 4000000 in
set_option maxRecDepth 100000 in
theorem t_X11_undo_0 (E : xE) (d : Nat) (rec : Rk) (r : Int × Hp) (h : Hp) (hL : Lay h) (hF : b_X11_undo_0 rec  h = some r) : X E mX11_undo (d + 2) (0, 0) (0, 0) 0 [some (xr 11 0), none] [] h (PoI r) := by
  unfold b_X11_undo_0 at hF
  refine x_aload_n (i := 0) (b := 1) dX11_undo_0 rfl rfl rfl ?_
  refine x_getL (j := 0) (t := (10, 0, false)) (b := 4) fk_X11_57 dX11_undo_1 rfl hL rfl rfl rfl ?_
  refine x_getI (v := gI h 10 0 0) (b := 7) fk_X11_195 dX11_undo_4 (by decide) rfl rfl ?_
  refine x_iconst (n := 1) (b := 8) dX11_undo_7 (by decide) rfl ?_
  obtain ⟨hs, hF⟩ := ck_e hF
  refine x_isub (b := 9) dX11_undo_8 hs rfl ?_
  obtain ⟨z1, e_z1, hF⟩ := lt_e hF
  refine x_eq (y := z1) e_z1 ?_
  refine x_istore_n (i := 1) (b := 10) (ls2 := [some (xr 11 0), some (xi z1)]) dX11_undo_9 rfl (Nat.le_of_ble_eq_true rfl) rfl rfl ?_
  refine x_aload_n (i := 0) (b := 11) dX11_undo_10 rfl rfl rfl ?_
  refine x_getI (v := gI h 11 0 10) (b := 14) fk_X11_72 dX11_undo_11 (by decide) rfl rfl ?_
  refine x_iconst (n := 1) (b := 15) dX11_undo_14 (by decide) rfl ?_
  refine x_icmp_lt (tgt := 22) (b := 18) dX11_undo_15 (by decide) rfl (fun hc => ?_) (fun hc => ?_)
  · replace hF := br_T hc hF
    refine x_iconst (n := (-1)) (b := 23) dX11_undo_22 (by decide) rfl ?_
    refine x_ireturn dX11_undo_23 rfl ⟨Nat.le_refl _, Nat.le_refl _⟩ ?_
    cases hF
    exact ⟨rfl, rfl, hL⟩
  · replace hF := br_F hc hF
    refine x_iload_n (i := 1) (b := 19) dX11_undo_18 rfl rfl rfl ?_
    refine x_if_ge (tgt := 24) (b := 22) dX11_undo_19 (by decide) rfl (fun hc => ?_) (fun hc => ?_)
    · replace hF := br_T hc hF
      refine x_aload_n (i := 0) (b := 25) dX11_undo_24 rfl rfl rfl ?_
      refine x_getL (j := 0) (t := (10, 0, false)) (b := 28) fk_X11_57 dX11_undo_25 rfl hL rfl rfl rfl ?_
      refine x_aload_n (i := 0) (b := 29) dX11_undo_28 rfl rfl rfl ?_
      refine x_getL (j := 0) (t := (59, 0, true)) (b := 32) fk_X11_68 dX11_undo_29 rfl hL rfl rfl rfl ?_
      refine x_iload_n (i := 1) (b := 33) dX11_undo_32 rfl rfl rfl ?_
      refine x_bipush (n := 20) (b := 35) dX11_undo_33 (by decide) rfl ?_
      obtain ⟨hs, hF⟩ := ck_e hF
      refine x_irem (b := 36) dX11_undo_35 hs.1 hs.2 rfl ?_
      obtain ⟨hs, hF⟩ := ck_e hF
      obtain ⟨j2, e_j2, hF⟩ := rf_e hF
      refine x_aaldV (v := some (10, j2)) (b := 37) ak_59 dX11_undo_36 hs e_j2 rfl ?_
      obtain ⟨v3, h4, hq, hF⟩ := bd_e hF
      refine x_callV (as := [xr 10 j2]) (rest := []) (b := 40) (c_X10_copyFrom d 0 j2 h _ hL hq) dX11_undo_37 cw_X11_246 ⟨_, _, rfl, Nat.le_of_ble_eq_true rfl⟩ rfl rfl (Nat.le_of_ble_eq_true rfl) ⟨Nat.le_refl _, Nat.le_refl _⟩ rfl (fun rv hh hp _ => ?_)
      obtain ⟨rfl, rfl, hL⟩ := hp
      refine x_aload_n (i := 0) (b := 41) dX11_undo_40 rfl rfl rfl ?_
      refine x_dup (b := 42) dX11_undo_41 rfl rfl ?_
      refine x_getI (v := gI h4 11 0 10) (b := 45) fk_X11_72 dX11_undo_42 (by decide) rfl rfl ?_
      refine x_iconst (n := 1) (b := 46) dX11_undo_45 (by decide) rfl ?_
      obtain ⟨hs, hF⟩ := ck_e hF
      refine x_isub (b := 47) dX11_undo_46 hs rfl ?_
      refine x_putI (b := 50) fk_X11_72 dX11_undo_47 rfl rfl 10 rfl ?_
      obtain ⟨h5, e_h5, hF⟩ := lt_e hF
      refine x_hp (h2 := h5) e_h5 ?_
      replace hL : Lay h5 := by rw [← e_h5]; exact hL
      refine x_aload_n (i := 0) (b := 51) dX11_undo_50 rfl rfl rfl ?_
      refine x_iconst (n := (-1)) (b := 52) dX11_undo_51 (by decide) rfl ?_
      refine x_putI (b := 55) fk_X11_95 dX11_undo_52 rfl rfl 16 rfl ?_
      obtain ⟨h6, e_h6, hF⟩ := lt_e hF
      refine x_hp (h2 := h6) e_h6 ?_
      replace hL : Lay h6 := by rw [← e_h6]; exact hL
      refine x_aload_n (i := 0) (b := 56) dX11_undo_55 rfl rfl rfl ?_
      refine x_getI (v := gI h6 11 0 10) (b := 59) fk_X11_72 dX11_undo_56 (by decide) rfl rfl ?_
      refine x_ireturn dX11_undo_59 rfl ⟨Nat.le_refl _, Nat.le_refl _⟩ ?_
      cases hF
      exact ⟨rfl, rfl, hL⟩
    · replace hF := br_F hc hF
      refine x_iconst (n := (-1)) (b := 23) dX11_undo_22 (by decide) rfl ?_
      refine x_ireturn dX11_undo_23 rfl ⟨Nat.le_refl _, Nat.le_refl _⟩ ?_
      cases hF
      exact ⟨rfl, rfl, hL⟩
set_option maxHeartbeats 4000000 in
set_option maxRecDepth 100000 in
theorem u_X11_undo (E : xE) (d : Nat) (r : Int × Hp) : ∀ n : Nat, (∀ (h : Hp), Lay h → g_X11_undo n 0 [] h = some r → X E mX11_undo (d + 2) (0, 0) (0, 0) 0 [some (xr 11 0), none] [] h (PoI r)) := by
  intro n
  induction n with
  | zero => exact fun _ _ hF => no_e (r := r) hF
  | succ n ih => exact fun h hL hF => t_X11_undo_0 E d (g_X11_undo n) r   h hL hF
theorem c_X11_undo (d : Nat) (h : Hp) (r : Int × Hp) (hL : Lay h) (hF : f_X11_undo  h = some r) : Sp mX11_undo (d + 2) (0, 0) [xr 11 0] h (PoI r) :=
  sp_of (by decide) rfl (Nat.le_of_ble_eq_true rfl) (ls := [some (xr 11 0), none]) rfl (fun E _ => (u_X11_undo E d r FU)  h hL hF)
theorem dX12_added_0 : decode cX12_added 0 = .ok (.aload_n 0, 1) := by decide +kernel
theorem dX12_added_1 : decode cX12_added 1 = .ok (.getfield 178, 3) := by decide +kernel
theorem dX12_added_4 : decode cX12_added 4 = .ok (.aload_n 0, 1) := by decide +kernel
theorem dX12_added_5 : decode cX12_added 5 = .ok (.getfield 364, 3) := by decide +kernel
theorem dX12_added_8 : decode cX12_added 8 = .ok (.iload_n 1, 1) := by decide +kernel
theorem dX12_added_9 : decode cX12_added 9 = .ok (.iastore, 1) := by decide +kernel
theorem dX12_added_10 : decode cX12_added 10 = .ok (.aload_n 0, 1) := by decide +kernel
theorem dX12_added_11 : decode cX12_added 11 = .ok (.getfield 175, 3) := by decide +kernel
theorem dX12_added_14 : decode cX12_added 14 = .ok (.aload_n 0, 1) := by decide +kernel
theorem dX12_added_15 : decode cX12_added 15 = .ok (.getfield 364, 3) := by decide +kernel
theorem dX12_added_18 : decode cX12_added 18 = .ok (.iload_n 2, 1) := by decide +kernel
theorem dX12_added_19 : decode cX12_added 19 = .ok (.iastore, 1) := by decide +kernel
theorem dX12_added_20 : decode cX12_added 20 = .ok (.aload_n 0, 1) := by decide +kernel
theorem dX12_added_21 : decode cX12_added 21 = .ok (.getfield 181, 3) := by decide +kernel
theorem dX12_added_24 : decode cX12_added 24 = .ok (.aload_n 0, 1) := by decide +kernel
theorem dX12_added_25 : decode cX12_added 25 = .ok (.getfield 364, 3) := by decide +kernel
theorem dX12_added_28 : decode cX12_added 28 = .ok (.iload_n 3, 1) := by decide +kernel
theorem dX12_added_29 : decode cX12_added 29 = .ok (.iastore, 1) := by decide +kernel
theorem dX12_added_30 : decode cX12_added 30 = .ok (.aload_n 0, 1) := by decide +kernel
theorem dX12_added_31 : decode cX12_added 31 = .ok (.dup, 1) := by decide +kernel
theorem dX12_added_32 : decode cX12_added 32 = .ok (.getfield 364, 3) := by decide +kernel
theorem dX12_added_35 : decode cX12_added 35 = .ok (.iconst 1, 1) := by decide +kernel
theorem dX12_added_36 : decode cX12_added 36 = .ok (.iadd, 1) := by decide +kernel
theorem dX12_added_37 : decode cX12_added 37 = .ok (.putfield 364, 3) := by decide +kernel
theorem dX12_added_40 : decode cX12_added 40 = .ok (.aload_n 0, 1) := by decide +kernel
theorem dX12_added_41 : decode cX12_added 41 = .ok (.getfield 364, 3) := by decide +kernel
theorem dX12_added_44 : decode cX12_added 44 = .ok (.iconst 1, 1) := by decide +kernel
theorem dX12_added_45 : decode cX12_added 45 = .ok (.isub, 1) := by decide +kernel
theorem dX12_added_46 : decode cX12_added 46 = .ok (.ireturn, 1) := by decide +kernel
noncomputable def b_X12_added_0 (rec : Rk) (x1 x2 x3 : Int) (h : Hp) : Option (Int × Hp) :=
  ck (0 ≤ (gI h 12 0 74) ∧ (gI h 12 0 74) < 32) <|
  lt (sI h 111 0 (gI h 12 0 74) x1) fun h1 =>
  ck (0 ≤ (gI h1 12 0 74) ∧ (gI h1 12 0 74) < 32) <|
  lt (sI h1 110 0 (gI h1 12 0 74) x2) fun h2 =>
  ck (0 ≤ (gI h2 12 0 74) ∧ (gI h2 12 0 74) < 32) <|
  lt (sI h2 112 0 (gI h2 12 0 74) x3) fun h3 =>
  ck (-2147483648 ≤ (gI h3 12 0 74) + 1 ∧ (gI h3 12 0 74) + 1 < 2147483648) <|
  lt (sI h3 12 0 74 ((gI h3 12 0 74) + 1)) fun h4 =>
  ck (-2147483648 ≤ (gI h4 12 0 74) - 1 ∧ (gI h4 12 0 74) - 1 < 2147483648) <|
  some ((gI h4 12 0 74) - 1, h4)
noncomputable def g_X12_added (n : Nat) : Rk := Nat.rec (motive := fun _ => Rk) (fun _ _ _ => none) (fun _ rec k l h => if k = 0 then b_X12_added_0 rec (l.getD 0 0) (l.getD 1 0) (l.getD 2 0) h else none) n
noncomputable def f_X12_added (x1 x2 x3 : Int) (h : Hp) : Option (Int × Hp) := g_X12_added FU 0 [x1, x2, x3] h
set_option maxHeartbeats 4000000 in
set_option maxRecDepth 100000 in
theorem t_X12_added_0 (E : xE) (d : Nat) (rec : Rk) (r : Int × Hp) (x1 x2 x3 : Int) (h : Hp) (hL : Lay h) (hF : b_X12_added_0 rec x1 x2 x3 h = some r) : X E mX12_added (d + 1) (0, 0) (0, 0) 0 [some (xr 12 0), some (xi x1), some (xi x2), some (xi x3)] [] h (PoI r) := by
  unfold b_X12_added_0 at hF
  refine x_aload_n (i := 0) (b := 1) dX12_added_0 rfl rfl rfl ?_
  refine x_getL (j := 0) (t := (111, 0, true)) (b := 4) fk_X12_178 dX12_added_1 rfl hL rfl rfl rfl ?_
  refine x_aload_n (i := 0) (b := 5) dX12_added_4 rfl rfl rfl ?_
  refine x_getI (v := gI h 12 0 74) (b := 8) fk_X12_364 dX12_added_5 (by decide) rfl rfl ?_
  refine x_iload_n (i := 1) (b := 9) dX12_added_8 rfl rfl rfl ?_
  obtain ⟨hs, hF⟩ := ck_e hF
  have hs1 := hs
  refine x_iast (b := 10) ak_111 dX12_added_9 hs1 rfl ?_
  obtain ⟨h1, e_h1, hF⟩ := lt_e hF
  refine x_hp (h2 := h1) e_h1 ?_
  replace hL : Lay h1 := by rw [← e_h1]; exact hL
  refine x_aload_n (i := 0) (b := 11) dX12_added_10 rfl rfl rfl ?_
  refine x_getL (j := 0) (t := (110, 0, true)) (b := 14) fk_X12_175 dX12_added_11 rfl hL rfl rfl rfl ?_
  refine x_aload_n (i := 0) (b := 15) dX12_added_14 rfl rfl rfl ?_
  refine x_getI (v := gI h1 12 0 74) (b := 18) fk_X12_364 dX12_added_15 (by decide) rfl rfl ?_
  refine x_iload_n (i := 2) (b := 19) dX12_added_18 rfl rfl rfl ?_
  obtain ⟨hs, hF⟩ := ck_e hF
  have hs1 := hs
  refine x_iast (b := 20) ak_110 dX12_added_19 hs1 rfl ?_
  obtain ⟨h2, e_h2, hF⟩ := lt_e hF
  refine x_hp (h2 := h2) e_h2 ?_
  replace hL : Lay h2 := by rw [← e_h2]; exact hL
  refine x_aload_n (i := 0) (b := 21) dX12_added_20 rfl rfl rfl ?_
  refine x_getL (j := 0) (t := (112, 0, true)) (b := 24) fk_X12_181 dX12_added_21 rfl hL rfl rfl rfl ?_
  refine x_aload_n (i := 0) (b := 25) dX12_added_24 rfl rfl rfl ?_
  refine x_getI (v := gI h2 12 0 74) (b := 28) fk_X12_364 dX12_added_25 (by decide) rfl rfl ?_
  refine x_iload_n (i := 3) (b := 29) dX12_added_28 rfl rfl rfl ?_
  obtain ⟨hs, hF⟩ := ck_e hF
  have hs1 := hs
  refine x_iast (b := 30) ak_112 dX12_added_29 hs1 rfl ?_
  obtain ⟨h3, e_h3, hF⟩ := lt_e hF
  refine x_hp (h2 := h3) e_h3 ?_
  replace hL : Lay h3 := by rw [← e_h3]; exact hL
  refine x_aload_n (i := 0) (b := 31) dX12_added_30 rfl rfl rfl ?_
  refine x_dup (b := 32) dX12_added_31 rfl rfl ?_
  refine x_getI (v := gI h3 12 0 74) (b := 35) fk_X12_364 dX12_added_32 (by decide) rfl rfl ?_
  refine x_iconst (n := 1) (b := 36) dX12_added_35 (by decide) rfl ?_
  obtain ⟨hs, hF⟩ := ck_e hF
  refine x_iadd (b := 37) dX12_added_36 hs rfl ?_
  refine x_putI (b := 40) fk_X12_364 dX12_added_37 rfl rfl 74 rfl ?_
  obtain ⟨h4, e_h4, hF⟩ := lt_e hF
  refine x_hp (h2 := h4) e_h4 ?_
  replace hL : Lay h4 := by rw [← e_h4]; exact hL
  refine x_aload_n (i := 0) (b := 41) dX12_added_40 rfl rfl rfl ?_
  refine x_getI (v := gI h4 12 0 74) (b := 44) fk_X12_364 dX12_added_41 (by decide) rfl rfl ?_
  refine x_iconst (n := 1) (b := 45) dX12_added_44 (by decide) rfl ?_
  obtain ⟨hs, hF⟩ := ck_e hF
  refine x_isub (b := 46) dX12_added_45 hs rfl ?_
  refine x_ireturn dX12_added_46 rfl ⟨Nat.le_refl _, Nat.le_refl _⟩ ?_
  cases hF
  exact ⟨rfl, rfl, hL⟩
set_option maxHeartbeats 4000000 in
set_option maxRecDepth 100000 in
theorem u_X12_added (E : xE) (d : Nat) (r : Int × Hp) : ∀ n : Nat, (∀ (x1 x2 x3 : Int) (h : Hp), Lay h → g_X12_added n 0 [x1, x2, x3] h = some r → X E mX12_added (d + 1) (0, 0) (0, 0) 0 [some (xr 12 0), some (xi x1), some (xi x2), some (xi x3)] [] h (PoI r)) := by
  intro n
  induction n with
  | zero => exact fun _ _ _ _ _ hF => no_e (r := r) hF
  | succ n ih => exact fun x1 x2 x3 h hL hF => t_X12_added_0 E d (g_X12_added n) r  x1 x2 x3 h hL hF
theorem c_X12_added (d : Nat) (x1 x2 x3 : Int) (h : Hp) (r : Int × Hp) (hL : Lay h) (hF : f_X12_added x1 x2 x3 h = some r) : Sp mX12_added (d + 1) (0, 0) [xr 12 0, xi x1, xi x2, xi x3] h (PoI r) :=
  sp_of (by decide) rfl (Nat.le_of_ble_eq_true rfl) (ls := [some (xr 12 0), some (xi x1), some (xi x2), some (xi x3)]) rfl (fun E _ => (u_X12_added E d r FU) x1 x2 x3 h hL hF)
theorem dX12_begins_0 : decode cX12_begins 0 = .ok (.aload_n 0, 1) := by decide +kernel
theorem dX12_begins_1 : decode cX12_begins 1 = .ok (.getfield 87, 3) := by decide +kernel
theorem dX12_begins_4 : decode cX12_begins 4 = .ok (.iload_n 1, 1) := by decide +kernel
theorem dX12_begins_5 : decode cX12_begins 5 = .ok (.iconst 0, 1) := by decide +kernel
theorem dX12_begins_6 : decode cX12_begins 6 = .ok (.iastore, 1) := by decide +kernel
theorem dX12_begins_7 : decode cX12_begins 7 = .ok (.aload_n 0, 1) := by decide +kernel
theorem dX12_begins_8 : decode cX12_begins 8 = .ok (.getfield 90, 3) := by decide +kernel
theorem dX12_begins_11 : decode cX12_begins 11 = .ok (.iload_n 1, 1) := by decide +kernel
theorem dX12_begins_12 : decode cX12_begins 12 = .ok (.aload_n 0, 1) := by decide +kernel
theorem dX12_begins_13 : decode cX12_begins 13 = .ok (.getfield 13, 3) := by decide +kernel
theorem dX12_begins_16 : decode cX12_begins 16 = .ok (.iconst 3, 1) := by decide +kernel
theorem dX12_begins_17 : decode cX12_begins 17 = .ok (.iaload, 1) := by decide +kernel
theorem dX12_begins_18 : decode cX12_begins 18 = .ok (.iastore, 1) := by decide +kernel
theorem dX12_begins_19 : decode cX12_begins 19 = .ok (.aload_n 0, 1) := by decide +kernel
theorem dX12_begins_20 : decode cX12_begins 20 = .ok (.getfield 93, 3) := by decide +kernel
theorem dX12_begins_23 : decode cX12_begins 23 = .ok (.iload_n 1, 1) := by decide +kernel
theorem dX12_begins_24 : decode cX12_begins 24 = .ok (.aload_n 0, 1) := by decide +kernel
theorem dX12_begins_25 : decode cX12_begins 25 = .ok (.getfield 13, 3) := by decide +kernel
theorem dX12_begins_28 : decode cX12_begins 28 = .ok (.bipush 10, 2) := by decide +kernel
theorem dX12_begins_30 : decode cX12_begins 30 = .ok (.iaload, 1) := by decide +kernel
theorem dX12_begins_31 : decode cX12_begins 31 = .ok (.iastore, 1) := by decide +kernel
theorem dX12_begins_32 : decode cX12_begins 32 = .ok (.aload_n 0, 1) := by decide +kernel
theorem dX12_begins_33 : decode cX12_begins 33 = .ok (.getfield 96, 3) := by decide +kernel
theorem dX12_begins_36 : decode cX12_begins 36 = .ok (.iload_n 1, 1) := by decide +kernel
theorem dX12_begins_37 : decode cX12_begins 37 = .ok (.aload_n 0, 1) := by decide +kernel
theorem dX12_begins_38 : decode cX12_begins 38 = .ok (.getfield 13, 3) := by decide +kernel
theorem dX12_begins_41 : decode cX12_begins 41 = .ok (.bipush 11, 2) := by decide +kernel
theorem dX12_begins_43 : decode cX12_begins 43 = .ok (.iaload, 1) := by decide +kernel
theorem dX12_begins_44 : decode cX12_begins 44 = .ok (.iastore, 1) := by decide +kernel
theorem dX12_begins_45 : decode cX12_begins 45 = .ok (.aload_n 0, 1) := by decide +kernel
theorem dX12_begins_46 : decode cX12_begins 46 = .ok (.getfield 99, 3) := by decide +kernel
theorem dX12_begins_49 : decode cX12_begins 49 = .ok (.iload_n 1, 1) := by decide +kernel
theorem dX12_begins_50 : decode cX12_begins 50 = .ok (.aload_n 0, 1) := by decide +kernel
theorem dX12_begins_51 : decode cX12_begins 51 = .ok (.getfield 13, 3) := by decide +kernel
theorem dX12_begins_54 : decode cX12_begins 54 = .ok (.iconst 3, 1) := by decide +kernel
theorem dX12_begins_55 : decode cX12_begins 55 = .ok (.iaload, 1) := by decide +kernel
theorem dX12_begins_56 : decode cX12_begins 56 = .ok (.aload_n 0, 1) := by decide +kernel
theorem dX12_begins_57 : decode cX12_begins 57 = .ok (.getfield 13, 3) := by decide +kernel
theorem dX12_begins_60 : decode cX12_begins 60 = .ok (.iconst 4, 1) := by decide +kernel
theorem dX12_begins_61 : decode cX12_begins 61 = .ok (.iaload, 1) := by decide +kernel
theorem dX12_begins_62 : decode cX12_begins 62 = .ok (.if_icmp .ne 7, 3) := by decide +kernel
theorem dX12_begins_65 : decode cX12_begins 65 = .ok (.iconst 0, 1) := by decide +kernel
theorem dX12_begins_66 : decode cX12_begins 66 = .ok (.goto 4, 3) := by decide +kernel
theorem dX12_begins_69 : decode cX12_begins 69 = .ok (.iconst (-1), 1) := by decide +kernel
theorem dX12_begins_70 : decode cX12_begins 70 = .ok (.iastore, 1) := by decide +kernel
theorem dX12_begins_71 : decode cX12_begins 71 = .ok (.aload_n 0, 1) := by decide +kernel
theorem dX12_begins_72 : decode cX12_begins 72 = .ok (.getfield 102, 3) := by decide +kernel
theorem dX12_begins_75 : decode cX12_begins 75 = .ok (.iload_n 1, 1) := by decide +kernel
theorem dX12_begins_76 : decode cX12_begins 76 = .ok (.bipush 31, 2) := by decide +kernel
theorem dX12_begins_78 : decode cX12_begins 78 = .ok (.iastore, 1) := by decide +kernel
theorem dX12_begins_79 : decode cX12_begins 79 = .ok (.aload_n 0, 1) := by decide +kernel
theorem dX12_begins_80 : decode cX12_begins 80 = .ok (.getfield 105, 3) := by decide +kernel
theorem dX12_begins_83 : decode cX12_begins 83 = .ok (.iload_n 1, 1) := by decide +kernel
theorem dX12_begins_84 : decode cX12_begins 84 = .ok (.iconst 0, 1) := by decide +kernel
theorem dX12_begins_85 : decode cX12_begins 85 = .ok (.iastore, 1) := by decide +kernel
theorem dX12_begins_86 : decode cX12_begins 86 = .ok (.iconst 0, 1) := by decide +kernel
theorem dX12_begins_87 : decode cX12_begins 87 = .ok (.istore_n 2, 1) := by decide +kernel
theorem dX12_begins_88 : decode cX12_begins 88 = .ok (.iload_n 2, 1) := by decide +kernel
theorem dX12_begins_89 : decode cX12_begins 89 = .ok (.bipush 9, 2) := by decide +kernel
theorem dX12_begins_91 : decode cX12_begins 91 = .ok (.if_icmp .ge 33, 3) := by decide +kernel
theorem dX12_begins_94 : decode cX12_begins 94 = .ok (.aload_n 0, 1) := by decide +kernel
theorem dX12_begins_95 : decode cX12_begins 95 = .ok (.getfield 108, 3) := by decide +kernel
theorem dX12_begins_98 : decode cX12_begins 98 = .ok (.bipush 9, 2) := by decide +kernel
theorem dX12_begins_100 : decode cX12_begins 100 = .ok (.iload_n 1, 1) := by decide +kernel
theorem dX12_begins_101 : decode cX12_begins 101 = .ok (.imul, 1) := by decide +kernel
theorem dX12_begins_102 : decode cX12_begins 102 = .ok (.iload_n 2, 1) := by decide +kernel
theorem dX12_begins_103 : decode cX12_begins 103 = .ok (.iadd, 1) := by decide +kernel
theorem dX12_begins_104 : decode cX12_begins 104 = .ok (.iconst 0, 1) := by decide +kernel
theorem dX12_begins_105 : decode cX12_begins 105 = .ok (.iastore, 1) := by decide +kernel
theorem dX12_begins_106 : decode cX12_begins 106 = .ok (.aload_n 0, 1) := by decide +kernel
theorem dX12_begins_107 : decode cX12_begins 107 = .ok (.getfield 111, 3) := by decide +kernel
theorem dX12_begins_110 : decode cX12_begins 110 = .ok (.bipush 9, 2) := by decide +kernel
theorem dX12_begins_112 : decode cX12_begins 112 = .ok (.iload_n 1, 1) := by decide +kernel
theorem dX12_begins_113 : decode cX12_begins 113 = .ok (.imul, 1) := by decide +kernel
theorem dX12_begins_114 : decode cX12_begins 114 = .ok (.iload_n 2, 1) := by decide +kernel
theorem dX12_begins_115 : decode cX12_begins 115 = .ok (.iadd, 1) := by decide +kernel
theorem dX12_begins_116 : decode cX12_begins 116 = .ok (.iconst 0, 1) := by decide +kernel
theorem dX12_begins_117 : decode cX12_begins 117 = .ok (.bastore, 1) := by decide +kernel
theorem dX12_begins_118 : decode cX12_begins 118 = .ok (.iinc 2 1, 3) := by decide +kernel
theorem dX12_begins_121 : decode cX12_begins 121 = .ok (.goto (-33), 3) := by decide +kernel
theorem dX12_begins_124 : decode cX12_begins 124 = .ok (.return_, 1) := by decide +kernel
noncomputable def b_X12_begins_0 (rec : Rk) (x1 : Int) (h : Hp) : Option (Int × Hp) :=
  ck (0 ≤ x1 ∧ x1 < 23) <|
  lt (sI h 84 0 x1 0) fun h1 =>
  ck (0 ≤ (3 : Int) ∧ (3 : Int) < 30) <|
  ck (0 ≤ x1 ∧ x1 < 23) <|
  lt (sI h1 85 0 x1 (gI h1 61 0 3)) fun h2 =>
  ck (0 ≤ (10 : Int) ∧ (10 : Int) < 30) <|
  ck (0 ≤ x1 ∧ x1 < 23) <|
  lt (sI h2 86 0 x1 (gI h2 61 0 10)) fun h3 =>
  ck (0 ≤ (11 : Int) ∧ (11 : Int) < 30) <|
  ck (0 ≤ x1 ∧ x1 < 23) <|
  lt (sI h3 87 0 x1 (gI h3 61 0 11)) fun h4 =>
  ck (0 ≤ (3 : Int) ∧ (3 : Int) < 30) <|
  ck (0 ≤ (4 : Int) ∧ (4 : Int) < 30) <|
  if (gI h4 61 0 3) = (gI h4 61 0 4) then (
    rec 1 [x1, 0, x1] h4
  ) else (
    rec 1 [x1, (-1), x1] h4
  )
noncomputable def b_X12_begins_1 (rec : Rk) (x1 y0 y1 : Int) (h : Hp) : Option (Int × Hp) :=
  ck (0 ≤ y1 ∧ y1 < 23) <|
  lt (sI h 88 0 y1 y0) fun h1 =>
  ck (0 ≤ x1 ∧ x1 < 23) <|
  lt (sI h1 89 0 x1 31) fun h2 =>
  ck (0 ≤ x1 ∧ x1 < 23) <|
  lt (sI h2 90 0 x1 0) fun h3 =>
  rec 2 [x1, 0] h3
noncomputable def b_X12_begins_2 (rec : Rk) (x1 x2 : Int) (h : Hp) : Option (Int × Hp) :=
  if 9 ≤ x2 then (
    some (0, h)
  ) else (
    ck (-2147483648 ≤ 9 * x1 ∧ 9 * x1 < 2147483648) <|
    ck (-2147483648 ≤ (9 * x1) + x2 ∧ (9 * x1) + x2 < 2147483648) <|
    ck (0 ≤ ((9 * x1) + x2) ∧ ((9 * x1) + x2) < 207) <|
    lt (sI h 91 0 ((9 * x1) + x2) 0) fun h1 =>
    ck (-2147483648 ≤ 9 * x1 ∧ 9 * x1 < 2147483648) <|
    ck (-2147483648 ≤ (9 * x1) + x2 ∧ (9 * x1) + x2 < 2147483648) <|
    ck (0 ≤ ((9 * x1) + x2) ∧ ((9 * x1) + x2) < 207) <|
    lt (sI h1 92 0 ((9 * x1) + x2) 0) fun h2 =>
    ck (-2147483648 ≤ x2 + 1 ∧ x2 + 1 < 2147483648) <|
    rec 2 [x1, x2 + 1] h2
  )
noncomputable def g_X12_begins (n : Nat) : Rk := Nat.rec (motive := fun _ => Rk) (fun _ _ _ => none) (fun _ rec k l h => if k = 0 then b_X12_begins_0 rec (l.getD 0 0) h else if k = 1 then b_X12_begins_1 rec (l.getD 0 0) (l.getD 1 0) (l.getD 2 0) h else if k = 2 then b_X12_begins_2 rec (l.getD 0 0) (l.getD 1 0) h else none) n
noncomputable def f_X12_begins (x1 : Int) (h : Hp) : Option (Int × Hp) := g_X12_begins FU 0 [x1] h
set_option maxHeartbeats 4000000 in
set_option maxRecDepth 100000 in
theorem t_X12_begins_0 (E : xE) (d : Nat) (rec : Rk) (r : Int × Hp) (hr_70 : ∀ (x1 y0 y1 : Int) (h : Hp), Lay h → rec 1 [x1, y0, y1] h = some r → X E mX12_begins (d + 1) (0, 0) (0, 0) 70 [some (xr 12 0), some (xi x1), none] [xi y0, xi y1, xr 88 0] h (PoV r)) (x1 : Int) (h : Hp) (hL : Lay h) (hF : b_X12_begins_0 rec x1 h = some r) : X E mX12_begins (d + 1) (0, 0) (0, 0) 0 [some (xr 12 0), some (xi x1), none] [] h (PoV r) := by
  unfold b_X12_begins_0 at hF
  refine x_aload_n (i := 0) (b := 1) dX12_begins_0 rfl rfl rfl ?_
  refine x_getL (j := 0) (t := (84, 0, true)) (b := 4) fk_X12_87 dX12_begins_1 rfl hL rfl rfl rfl ?_
  refine x_iload_n (i := 1) (b := 5) dX12_begins_4 rfl rfl rfl ?_
  refine x_iconst (n := 0) (b := 6) dX12_begins_5 (by decide) rfl ?_
  obtain ⟨hs, hF⟩ := ck_e hF
  have hs1 := hs
  refine x_iast (b := 7) ak_84 dX12_begins_6 hs1 rfl ?_
  obtain ⟨h1, e_h1, hF⟩ := lt_e hF
  refine x_hp (h2 := h1) e_h1 ?_
  replace hL : Lay h1 := by rw [← e_h1]; exact hL
  refine x_aload_n (i := 0) (b := 8) dX12_begins_7 rfl rfl rfl ?_
  refine x_getL (j := 0) (t := (85, 0, true)) (b := 11) fk_X12_90 dX12_begins_8 rfl hL rfl rfl rfl ?_
  refine x_iload_n (i := 1) (b := 12) dX12_begins_11 rfl rfl rfl ?_
  refine x_aload_n (i := 0) (b := 13) dX12_begins_12 rfl rfl rfl ?_
  refine x_getL (j := 0) (t := (61, 0, true)) (b := 16) fk_X12_13 dX12_begins_13 rfl hL rfl rfl rfl ?_
  refine x_iconst (n := 3) (b := 17) dX12_begins_16 (by decide) rfl ?_
  obtain ⟨hs, hF⟩ := ck_e hF
  refine x_iald (v := gI h1 61 0 3) (b := 18) ak_61 dX12_begins_17 hs rfl rfl ?_
  obtain ⟨hs, hF⟩ := ck_e hF
  have hs1 := hs
  refine x_iast (b := 19) ak_85 dX12_begins_18 hs1 rfl ?_
  obtain ⟨h2, e_h2, hF⟩ := lt_e hF
  refine x_hp (h2 := h2) e_h2 ?_
  replace hL : Lay h2 := by rw [← e_h2]; exact hL
  refine x_aload_n (i := 0) (b := 20) dX12_begins_19 rfl rfl rfl ?_
  refine x_getL (j := 0) (t := (86, 0, true)) (b := 23) fk_X12_93 dX12_begins_20 rfl hL rfl rfl rfl ?_
  refine x_iload_n (i := 1) (b := 24) dX12_begins_23 rfl rfl rfl ?_
  refine x_aload_n (i := 0) (b := 25) dX12_begins_24 rfl rfl rfl ?_
  refine x_getL (j := 0) (t := (61, 0, true)) (b := 28) fk_X12_13 dX12_begins_25 rfl hL rfl rfl rfl ?_
  refine x_bipush (n := 10) (b := 30) dX12_begins_28 (by decide) rfl ?_
  obtain ⟨hs, hF⟩ := ck_e hF
  refine x_iald (v := gI h2 61 0 10) (b := 31) ak_61 dX12_begins_30 hs rfl rfl ?_
  obtain ⟨hs, hF⟩ := ck_e hF
  have hs1 := hs
  refine x_iast (b := 32) ak_86 dX12_begins_31 hs1 rfl ?_
  obtain ⟨h3, e_h3, hF⟩ := lt_e hF
  refine x_hp (h2 := h3) e_h3 ?_
  replace hL : Lay h3 := by rw [← e_h3]; exact hL
  refine x_aload_n (i := 0) (b := 33) dX12_begins_32 rfl rfl rfl ?_
  refine x_getL (j := 0) (t := (87, 0, true)) (b := 36) fk_X12_96 dX12_begins_33 rfl hL rfl rfl rfl ?_
  refine x_iload_n (i := 1) (b := 37) dX12_begins_36 rfl rfl rfl ?_
  refine x_aload_n (i := 0) (b := 38) dX12_begins_37 rfl rfl rfl ?_
  refine x_getL (j := 0) (t := (61, 0, true)) (b := 41) fk_X12_13 dX12_begins_38 rfl hL rfl rfl rfl ?_
  refine x_bipush (n := 11) (b := 43) dX12_begins_41 (by decide) rfl ?_
  obtain ⟨hs, hF⟩ := ck_e hF
  refine x_iald (v := gI h3 61 0 11) (b := 44) ak_61 dX12_begins_43 hs rfl rfl ?_
  obtain ⟨hs, hF⟩ := ck_e hF
  have hs1 := hs
  refine x_iast (b := 45) ak_87 dX12_begins_44 hs1 rfl ?_
  obtain ⟨h4, e_h4, hF⟩ := lt_e hF
  refine x_hp (h2 := h4) e_h4 ?_
  replace hL : Lay h4 := by rw [← e_h4]; exact hL
  refine x_aload_n (i := 0) (b := 46) dX12_begins_45 rfl rfl rfl ?_
  refine x_getL (j := 0) (t := (88, 0, true)) (b := 49) fk_X12_99 dX12_begins_46 rfl hL rfl rfl rfl ?_
  refine x_iload_n (i := 1) (b := 50) dX12_begins_49 rfl rfl rfl ?_
  refine x_aload_n (i := 0) (b := 51) dX12_begins_50 rfl rfl rfl ?_
  refine x_getL (j := 0) (t := (61, 0, true)) (b := 54) fk_X12_13 dX12_begins_51 rfl hL rfl rfl rfl ?_
  refine x_iconst (n := 3) (b := 55) dX12_begins_54 (by decide) rfl ?_
  obtain ⟨hs, hF⟩ := ck_e hF
  refine x_iald (v := gI h4 61 0 3) (b := 56) ak_61 dX12_begins_55 hs rfl rfl ?_
  refine x_aload_n (i := 0) (b := 57) dX12_begins_56 rfl rfl rfl ?_
  refine x_getL (j := 0) (t := (61, 0, true)) (b := 60) fk_X12_13 dX12_begins_57 rfl hL rfl rfl rfl ?_
  refine x_iconst (n := 4) (b := 61) dX12_begins_60 (by decide) rfl ?_
  obtain ⟨hs, hF⟩ := ck_e hF
  refine x_iald (v := gI h4 61 0 4) (b := 62) ak_61 dX12_begins_61 hs rfl rfl ?_
  refine x_icmp_ne (tgt := 69) (b := 65) dX12_begins_62 (by decide) rfl (fun hc => ?_) (fun hc => ?_)
  · replace hF := br_F hc hF
    refine x_iconst (n := (-1)) (b := 70) dX12_begins_69 (by decide) rfl ?_
    exact x_dp (ls2 := [some (xr 12 0), some (xi x1), none]) ⟨rfl, rfl, trivial⟩ (hr_70 x1 (-1) x1 h4 hL hF)
  · replace hF := br_T hc hF
    refine x_iconst (n := 0) (b := 66) dX12_begins_65 (by decide) rfl ?_
    refine x_goto (tgt := 70) dX12_begins_66 (by decide) ?_
    exact x_dp (ls2 := [some (xr 12 0), some (xi x1), none]) ⟨rfl, rfl, trivial⟩ (hr_70 x1 0 x1 h4 hL hF)
set_option maxHeartbeats 4000000 in
set_option maxRecDepth 100000 in
theorem t_X12_begins_1 (E : xE) (d : Nat) (rec : Rk) (r : Int × Hp) (hr_88 : ∀ (x1 x2 : Int) (h : Hp), Lay h → rec 2 [x1, x2] h = some r → X E mX12_begins (d + 1) (0, 0) (0, 0) 88 [some (xr 12 0), some (xi x1), some (xi x2)] [] h (PoV r)) (x1 y0 y1 : Int) (h : Hp) (hL : Lay h) (hF : b_X12_begins_1 rec x1 y0 y1 h = some r) : X E mX12_begins (d + 1) (0, 0) (0, 0) 70 [some (xr 12 0), some (xi x1), none] [xi y0, xi y1, xr 88 0] h (PoV r) := by
  unfold b_X12_begins_1 at hF
  obtain ⟨hs, hF⟩ := ck_e hF
  have hs1 := hs
  refine x_iast (b := 71) ak_88 dX12_begins_70 hs1 rfl ?_
  obtain ⟨h1, e_h1, hF⟩ := lt_e hF
  refine x_hp (h2 := h1) e_h1 ?_
  replace hL : Lay h1 := by rw [← e_h1]; exact hL
  refine x_aload_n (i := 0) (b := 72) dX12_begins_71 rfl rfl rfl ?_
  refine x_getL (j := 0) (t := (89, 0, true)) (b := 75) fk_X12_102 dX12_begins_72 rfl hL rfl rfl rfl ?_
  refine x_iload_n (i := 1) (b := 76) dX12_begins_75 rfl rfl rfl ?_
  refine x_bipush (n := 31) (b := 78) dX12_begins_76 (by decide) rfl ?_
  obtain ⟨hs, hF⟩ := ck_e hF
  have hs1 := hs
  refine x_iast (b := 79) ak_89 dX12_begins_78 hs1 rfl ?_
  obtain ⟨h2, e_h2, hF⟩ := lt_e hF
  refine x_hp (h2 := h2) e_h2 ?_
  replace hL : Lay h2 := by rw [← e_h2]; exact hL
  refine x_aload_n (i := 0) (b := 80) dX12_begins_79 rfl rfl rfl ?_
  refine x_getL (j := 0) (t := (90, 0, true)) (b := 83) fk_X12_105 dX12_begins_80 rfl hL rfl rfl rfl ?_
  refine x_iload_n (i := 1) (b := 84) dX12_begins_83 rfl rfl rfl ?_
  refine x_iconst (n := 0) (b := 85) dX12_begins_84 (by decide) rfl ?_
  obtain ⟨hs, hF⟩ := ck_e hF
  have hs1 := hs
  refine x_iast (b := 86) ak_90 dX12_begins_85 hs1 rfl ?_
  obtain ⟨h3, e_h3, hF⟩ := lt_e hF
  refine x_hp (h2 := h3) e_h3 ?_
  replace hL : Lay h3 := by rw [← e_h3]; exact hL
  refine x_iconst (n := 0) (b := 87) dX12_begins_86 (by decide) rfl ?_
  refine x_istore_n (i := 2) (b := 88) (ls2 := [some (xr 12 0), some (xi x1), some (xi 0)]) dX12_begins_87 rfl (Nat.le_of_ble_eq_true rfl) rfl rfl ?_
  exact x_dp (ls2 := [some (xr 12 0), some (xi x1), some (xi 0)]) ⟨rfl, rfl, rfl, trivial⟩ (hr_88 x1 0 h3 hL hF)
set_option maxHeartbeats 4000000 in
set_option maxRecDepth 100000 in
theorem t_X12_begins_2 (E : xE) (d : Nat) (rec : Rk) (r : Int × Hp) (hr_88 : ∀ (x1 x2 : Int) (h : Hp), Lay h → rec 2 [x1, x2] h = some r → X E mX12_begins (d + 1) (0, 0) (0, 0) 88 [some (xr 12 0), some (xi x1), some (xi x2)] [] h (PoV r)) (x1 x2 : Int) (h : Hp) (hL : Lay h) (hF : b_X12_begins_2 rec x1 x2 h = some r) : X E mX12_begins (d + 1) (0, 0) (0, 0) 88 [some (xr 12 0), some (xi x1), some (xi x2)] [] h (PoV r) := by
  unfold b_X12_begins_2 at hF
  refine x_iload_n (i := 2) (b := 89) dX12_begins_88 rfl rfl rfl ?_
  refine x_bipush (n := 9) (b := 91) dX12_begins_89 (by decide) rfl ?_
  refine x_icmp_ge (tgt := 124) (b := 94) dX12_begins_91 (by decide) rfl (fun hc => ?_) (fun hc => ?_)
  · replace hF := br_T hc hF
    refine x_return dX12_begins_124 rfl ⟨Nat.le_refl _, Nat.le_refl _⟩ ?_
    cases hF
    exact ⟨rfl, rfl, hL⟩
  · replace hF := br_F hc hF
    refine x_aload_n (i := 0) (b := 95) dX12_begins_94 rfl rfl rfl ?_
    refine x_getL (j := 0) (t := (91, 0, true)) (b := 98) fk_X12_108 dX12_begins_95 rfl hL rfl rfl rfl ?_
    refine x_bipush (n := 9) (b := 100) dX12_begins_98 (by decide) rfl ?_
    refine x_iload_n (i := 1) (b := 101) dX12_begins_100 rfl rfl rfl ?_
    obtain ⟨hs, hF⟩ := ck_e hF
    refine x_imul (b := 102) dX12_begins_101 hs rfl ?_
    refine x_iload_n (i := 2) (b := 103) dX12_begins_102 rfl rfl rfl ?_
    obtain ⟨hs, hF⟩ := ck_e hF
    refine x_iadd (b := 104) dX12_begins_103 hs rfl ?_
    refine x_iconst (n := 0) (b := 105) dX12_begins_104 (by decide) rfl ?_
    obtain ⟨hs, hF⟩ := ck_e hF
    have hs1 := hs
    refine x_iast (b := 106) ak_91 dX12_begins_105 hs1 rfl ?_
    obtain ⟨h1, e_h1, hF⟩ := lt_e hF
    refine x_hp (h2 := h1) e_h1 ?_
    replace hL : Lay h1 := by rw [← e_h1]; exact hL
    refine x_aload_n (i := 0) (b := 107) dX12_begins_106 rfl rfl rfl ?_
    refine x_getL (j := 0) (t := (92, 0, true)) (b := 110) fk_X12_111 dX12_begins_107 rfl hL rfl rfl rfl ?_
    refine x_bipush (n := 9) (b := 112) dX12_begins_110 (by decide) rfl ?_
    refine x_iload_n (i := 1) (b := 113) dX12_begins_112 rfl rfl rfl ?_
    obtain ⟨hs, hF⟩ := ck_e hF
    refine x_imul (b := 114) dX12_begins_113 hs rfl ?_
    refine x_iload_n (i := 2) (b := 115) dX12_begins_114 rfl rfl rfl ?_
    obtain ⟨hs, hF⟩ := ck_e hF
    refine x_iadd (b := 116) dX12_begins_115 hs rfl ?_
    refine x_iconst (n := 0) (b := 117) dX12_begins_116 (by decide) rfl ?_
    obtain ⟨hs, hF⟩ := ck_e hF
    have hs1 := hs
    refine x_zast (b := 118) ak_92 dX12_begins_117 hs1 (by decide) rfl ?_
    obtain ⟨h2, e_h2, hF⟩ := lt_e hF
    refine x_hp (h2 := h2) e_h2 ?_
    replace hL : Lay h2 := by rw [← e_h2]; exact hL
    obtain ⟨hs, hF⟩ := ck_e hF
    refine x_iinc (i := 2) (b := 121) (ls2 := [some (xr 12 0), some (xi x1), some (xi (x2 + 1))]) dX12_begins_118 rfl (Nat.le_of_ble_eq_true rfl) hs rfl rfl ?_
    refine x_goto (tgt := 88) dX12_begins_121 (by decide) ?_
    exact x_dp (ls2 := [some (xr 12 0), some (xi x1), some (xi (x2 + 1))]) ⟨rfl, rfl, rfl, trivial⟩ (hr_88 x1 (x2 + 1) h2 hL hF)
set_option maxHeartbeats 4000000 in
set_option maxRecDepth 100000 in
theorem u_X12_begins (E : xE) (d : Nat) (r : Int × Hp) : ∀ n : Nat, (∀ (x1 : Int) (h : Hp), Lay h → g_X12_begins n 0 [x1] h = some r → X E mX12_begins (d + 1) (0, 0) (0, 0) 0 [some (xr 12 0), some (xi x1), none] [] h (PoV r)) ∧ (∀ (x1 y0 y1 : Int) (h : Hp), Lay h → g_X12_begins n 1 [x1, y0, y1] h = some r → X E mX12_begins (d + 1) (0, 0) (0, 0) 70 [some (xr 12 0), some (xi x1), none] [xi y0, xi y1, xr 88 0] h (PoV r)) ∧ (∀ (x1 x2 : Int) (h : Hp), Lay h → g_X12_begins n 2 [x1, x2] h = some r → X E mX12_begins (d + 1) (0, 0) (0, 0) 88 [some (xr 12 0), some (xi x1), some (xi x2)] [] h (PoV r)) := by
  intro n
  induction n with
  | zero => exact ⟨fun _ _ _ hF => no_e (r := r) hF, fun _ _ _ _ _ hF => no_e (r := r) hF, fun _ _ _ _ hF => no_e (r := r) hF⟩
  | succ n ih => exact ⟨fun x1 h hL hF => t_X12_begins_0 E d (g_X12_begins n) r ih.2.1 x1 h hL hF, fun x1 y0 y1 h hL hF => t_X12_begins_1 E d (g_X12_begins n) r ih.2.2 x1 y0 y1 h hL hF, fun x1 x2 h hL hF => t_X12_begins_2 E d (g_X12_begins n) r ih.2.2 x1 x2 h hL hF⟩
theorem c_X12_begins (d : Nat) (x1 : Int) (h : Hp) (r : Int × Hp) (hL : Lay h) (hF : f_X12_begins x1 h = some r) : Sp mX12_begins (d + 1) (0, 0) [xr 12 0, xi x1] h (PoV r) :=
  sp_of (by decide) rfl (Nat.le_of_ble_eq_true rfl) (ls := [some (xr 12 0), some (xi x1), none]) rfl (fun E _ => (u_X12_begins E d r FU).1 x1 h hL hF)
theorem dX12_bitsOf_0 : decode cX12_bitsOf 0 = .ok (.iconst 0, 1) := by decide +kernel
theorem dX12_bitsOf_1 : decode cX12_bitsOf 1 = .ok (.istore_n 1, 1) := by decide +kernel
theorem dX12_bitsOf_2 : decode cX12_bitsOf 2 = .ok (.iconst 0, 1) := by decide +kernel
theorem dX12_bitsOf_3 : decode cX12_bitsOf 3 = .ok (.istore_n 2, 1) := by decide +kernel
theorem dX12_bitsOf_4 : decode cX12_bitsOf 4 = .ok (.iload_n 2, 1) := by decide +kernel
theorem dX12_bitsOf_5 : decode cX12_bitsOf 5 = .ok (.bipush 9, 2) := by decide +kernel
theorem dX12_bitsOf_7 : decode cX12_bitsOf 7 = .ok (.if_icmp .ge 17, 3) := by decide +kernel
theorem dX12_bitsOf_10 : decode cX12_bitsOf 10 = .ok (.iload_n 1, 1) := by decide +kernel
theorem dX12_bitsOf_11 : decode cX12_bitsOf 11 = .ok (.iload_n 0, 1) := by decide +kernel
theorem dX12_bitsOf_12 : decode cX12_bitsOf 12 = .ok (.iload_n 2, 1) := by decide +kernel
theorem dX12_bitsOf_13 : decode cX12_bitsOf 13 = .ok (.ishr, 1) := by decide +kernel
theorem dX12_bitsOf_14 : decode cX12_bitsOf 14 = .ok (.iconst 1, 1) := by decide +kernel
theorem dX12_bitsOf_15 : decode cX12_bitsOf 15 = .ok (.iand, 1) := by decide +kernel
theorem dX12_bitsOf_16 : decode cX12_bitsOf 16 = .ok (.iadd, 1) := by decide +kernel
theorem dX12_bitsOf_17 : decode cX12_bitsOf 17 = .ok (.istore_n 1, 1) := by decide +kernel
theorem dX12_bitsOf_18 : decode cX12_bitsOf 18 = .ok (.iinc 2 1, 3) := by decide +kernel
theorem dX12_bitsOf_21 : decode cX12_bitsOf 21 = .ok (.goto (-17), 3) := by decide +kernel
theorem dX12_bitsOf_24 : decode cX12_bitsOf 24 = .ok (.iload_n 1, 1) := by decide +kernel
theorem dX12_bitsOf_25 : decode cX12_bitsOf 25 = .ok (.ireturn, 1) := by decide +kernel
noncomputable def b_X12_bitsOf_0 (rec : Rk) (x0 : Int) (h : Hp) : Option (Int × Hp) :=
  rec 1 [x0, 0, 0] h
noncomputable def b_X12_bitsOf_1 (rec : Rk) (x0 x1 x2 : Int) (h : Hp) : Option (Int × Hp) :=
  if 9 ≤ x2 then (
    some (x1, h)
  ) else (
    ck (-2147483648 ≤ x1 + (band (bshr x0 x2) 1) ∧ x1 + (band (bshr x0 x2) 1) < 2147483648) <|
    lt (x1 + (band (bshr x0 x2) 1)) fun z1 =>
    ck (-2147483648 ≤ x2 + 1 ∧ x2 + 1 < 2147483648) <|
    rec 1 [x0, z1, x2 + 1] h
  )
noncomputable def g_X12_bitsOf (n : Nat) : Rk := Nat.rec (motive := fun _ => Rk) (fun _ _ _ => none) (fun _ rec k l h => if k = 0 then b_X12_bitsOf_0 rec (l.getD 0 0) h else if k = 1 then b_X12_bitsOf_1 rec (l.getD 0 0) (l.getD 1 0) (l.getD 2 0) h else none) n
noncomputable def f_X12_bitsOf (x0 : Int) (h : Hp) : Option (Int × Hp) := g_X12_bitsOf FU 0 [x0] h
set_option maxHeartbeats 4000000 in
set_option maxRecDepth 100000 in
theorem t_X12_bitsOf_0 (E : xE) (d : Nat) (rec : Rk) (r : Int × Hp) (hr_4 : ∀ (x0 x1 x2 : Int) (h : Hp), Lay h → rec 1 [x0, x1, x2] h = some r → X E mX12_bitsOf (d + 1) (0, 0) (0, 0) 4 [some (xi x0), some (xi x1), some (xi x2)] [] h (PoI r)) (x0 : Int) (h : Hp) (hL : Lay h) (hF : b_X12_bitsOf_0 rec x0 h = some r) : X E mX12_bitsOf (d + 1) (0, 0) (0, 0) 0 [some (xi x0), none, none] [] h (PoI r) := by
  unfold b_X12_bitsOf_0 at hF
  refine x_iconst (n := 0) (b := 1) dX12_bitsOf_0 (by decide) rfl ?_
  refine x_istore_n (i := 1) (b := 2) (ls2 := [some (xi x0), some (xi 0), none]) dX12_bitsOf_1 rfl (Nat.le_of_ble_eq_true rfl) rfl rfl ?_
  refine x_iconst (n := 0) (b := 3) dX12_bitsOf_2 (by decide) rfl ?_
  refine x_istore_n (i := 2) (b := 4) (ls2 := [some (xi x0), some (xi 0), some (xi 0)]) dX12_bitsOf_3 rfl (Nat.le_of_ble_eq_true rfl) rfl rfl ?_
  exact x_dp (ls2 := [some (xi x0), some (xi 0), some (xi 0)]) ⟨rfl, rfl, rfl, trivial⟩ (hr_4 x0 0 0 h hL hF)
set_option maxHeartbeats 4000000 in
set_option maxRecDepth 100000 in
theorem t_X12_bitsOf_1 (E : xE) (d : Nat) (rec : Rk) (r : Int × Hp) (hr_4 : ∀ (x0 x1 x2 : Int) (h : Hp), Lay h → rec 1 [x0, x1, x2] h = some r → X E mX12_bitsOf (d + 1) (0, 0) (0, 0) 4 [some (xi x0), some (xi x1), some (xi x2)] [] h (PoI r)) (x0 x1 x2 : Int) (h : Hp) (hL : Lay h) (hF : b_X12_bitsOf_1 rec x0 x1 x2 h = some r) : X E mX12_bitsOf (d + 1) (0, 0) (0, 0) 4 [some (xi x0), some (xi x1), some (xi x2)] [] h (PoI r) := by
  unfold b_X12_bitsOf_1 at hF
  refine x_iload_n (i := 2) (b := 5) dX12_bitsOf_4 rfl rfl rfl ?_
  refine x_bipush (n := 9) (b := 7) dX12_bitsOf_5 (by decide) rfl ?_
  refine x_icmp_ge (tgt := 24) (b := 10) dX12_bitsOf_7 (by decide) rfl (fun hc => ?_) (fun hc => ?_)
  · replace hF := br_T hc hF
    refine x_iload_n (i := 1) (b := 25) dX12_bitsOf_24 rfl rfl rfl ?_
    refine x_ireturn dX12_bitsOf_25 rfl ⟨Nat.le_refl _, Nat.le_refl _⟩ ?_
    cases hF
    exact ⟨rfl, rfl, hL⟩
  · replace hF := br_F hc hF
    refine x_iload_n (i := 1) (b := 11) dX12_bitsOf_10 rfl rfl rfl ?_
    refine x_iload_n (i := 0) (b := 12) dX12_bitsOf_11 rfl rfl rfl ?_
    refine x_iload_n (i := 2) (b := 13) dX12_bitsOf_12 rfl rfl rfl ?_
    refine x_ishr (b := 14) dX12_bitsOf_13 rfl ?_
    refine x_iconst (n := 1) (b := 15) dX12_bitsOf_14 (by decide) rfl ?_
    refine x_iand (b := 16) dX12_bitsOf_15 rfl ?_
    obtain ⟨hs, hF⟩ := ck_e hF
    refine x_iadd (b := 17) dX12_bitsOf_16 hs rfl ?_
    obtain ⟨z1, e_z1, hF⟩ := lt_e hF
    refine x_eq (y := z1) e_z1 ?_
    refine x_istore_n (i := 1) (b := 18) (ls2 := [some (xi x0), some (xi z1), some (xi x2)]) dX12_bitsOf_17 rfl (Nat.le_of_ble_eq_true rfl) rfl rfl ?_
    obtain ⟨hs, hF⟩ := ck_e hF
    refine x_iinc (i := 2) (b := 21) (ls2 := [some (xi x0), some (xi z1), some (xi (x2 + 1))]) dX12_bitsOf_18 rfl (Nat.le_of_ble_eq_true rfl) hs rfl rfl ?_
    refine x_goto (tgt := 4) dX12_bitsOf_21 (by decide) ?_
    exact x_dp (ls2 := [some (xi x0), some (xi z1), some (xi (x2 + 1))]) ⟨rfl, rfl, rfl, trivial⟩ (hr_4 x0 z1 (x2 + 1) h hL hF)
set_option maxHeartbeats 4000000 in
set_option maxRecDepth 100000 in
theorem u_X12_bitsOf (E : xE) (d : Nat) (r : Int × Hp) : ∀ n : Nat, (∀ (x0 : Int) (h : Hp), Lay h → g_X12_bitsOf n 0 [x0] h = some r → X E mX12_bitsOf (d + 1) (0, 0) (0, 0) 0 [some (xi x0), none, none] [] h (PoI r)) ∧ (∀ (x0 x1 x2 : Int) (h : Hp), Lay h → g_X12_bitsOf n 1 [x0, x1, x2] h = some r → X E mX12_bitsOf (d + 1) (0, 0) (0, 0) 4 [some (xi x0), some (xi x1), some (xi x2)] [] h (PoI r)) := by
  intro n
  induction n with
  | zero => exact ⟨fun _ _ _ hF => no_e (r := r) hF, fun _ _ _ _ _ hF => no_e (r := r) hF⟩
  | succ n ih => exact ⟨fun x0 h hL hF => t_X12_bitsOf_0 E d (g_X12_bitsOf n) r ih.2 x0 h hL hF, fun x0 x1 x2 h hL hF => t_X12_bitsOf_1 E d (g_X12_bitsOf n) r ih.2 x0 x1 x2 h hL hF⟩
theorem c_X12_bitsOf (d : Nat) (x0 : Int) (h : Hp) (r : Int × Hp) (hL : Lay h) (hF : f_X12_bitsOf x0 h = some r) : Sp mX12_bitsOf (d + 1) (0, 0) [xi x0] h (PoI r) :=
  sp_of (by decide) rfl (Nat.le_of_ble_eq_true rfl) (ls := [some (xi x0), none, none]) rfl (fun E _ => (u_X12_bitsOf E d r FU).1 x0 h hL hF)
theorem dX12_cells_0 : decode cX12_cells 0 = .ok (.aload_n 0, 1) := by decide +kernel
theorem dX12_cells_1 : decode cX12_cells 1 = .ok (.getfield 13, 3) := by decide +kernel
theorem dX12_cells_4 : decode cX12_cells 4 = .ok (.iconst 0, 1) := by decide +kernel
theorem dX12_cells_5 : decode cX12_cells 5 = .ok (.iaload, 1) := by decide +kernel
theorem dX12_cells_6 : decode cX12_cells 6 = .ok (.aload_n 0, 1) := by decide +kernel
theorem dX12_cells_7 : decode cX12_cells 7 = .ok (.getfield 13, 3) := by decide +kernel
theorem dX12_cells_10 : decode cX12_cells 10 = .ok (.iconst 1, 1) := by decide +kernel
theorem dX12_cells_11 : decode cX12_cells 11 = .ok (.iaload, 1) := by decide +kernel
theorem dX12_cells_12 : decode cX12_cells 12 = .ok (.imul, 1) := by decide +kernel
theorem dX12_cells_13 : decode cX12_cells 13 = .ok (.ireturn, 1) := by decide +kernel
noncomputable def b_X12_cells_0 (rec : Rk) (h : Hp) : Option (Int × Hp) :=
  ck (0 ≤ (0 : Int) ∧ (0 : Int) < 30) <|
  ck (0 ≤ (1 : Int) ∧ (1 : Int) < 30) <|
  ck (-2147483648 ≤ (gI h 61 0 0) * (gI h 61 0 1) ∧ (gI h 61 0 0) * (gI h 61 0 1) < 2147483648) <|
  some ((gI h 61 0 0) * (gI h 61 0 1), h)
noncomputable def g_X12_cells (n : Nat) : Rk := Nat.rec (motive := fun _ => Rk) (fun _ _ _ => none) (fun _ rec k l h => if k = 0 then b_X12_cells_0 rec  h else none) n
noncomputable def f_X12_cells (h : Hp) : Option (Int × Hp) := g_X12_cells FU 0 [] h
set_option maxHeartbeats 4000000 in
set_option maxRecDepth 100000 in
theorem t_X12_cells_0 (E : xE) (d : Nat) (rec : Rk) (r : Int × Hp) (h : Hp) (hL : Lay h) (hF : b_X12_cells_0 rec  h = some r) : X E mX12_cells (d + 1) (0, 0) (0, 0) 0 [some (xr 12 0)] [] h (PoI r) := by
  unfold b_X12_cells_0 at hF
  refine x_aload_n (i := 0) (b := 1) dX12_cells_0 rfl rfl rfl ?_
  refine x_getL (j := 0) (t := (61, 0, true)) (b := 4) fk_X12_13 dX12_cells_1 rfl hL rfl rfl rfl ?_
  refine x_iconst (n := 0) (b := 5) dX12_cells_4 (by decide) rfl ?_
  obtain ⟨hs, hF⟩ := ck_e hF
  refine x_iald (v := gI h 61 0 0) (b := 6) ak_61 dX12_cells_5 hs rfl rfl ?_
  refine x_aload_n (i := 0) (b := 7) dX12_cells_6 rfl rfl rfl ?_
  refine x_getL (j := 0) (t := (61, 0, true)) (b := 10) fk_X12_13 dX12_cells_7 rfl hL rfl rfl rfl ?_
  refine x_iconst (n := 1) (b := 11) dX12_cells_10 (by decide) rfl ?_
  obtain ⟨hs, hF⟩ := ck_e hF
  refine x_iald (v := gI h 61 0 1) (b := 12) ak_61 dX12_cells_11 hs rfl rfl ?_
  obtain ⟨hs, hF⟩ := ck_e hF
  refine x_imul (b := 13) dX12_cells_12 hs rfl ?_
  refine x_ireturn dX12_cells_13 rfl ⟨Nat.le_refl _, Nat.le_refl _⟩ ?_
  cases hF
  exact ⟨rfl, rfl, hL⟩
set_option maxHeartbeats 4000000 in
set_option maxRecDepth 100000 in
theorem u_X12_cells (E : xE) (d : Nat) (r : Int × Hp) : ∀ n : Nat, (∀ (h : Hp), Lay h → g_X12_cells n 0 [] h = some r → X E mX12_cells (d + 1) (0, 0) (0, 0) 0 [some (xr 12 0)] [] h (PoI r)) := by
  intro n
  induction n with
  | zero => exact fun _ _ hF => no_e (r := r) hF
  | succ n ih => exact fun h hL hF => t_X12_cells_0 E d (g_X12_cells n) r   h hL hF
theorem c_X12_cells (d : Nat) (h : Hp) (r : Int × Hp) (hL : Lay h) (hF : f_X12_cells  h = some r) : Sp mX12_cells (d + 1) (0, 0) [xr 12 0] h (PoI r) :=
  sp_of (by decide) rfl (Nat.le_of_ble_eq_true rfl) (ls := [some (xr 12 0)]) rfl (fun E _ => (u_X12_cells E d r FU)  h hL hF)
theorem dX12_common_0 : decode cX12_common 0 = .ok (.iload_n 0, 1) := by decide +kernel
theorem dX12_common_1 : decode cX12_common 1 = .ok (.istore_n 2, 1) := by decide +kernel
theorem dX12_common_2 : decode cX12_common 2 = .ok (.iload_n 1, 1) := by decide +kernel
theorem dX12_common_3 : decode cX12_common 3 = .ok (.istore_n 3, 1) := by decide +kernel
theorem dX12_common_4 : decode cX12_common 4 = .ok (.iload_n 3, 1) := by decide +kernel
theorem dX12_common_5 : decode cX12_common 5 = .ok (.ifCond .eq 16, 3) := by decide +kernel
theorem dX12_common_8 : decode cX12_common 8 = .ok (.iload_n 2, 1) := by decide +kernel
theorem dX12_common_9 : decode cX12_common 9 = .ok (.iload_n 3, 1) := by decide +kernel
theorem dX12_common_10 : decode cX12_common 10 = .ok (.irem, 1) := by decide +kernel
theorem dX12_common_11 : decode cX12_common 11 = .ok (.istore 4, 2) := by decide +kernel
theorem dX12_common_13 : decode cX12_common 13 = .ok (.iload_n 3, 1) := by decide +kernel
theorem dX12_common_14 : decode cX12_common 14 = .ok (.istore_n 2, 1) := by decide +kernel
theorem dX12_common_15 : decode cX12_common 15 = .ok (.iload 4, 2) := by decide +kernel
theorem dX12_common_17 : decode cX12_common 17 = .ok (.istore_n 3, 1) := by decide +kernel
theorem dX12_common_18 : decode cX12_common 18 = .ok (.goto (-14), 3) := by decide +kernel
theorem dX12_common_21 : decode cX12_common 21 = .ok (.iload_n 2, 1) := by decide +kernel
theorem dX12_common_22 : decode cX12_common 22 = .ok (.ireturn, 1) := by decide +kernel
noncomputable def b_X12_common_0 (rec : Rk) (x0 x1 : Int) (h : Hp) : Option (Int × Hp) :=
  rec 1 [x0, x1] h
noncomputable def b_X12_common_1 (rec : Rk) (x2 x3 : Int) (h : Hp) : Option (Int × Hp) :=
  if x3 = 0 then (
    some (x2, h)
  ) else (
    ck ((0 : Int) ≤ x2 ∧ (0 : Int) < x3) <|
    lt (x2 % x3) fun z1 =>
    rec 1 [x3, z1] h
  )
noncomputable def g_X12_common (n : Nat) : Rk := Nat.rec (motive := fun _ => Rk) (fun _ _ _ => none) (fun _ rec k l h => if k = 0 then b_X12_common_0 rec (l.getD 0 0) (l.getD 1 0) h else if k = 1 then b_X12_common_1 rec (l.getD 0 0) (l.getD 1 0) h else none) n
noncomputable def f_X12_common (x0 x1 : Int) (h : Hp) : Option (Int × Hp) := g_X12_common FU 0 [x0, x1] h
set_option maxHeartbeats 4000000 in
set_option maxRecDepth 100000 in
theorem t_X12_common_0 (E : xE) (d : Nat) (rec : Rk) (r : Int × Hp) (hr_4 : ∀ (x2 x3 : Int) (h : Hp), Lay h → rec 1 [x2, x3] h = some r → X E mX12_common (d + 1) (0, 0) (0, 0) 4 [none, none, some (xi x2), some (xi x3), none] [] h (PoI r)) (x0 x1 : Int) (h : Hp) (hL : Lay h) (hF : b_X12_common_0 rec x0 x1 h = some r) : X E mX12_common (d + 1) (0, 0) (0, 0) 0 [some (xi x0), some (xi x1), none, none, none] [] h (PoI r) := by
  unfold b_X12_common_0 at hF
  refine x_iload_n (i := 0) (b := 1) dX12_common_0 rfl rfl rfl ?_
  refine x_istore_n (i := 2) (b := 2) (ls2 := [some (xi x0), some (xi x1), some (xi x0), none, none]) dX12_common_1 rfl (Nat.le_of_ble_eq_true rfl) rfl rfl ?_
  refine x_iload_n (i := 1) (b := 3) dX12_common_2 rfl rfl rfl ?_
  refine x_istore_n (i := 3) (b := 4) (ls2 := [some (xi x0), some (xi x1), some (xi x0), some (xi x1), none]) dX12_common_3 rfl (Nat.le_of_ble_eq_true rfl) rfl rfl ?_
  exact x_dp (ls2 := [none, none, some (xi x0), some (xi x1), none]) ⟨rfl, rfl, trivial⟩ (hr_4 x0 x1 h hL hF)
set_option maxHeartbeats 4000000 in
set_option maxRecDepth 100000 in
theorem t_X12_common_1 (E : xE) (d : Nat) (rec : Rk) (r : Int × Hp) (hr_4 : ∀ (x2 x3 : Int) (h : Hp), Lay h → rec 1 [x2, x3] h = some r → X E mX12_common (d + 1) (0, 0) (0, 0) 4 [none, none, some (xi x2), some (xi x3), none] [] h (PoI r)) (x2 x3 : Int) (h : Hp) (hL : Lay h) (hF : b_X12_common_1 rec x2 x3 h = some r) : X E mX12_common (d + 1) (0, 0) (0, 0) 4 [none, none, some (xi x2), some (xi x3), none] [] h (PoI r) := by
  unfold b_X12_common_1 at hF
  refine x_iload_n (i := 3) (b := 5) dX12_common_4 rfl rfl rfl ?_
  refine x_if_eq (tgt := 21) (b := 8) dX12_common_5 (by decide) rfl (fun hc => ?_) (fun hc => ?_)
  · replace hF := br_T hc hF
    refine x_iload_n (i := 2) (b := 22) dX12_common_21 rfl rfl rfl ?_
    refine x_ireturn dX12_common_22 rfl ⟨Nat.le_refl _, Nat.le_refl _⟩ ?_
    cases hF
    exact ⟨rfl, rfl, hL⟩
  · replace hF := br_F hc hF
    refine x_iload_n (i := 2) (b := 9) dX12_common_8 rfl rfl rfl ?_
    refine x_iload_n (i := 3) (b := 10) dX12_common_9 rfl rfl rfl ?_
    obtain ⟨hs, hF⟩ := ck_e hF
    refine x_irem (b := 11) dX12_common_10 hs.1 hs.2 rfl ?_
    obtain ⟨z1, e_z1, hF⟩ := lt_e hF
    refine x_eq (y := z1) e_z1 ?_
    refine x_istore (i := 4) (b := 13) (ls2 := [none, none, some (xi x2), some (xi x3), some (xi z1)]) dX12_common_11 (Nat.le_of_ble_eq_true rfl) rfl rfl ?_
    refine x_iload_n (i := 3) (b := 14) dX12_common_13 rfl rfl rfl ?_
    refine x_istore_n (i := 2) (b := 15) (ls2 := [none, none, some (xi x3), some (xi x3), some (xi z1)]) dX12_common_14 rfl (Nat.le_of_ble_eq_true rfl) rfl rfl ?_
    refine x_iload (i := 4) (b := 17) dX12_common_15 rfl rfl ?_
    refine x_istore_n (i := 3) (b := 18) (ls2 := [none, none, some (xi x3), some (xi z1), some (xi z1)]) dX12_common_17 rfl (Nat.le_of_ble_eq_true rfl) rfl rfl ?_
    refine x_goto (tgt := 4) dX12_common_18 (by decide) ?_
    exact x_dp (ls2 := [none, none, some (xi x3), some (xi z1), none]) ⟨rfl, rfl, trivial⟩ (hr_4 x3 z1 h hL hF)
set_option maxHeartbeats 4000000 in
set_option maxRecDepth 100000 in
theorem u_X12_common (E : xE) (d : Nat) (r : Int × Hp) : ∀ n : Nat, (∀ (x0 x1 : Int) (h : Hp), Lay h → g_X12_common n 0 [x0, x1] h = some r → X E mX12_common (d + 1) (0, 0) (0, 0) 0 [some (xi x0), some (xi x1), none, none, none] [] h (PoI r)) ∧ (∀ (x2 x3 : Int) (h : Hp), Lay h → g_X12_common n 1 [x2, x3] h = some r → X E mX12_common (d + 1) (0, 0) (0, 0) 4 [none, none, some (xi x2), some (xi x3), none] [] h (PoI r)) := by
  intro n
  induction n with
  | zero => exact ⟨fun _ _ _ _ hF => no_e (r := r) hF, fun _ _ _ _ hF => no_e (r := r) hF⟩
  | succ n ih => exact ⟨fun x0 x1 h hL hF => t_X12_common_0 E d (g_X12_common n) r ih.2 x0 x1 h hL hF, fun x2 x3 h hL hF => t_X12_common_1 E d (g_X12_common n) r ih.2 x2 x3 h hL hF⟩
theorem c_X12_common (d : Nat) (x0 x1 : Int) (h : Hp) (r : Int × Hp) (hL : Lay h) (hF : f_X12_common x0 x1 h = some r) : Sp mX12_common (d + 1) (0, 0) [xi x0, xi x1] h (PoI r) :=
  sp_of (by decide) rfl (Nat.le_of_ble_eq_true rfl) (ls := [some (xi x0), some (xi x1), none, none, none]) rfl (fun E _ => (u_X12_common E d r FU).1 x0 x1 h hL hF)
theorem dX12_copies_0 : decode cX12_copies 0 = .ok (.aload_n 0, 1) := by decide +kernel
theorem dX12_copies_1 : decode cX12_copies 1 = .ok (.getfield 87, 3) := by decide +kernel
theorem dX12_copies_4 : decode cX12_copies 4 = .ok (.iload_n 1, 1) := by decide +kernel
theorem dX12_copies_5 : decode cX12_copies 5 = .ok (.aload_n 0, 1) := by decide +kernel
theorem dX12_copies_6 : decode cX12_copies 6 = .ok (.getfield 87, 3) := by decide +kernel
theorem dX12_copies_9 : decode cX12_copies 9 = .ok (.iload_n 2, 1) := by decide +kernel
theorem dX12_copies_10 : decode cX12_copies 10 = .ok (.iaload, 1) := by decide +kernel
theorem dX12_copies_11 : decode cX12_copies 11 = .ok (.iastore, 1) := by decide +kernel
theorem dX12_copies_12 : decode cX12_copies 12 = .ok (.aload_n 0, 1) := by decide +kernel
theorem dX12_copies_13 : decode cX12_copies 13 = .ok (.getfield 90, 3) := by decide +kernel
theorem dX12_copies_16 : decode cX12_copies 16 = .ok (.iload_n 1, 1) := by decide +kernel
theorem dX12_copies_17 : decode cX12_copies 17 = .ok (.aload_n 0, 1) := by decide +kernel
theorem dX12_copies_18 : decode cX12_copies 18 = .ok (.getfield 90, 3) := by decide +kernel
theorem dX12_copies_21 : decode cX12_copies 21 = .ok (.iload_n 2, 1) := by decide +kernel
theorem dX12_copies_22 : decode cX12_copies 22 = .ok (.iaload, 1) := by decide +kernel
theorem dX12_copies_23 : decode cX12_copies 23 = .ok (.iastore, 1) := by decide +kernel
theorem dX12_copies_24 : decode cX12_copies 24 = .ok (.aload_n 0, 1) := by decide +kernel
theorem dX12_copies_25 : decode cX12_copies 25 = .ok (.getfield 93, 3) := by decide +kernel
theorem dX12_copies_28 : decode cX12_copies 28 = .ok (.iload_n 1, 1) := by decide +kernel
theorem dX12_copies_29 : decode cX12_copies 29 = .ok (.aload_n 0, 1) := by decide +kernel
theorem dX12_copies_30 : decode cX12_copies 30 = .ok (.getfield 93, 3) := by decide +kernel
theorem dX12_copies_33 : decode cX12_copies 33 = .ok (.iload_n 2, 1) := by decide +kernel
theorem dX12_copies_34 : decode cX12_copies 34 = .ok (.iaload, 1) := by decide +kernel
theorem dX12_copies_35 : decode cX12_copies 35 = .ok (.iastore, 1) := by decide +kernel
theorem dX12_copies_36 : decode cX12_copies 36 = .ok (.aload_n 0, 1) := by decide +kernel
theorem dX12_copies_37 : decode cX12_copies 37 = .ok (.getfield 96, 3) := by decide +kernel
theorem dX12_copies_40 : decode cX12_copies 40 = .ok (.iload_n 1, 1) := by decide +kernel
theorem dX12_copies_41 : decode cX12_copies 41 = .ok (.aload_n 0, 1) := by decide +kernel
theorem dX12_copies_42 : decode cX12_copies 42 = .ok (.getfield 96, 3) := by decide +kernel
theorem dX12_copies_45 : decode cX12_copies 45 = .ok (.iload_n 2, 1) := by decide +kernel
theorem dX12_copies_46 : decode cX12_copies 46 = .ok (.iaload, 1) := by decide +kernel
theorem dX12_copies_47 : decode cX12_copies 47 = .ok (.iastore, 1) := by decide +kernel
theorem dX12_copies_48 : decode cX12_copies 48 = .ok (.aload_n 0, 1) := by decide +kernel
theorem dX12_copies_49 : decode cX12_copies 49 = .ok (.getfield 99, 3) := by decide +kernel
theorem dX12_copies_52 : decode cX12_copies 52 = .ok (.iload_n 1, 1) := by decide +kernel
theorem dX12_copies_53 : decode cX12_copies 53 = .ok (.aload_n 0, 1) := by decide +kernel
theorem dX12_copies_54 : decode cX12_copies 54 = .ok (.getfield 99, 3) := by decide +kernel
theorem dX12_copies_57 : decode cX12_copies 57 = .ok (.iload_n 2, 1) := by decide +kernel
theorem dX12_copies_58 : decode cX12_copies 58 = .ok (.iaload, 1) := by decide +kernel
theorem dX12_copies_59 : decode cX12_copies 59 = .ok (.iastore, 1) := by decide +kernel
theorem dX12_copies_60 : decode cX12_copies 60 = .ok (.aload_n 0, 1) := by decide +kernel
theorem dX12_copies_61 : decode cX12_copies 61 = .ok (.getfield 102, 3) := by decide +kernel
theorem dX12_copies_64 : decode cX12_copies 64 = .ok (.iload_n 1, 1) := by decide +kernel
theorem dX12_copies_65 : decode cX12_copies 65 = .ok (.aload_n 0, 1) := by decide +kernel
theorem dX12_copies_66 : decode cX12_copies 66 = .ok (.getfield 102, 3) := by decide +kernel
theorem dX12_copies_69 : decode cX12_copies 69 = .ok (.iload_n 2, 1) := by decide +kernel
theorem dX12_copies_70 : decode cX12_copies 70 = .ok (.iaload, 1) := by decide +kernel
theorem dX12_copies_71 : decode cX12_copies 71 = .ok (.iastore, 1) := by decide +kernel
theorem dX12_copies_72 : decode cX12_copies 72 = .ok (.aload_n 0, 1) := by decide +kernel
theorem dX12_copies_73 : decode cX12_copies 73 = .ok (.getfield 105, 3) := by decide +kernel
theorem dX12_copies_76 : decode cX12_copies 76 = .ok (.iload_n 1, 1) := by decide +kernel
theorem dX12_copies_77 : decode cX12_copies 77 = .ok (.aload_n 0, 1) := by decide +kernel
theorem dX12_copies_78 : decode cX12_copies 78 = .ok (.getfield 105, 3) := by decide +kernel
theorem dX12_copies_81 : decode cX12_copies 81 = .ok (.iload_n 2, 1) := by decide +kernel
theorem dX12_copies_82 : decode cX12_copies 82 = .ok (.iaload, 1) := by decide +kernel
theorem dX12_copies_83 : decode cX12_copies 83 = .ok (.iastore, 1) := by decide +kernel
theorem dX12_copies_84 : decode cX12_copies 84 = .ok (.iconst 0, 1) := by decide +kernel
theorem dX12_copies_85 : decode cX12_copies 85 = .ok (.istore_n 3, 1) := by decide +kernel
theorem dX12_copies_86 : decode cX12_copies 86 = .ok (.iload_n 3, 1) := by decide +kernel
theorem dX12_copies_87 : decode cX12_copies 87 = .ok (.bipush 9, 2) := by decide +kernel
theorem dX12_copies_89 : decode cX12_copies 89 = .ok (.if_icmp .ge 53, 3) := by decide +kernel
theorem dX12_copies_92 : decode cX12_copies 92 = .ok (.aload_n 0, 1) := by decide +kernel
theorem dX12_copies_93 : decode cX12_copies 93 = .ok (.getfield 108, 3) := by decide +kernel
theorem dX12_copies_96 : decode cX12_copies 96 = .ok (.bipush 9, 2) := by decide +kernel
theorem dX12_copies_98 : decode cX12_copies 98 = .ok (.iload_n 1, 1) := by decide +kernel
theorem dX12_copies_99 : decode cX12_copies 99 = .ok (.imul, 1) := by decide +kernel
theorem dX12_copies_100 : decode cX12_copies 100 = .ok (.iload_n 3, 1) := by decide +kernel
theorem dX12_copies_101 : decode cX12_copies 101 = .ok (.iadd, 1) := by decide +kernel
theorem dX12_copies_102 : decode cX12_copies 102 = .ok (.aload_n 0, 1) := by decide +kernel
theorem dX12_copies_103 : decode cX12_copies 103 = .ok (.getfield 108, 3) := by decide +kernel
theorem dX12_copies_106 : decode cX12_copies 106 = .ok (.bipush 9, 2) := by decide +kernel
theorem dX12_copies_108 : decode cX12_copies 108 = .ok (.iload_n 2, 1) := by decide +kernel
theorem dX12_copies_109 : decode cX12_copies 109 = .ok (.imul, 1) := by decide +kernel
theorem dX12_copies_110 : decode cX12_copies 110 = .ok (.iload_n 3, 1) := by decide +kernel
theorem dX12_copies_111 : decode cX12_copies 111 = .ok (.iadd, 1) := by decide +kernel
theorem dX12_copies_112 : decode cX12_copies 112 = .ok (.iaload, 1) := by decide +kernel
theorem dX12_copies_113 : decode cX12_copies 113 = .ok (.iastore, 1) := by decide +kernel
theorem dX12_copies_114 : decode cX12_copies 114 = .ok (.aload_n 0, 1) := by decide +kernel
theorem dX12_copies_115 : decode cX12_copies 115 = .ok (.getfield 111, 3) := by decide +kernel
theorem dX12_copies_118 : decode cX12_copies 118 = .ok (.bipush 9, 2) := by decide +kernel
theorem dX12_copies_120 : decode cX12_copies 120 = .ok (.iload_n 1, 1) := by decide +kernel
theorem dX12_copies_121 : decode cX12_copies 121 = .ok (.imul, 1) := by decide +kernel
theorem dX12_copies_122 : decode cX12_copies 122 = .ok (.iload_n 3, 1) := by decide +kernel
theorem dX12_copies_123 : decode cX12_copies 123 = .ok (.iadd, 1) := by decide +kernel
theorem dX12_copies_124 : decode cX12_copies 124 = .ok (.aload_n 0, 1) := by decide +kernel
theorem dX12_copies_125 : decode cX12_copies 125 = .ok (.getfield 111, 3) := by decide +kernel
theorem dX12_copies_128 : decode cX12_copies 128 = .ok (.bipush 9, 2) := by decide +kernel
theorem dX12_copies_130 : decode cX12_copies 130 = .ok (.iload_n 2, 1) := by decide +kernel
theorem dX12_copies_131 : decode cX12_copies 131 = .ok (.imul, 1) := by decide +kernel
theorem dX12_copies_132 : decode cX12_copies 132 = .ok (.iload_n 3, 1) := by decide +kernel
theorem dX12_copies_133 : decode cX12_copies 133 = .ok (.iadd, 1) := by decide +kernel
theorem dX12_copies_134 : decode cX12_copies 134 = .ok (.baload, 1) := by decide +kernel
theorem dX12_copies_135 : decode cX12_copies 135 = .ok (.bastore, 1) := by decide +kernel
theorem dX12_copies_136 : decode cX12_copies 136 = .ok (.iinc 3 1, 3) := by decide +kernel
theorem dX12_copies_139 : decode cX12_copies 139 = .ok (.goto (-53), 3) := by decide +kernel
theorem dX12_copies_142 : decode cX12_copies 142 = .ok (.return_, 1) := by decide +kernel
noncomputable def b_X12_copies_0 (rec : Rk) (x1 x2 : Int) (h : Hp) : Option (Int × Hp) :=
  ck (0 ≤ x2 ∧ x2 < 23) <|
  ck (0 ≤ x1 ∧ x1 < 23) <|
  lt (sI h 84 0 x1 (gI h 84 0 x2)) fun h1 =>
  ck (0 ≤ x2 ∧ x2 < 23) <|
  ck (0 ≤ x1 ∧ x1 < 23) <|
  lt (sI h1 85 0 x1 (gI h1 85 0 x2)) fun h2 =>
  ck (0 ≤ x2 ∧ x2 < 23) <|
  ck (0 ≤ x1 ∧ x1 < 23) <|
  lt (sI h2 86 0 x1 (gI h2 86 0 x2)) fun h3 =>
  ck (0 ≤ x2 ∧ x2 < 23) <|
  ck (0 ≤ x1 ∧ x1 < 23) <|
  lt (sI h3 87 0 x1 (gI h3 87 0 x2)) fun h4 =>
  ck (0 ≤ x2 ∧ x2 < 23) <|
  ck (0 ≤ x1 ∧ x1 < 23) <|
  lt (sI h4 88 0 x1 (gI h4 88 0 x2)) fun h5 =>
  ck (0 ≤ x2 ∧ x2 < 23) <|
  ck (0 ≤ x1 ∧ x1 < 23) <|
  lt (sI h5 89 0 x1 (gI h5 89 0 x2)) fun h6 =>
  ck (0 ≤ x2 ∧ x2 < 23) <|
  ck (0 ≤ x1 ∧ x1 < 23) <|
  lt (sI h6 90 0 x1 (gI h6 90 0 x2)) fun h7 =>
  rec 1 [x1, x2, 0] h7
noncomputable def b_X12_copies_1 (rec : Rk) (x1 x2 x3 : Int) (h : Hp) : Option (Int × Hp) :=
  if 9 ≤ x3 then (
    some (0, h)
  ) else (
    ck (-2147483648 ≤ 9 * x1 ∧ 9 * x1 < 2147483648) <|
    ck (-2147483648 ≤ (9 * x1) + x3 ∧ (9 * x1) + x3 < 2147483648) <|
    ck (-2147483648 ≤ 9 * x2 ∧ 9 * x2 < 2147483648) <|
    ck (-2147483648 ≤ (9 * x2) + x3 ∧ (9 * x2) + x3 < 2147483648) <|
    ck (0 ≤ ((9 * x2) + x3) ∧ ((9 * x2) + x3) < 207) <|
    ck (0 ≤ ((9 * x1) + x3) ∧ ((9 * x1) + x3) < 207) <|
    lt (sI h 91 0 ((9 * x1) + x3) (gI h 91 0 ((9 * x2) + x3))) fun h1 =>
    ck (-2147483648 ≤ 9 * x1 ∧ 9 * x1 < 2147483648) <|
    ck (-2147483648 ≤ (9 * x1) + x3 ∧ (9 * x1) + x3 < 2147483648) <|
    ck (-2147483648 ≤ 9 * x2 ∧ 9 * x2 < 2147483648) <|
    ck (-2147483648 ≤ (9 * x2) + x3 ∧ (9 * x2) + x3 < 2147483648) <|
    ck (0 ≤ ((9 * x2) + x3) ∧ ((9 * x2) + x3) < 207) <|
    ck (0 ≤ ((9 * x1) + x3) ∧ ((9 * x1) + x3) < 207) <|
    ck (0 ≤ (gI h1 92 0 ((9 * x2) + x3)) ∧ (gI h1 92 0 ((9 * x2) + x3)) < 2) <|
    lt (sI h1 92 0 ((9 * x1) + x3) (gI h1 92 0 ((9 * x2) + x3))) fun h2 =>
    ck (-2147483648 ≤ x3 + 1 ∧ x3 + 1 < 2147483648) <|
    rec 1 [x1, x2, x3 + 1] h2
  )
noncomputable def g_X12_copies (n : Nat) : Rk := Nat.rec (motive := fun _ => Rk) (fun _ _ _ => none) (fun _ rec k l h => if k = 0 then b_X12_copies_0 rec (l.getD 0 0) (l.getD 1 0) h else if k = 1 then b_X12_copies_1 rec (l.getD 0 0) (l.getD 1 0) (l.getD 2 0) h else none) n
noncomputable def f_X12_copies (x1 x2 : Int) (h : Hp) : Option (Int × Hp) := g_X12_copies FU 0 [x1, x2] h
set_option maxHeartbeats 4000000 in
set_option maxRecDepth 100000 in
theorem t_X12_copies_0 (E : xE) (d : Nat) (rec : Rk) (r : Int × Hp) (hr_86 : ∀ (x1 x2 x3 : Int) (h : Hp), Lay h → rec 1 [x1, x2, x3] h = some r → X E mX12_copies (d + 1) (0, 0) (0, 0) 86 [some (xr 12 0), some (xi x1), some (xi x2), some (xi x3)] [] h (PoV r)) (x1 x2 : Int) (h : Hp) (hL : Lay h) (hF : b_X12_copies_0 rec x1 x2 h = some r) : X E mX12_copies (d + 1) (0, 0) (0, 0) 0 [some (xr 12 0), some (xi x1), some (xi x2), none] [] h (PoV r) := by
  unfold b_X12_copies_0 at hF
  refine x_aload_n (i := 0) (b := 1) dX12_copies_0 rfl rfl rfl ?_
  refine x_getL (j := 0) (t := (84, 0, true)) (b := 4) fk_X12_87 dX12_copies_1 rfl hL rfl rfl rfl ?_
  refine x_iload_n (i := 1) (b := 5) dX12_copies_4 rfl rfl rfl ?_
  refine x_aload_n (i := 0) (b := 6) dX12_copies_5 rfl rfl rfl ?_
  refine x_getL (j := 0) (t := (84, 0, true)) (b := 9) fk_X12_87 dX12_copies_6 rfl hL rfl rfl rfl ?_
  refine x_iload_n (i := 2) (b := 10) dX12_copies_9 rfl rfl rfl ?_
  obtain ⟨hs, hF⟩ := ck_e hF
  refine x_iald (v := gI h 84 0 x2) (b := 11) ak_84 dX12_copies_10 hs rfl rfl ?_
  obtain ⟨hs, hF⟩ := ck_e hF
  have hs1 := hs
  refine x_iast (b := 12) ak_84 dX12_copies_11 hs1 rfl ?_
  obtain ⟨h1, e_h1, hF⟩ := lt_e hF
  refine x_hp (h2 := h1) e_h1 ?_
  replace hL : Lay h1 := by rw [← e_h1]; exact hL
  refine x_aload_n (i := 0) (b := 13) dX12_copies_12 rfl rfl rfl ?_
  refine x_getL (j := 0) (t := (85, 0, true)) (b := 16) fk_X12_90 dX12_copies_13 rfl hL rfl rfl rfl ?_
  refine x_iload_n (i := 1) (b := 17) dX12_copies_16 rfl rfl rfl ?_
  refine x_aload_n (i := 0) (b := 18) dX12_copies_17 rfl rfl rfl ?_
  refine x_getL (j := 0) (t := (85, 0, true)) (b := 21) fk_X12_90 dX12_copies_18 rfl hL rfl rfl rfl ?_
  refine x_iload_n (i := 2) (b := 22) dX12_copies_21 rfl rfl rfl ?_
  obtain ⟨hs, hF⟩ := ck_e hF
  refine x_iald (v := gI h1 85 0 x2) (b := 23) ak_85 dX12_copies_22 hs rfl rfl ?_
  obtain ⟨hs, hF⟩ := ck_e hF
  have hs1 := hs
  refine x_iast (b := 24) ak_85 dX12_copies_23 hs1 rfl ?_
  obtain ⟨h2, e_h2, hF⟩ := lt_e hF
  refine x_hp (h2 := h2) e_h2 ?_
  replace hL : Lay h2 := by rw [← e_h2]; exact hL
  refine x_aload_n (i := 0) (b := 25) dX12_copies_24 rfl rfl rfl ?_
  refine x_getL (j := 0) (t := (86, 0, true)) (b := 28) fk_X12_93 dX12_copies_25 rfl hL rfl rfl rfl ?_
  refine x_iload_n (i := 1) (b := 29) dX12_copies_28 rfl rfl rfl ?_
  refine x_aload_n (i := 0) (b := 30) dX12_copies_29 rfl rfl rfl ?_
  refine x_getL (j := 0) (t := (86, 0, true)) (b := 33) fk_X12_93 dX12_copies_30 rfl hL rfl rfl rfl ?_
  refine x_iload_n (i := 2) (b := 34) dX12_copies_33 rfl rfl rfl ?_
  obtain ⟨hs, hF⟩ := ck_e hF
  refine x_iald (v := gI h2 86 0 x2) (b := 35) ak_86 dX12_copies_34 hs rfl rfl ?_
  obtain ⟨hs, hF⟩ := ck_e hF
  have hs1 := hs
  refine x_iast (b := 36) ak_86 dX12_copies_35 hs1 rfl ?_
  obtain ⟨h3, e_h3, hF⟩ := lt_e hF
  refine x_hp (h2 := h3) e_h3 ?_
  replace hL : Lay h3 := by rw [← e_h3]; exact hL
  refine x_aload_n (i := 0) (b := 37) dX12_copies_36 rfl rfl rfl ?_
  refine x_getL (j := 0) (t := (87, 0, true)) (b := 40) fk_X12_96 dX12_copies_37 rfl hL rfl rfl rfl ?_
  refine x_iload_n (i := 1) (b := 41) dX12_copies_40 rfl rfl rfl ?_
  refine x_aload_n (i := 0) (b := 42) dX12_copies_41 rfl rfl rfl ?_
  refine x_getL (j := 0) (t := (87, 0, true)) (b := 45) fk_X12_96 dX12_copies_42 rfl hL rfl rfl rfl ?_
  refine x_iload_n (i := 2) (b := 46) dX12_copies_45 rfl rfl rfl ?_
  obtain ⟨hs, hF⟩ := ck_e hF
  refine x_iald (v := gI h3 87 0 x2) (b := 47) ak_87 dX12_copies_46 hs rfl rfl ?_
  obtain ⟨hs, hF⟩ := ck_e hF
  have hs1 := hs
  refine x_iast (b := 48) ak_87 dX12_copies_47 hs1 rfl ?_
  obtain ⟨h4, e_h4, hF⟩ := lt_e hF
  refine x_hp (h2 := h4) e_h4 ?_
  replace hL : Lay h4 := by rw [← e_h4]; exact hL
  refine x_aload_n (i := 0) (b := 49) dX12_copies_48 rfl rfl rfl ?_
  refine x_getL (j := 0) (t := (88, 0, true)) (b := 52) fk_X12_99 dX12_copies_49 rfl hL rfl rfl rfl ?_
  refine x_iload_n (i := 1) (b := 53) dX12_copies_52 rfl rfl rfl ?_
  refine x_aload_n (i := 0) (b := 54) dX12_copies_53 rfl rfl rfl ?_
  refine x_getL (j := 0) (t := (88, 0, true)) (b := 57) fk_X12_99 dX12_copies_54 rfl hL rfl rfl rfl ?_
  refine x_iload_n (i := 2) (b := 58) dX12_copies_57 rfl rfl rfl ?_
  obtain ⟨hs, hF⟩ := ck_e hF
  refine x_iald (v := gI h4 88 0 x2) (b := 59) ak_88 dX12_copies_58 hs rfl rfl ?_
  obtain ⟨hs, hF⟩ := ck_e hF
  have hs1 := hs
  refine x_iast (b := 60) ak_88 dX12_copies_59 hs1 rfl ?_
  obtain ⟨h5, e_h5, hF⟩ := lt_e hF
  refine x_hp (h2 := h5) e_h5 ?_
  replace hL : Lay h5 := by rw [← e_h5]; exact hL
  refine x_aload_n (i := 0) (b := 61) dX12_copies_60 rfl rfl rfl ?_
  refine x_getL (j := 0) (t := (89, 0, true)) (b := 64) fk_X12_102 dX12_copies_61 rfl hL rfl rfl rfl ?_
  refine x_iload_n (i := 1) (b := 65) dX12_copies_64 rfl rfl rfl ?_
  refine x_aload_n (i := 0) (b := 66) dX12_copies_65 rfl rfl rfl ?_
  refine x_getL (j := 0) (t := (89, 0, true)) (b := 69) fk_X12_102 dX12_copies_66 rfl hL rfl rfl rfl ?_
  refine x_iload_n (i := 2) (b := 70) dX12_copies_69 rfl rfl rfl ?_
  obtain ⟨hs, hF⟩ := ck_e hF
  refine x_iald (v := gI h5 89 0 x2) (b := 71) ak_89 dX12_copies_70 hs rfl rfl ?_
  obtain ⟨hs, hF⟩ := ck_e hF
  have hs1 := hs
  refine x_iast (b := 72) ak_89 dX12_copies_71 hs1 rfl ?_
  obtain ⟨h6, e_h6, hF⟩ := lt_e hF
  refine x_hp (h2 := h6) e_h6 ?_
  replace hL : Lay h6 := by rw [← e_h6]; exact hL
  refine x_aload_n (i := 0) (b := 73) dX12_copies_72 rfl rfl rfl ?_
  refine x_getL (j := 0) (t := (90, 0, true)) (b := 76) fk_X12_105 dX12_copies_73 rfl hL rfl rfl rfl ?_
  refine x_iload_n (i := 1) (b := 77) dX12_copies_76 rfl rfl rfl ?_
  refine x_aload_n (i := 0) (b := 78) dX12_copies_77 rfl rfl rfl ?_
  refine x_getL (j := 0) (t := (90, 0, true)) (b := 81) fk_X12_105 dX12_copies_78 rfl hL rfl rfl rfl ?_
  refine x_iload_n (i := 2) (b := 82) dX12_copies_81 rfl rfl rfl ?_
  obtain ⟨hs, hF⟩ := ck_e hF
  refine x_iald (v := gI h6 90 0 x2) (b := 83) ak_90 dX12_copies_82 hs rfl rfl ?_
  obtain ⟨hs, hF⟩ := ck_e hF
  have hs1 := hs
  refine x_iast (b := 84) ak_90 dX12_copies_83 hs1 rfl ?_
  obtain ⟨h7, e_h7, hF⟩ := lt_e hF
  refine x_hp (h2 := h7) e_h7 ?_
  replace hL : Lay h7 := by rw [← e_h7]; exact hL
  refine x_iconst (n := 0) (b := 85) dX12_copies_84 (by decide) rfl ?_
  refine x_istore_n (i := 3) (b := 86) (ls2 := [some (xr 12 0), some (xi x1), some (xi x2), some (xi 0)]) dX12_copies_85 rfl (Nat.le_of_ble_eq_true rfl) rfl rfl ?_
  exact x_dp (ls2 := [some (xr 12 0), some (xi x1), some (xi x2), some (xi 0)]) ⟨rfl, rfl, rfl, rfl, trivial⟩ (hr_86 x1 x2 0 h7 hL hF)
set_option maxHeartbeats 4000000 in
set_option maxRecDepth 100000 in
theorem t_X12_copies_1 (E : xE) (d : Nat) (rec : Rk) (r : Int × Hp) (hr_86 : ∀ (x1 x2 x3 : Int) (h : Hp), Lay h → rec 1 [x1, x2, x3] h = some r → X E mX12_copies (d + 1) (0, 0) (0, 0) 86 [some (xr 12 0), some (xi x1), some (xi x2), some (xi x3)] [] h (PoV r)) (x1 x2 x3 : Int) (h : Hp) (hL : Lay h) (hF : b_X12_copies_1 rec x1 x2 x3 h = some r) : X E mX12_copies (d + 1) (0, 0) (0, 0) 86 [some (xr 12 0), some (xi x1), some (xi x2), some (xi x3)] [] h (PoV r) := by
  unfold b_X12_copies_1 at hF
  refine x_iload_n (i := 3) (b := 87) dX12_copies_86 rfl rfl rfl ?_
  refine x_bipush (n := 9) (b := 89) dX12_copies_87 (by decide) rfl ?_
  refine x_icmp_ge (tgt := 142) (b := 92) dX12_copies_89 (by decide) rfl (fun hc => ?_) (fun hc => ?_)
  · replace hF := br_T hc hF
    refine x_return dX12_copies_142 rfl ⟨Nat.le_refl _, Nat.le_refl _⟩ ?_
    cases hF
    exact ⟨rfl, rfl, hL⟩
  · replace hF := br_F hc hF
    refine x_aload_n (i := 0) (b := 93) dX12_copies_92 rfl rfl rfl ?_
    refine x_getL (j := 0) (t := (91, 0, true)) (b := 96) fk_X12_108 dX12_copies_93 rfl hL rfl rfl rfl ?_
    refine x_bipush (n := 9) (b := 98) dX12_copies_96 (by decide) rfl ?_
    refine x_iload_n (i := 1) (b := 99) dX12_copies_98 rfl rfl rfl ?_
    obtain ⟨hs, hF⟩ := ck_e hF
    refine x_imul (b := 100) dX12_copies_99 hs rfl ?_
    refine x_iload_n (i := 3) (b := 101) dX12_copies_100 rfl rfl rfl ?_
    obtain ⟨hs, hF⟩ := ck_e hF
    refine x_iadd (b := 102) dX12_copies_101 hs rfl ?_
    refine x_aload_n (i := 0) (b := 103) dX12_copies_102 rfl rfl rfl ?_
    refine x_getL (j := 0) (t := (91, 0, true)) (b := 106) fk_X12_108 dX12_copies_103 rfl hL rfl rfl rfl ?_
    refine x_bipush (n := 9) (b := 108) dX12_copies_106 (by decide) rfl ?_
    refine x_iload_n (i := 2) (b := 109) dX12_copies_108 rfl rfl rfl ?_
    obtain ⟨hs, hF⟩ := ck_e hF
    refine x_imul (b := 110) dX12_copies_109 hs rfl ?_
    refine x_iload_n (i := 3) (b := 111) dX12_copies_110 rfl rfl rfl ?_
    obtain ⟨hs, hF⟩ := ck_e hF
    refine x_iadd (b := 112) dX12_copies_111 hs rfl ?_
    obtain ⟨hs, hF⟩ := ck_e hF
    refine x_iald (v := gI h 91 0 ((9 * x2) + x3)) (b := 113) ak_91 dX12_copies_112 hs rfl rfl ?_
    obtain ⟨hs, hF⟩ := ck_e hF
    have hs1 := hs
    refine x_iast (b := 114) ak_91 dX12_copies_113 hs1 rfl ?_
    obtain ⟨h1, e_h1, hF⟩ := lt_e hF
    refine x_hp (h2 := h1) e_h1 ?_
    replace hL : Lay h1 := by rw [← e_h1]; exact hL
    refine x_aload_n (i := 0) (b := 115) dX12_copies_114 rfl rfl rfl ?_
    refine x_getL (j := 0) (t := (92, 0, true)) (b := 118) fk_X12_111 dX12_copies_115 rfl hL rfl rfl rfl ?_
    refine x_bipush (n := 9) (b := 120) dX12_copies_118 (by decide) rfl ?_
    refine x_iload_n (i := 1) (b := 121) dX12_copies_120 rfl rfl rfl ?_
    obtain ⟨hs, hF⟩ := ck_e hF
    refine x_imul (b := 122) dX12_copies_121 hs rfl ?_
    refine x_iload_n (i := 3) (b := 123) dX12_copies_122 rfl rfl rfl ?_
    obtain ⟨hs, hF⟩ := ck_e hF
    refine x_iadd (b := 124) dX12_copies_123 hs rfl ?_
    refine x_aload_n (i := 0) (b := 125) dX12_copies_124 rfl rfl rfl ?_
    refine x_getL (j := 0) (t := (92, 0, true)) (b := 128) fk_X12_111 dX12_copies_125 rfl hL rfl rfl rfl ?_
    refine x_bipush (n := 9) (b := 130) dX12_copies_128 (by decide) rfl ?_
    refine x_iload_n (i := 2) (b := 131) dX12_copies_130 rfl rfl rfl ?_
    obtain ⟨hs, hF⟩ := ck_e hF
    refine x_imul (b := 132) dX12_copies_131 hs rfl ?_
    refine x_iload_n (i := 3) (b := 133) dX12_copies_132 rfl rfl rfl ?_
    obtain ⟨hs, hF⟩ := ck_e hF
    refine x_iadd (b := 134) dX12_copies_133 hs rfl ?_
    obtain ⟨hs, hF⟩ := ck_e hF
    refine x_zald (v := gI h1 92 0 ((9 * x2) + x3)) (b := 135) ak_92 dX12_copies_134 hs rfl rfl ?_
    obtain ⟨hs, hF⟩ := ck_e hF
    have hs1 := hs
    obtain ⟨hs, hF⟩ := ck_e hF
    refine x_zast (b := 136) ak_92 dX12_copies_135 hs1 hs rfl ?_
    obtain ⟨h2, e_h2, hF⟩ := lt_e hF
    refine x_hp (h2 := h2) e_h2 ?_
    replace hL : Lay h2 := by rw [← e_h2]; exact hL
    obtain ⟨hs, hF⟩ := ck_e hF
    refine x_iinc (i := 3) (b := 139) (ls2 := [some (xr 12 0), some (xi x1), some (xi x2), some (xi (x3 + 1))]) dX12_copies_136 rfl (Nat.le_of_ble_eq_true rfl) hs rfl rfl ?_
    refine x_goto (tgt := 86) dX12_copies_139 (by decide) ?_
    exact x_dp (ls2 := [some (xr 12 0), some (xi x1), some (xi x2), some (xi (x3 + 1))]) ⟨rfl, rfl, rfl, rfl, trivial⟩ (hr_86 x1 x2 (x3 + 1) h2 hL hF)
set_option maxHeartbeats 4000000 in
set_option maxRecDepth 100000 in
theorem u_X12_copies (E : xE) (d : Nat) (r : Int × Hp) : ∀ n : Nat, (∀ (x1 x2 : Int) (h : Hp), Lay h → g_X12_copies n 0 [x1, x2] h = some r → X E mX12_copies (d + 1) (0, 0) (0, 0) 0 [some (xr 12 0), some (xi x1), some (xi x2), none] [] h (PoV r)) ∧ (∀ (x1 x2 x3 : Int) (h : Hp), Lay h → g_X12_copies n 1 [x1, x2, x3] h = some r → X E mX12_copies (d + 1) (0, 0) (0, 0) 86 [some (xr 12 0), some (xi x1), some (xi x2), some (xi x3)] [] h (PoV r)) := by
  intro n
  induction n with
  | zero => exact ⟨fun _ _ _ _ hF => no_e (r := r) hF, fun _ _ _ _ _ hF => no_e (r := r) hF⟩
  | succ n ih => exact ⟨fun x1 x2 h hL hF => t_X12_copies_0 E d (g_X12_copies n) r ih.2 x1 x2 h hL hF, fun x1 x2 x3 h hL hF => t_X12_copies_1 E d (g_X12_copies n) r ih.2 x1 x2 x3 h hL hF⟩
theorem c_X12_copies (d : Nat) (x1 x2 : Int) (h : Hp) (r : Int × Hp) (hL : Lay h) (hF : f_X12_copies x1 x2 h = some r) : Sp mX12_copies (d + 1) (0, 0) [xr 12 0, xi x1, xi x2] h (PoV r) :=
  sp_of (by decide) rfl (Nat.le_of_ble_eq_true rfl) (ls := [some (xr 12 0), some (xi x1), some (xi x2), none]) rfl (fun E _ => (u_X12_copies E d r FU).1 x1 x2 h hL hF)
theorem dX12_copiesLog_0 : decode cX12_copiesLog 0 = .ok (.iconst 0, 1) := by decide +kernel
theorem dX12_copiesLog_1 : decode cX12_copiesLog 1 = .ok (.istore_n 3, 1) := by decide +kernel
theorem dX12_copiesLog_2 : decode cX12_copiesLog 2 = .ok (.iload_n 3, 1) := by decide +kernel
theorem dX12_copiesLog_3 : decode cX12_copiesLog 3 = .ok (.bipush 60, 2) := by decide +kernel
theorem dX12_copiesLog_5 : decode cX12_copiesLog 5 = .ok (.if_icmp .ge 119, 3) := by decide +kernel
theorem dX12_copiesLog_8 : decode cX12_copiesLog 8 = .ok (.aload_n 0, 1) := by decide +kernel
theorem dX12_copiesLog_9 : decode cX12_copiesLog 9 = .ok (.getfield 114, 3) := by decide +kernel
theorem dX12_copiesLog_12 : decode cX12_copiesLog 12 = .ok (.bipush 60, 2) := by decide +kernel
theorem dX12_copiesLog_14 : decode cX12_copiesLog 14 = .ok (.iload_n 1, 1) := by decide +kernel
theorem dX12_copiesLog_15 : decode cX12_copiesLog 15 = .ok (.imul, 1) := by decide +kernel
theorem dX12_copiesLog_16 : decode cX12_copiesLog 16 = .ok (.iload_n 3, 1) := by decide +kernel
theorem dX12_copiesLog_17 : decode cX12_copiesLog 17 = .ok (.iadd, 1) := by decide +kernel
theorem dX12_copiesLog_18 : decode cX12_copiesLog 18 = .ok (.aload_n 0, 1) := by decide +kernel
theorem dX12_copiesLog_19 : decode cX12_copiesLog 19 = .ok (.getfield 114, 3) := by decide +kernel
theorem dX12_copiesLog_22 : decode cX12_copiesLog 22 = .ok (.bipush 60, 2) := by decide +kernel
theorem dX12_copiesLog_24 : decode cX12_copiesLog 24 = .ok (.iload_n 2, 1) := by decide +kernel
theorem dX12_copiesLog_25 : decode cX12_copiesLog 25 = .ok (.imul, 1) := by decide +kernel
theorem dX12_copiesLog_26 : decode cX12_copiesLog 26 = .ok (.iload_n 3, 1) := by decide +kernel
theorem dX12_copiesLog_27 : decode cX12_copiesLog 27 = .ok (.iadd, 1) := by decide +kernel
theorem dX12_copiesLog_28 : decode cX12_copiesLog 28 = .ok (.iaload, 1) := by decide +kernel
theorem dX12_copiesLog_29 : decode cX12_copiesLog 29 = .ok (.iastore, 1) := by decide +kernel
theorem dX12_copiesLog_30 : decode cX12_copiesLog 30 = .ok (.aload_n 0, 1) := by decide +kernel
theorem dX12_copiesLog_31 : decode cX12_copiesLog 31 = .ok (.getfield 117, 3) := by decide +kernel
theorem dX12_copiesLog_34 : decode cX12_copiesLog 34 = .ok (.bipush 60, 2) := by decide +kernel
theorem dX12_copiesLog_36 : decode cX12_copiesLog 36 = .ok (.iload_n 1, 1) := by decide +kernel
theorem dX12_copiesLog_37 : decode cX12_copiesLog 37 = .ok (.imul, 1) := by decide +kernel
theorem dX12_copiesLog_38 : decode cX12_copiesLog 38 = .ok (.iload_n 3, 1) := by decide +kernel
theorem dX12_copiesLog_39 : decode cX12_copiesLog 39 = .ok (.iadd, 1) := by decide +kernel
theorem dX12_copiesLog_40 : decode cX12_copiesLog 40 = .ok (.aload_n 0, 1) := by decide +kernel
theorem dX12_copiesLog_41 : decode cX12_copiesLog 41 = .ok (.getfield 117, 3) := by decide +kernel
theorem dX12_copiesLog_44 : decode cX12_copiesLog 44 = .ok (.bipush 60, 2) := by decide +kernel
theorem dX12_copiesLog_46 : decode cX12_copiesLog 46 = .ok (.iload_n 2, 1) := by decide +kernel
theorem dX12_copiesLog_47 : decode cX12_copiesLog 47 = .ok (.imul, 1) := by decide +kernel
theorem dX12_copiesLog_48 : decode cX12_copiesLog 48 = .ok (.iload_n 3, 1) := by decide +kernel
theorem dX12_copiesLog_49 : decode cX12_copiesLog 49 = .ok (.iadd, 1) := by decide +kernel
theorem dX12_copiesLog_50 : decode cX12_copiesLog 50 = .ok (.iaload, 1) := by decide +kernel
theorem dX12_copiesLog_51 : decode cX12_copiesLog 51 = .ok (.iastore, 1) := by decide +kernel
theorem dX12_copiesLog_52 : decode cX12_copiesLog 52 = .ok (.aload_n 0, 1) := by decide +kernel
theorem dX12_copiesLog_53 : decode cX12_copiesLog 53 = .ok (.getfield 120, 3) := by decide +kernel
theorem dX12_copiesLog_56 : decode cX12_copiesLog 56 = .ok (.bipush 60, 2) := by decide +kernel
theorem dX12_copiesLog_58 : decode cX12_copiesLog 58 = .ok (.iload_n 1, 1) := by decide +kernel
theorem dX12_copiesLog_59 : decode cX12_copiesLog 59 = .ok (.imul, 1) := by decide +kernel
theorem dX12_copiesLog_60 : decode cX12_copiesLog 60 = .ok (.iload_n 3, 1) := by decide +kernel
theorem dX12_copiesLog_61 : decode cX12_copiesLog 61 = .ok (.iadd, 1) := by decide +kernel
theorem dX12_copiesLog_62 : decode cX12_copiesLog 62 = .ok (.aload_n 0, 1) := by decide +kernel
theorem dX12_copiesLog_63 : decode cX12_copiesLog 63 = .ok (.getfield 120, 3) := by decide +kernel
theorem dX12_copiesLog_66 : decode cX12_copiesLog 66 = .ok (.bipush 60, 2) := by decide +kernel
theorem dX12_copiesLog_68 : decode cX12_copiesLog 68 = .ok (.iload_n 2, 1) := by decide +kernel
theorem dX12_copiesLog_69 : decode cX12_copiesLog 69 = .ok (.imul, 1) := by decide +kernel
theorem dX12_copiesLog_70 : decode cX12_copiesLog 70 = .ok (.iload_n 3, 1) := by decide +kernel
theorem dX12_copiesLog_71 : decode cX12_copiesLog 71 = .ok (.iadd, 1) := by decide +kernel
theorem dX12_copiesLog_72 : decode cX12_copiesLog 72 = .ok (.iaload, 1) := by decide +kernel
theorem dX12_copiesLog_73 : decode cX12_copiesLog 73 = .ok (.iastore, 1) := by decide +kernel
theorem dX12_copiesLog_74 : decode cX12_copiesLog 74 = .ok (.aload_n 0, 1) := by decide +kernel
theorem dX12_copiesLog_75 : decode cX12_copiesLog 75 = .ok (.getfield 123, 3) := by decide +kernel
theorem dX12_copiesLog_78 : decode cX12_copiesLog 78 = .ok (.bipush 60, 2) := by decide +kernel
theorem dX12_copiesLog_80 : decode cX12_copiesLog 80 = .ok (.iload_n 1, 1) := by decide +kernel
theorem dX12_copiesLog_81 : decode cX12_copiesLog 81 = .ok (.imul, 1) := by decide +kernel
theorem dX12_copiesLog_82 : decode cX12_copiesLog 82 = .ok (.iload_n 3, 1) := by decide +kernel
theorem dX12_copiesLog_83 : decode cX12_copiesLog 83 = .ok (.iadd, 1) := by decide +kernel
theorem dX12_copiesLog_84 : decode cX12_copiesLog 84 = .ok (.aload_n 0, 1) := by decide +kernel
theorem dX12_copiesLog_85 : decode cX12_copiesLog 85 = .ok (.getfield 123, 3) := by decide +kernel
theorem dX12_copiesLog_88 : decode cX12_copiesLog 88 = .ok (.bipush 60, 2) := by decide +kernel
theorem dX12_copiesLog_90 : decode cX12_copiesLog 90 = .ok (.iload_n 2, 1) := by decide +kernel
theorem dX12_copiesLog_91 : decode cX12_copiesLog 91 = .ok (.imul, 1) := by decide +kernel
theorem dX12_copiesLog_92 : decode cX12_copiesLog 92 = .ok (.iload_n 3, 1) := by decide +kernel
theorem dX12_copiesLog_93 : decode cX12_copiesLog 93 = .ok (.iadd, 1) := by decide +kernel
theorem dX12_copiesLog_94 : decode cX12_copiesLog 94 = .ok (.iaload, 1) := by decide +kernel
theorem dX12_copiesLog_95 : decode cX12_copiesLog 95 = .ok (.iastore, 1) := by decide +kernel
theorem dX12_copiesLog_96 : decode cX12_copiesLog 96 = .ok (.aload_n 0, 1) := by decide +kernel
theorem dX12_copiesLog_97 : decode cX12_copiesLog 97 = .ok (.getfield 126, 3) := by decide +kernel
theorem dX12_copiesLog_100 : decode cX12_copiesLog 100 = .ok (.bipush 60, 2) := by decide +kernel
theorem dX12_copiesLog_102 : decode cX12_copiesLog 102 = .ok (.iload_n 1, 1) := by decide +kernel
theorem dX12_copiesLog_103 : decode cX12_copiesLog 103 = .ok (.imul, 1) := by decide +kernel
theorem dX12_copiesLog_104 : decode cX12_copiesLog 104 = .ok (.iload_n 3, 1) := by decide +kernel
theorem dX12_copiesLog_105 : decode cX12_copiesLog 105 = .ok (.iadd, 1) := by decide +kernel
theorem dX12_copiesLog_106 : decode cX12_copiesLog 106 = .ok (.aload_n 0, 1) := by decide +kernel
theorem dX12_copiesLog_107 : decode cX12_copiesLog 107 = .ok (.getfield 126, 3) := by decide +kernel
theorem dX12_copiesLog_110 : decode cX12_copiesLog 110 = .ok (.bipush 60, 2) := by decide +kernel
theorem dX12_copiesLog_112 : decode cX12_copiesLog 112 = .ok (.iload_n 2, 1) := by decide +kernel
theorem dX12_copiesLog_113 : decode cX12_copiesLog 113 = .ok (.imul, 1) := by decide +kernel
theorem dX12_copiesLog_114 : decode cX12_copiesLog 114 = .ok (.iload_n 3, 1) := by decide +kernel
theorem dX12_copiesLog_115 : decode cX12_copiesLog 115 = .ok (.iadd, 1) := by decide +kernel
theorem dX12_copiesLog_116 : decode cX12_copiesLog 116 = .ok (.iaload, 1) := by decide +kernel
theorem dX12_copiesLog_117 : decode cX12_copiesLog 117 = .ok (.iastore, 1) := by decide +kernel
theorem dX12_copiesLog_118 : decode cX12_copiesLog 118 = .ok (.iinc 3 1, 3) := by decide +kernel
theorem dX12_copiesLog_121 : decode cX12_copiesLog 121 = .ok (.goto (-119), 3) := by decide +kernel
theorem dX12_copiesLog_124 : decode cX12_copiesLog 124 = .ok (.return_, 1) := by decide +kernel
noncomputable def b_X12_copiesLog_0 (rec : Rk) (x1 x2 : Int) (h : Hp) : Option (Int × Hp) :=
  rec 1 [x1, x2, 0] h
noncomputable def b_X12_copiesLog_1 (rec : Rk) (x1 x2 x3 : Int) (h : Hp) : Option (Int × Hp) :=
  if 60 ≤ x3 then (
    some (0, h)
  ) else (
    ck (-2147483648 ≤ 60 * x1 ∧ 60 * x1 < 2147483648) <|
    ck (-2147483648 ≤ (60 * x1) + x3 ∧ (60 * x1) + x3 < 2147483648) <|
    ck (-2147483648 ≤ 60 * x2 ∧ 60 * x2 < 2147483648) <|
    ck (-2147483648 ≤ (60 * x2) + x3 ∧ (60 * x2) + x3 < 2147483648) <|
    ck (0 ≤ ((60 * x2) + x3) ∧ ((60 * x2) + x3) < 180) <|
    ck (0 ≤ ((60 * x1) + x3) ∧ ((60 * x1) + x3) < 180) <|
    lt (sI h 93 0 ((60 * x1) + x3) (gI h 93 0 ((60 * x2) + x3))) fun h1 =>
    ck (-2147483648 ≤ 60 * x1 ∧ 60 * x1 < 2147483648) <|
    ck (-2147483648 ≤ (60 * x1) + x3 ∧ (60 * x1) + x3 < 2147483648) <|
    ck (-2147483648 ≤ 60 * x2 ∧ 60 * x2 < 2147483648) <|
    ck (-2147483648 ≤ (60 * x2) + x3 ∧ (60 * x2) + x3 < 2147483648) <|
    ck (0 ≤ ((60 * x2) + x3) ∧ ((60 * x2) + x3) < 180) <|
    ck (0 ≤ ((60 * x1) + x3) ∧ ((60 * x1) + x3) < 180) <|
    lt (sI h1 94 0 ((60 * x1) + x3) (gI h1 94 0 ((60 * x2) + x3))) fun h2 =>
    ck (-2147483648 ≤ 60 * x1 ∧ 60 * x1 < 2147483648) <|
    ck (-2147483648 ≤ (60 * x1) + x3 ∧ (60 * x1) + x3 < 2147483648) <|
    ck (-2147483648 ≤ 60 * x2 ∧ 60 * x2 < 2147483648) <|
    ck (-2147483648 ≤ (60 * x2) + x3 ∧ (60 * x2) + x3 < 2147483648) <|
    ck (0 ≤ ((60 * x2) + x3) ∧ ((60 * x2) + x3) < 180) <|
    ck (0 ≤ ((60 * x1) + x3) ∧ ((60 * x1) + x3) < 180) <|
    lt (sI h2 95 0 ((60 * x1) + x3) (gI h2 95 0 ((60 * x2) + x3))) fun h3 =>
    ck (-2147483648 ≤ 60 * x1 ∧ 60 * x1 < 2147483648) <|
    ck (-2147483648 ≤ (60 * x1) + x3 ∧ (60 * x1) + x3 < 2147483648) <|
    ck (-2147483648 ≤ 60 * x2 ∧ 60 * x2 < 2147483648) <|
    ck (-2147483648 ≤ (60 * x2) + x3 ∧ (60 * x2) + x3 < 2147483648) <|
    ck (0 ≤ ((60 * x2) + x3) ∧ ((60 * x2) + x3) < 180) <|
    ck (0 ≤ ((60 * x1) + x3) ∧ ((60 * x1) + x3) < 180) <|
    lt (sI h3 96 0 ((60 * x1) + x3) (gI h3 96 0 ((60 * x2) + x3))) fun h4 =>
    ck (-2147483648 ≤ 60 * x1 ∧ 60 * x1 < 2147483648) <|
    ck (-2147483648 ≤ (60 * x1) + x3 ∧ (60 * x1) + x3 < 2147483648) <|
    ck (-2147483648 ≤ 60 * x2 ∧ 60 * x2 < 2147483648) <|
    ck (-2147483648 ≤ (60 * x2) + x3 ∧ (60 * x2) + x3 < 2147483648) <|
    ck (0 ≤ ((60 * x2) + x3) ∧ ((60 * x2) + x3) < 180) <|
    ck (0 ≤ ((60 * x1) + x3) ∧ ((60 * x1) + x3) < 180) <|
    lt (sI h4 97 0 ((60 * x1) + x3) (gI h4 97 0 ((60 * x2) + x3))) fun h5 =>
    ck (-2147483648 ≤ x3 + 1 ∧ x3 + 1 < 2147483648) <|
    rec 1 [x1, x2, x3 + 1] h5
  )
noncomputable def g_X12_copiesLog (n : Nat) : Rk := Nat.rec (motive := fun _ => Rk) (fun _ _ _ => none) (fun _ rec k l h => if k = 0 then b_X12_copiesLog_0 rec (l.getD 0 0) (l.getD 1 0) h else if k = 1 then b_X12_copiesLog_1 rec (l.getD 0 0) (l.getD 1 0) (l.getD 2 0) h else none) n
noncomputable def f_X12_copiesLog (x1 x2 : Int) (h : Hp) : Option (Int × Hp) := g_X12_copiesLog FU 0 [x1, x2] h
set_option maxHeartbeats 4000000 in
set_option maxRecDepth 100000 in
theorem t_X12_copiesLog_0 (E : xE) (d : Nat) (rec : Rk) (r : Int × Hp) (hr_2 : ∀ (x1 x2 x3 : Int) (h : Hp), Lay h → rec 1 [x1, x2, x3] h = some r → X E mX12_copiesLog (d + 1) (0, 0) (0, 0) 2 [some (xr 12 0), some (xi x1), some (xi x2), some (xi x3)] [] h (PoV r)) (x1 x2 : Int) (h : Hp) (hL : Lay h) (hF : b_X12_copiesLog_0 rec x1 x2 h = some r) : X E mX12_copiesLog (d + 1) (0, 0) (0, 0) 0 [some (xr 12 0), some (xi x1), some (xi x2), none] [] h (PoV r) := by
  unfold b_X12_copiesLog_0 at hF
  refine x_iconst (n := 0) (b := 1) dX12_copiesLog_0 (by decide) rfl ?_
  refine x_istore_n (i := 3) (b := 2) (ls2 := [some (xr 12 0), some (xi x1), some (xi x2), some (xi 0)]) dX12_copiesLog_1 rfl (Nat.le_of_ble_eq_true rfl) rfl rfl ?_
  exact x_dp (ls2 := [some (xr 12 0), some (xi x1), some (xi x2), some (xi 0)]) ⟨rfl, rfl, rfl, rfl, trivial⟩ (hr_2 x1 x2 0 h hL hF)
set_option maxHeartbeats 4000000 in
set_option maxRecDepth 100000 in
theorem t_X12_copiesLog_1 (E : xE) (d : Nat) (rec : Rk) (r : Int × Hp) (hr_2 : ∀ (x1 x2 x3 : Int) (h : Hp), Lay h → rec 1 [x1, x2, x3] h = some r → X E mX12_copiesLog (d + 1) (0, 0) (0, 0) 2 [some (xr 12 0), some (xi x1), some (xi x2), some (xi x3)] [] h (PoV r)) (x1 x2 x3 : Int) (h : Hp) (hL : Lay h) (hF : b_X12_copiesLog_1 rec x1 x2 x3 h = some r) : X E mX12_copiesLog (d + 1) (0, 0) (0, 0) 2 [some (xr 12 0), some (xi x1), some (xi x2), some (xi x3)] [] h (PoV r) := by
  unfold b_X12_copiesLog_1 at hF
  refine x_iload_n (i := 3) (b := 3) dX12_copiesLog_2 rfl rfl rfl ?_
  refine x_bipush (n := 60) (b := 5) dX12_copiesLog_3 (by decide) rfl ?_
  refine x_icmp_ge (tgt := 124) (b := 8) dX12_copiesLog_5 (by decide) rfl (fun hc => ?_) (fun hc => ?_)
  · replace hF := br_T hc hF
    refine x_return dX12_copiesLog_124 rfl ⟨Nat.le_refl _, Nat.le_refl _⟩ ?_
    cases hF
    exact ⟨rfl, rfl, hL⟩
  · replace hF := br_F hc hF
    refine x_aload_n (i := 0) (b := 9) dX12_copiesLog_8 rfl rfl rfl ?_
    refine x_getL (j := 0) (t := (93, 0, true)) (b := 12) fk_X12_114 dX12_copiesLog_9 rfl hL rfl rfl rfl ?_
    refine x_bipush (n := 60) (b := 14) dX12_copiesLog_12 (by decide) rfl ?_
    refine x_iload_n (i := 1) (b := 15) dX12_copiesLog_14 rfl rfl rfl ?_
    obtain ⟨hs, hF⟩ := ck_e hF
    refine x_imul (b := 16) dX12_copiesLog_15 hs rfl ?_
    refine x_iload_n (i := 3) (b := 17) dX12_copiesLog_16 rfl rfl rfl ?_
    obtain ⟨hs, hF⟩ := ck_e hF
    refine x_iadd (b := 18) dX12_copiesLog_17 hs rfl ?_
    refine x_aload_n (i := 0) (b := 19) dX12_copiesLog_18 rfl rfl rfl ?_
    refine x_getL (j := 0) (t := (93, 0, true)) (b := 22) fk_X12_114 dX12_copiesLog_19 rfl hL rfl rfl rfl ?_
    refine x_bipush (n := 60) (b := 24) dX12_copiesLog_22 (by decide) rfl ?_
    refine x_iload_n (i := 2) (b := 25) dX12_copiesLog_24 rfl rfl rfl ?_
    obtain ⟨hs, hF⟩ := ck_e hF
    refine x_imul (b := 26) dX12_copiesLog_25 hs rfl ?_
    refine x_iload_n (i := 3) (b := 27) dX12_copiesLog_26 rfl rfl rfl ?_
    obtain ⟨hs, hF⟩ := ck_e hF
    refine x_iadd (b := 28) dX12_copiesLog_27 hs rfl ?_
    obtain ⟨hs, hF⟩ := ck_e hF
    refine x_iald (v := gI h 93 0 ((60 * x2) + x3)) (b := 29) ak_93 dX12_copiesLog_28 hs rfl rfl ?_
    obtain ⟨hs, hF⟩ := ck_e hF
    have hs1 := hs
    refine x_iast (b := 30) ak_93 dX12_copiesLog_29 hs1 rfl ?_
    obtain ⟨h1, e_h1, hF⟩ := lt_e hF
    refine x_hp (h2 := h1) e_h1 ?_
    replace hL : Lay h1 := by rw [← e_h1]; exact hL
    refine x_aload_n (i := 0) (b := 31) dX12_copiesLog_30 rfl rfl rfl ?_
    refine x_getL (j := 0) (t := (94, 0, true)) (b := 34) fk_X12_117 dX12_copiesLog_31 rfl hL rfl rfl rfl ?_
    refine x_bipush (n := 60) (b := 36) dX12_copiesLog_34 (by decide) rfl ?_
    refine x_iload_n (i := 1) (b := 37) dX12_copiesLog_36 rfl rfl rfl ?_
    obtain ⟨hs, hF⟩ := ck_e hF
    refine x_imul (b := 38) dX12_copiesLog_37 hs rfl ?_
    refine x_iload_n (i := 3) (b := 39) dX12_copiesLog_38 rfl rfl rfl ?_
    obtain ⟨hs, hF⟩ := ck_e hF
    refine x_iadd (b := 40) dX12_copiesLog_39 hs rfl ?_
    refine x_aload_n (i := 0) (b := 41) dX12_copiesLog_40 rfl rfl rfl ?_
    refine x_getL (j := 0) (t := (94, 0, true)) (b := 44) fk_X12_117 dX12_copiesLog_41 rfl hL rfl rfl rfl ?_
    refine x_bipush (n := 60) (b := 46) dX12_copiesLog_44 (by decide) rfl ?_
    refine x_iload_n (i := 2) (b := 47) dX12_copiesLog_46 rfl rfl rfl ?_
    obtain ⟨hs, hF⟩ := ck_e hF
    refine x_imul (b := 48) dX12_copiesLog_47 hs rfl ?_
    refine x_iload_n (i := 3) (b := 49) dX12_copiesLog_48 rfl rfl rfl ?_
    obtain ⟨hs, hF⟩ := ck_e hF
    refine x_iadd (b := 50) dX12_copiesLog_49 hs rfl ?_
    obtain ⟨hs, hF⟩ := ck_e hF
    refine x_iald (v := gI h1 94 0 ((60 * x2) + x3)) (b := 51) ak_94 dX12_copiesLog_50 hs rfl rfl ?_
    obtain ⟨hs, hF⟩ := ck_e hF
    have hs1 := hs
    refine x_iast (b := 52) ak_94 dX12_copiesLog_51 hs1 rfl ?_
    obtain ⟨h2, e_h2, hF⟩ := lt_e hF
    refine x_hp (h2 := h2) e_h2 ?_
    replace hL : Lay h2 := by rw [← e_h2]; exact hL
    refine x_aload_n (i := 0) (b := 53) dX12_copiesLog_52 rfl rfl rfl ?_
    refine x_getL (j := 0) (t := (95, 0, true)) (b := 56) fk_X12_120 dX12_copiesLog_53 rfl hL rfl rfl rfl ?_
    refine x_bipush (n := 60) (b := 58) dX12_copiesLog_56 (by decide) rfl ?_
    refine x_iload_n (i := 1) (b := 59) dX12_copiesLog_58 rfl rfl rfl ?_
    obtain ⟨hs, hF⟩ := ck_e hF
    refine x_imul (b := 60) dX12_copiesLog_59 hs rfl ?_
    refine x_iload_n (i := 3) (b := 61) dX12_copiesLog_60 rfl rfl rfl ?_
    obtain ⟨hs, hF⟩ := ck_e hF
    refine x_iadd (b := 62) dX12_copiesLog_61 hs rfl ?_
    refine x_aload_n (i := 0) (b := 63) dX12_copiesLog_62 rfl rfl rfl ?_
    refine x_getL (j := 0) (t := (95, 0, true)) (b := 66) fk_X12_120 dX12_copiesLog_63 rfl hL rfl rfl rfl ?_
    refine x_bipush (n := 60) (b := 68) dX12_copiesLog_66 (by decide) rfl ?_
    refine x_iload_n (i := 2) (b := 69) dX12_copiesLog_68 rfl rfl rfl ?_
    obtain ⟨hs, hF⟩ := ck_e hF
    refine x_imul (b := 70) dX12_copiesLog_69 hs rfl ?_
    refine x_iload_n (i := 3) (b := 71) dX12_copiesLog_70 rfl rfl rfl ?_
    obtain ⟨hs, hF⟩ := ck_e hF
    refine x_iadd (b := 72) dX12_copiesLog_71 hs rfl ?_
    obtain ⟨hs, hF⟩ := ck_e hF
    refine x_iald (v := gI h2 95 0 ((60 * x2) + x3)) (b := 73) ak_95 dX12_copiesLog_72 hs rfl rfl ?_
    obtain ⟨hs, hF⟩ := ck_e hF
    have hs1 := hs
    refine x_iast (b := 74) ak_95 dX12_copiesLog_73 hs1 rfl ?_
    obtain ⟨h3, e_h3, hF⟩ := lt_e hF
    refine x_hp (h2 := h3) e_h3 ?_
    replace hL : Lay h3 := by rw [← e_h3]; exact hL
    refine x_aload_n (i := 0) (b := 75) dX12_copiesLog_74 rfl rfl rfl ?_
    refine x_getL (j := 0) (t := (96, 0, true)) (b := 78) fk_X12_123 dX12_copiesLog_75 rfl hL rfl rfl rfl ?_
    refine x_bipush (n := 60) (b := 80) dX12_copiesLog_78 (by decide) rfl ?_
    refine x_iload_n (i := 1) (b := 81) dX12_copiesLog_80 rfl rfl rfl ?_
    obtain ⟨hs, hF⟩ := ck_e hF
    refine x_imul (b := 82) dX12_copiesLog_81 hs rfl ?_
    refine x_iload_n (i := 3) (b := 83) dX12_copiesLog_82 rfl rfl rfl ?_
    obtain ⟨hs, hF⟩ := ck_e hF
    refine x_iadd (b := 84) dX12_copiesLog_83 hs rfl ?_
    refine x_aload_n (i := 0) (b := 85) dX12_copiesLog_84 rfl rfl rfl ?_
    refine x_getL (j := 0) (t := (96, 0, true)) (b := 88) fk_X12_123 dX12_copiesLog_85 rfl hL rfl rfl rfl ?_
    refine x_bipush (n := 60) (b := 90) dX12_copiesLog_88 (by decide) rfl ?_
    refine x_iload_n (i := 2) (b := 91) dX12_copiesLog_90 rfl rfl rfl ?_
    obtain ⟨hs, hF⟩ := ck_e hF
    refine x_imul (b := 92) dX12_copiesLog_91 hs rfl ?_
    refine x_iload_n (i := 3) (b := 93) dX12_copiesLog_92 rfl rfl rfl ?_
    obtain ⟨hs, hF⟩ := ck_e hF
    refine x_iadd (b := 94) dX12_copiesLog_93 hs rfl ?_
    obtain ⟨hs, hF⟩ := ck_e hF
    refine x_iald (v := gI h3 96 0 ((60 * x2) + x3)) (b := 95) ak_96 dX12_copiesLog_94 hs rfl rfl ?_
    obtain ⟨hs, hF⟩ := ck_e hF
    have hs1 := hs
    refine x_iast (b := 96) ak_96 dX12_copiesLog_95 hs1 rfl ?_
    obtain ⟨h4, e_h4, hF⟩ := lt_e hF
    refine x_hp (h2 := h4) e_h4 ?_
    replace hL : Lay h4 := by rw [← e_h4]; exact hL
    refine x_aload_n (i := 0) (b := 97) dX12_copiesLog_96 rfl rfl rfl ?_
    refine x_getL (j := 0) (t := (97, 0, true)) (b := 100) fk_X12_126 dX12_copiesLog_97 rfl hL rfl rfl rfl ?_
    refine x_bipush (n := 60) (b := 102) dX12_copiesLog_100 (by decide) rfl ?_
    refine x_iload_n (i := 1) (b := 103) dX12_copiesLog_102 rfl rfl rfl ?_
    obtain ⟨hs, hF⟩ := ck_e hF
    refine x_imul (b := 104) dX12_copiesLog_103 hs rfl ?_
    refine x_iload_n (i := 3) (b := 105) dX12_copiesLog_104 rfl rfl rfl ?_
    obtain ⟨hs, hF⟩ := ck_e hF
    refine x_iadd (b := 106) dX12_copiesLog_105 hs rfl ?_
    refine x_aload_n (i := 0) (b := 107) dX12_copiesLog_106 rfl rfl rfl ?_
    refine x_getL (j := 0) (t := (97, 0, true)) (b := 110) fk_X12_126 dX12_copiesLog_107 rfl hL rfl rfl rfl ?_
    refine x_bipush (n := 60) (b := 112) dX12_copiesLog_110 (by decide) rfl ?_
    refine x_iload_n (i := 2) (b := 113) dX12_copiesLog_112 rfl rfl rfl ?_
    obtain ⟨hs, hF⟩ := ck_e hF
    refine x_imul (b := 114) dX12_copiesLog_113 hs rfl ?_
    refine x_iload_n (i := 3) (b := 115) dX12_copiesLog_114 rfl rfl rfl ?_
    obtain ⟨hs, hF⟩ := ck_e hF
    refine x_iadd (b := 116) dX12_copiesLog_115 hs rfl ?_
    obtain ⟨hs, hF⟩ := ck_e hF
    refine x_iald (v := gI h4 97 0 ((60 * x2) + x3)) (b := 117) ak_97 dX12_copiesLog_116 hs rfl rfl ?_
    obtain ⟨hs, hF⟩ := ck_e hF
    have hs1 := hs
    refine x_iast (b := 118) ak_97 dX12_copiesLog_117 hs1 rfl ?_
    obtain ⟨h5, e_h5, hF⟩ := lt_e hF
    refine x_hp (h2 := h5) e_h5 ?_
    replace hL : Lay h5 := by rw [← e_h5]; exact hL
    obtain ⟨hs, hF⟩ := ck_e hF
    refine x_iinc (i := 3) (b := 121) (ls2 := [some (xr 12 0), some (xi x1), some (xi x2), some (xi (x3 + 1))]) dX12_copiesLog_118 rfl (Nat.le_of_ble_eq_true rfl) hs rfl rfl ?_
    refine x_goto (tgt := 2) dX12_copiesLog_121 (by decide) ?_
    exact x_dp (ls2 := [some (xr 12 0), some (xi x1), some (xi x2), some (xi (x3 + 1))]) ⟨rfl, rfl, rfl, rfl, trivial⟩ (hr_2 x1 x2 (x3 + 1) h5 hL hF)
set_option maxHeartbeats 4000000 in
set_option maxRecDepth 100000 in
theorem u_X12_copiesLog (E : xE) (d : Nat) (r : Int × Hp) : ∀ n : Nat, (∀ (x1 x2 : Int) (h : Hp), Lay h → g_X12_copiesLog n 0 [x1, x2] h = some r → X E mX12_copiesLog (d + 1) (0, 0) (0, 0) 0 [some (xr 12 0), some (xi x1), some (xi x2), none] [] h (PoV r)) ∧ (∀ (x1 x2 x3 : Int) (h : Hp), Lay h → g_X12_copiesLog n 1 [x1, x2, x3] h = some r → X E mX12_copiesLog (d + 1) (0, 0) (0, 0) 2 [some (xr 12 0), some (xi x1), some (xi x2), some (xi x3)] [] h (PoV r)) := by
  intro n
  induction n with
  | zero => exact ⟨fun _ _ _ _ hF => no_e (r := r) hF, fun _ _ _ _ _ hF => no_e (r := r) hF⟩
  | succ n ih => exact ⟨fun x1 x2 h hL hF => t_X12_copiesLog_0 E d (g_X12_copiesLog n) r ih.2 x1 x2 h hL hF, fun x1 x2 x3 h hL hF => t_X12_copiesLog_1 E d (g_X12_copiesLog n) r ih.2 x1 x2 x3 h hL hF⟩
theorem c_X12_copiesLog (d : Nat) (x1 x2 : Int) (h : Hp) (r : Int × Hp) (hL : Lay h) (hF : f_X12_copiesLog x1 x2 h = some r) : Sp mX12_copiesLog (d + 1) (0, 0) [xr 12 0, xi x1, xi x2] h (PoV r) :=
  sp_of (by decide) rfl (Nat.le_of_ble_eq_true rfl) (ls := [some (xr 12 0), some (xi x1), some (xi x2), none]) rfl (fun E _ => (u_X12_copiesLog E d r FU).1 x1 x2 h hL hF)
theorem dX12_draw_0 : decode cX12_draw 0 = .ok (.aload_n 0, 1) := by decide +kernel
theorem dX12_draw_1 : decode cX12_draw 1 = .ok (.getfield 96, 3) := by decide +kernel
theorem dX12_draw_4 : decode cX12_draw 4 = .ok (.iload_n 1, 1) := by decide +kernel
theorem dX12_draw_5 : decode cX12_draw 5 = .ok (.aload_n 0, 1) := by decide +kernel
theorem dX12_draw_6 : decode cX12_draw 6 = .ok (.getfield 96, 3) := by decide +kernel
theorem dX12_draw_9 : decode cX12_draw 9 = .ok (.iload_n 1, 1) := by decide +kernel
theorem dX12_draw_10 : decode cX12_draw 10 = .ok (.iaload, 1) := by decide +kernel
theorem dX12_draw_11 : decode cX12_draw 11 = .ok (.ldc_w 439, 3) := by decide +kernel
theorem dX12_draw_14 : decode cX12_draw 14 = .ok (.imul, 1) := by decide +kernel
theorem dX12_draw_15 : decode cX12_draw 15 = .ok (.sipush 12345, 3) := by decide +kernel
theorem dX12_draw_18 : decode cX12_draw 18 = .ok (.iadd, 1) := by decide +kernel
theorem dX12_draw_19 : decode cX12_draw 19 = .ok (.ldc_w 442, 3) := by decide +kernel
theorem dX12_draw_22 : decode cX12_draw 22 = .ok (.iand, 1) := by decide +kernel
theorem dX12_draw_23 : decode cX12_draw 23 = .ok (.iastore, 1) := by decide +kernel
theorem dX12_draw_24 : decode cX12_draw 24 = .ok (.aload_n 0, 1) := by decide +kernel
theorem dX12_draw_25 : decode cX12_draw 25 = .ok (.getfield 96, 3) := by decide +kernel
theorem dX12_draw_28 : decode cX12_draw 28 = .ok (.iload_n 1, 1) := by decide +kernel
theorem dX12_draw_29 : decode cX12_draw 29 = .ok (.iaload, 1) := by decide +kernel
theorem dX12_draw_30 : decode cX12_draw 30 = .ok (.bipush 16, 2) := by decide +kernel
theorem dX12_draw_32 : decode cX12_draw 32 = .ok (.ishr, 1) := by decide +kernel
theorem dX12_draw_33 : decode cX12_draw 33 = .ok (.iload_n 2, 1) := by decide +kernel
theorem dX12_draw_34 : decode cX12_draw 34 = .ok (.irem, 1) := by decide +kernel
theorem dX12_draw_35 : decode cX12_draw 35 = .ok (.ireturn, 1) := by decide +kernel
noncomputable def b_X12_draw_0 (rec : Rk) (x1 x2 : Int) (h : Hp) : Option (Int × Hp) :=
  ck (0 ≤ x1 ∧ x1 < 23) <|
  ck (0 ≤ x1 ∧ x1 < 23) <|
  lt (sI h 87 0 x1 (band (w32 ((w32 ((gI h 87 0 x1) * 1103515245)) + 12345)) 2147483647)) fun h1 =>
  ck (0 ≤ x1 ∧ x1 < 23) <|
  ck ((0 : Int) ≤ (bshr (gI h1 87 0 x1) 16) ∧ (0 : Int) < x2) <|
  some ((bshr (gI h1 87 0 x1) 16) % x2, h1)
noncomputable def g_X12_draw (n : Nat) : Rk := Nat.rec (motive := fun _ => Rk) (fun _ _ _ => none) (fun _ rec k l h => if k = 0 then b_X12_draw_0 rec (l.getD 0 0) (l.getD 1 0) h else none) n
noncomputable def f_X12_draw (x1 x2 : Int) (h : Hp) : Option (Int × Hp) := g_X12_draw FU 0 [x1, x2] h
set_option maxHeartbeats 4000000 in
set_option maxRecDepth 100000 in
theorem t_X12_draw_0 (E : xE) (d : Nat) (rec : Rk) (r : Int × Hp) (x1 x2 : Int) (h : Hp) (hL : Lay h) (hF : b_X12_draw_0 rec x1 x2 h = some r) : X E mX12_draw (d + 1) (0, 0) (0, 0) 0 [some (xr 12 0), some (xi x1), some (xi x2)] [] h (PoI r) := by
  unfold b_X12_draw_0 at hF
  refine x_aload_n (i := 0) (b := 1) dX12_draw_0 rfl rfl rfl ?_
  refine x_getL (j := 0) (t := (87, 0, true)) (b := 4) fk_X12_96 dX12_draw_1 rfl hL rfl rfl rfl ?_
  refine x_iload_n (i := 1) (b := 5) dX12_draw_4 rfl rfl rfl ?_
  refine x_aload_n (i := 0) (b := 6) dX12_draw_5 rfl rfl rfl ?_
  refine x_getL (j := 0) (t := (87, 0, true)) (b := 9) fk_X12_96 dX12_draw_6 rfl hL rfl rfl rfl ?_
  refine x_iload_n (i := 1) (b := 10) dX12_draw_9 rfl rfl rfl ?_
  obtain ⟨hs, hF⟩ := ck_e hF
  refine x_iald (v := gI h 87 0 x1) (b := 11) ak_87 dX12_draw_10 hs rfl rfl ?_
  refine x_ldcw (z := 1103515245) (b := 14) dX12_draw_11 kw_2029 (by decide) rfl ?_
  refine x_imulw (b := 15) dX12_draw_14 rfl ?_
  refine x_sipush (n := 12345) (b := 18) dX12_draw_15 (by decide) rfl ?_
  refine x_iaddw (b := 19) dX12_draw_18 rfl ?_
  refine x_ldcw (z := 2147483647) (b := 22) dX12_draw_19 kw_2030 (by decide) rfl ?_
  refine x_iand (b := 23) dX12_draw_22 rfl ?_
  obtain ⟨hs, hF⟩ := ck_e hF
  have hs1 := hs
  refine x_iast (b := 24) ak_87 dX12_draw_23 hs1 rfl ?_
  obtain ⟨h1, e_h1, hF⟩ := lt_e hF
  refine x_hp (h2 := h1) e_h1 ?_
  replace hL : Lay h1 := by rw [← e_h1]; exact hL
  refine x_aload_n (i := 0) (b := 25) dX12_draw_24 rfl rfl rfl ?_
  refine x_getL (j := 0) (t := (87, 0, true)) (b := 28) fk_X12_96 dX12_draw_25 rfl hL rfl rfl rfl ?_
  refine x_iload_n (i := 1) (b := 29) dX12_draw_28 rfl rfl rfl ?_
  obtain ⟨hs, hF⟩ := ck_e hF
  refine x_iald (v := gI h1 87 0 x1) (b := 30) ak_87 dX12_draw_29 hs rfl rfl ?_
  refine x_bipush (n := 16) (b := 32) dX12_draw_30 (by decide) rfl ?_
  refine x_ishr (b := 33) dX12_draw_32 rfl ?_
  refine x_iload_n (i := 2) (b := 34) dX12_draw_33 rfl rfl rfl ?_
  obtain ⟨hs, hF⟩ := ck_e hF
  refine x_irem (b := 35) dX12_draw_34 hs.1 hs.2 rfl ?_
  refine x_ireturn dX12_draw_35 rfl ⟨Nat.le_refl _, Nat.le_refl _⟩ ?_
  cases hF
  exact ⟨rfl, rfl, hL⟩
set_option maxHeartbeats 4000000 in
set_option maxRecDepth 100000 in
theorem u_X12_draw (E : xE) (d : Nat) (r : Int × Hp) : ∀ n : Nat, (∀ (x1 x2 : Int) (h : Hp), Lay h → g_X12_draw n 0 [x1, x2] h = some r → X E mX12_draw (d + 1) (0, 0) (0, 0) 0 [some (xr 12 0), some (xi x1), some (xi x2)] [] h (PoI r)) := by
  intro n
  induction n with
  | zero => exact fun _ _ _ _ hF => no_e (r := r) hF
  | succ n ih => exact fun x1 x2 h hL hF => t_X12_draw_0 E d (g_X12_draw n) r  x1 x2 h hL hF
theorem c_X12_draw (d : Nat) (x1 x2 : Int) (h : Hp) (r : Int × Hp) (hL : Lay h) (hF : f_X12_draw x1 x2 h = some r) : Sp mX12_draw (d + 1) (0, 0) [xr 12 0, xi x1, xi x2] h (PoI r) :=
  sp_of (by decide) rfl (Nat.le_of_ble_eq_true rfl) (ls := [some (xr 12 0), some (xi x1), some (xi x2)]) rfl (fun E _ => (u_X12_draw E d r FU) x1 x2 h hL hF)
theorem dX12_factorial_0 : decode cX12_factorial 0 = .ok (.iconst 1, 1) := by decide +kernel
theorem dX12_factorial_1 : decode cX12_factorial 1 = .ok (.istore_n 1, 1) := by decide +kernel
theorem dX12_factorial_2 : decode cX12_factorial 2 = .ok (.iconst 2, 1) := by decide +kernel
theorem dX12_factorial_3 : decode cX12_factorial 3 = .ok (.istore_n 2, 1) := by decide +kernel
theorem dX12_factorial_4 : decode cX12_factorial 4 = .ok (.iload_n 2, 1) := by decide +kernel
theorem dX12_factorial_5 : decode cX12_factorial 5 = .ok (.iload_n 0, 1) := by decide +kernel
theorem dX12_factorial_6 : decode cX12_factorial 6 = .ok (.if_icmp .gt 13, 3) := by decide +kernel
theorem dX12_factorial_9 : decode cX12_factorial 9 = .ok (.iload_n 1, 1) := by decide +kernel
theorem dX12_factorial_10 : decode cX12_factorial 10 = .ok (.iload_n 2, 1) := by decide +kernel
theorem dX12_factorial_11 : decode cX12_factorial 11 = .ok (.imul, 1) := by decide +kernel
theorem dX12_factorial_12 : decode cX12_factorial 12 = .ok (.istore_n 1, 1) := by decide +kernel
theorem dX12_factorial_13 : decode cX12_factorial 13 = .ok (.iinc 2 1, 3) := by decide +kernel
theorem dX12_factorial_16 : decode cX12_factorial 16 = .ok (.goto (-12), 3) := by decide +kernel
theorem dX12_factorial_19 : decode cX12_factorial 19 = .ok (.iload_n 1, 1) := by decide +kernel
theorem dX12_factorial_20 : decode cX12_factorial 20 = .ok (.ireturn, 1) := by decide +kernel
noncomputable def b_X12_factorial_0 (rec : Rk) (x0 : Int) (h : Hp) : Option (Int × Hp) :=
  rec 1 [x0, 1, 2] h
noncomputable def b_X12_factorial_1 (rec : Rk) (x0 x1 x2 : Int) (h : Hp) : Option (Int × Hp) :=
  if x0 < x2 then (
    some (x1, h)
  ) else (
    ck (-2147483648 ≤ x1 * x2 ∧ x1 * x2 < 2147483648) <|
    lt (x1 * x2) fun z1 =>
    ck (-2147483648 ≤ x2 + 1 ∧ x2 + 1 < 2147483648) <|
    rec 1 [x0, z1, x2 + 1] h
  )
noncomputable def g_X12_factorial (n : Nat) : Rk := Nat.rec (motive := fun _ => Rk) (fun _ _ _ => none) (fun _ rec k l h => if k = 0 then b_X12_factorial_0 rec (l.getD 0 0) h else if k = 1 then b_X12_factorial_1 rec (l.getD 0 0) (l.getD 1 0) (l.getD 2 0) h else none) n
noncomputable def f_X12_factorial (x0 : Int) (h : Hp) : Option (Int × Hp) := g_X12_factorial FU 0 [x0] h
set_option maxHeartbeats 4000000 in
set_option maxRecDepth 100000 in
theorem t_X12_factorial_0 (E : xE) (d : Nat) (rec : Rk) (r : Int × Hp) (hr_4 : ∀ (x0 x1 x2 : Int) (h : Hp), Lay h → rec 1 [x0, x1, x2] h = some r → X E mX12_factorial (d + 1) (0, 0) (0, 0) 4 [some (xi x0), some (xi x1), some (xi x2)] [] h (PoI r)) (x0 : Int) (h : Hp) (hL : Lay h) (hF : b_X12_factorial_0 rec x0 h = some r) : X E mX12_factorial (d + 1) (0, 0) (0, 0) 0 [some (xi x0), none, none] [] h (PoI r) := by
  unfold b_X12_factorial_0 at hF
  refine x_iconst (n := 1) (b := 1) dX12_factorial_0 (by decide) rfl ?_
  refine x_istore_n (i := 1) (b := 2) (ls2 := [some (xi x0), some (xi 1), none]) dX12_factorial_1 rfl (Nat.le_of_ble_eq_true rfl) rfl rfl ?_
  refine x_iconst (n := 2) (b := 3) dX12_factorial_2 (by decide) rfl ?_
  refine x_istore_n (i := 2) (b := 4) (ls2 := [some (xi x0), some (xi 1), some (xi 2)]) dX12_factorial_3 rfl (Nat.le_of_ble_eq_true rfl) rfl rfl ?_
  exact x_dp (ls2 := [some (xi x0), some (xi 1), some (xi 2)]) ⟨rfl, rfl, rfl, trivial⟩ (hr_4 x0 1 2 h hL hF)
set_option maxHeartbeats 4000000 in
set_option maxRecDepth 100000 in
theorem t_X12_factorial_1 (E : xE) (d : Nat) (rec : Rk) (r : Int × Hp) (hr_4 : ∀ (x0 x1 x2 : Int) (h : Hp), Lay h → rec 1 [x0, x1, x2] h = some r → X E mX12_factorial (d + 1) (0, 0) (0, 0) 4 [some (xi x0), some (xi x1), some (xi x2)] [] h (PoI r)) (x0 x1 x2 : Int) (h : Hp) (hL : Lay h) (hF : b_X12_factorial_1 rec x0 x1 x2 h = some r) : X E mX12_factorial (d + 1) (0, 0) (0, 0) 4 [some (xi x0), some (xi x1), some (xi x2)] [] h (PoI r) := by
  unfold b_X12_factorial_1 at hF
  refine x_iload_n (i := 2) (b := 5) dX12_factorial_4 rfl rfl rfl ?_
  refine x_iload_n (i := 0) (b := 6) dX12_factorial_5 rfl rfl rfl ?_
  refine x_icmp_gt (tgt := 19) (b := 9) dX12_factorial_6 (by decide) rfl (fun hc => ?_) (fun hc => ?_)
  · replace hF := br_T hc hF
    refine x_iload_n (i := 1) (b := 20) dX12_factorial_19 rfl rfl rfl ?_
    refine x_ireturn dX12_factorial_20 rfl ⟨Nat.le_refl _, Nat.le_refl _⟩ ?_
    cases hF
    exact ⟨rfl, rfl, hL⟩
  · replace hF := br_F hc hF
    refine x_iload_n (i := 1) (b := 10) dX12_factorial_9 rfl rfl rfl ?_
    refine x_iload_n (i := 2) (b := 11) dX12_factorial_10 rfl rfl rfl ?_
    obtain ⟨hs, hF⟩ := ck_e hF
    refine x_imul (b := 12) dX12_factorial_11 hs rfl ?_
    obtain ⟨z1, e_z1, hF⟩ := lt_e hF
    refine x_eq (y := z1) e_z1 ?_
    refine x_istore_n (i := 1) (b := 13) (ls2 := [some (xi x0), some (xi z1), some (xi x2)]) dX12_factorial_12 rfl (Nat.le_of_ble_eq_true rfl) rfl rfl ?_
    obtain ⟨hs, hF⟩ := ck_e hF
    refine x_iinc (i := 2) (b := 16) (ls2 := [some (xi x0), some (xi z1), some (xi (x2 + 1))]) dX12_factorial_13 rfl (Nat.le_of_ble_eq_true rfl) hs rfl rfl ?_
    refine x_goto (tgt := 4) dX12_factorial_16 (by decide) ?_
    exact x_dp (ls2 := [some (xi x0), some (xi z1), some (xi (x2 + 1))]) ⟨rfl, rfl, rfl, trivial⟩ (hr_4 x0 z1 (x2 + 1) h hL hF)
set_option maxHeartbeats 4000000 in
set_option maxRecDepth 100000 in
theorem u_X12_factorial (E : xE) (d : Nat) (r : Int × Hp) : ∀ n : Nat, (∀ (x0 : Int) (h : Hp), Lay h → g_X12_factorial n 0 [x0] h = some r → X E mX12_factorial (d + 1) (0, 0) (0, 0) 0 [some (xi x0), none, none] [] h (PoI r)) ∧ (∀ (x0 x1 x2 : Int) (h : Hp), Lay h → g_X12_factorial n 1 [x0, x1, x2] h = some r → X E mX12_factorial (d + 1) (0, 0) (0, 0) 4 [some (xi x0), some (xi x1), some (xi x2)] [] h (PoI r)) := by
  intro n
  induction n with
  | zero => exact ⟨fun _ _ _ hF => no_e (r := r) hF, fun _ _ _ _ _ hF => no_e (r := r) hF⟩
  | succ n ih => exact ⟨fun x0 h hL hF => t_X12_factorial_0 E d (g_X12_factorial n) r ih.2 x0 h hL hF, fun x0 x1 x2 h hL hF => t_X12_factorial_1 E d (g_X12_factorial n) r ih.2 x0 x1 x2 h hL hF⟩
theorem c_X12_factorial (d : Nat) (x0 : Int) (h : Hp) (r : Int × Hp) (hL : Lay h) (hF : f_X12_factorial x0 h = some r) : Sp mX12_factorial (d + 1) (0, 0) [xi x0] h (PoI r) :=
  sp_of (by decide) rfl (Nat.le_of_ble_eq_true rfl) (ls := [some (xi x0), none, none]) rfl (fun E _ => (u_X12_factorial E d r FU).1 x0 h hL hF)
theorem dX12_fault_0 : decode cX12_fault 0 = .ok (.aload_n 0, 1) := by decide +kernel
theorem dX12_fault_1 : decode cX12_fault 1 = .ok (.iconst 0, 1) := by decide +kernel
theorem dX12_fault_2 : decode cX12_fault 2 = .ok (.putfield 194, 3) := by decide +kernel
theorem dX12_fault_5 : decode cX12_fault 5 = .ok (.iload_n 1, 1) := by decide +kernel
theorem dX12_fault_6 : decode cX12_fault 6 = .ok (.ifCond .ne 10, 3) := by decide +kernel
theorem dX12_fault_9 : decode cX12_fault 9 = .ok (.aload_n 0, 1) := by decide +kernel
theorem dX12_fault_10 : decode cX12_fault 10 = .ok (.getfield 357, 3) := by decide +kernel
theorem dX12_fault_13 : decode cX12_fault 13 = .ok (.goto 16, 3) := by decide +kernel
theorem dX12_fault_16 : decode cX12_fault 16 = .ok (.iload_n 1, 1) := by decide +kernel
theorem dX12_fault_17 : decode cX12_fault 17 = .ok (.iconst 1, 1) := by decide +kernel
theorem dX12_fault_18 : decode cX12_fault 18 = .ok (.if_icmp .ne 10, 3) := by decide +kernel
theorem dX12_fault_21 : decode cX12_fault 21 = .ok (.aload_n 0, 1) := by decide +kernel
theorem dX12_fault_22 : decode cX12_fault 22 = .ok (.getfield 80, 3) := by decide +kernel
theorem dX12_fault_25 : decode cX12_fault 25 = .ok (.goto 4, 3) := by decide +kernel
theorem dX12_fault_28 : decode cX12_fault 28 = .ok (.iconst (-1), 1) := by decide +kernel
theorem dX12_fault_29 : decode cX12_fault 29 = .ok (.ireturn, 1) := by decide +kernel
noncomputable def b_X12_fault_0 (rec : Rk) (x1 : Int) (h : Hp) : Option (Int × Hp) :=
  lt (sI h 12 0 0 0) fun h1 =>
  if x1 = 0 then (
    some (gI h1 12 0 34, h1)
  ) else (
    if x1 = 1 then (
      some (gI h1 12 0 35, h1)
    ) else (
      some ((-1), h1)
    )
  )
noncomputable def g_X12_fault (n : Nat) : Rk := Nat.rec (motive := fun _ => Rk) (fun _ _ _ => none) (fun _ rec k l h => if k = 0 then b_X12_fault_0 rec (l.getD 0 0) h else none) n
noncomputable def f_X12_fault (x1 : Int) (h : Hp) : Option (Int × Hp) := g_X12_fault FU 0 [x1] h
set_option maxHeartbeats 4000000 in
set_option maxRecDepth 100000 in
theorem t_X12_fault_0 (E : xE) (d : Nat) (rec : Rk) (r : Int × Hp) (x1 : Int) (h : Hp) (hL : Lay h) (hF : b_X12_fault_0 rec x1 h = some r) : X E mX12_fault (d + 1) (0, 0) (0, 0) 0 [some (xr 12 0), some (xi x1)] [] h (PoI r) := by
  unfold b_X12_fault_0 at hF
  refine x_aload_n (i := 0) (b := 1) dX12_fault_0 rfl rfl rfl ?_
  refine x_iconst (n := 0) (b := 2) dX12_fault_1 (by decide) rfl ?_
  refine x_putI (b := 5) fk_X12_194 dX12_fault_2 rfl rfl 0 rfl ?_
  obtain ⟨h1, e_h1, hF⟩ := lt_e hF
  refine x_hp (h2 := h1) e_h1 ?_
  replace hL : Lay h1 := by rw [← e_h1]; exact hL
  refine x_iload_n (i := 1) (b := 6) dX12_fault_5 rfl rfl rfl ?_
  refine x_if_ne (tgt := 16) (b := 9) dX12_fault_6 (by decide) rfl (fun hc => ?_) (fun hc => ?_)
  · replace hF := br_F hc hF
    refine x_iload_n (i := 1) (b := 17) dX12_fault_16 rfl rfl rfl ?_
    refine x_iconst (n := 1) (b := 18) dX12_fault_17 (by decide) rfl ?_
    refine x_icmp_ne (tgt := 28) (b := 21) dX12_fault_18 (by decide) rfl (fun hc => ?_) (fun hc => ?_)
    · replace hF := br_F hc hF
      refine x_iconst (n := (-1)) (b := 29) dX12_fault_28 (by decide) rfl ?_
      refine x_ireturn dX12_fault_29 rfl ⟨Nat.le_refl _, Nat.le_refl _⟩ ?_
      cases hF
      exact ⟨rfl, rfl, hL⟩
    · replace hF := br_T hc hF
      refine x_aload_n (i := 0) (b := 22) dX12_fault_21 rfl rfl rfl ?_
      refine x_getI (v := gI h1 12 0 35) (b := 25) fk_X12_80 dX12_fault_22 (by decide) rfl rfl ?_
      refine x_goto (tgt := 29) dX12_fault_25 (by decide) ?_
      refine x_ireturn dX12_fault_29 rfl ⟨Nat.le_refl _, Nat.le_refl _⟩ ?_
      cases hF
      exact ⟨rfl, rfl, hL⟩
  · replace hF := br_T hc hF
    refine x_aload_n (i := 0) (b := 10) dX12_fault_9 rfl rfl rfl ?_
    refine x_getI (v := gI h1 12 0 34) (b := 13) fk_X12_357 dX12_fault_10 (by decide) rfl rfl ?_
    refine x_goto (tgt := 29) dX12_fault_13 (by decide) ?_
    refine x_ireturn dX12_fault_29 rfl ⟨Nat.le_refl _, Nat.le_refl _⟩ ?_
    cases hF
    exact ⟨rfl, rfl, hL⟩
set_option maxHeartbeats 4000000 in
set_option maxRecDepth 100000 in
theorem u_X12_fault (E : xE) (d : Nat) (r : Int × Hp) : ∀ n : Nat, (∀ (x1 : Int) (h : Hp), Lay h → g_X12_fault n 0 [x1] h = some r → X E mX12_fault (d + 1) (0, 0) (0, 0) 0 [some (xr 12 0), some (xi x1)] [] h (PoI r)) := by
  intro n
  induction n with
  | zero => exact fun _ _ _ hF => no_e (r := r) hF
  | succ n ih => exact fun x1 h hL hF => t_X12_fault_0 E d (g_X12_fault n) r  x1 h hL hF
theorem c_X12_fault (d : Nat) (x1 : Int) (h : Hp) (r : Int × Hp) (hL : Lay h) (hF : f_X12_fault x1 h = some r) : Sp mX12_fault (d + 1) (0, 0) [xr 12 0, xi x1] h (PoI r) :=
  sp_of (by decide) rfl (Nat.le_of_ble_eq_true rfl) (ls := [some (xr 12 0), some (xi x1)]) rfl (fun E _ => (u_X12_fault E d r FU) x1 h hL hF)
theorem dX12_fed_0 : decode cX12_fed 0 = .ok (.aload_n 0, 1) := by decide +kernel
theorem dX12_fed_1 : decode cX12_fed 1 = .ok (.iconst 0, 1) := by decide +kernel
theorem dX12_fed_2 : decode cX12_fed 2 = .ok (.putfield 194, 3) := by decide +kernel
theorem dX12_fed_5 : decode cX12_fed 5 = .ok (.iload_n 1, 1) := by decide +kernel
theorem dX12_fed_6 : decode cX12_fed 6 = .ok (.ifCond .lt 16, 3) := by decide +kernel
theorem dX12_fed_9 : decode cX12_fed 9 = .ok (.iload_n 1, 1) := by decide +kernel
theorem dX12_fed_10 : decode cX12_fed 10 = .ok (.iconst 1, 1) := by decide +kernel
theorem dX12_fed_11 : decode cX12_fed 11 = .ok (.aload_n 0, 1) := by decide +kernel
theorem dX12_fed_12 : decode cX12_fed 12 = .ok (.getfield 13, 3) := by decide +kernel
theorem dX12_fed_15 : decode cX12_fed 15 = .ok (.bipush 12, 2) := by decide +kernel
theorem dX12_fed_17 : decode cX12_fed 17 = .ok (.iaload, 1) := by decide +kernel
theorem dX12_fed_18 : decode cX12_fed 18 = .ok (.ishl, 1) := by decide +kernel
theorem dX12_fed_19 : decode cX12_fed 19 = .ok (.if_icmp .lt 5, 3) := by decide +kernel
theorem dX12_fed_22 : decode cX12_fed 22 = .ok (.iconst 0, 1) := by decide +kernel
theorem dX12_fed_23 : decode cX12_fed 23 = .ok (.ireturn, 1) := by decide +kernel
theorem dX12_fed_24 : decode cX12_fed 24 = .ok (.aload_n 0, 1) := by decide +kernel
theorem dX12_fed_25 : decode cX12_fed 25 = .ok (.getfield 102, 3) := by decide +kernel
theorem dX12_fed_28 : decode cX12_fed 28 = .ok (.iconst 0, 1) := by decide +kernel
theorem dX12_fed_29 : decode cX12_fed 29 = .ok (.iload_n 1, 1) := by decide +kernel
theorem dX12_fed_30 : decode cX12_fed 30 = .ok (.iastore, 1) := by decide +kernel
theorem dX12_fed_31 : decode cX12_fed 31 = .ok (.iconst 1, 1) := by decide +kernel
theorem dX12_fed_32 : decode cX12_fed 32 = .ok (.ireturn, 1) := by decide +kernel
noncomputable def b_X12_fed_0 (rec : Rk) (x1 : Int) (h : Hp) : Option (Int × Hp) :=
  lt (sI h 12 0 0 0) fun h1 =>
  if x1 < 0 then (
    some (0, h1)
  ) else (
    ck (0 ≤ (12 : Int) ∧ (12 : Int) < 30) <|
    if x1 < (bshl 1 (gI h1 61 0 12)) then (
      ck (0 ≤ (0 : Int) ∧ (0 : Int) < 23) <|
      lt (sI h1 89 0 0 x1) fun h2 =>
      some (1, h2)
    ) else (
      some (0, h1)
    )
  )
noncomputable def g_X12_fed (n : Nat) : Rk := Nat.rec (motive := fun _ => Rk) (fun _ _ _ => none) (fun _ rec k l h => if k = 0 then b_X12_fed_0 rec (l.getD 0 0) h else none) n
noncomputable def f_X12_fed (x1 : Int) (h : Hp) : Option (Int × Hp) := g_X12_fed FU 0 [x1] h
set_option maxHeartbeats 4000000 in
set_option maxRecDepth 100000 in
theorem t_X12_fed_0 (E : xE) (d : Nat) (rec : Rk) (r : Int × Hp) (x1 : Int) (h : Hp) (hL : Lay h) (hF : b_X12_fed_0 rec x1 h = some r) : X E mX12_fed (d + 1) (0, 0) (0, 0) 0 [some (xr 12 0), some (xi x1)] [] h (PoI r) := by
  unfold b_X12_fed_0 at hF
  refine x_aload_n (i := 0) (b := 1) dX12_fed_0 rfl rfl rfl ?_
  refine x_iconst (n := 0) (b := 2) dX12_fed_1 (by decide) rfl ?_
  refine x_putI (b := 5) fk_X12_194 dX12_fed_2 rfl rfl 0 rfl ?_
  obtain ⟨h1, e_h1, hF⟩ := lt_e hF
  refine x_hp (h2 := h1) e_h1 ?_
  replace hL : Lay h1 := by rw [← e_h1]; exact hL
  refine x_iload_n (i := 1) (b := 6) dX12_fed_5 rfl rfl rfl ?_
  refine x_if_lt (tgt := 22) (b := 9) dX12_fed_6 (by decide) rfl (fun hc => ?_) (fun hc => ?_)
  · replace hF := br_T hc hF
    refine x_iconst (n := 0) (b := 23) dX12_fed_22 (by decide) rfl ?_
    refine x_zreturn dX12_fed_23 rfl ⟨Nat.le_refl _, Nat.le_refl _⟩ (by decide) ?_
    cases hF
    exact ⟨rfl, rfl, hL⟩
  · replace hF := br_F hc hF
    refine x_iload_n (i := 1) (b := 10) dX12_fed_9 rfl rfl rfl ?_
    refine x_iconst (n := 1) (b := 11) dX12_fed_10 (by decide) rfl ?_
    refine x_aload_n (i := 0) (b := 12) dX12_fed_11 rfl rfl rfl ?_
    refine x_getL (j := 0) (t := (61, 0, true)) (b := 15) fk_X12_13 dX12_fed_12 rfl hL rfl rfl rfl ?_
    refine x_bipush (n := 12) (b := 17) dX12_fed_15 (by decide) rfl ?_
    obtain ⟨hs, hF⟩ := ck_e hF
    refine x_iald (v := gI h1 61 0 12) (b := 18) ak_61 dX12_fed_17 hs rfl rfl ?_
    refine x_ishl (b := 19) dX12_fed_18 rfl ?_
    refine x_icmp_lt (tgt := 24) (b := 22) dX12_fed_19 (by decide) rfl (fun hc => ?_) (fun hc => ?_)
    · replace hF := br_T hc hF
      refine x_aload_n (i := 0) (b := 25) dX12_fed_24 rfl rfl rfl ?_
      refine x_getL (j := 0) (t := (89, 0, true)) (b := 28) fk_X12_102 dX12_fed_25 rfl hL rfl rfl rfl ?_
      refine x_iconst (n := 0) (b := 29) dX12_fed_28 (by decide) rfl ?_
      refine x_iload_n (i := 1) (b := 30) dX12_fed_29 rfl rfl rfl ?_
      obtain ⟨hs, hF⟩ := ck_e hF
      have hs1 := hs
      refine x_iast (b := 31) ak_89 dX12_fed_30 hs1 rfl ?_
      obtain ⟨h2, e_h2, hF⟩ := lt_e hF
      refine x_hp (h2 := h2) e_h2 ?_
      replace hL : Lay h2 := by rw [← e_h2]; exact hL
      refine x_iconst (n := 1) (b := 32) dX12_fed_31 (by decide) rfl ?_
      refine x_zreturn dX12_fed_32 rfl ⟨Nat.le_refl _, Nat.le_refl _⟩ (by decide) ?_
      cases hF
      exact ⟨rfl, rfl, hL⟩
    · replace hF := br_F hc hF
      refine x_iconst (n := 0) (b := 23) dX12_fed_22 (by decide) rfl ?_
      refine x_zreturn dX12_fed_23 rfl ⟨Nat.le_refl _, Nat.le_refl _⟩ (by decide) ?_
      cases hF
      exact ⟨rfl, rfl, hL⟩
set_option maxHeartbeats 4000000 in
set_option maxRecDepth 100000 in
theorem u_X12_fed (E : xE) (d : Nat) (r : Int × Hp) : ∀ n : Nat, (∀ (x1 : Int) (h : Hp), Lay h → g_X12_fed n 0 [x1] h = some r → X E mX12_fed (d + 1) (0, 0) (0, 0) 0 [some (xr 12 0), some (xi x1)] [] h (PoI r)) := by
  intro n
  induction n with
  | zero => exact fun _ _ _ hF => no_e (r := r) hF
  | succ n ih => exact fun x1 h hL hF => t_X12_fed_0 E d (g_X12_fed n) r  x1 h hL hF
theorem c_X12_fed (d : Nat) (x1 : Int) (h : Hp) (r : Int × Hp) (hL : Lay h) (hF : f_X12_fed x1 h = some r) : Sp mX12_fed (d + 1) (0, 0) [xr 12 0, xi x1] h (PoI r) :=
  sp_of (by decide) rfl (Nat.le_of_ble_eq_true rfl) (ls := [some (xr 12 0), some (xi x1)]) rfl (fun E _ => (u_X12_fed E d r FU) x1 h hL hF)
theorem dX12_feed_0 : decode cX12_feed 0 = .ok (.aload_n 0, 1) := by decide +kernel
theorem dX12_feed_1 : decode cX12_feed 1 = .ok (.iconst 0, 1) := by decide +kernel
theorem dX12_feed_2 : decode cX12_feed 2 = .ok (.putfield 194, 3) := by decide +kernel
theorem dX12_feed_5 : decode cX12_feed 5 = .ok (.aload_n 0, 1) := by decide +kernel
theorem dX12_feed_6 : decode cX12_feed 6 = .ok (.getfield 197, 3) := by decide +kernel
theorem dX12_feed_9 : decode cX12_feed 9 = .ok (.sipush 780, 3) := by decide +kernel
theorem dX12_feed_12 : decode cX12_feed 12 = .ok (.if_icmp .le 5, 3) := by decide +kernel
theorem dX12_feed_15 : decode cX12_feed 15 = .ok (.iconst (-1), 1) := by decide +kernel
theorem dX12_feed_16 : decode cX12_feed 16 = .ok (.ireturn, 1) := by decide +kernel
theorem dX12_feed_17 : decode cX12_feed 17 = .ok (.iconst 0, 1) := by decide +kernel
theorem dX12_feed_18 : decode cX12_feed 18 = .ok (.istore 6, 2) := by decide +kernel
theorem dX12_feed_20 : decode cX12_feed 20 = .ok (.iload 6, 2) := by decide +kernel
theorem dX12_feed_22 : decode cX12_feed 22 = .ok (.bipush 20, 2) := by decide +kernel
theorem dX12_feed_24 : decode cX12_feed 24 = .ok (.if_icmp .ge 86, 3) := by decide +kernel
theorem dX12_feed_27 : decode cX12_feed 27 = .ok (.iload 6, 2) := by decide +kernel
theorem dX12_feed_29 : decode cX12_feed 29 = .ok (.iconst 4, 1) := by decide +kernel
theorem dX12_feed_30 : decode cX12_feed 30 = .ok (.if_icmp .ge 7, 3) := by decide +kernel
theorem dX12_feed_33 : decode cX12_feed 33 = .ok (.iload_n 1, 1) := by decide +kernel
theorem dX12_feed_34 : decode cX12_feed 34 = .ok (.goto 39, 3) := by decide +kernel
theorem dX12_feed_37 : decode cX12_feed 37 = .ok (.iload 6, 2) := by decide +kernel
theorem dX12_feed_39 : decode cX12_feed 39 = .ok (.bipush 8, 2) := by decide +kernel
theorem dX12_feed_41 : decode cX12_feed 41 = .ok (.if_icmp .ge 7, 3) := by decide +kernel
theorem dX12_feed_44 : decode cX12_feed 44 = .ok (.iload_n 2, 1) := by decide +kernel
theorem dX12_feed_45 : decode cX12_feed 45 = .ok (.goto 28, 3) := by decide +kernel
theorem dX12_feed_48 : decode cX12_feed 48 = .ok (.iload 6, 2) := by decide +kernel
theorem dX12_feed_50 : decode cX12_feed 50 = .ok (.bipush 12, 2) := by decide +kernel
theorem dX12_feed_52 : decode cX12_feed 52 = .ok (.if_icmp .ge 7, 3) := by decide +kernel
theorem dX12_feed_55 : decode cX12_feed 55 = .ok (.iload_n 3, 1) := by decide +kernel
theorem dX12_feed_56 : decode cX12_feed 56 = .ok (.goto 17, 3) := by decide +kernel
theorem dX12_feed_59 : decode cX12_feed 59 = .ok (.iload 6, 2) := by decide +kernel
theorem dX12_feed_61 : decode cX12_feed 61 = .ok (.bipush 16, 2) := by decide +kernel
theorem dX12_feed_63 : decode cX12_feed 63 = .ok (.if_icmp .ge 8, 3) := by decide +kernel
theorem dX12_feed_66 : decode cX12_feed 66 = .ok (.iload 4, 2) := by decide +kernel
theorem dX12_feed_68 : decode cX12_feed 68 = .ok (.goto 5, 3) := by decide +kernel
theorem dX12_feed_71 : decode cX12_feed 71 = .ok (.iload 5, 2) := by decide +kernel
theorem dX12_feed_73 : decode cX12_feed 73 = .ok (.istore 7, 2) := by decide +kernel
theorem dX12_feed_75 : decode cX12_feed 75 = .ok (.aload_n 0, 1) := by decide +kernel
theorem dX12_feed_76 : decode cX12_feed 76 = .ok (.getfield 7, 3) := by decide +kernel
theorem dX12_feed_79 : decode cX12_feed 79 = .ok (.aload_n 0, 1) := by decide +kernel
theorem dX12_feed_80 : decode cX12_feed 80 = .ok (.getfield 197, 3) := by decide +kernel
theorem dX12_feed_83 : decode cX12_feed 83 = .ok (.iload 6, 2) := by decide +kernel
theorem dX12_feed_85 : decode cX12_feed 85 = .ok (.iadd, 1) := by decide +kernel
theorem dX12_feed_86 : decode cX12_feed 86 = .ok (.iload 7, 2) := by decide +kernel
theorem dX12_feed_88 : decode cX12_feed 88 = .ok (.bipush 24, 2) := by decide +kernel
theorem dX12_feed_90 : decode cX12_feed 90 = .ok (.bipush 8, 2) := by decide +kernel
theorem dX12_feed_92 : decode cX12_feed 92 = .ok (.iload 6, 2) := by decide +kernel
theorem dX12_feed_94 : decode cX12_feed 94 = .ok (.iconst 4, 1) := by decide +kernel
theorem dX12_feed_95 : decode cX12_feed 95 = .ok (.irem, 1) := by decide +kernel
theorem dX12_feed_96 : decode cX12_feed 96 = .ok (.imul, 1) := by decide +kernel
theorem dX12_feed_97 : decode cX12_feed 97 = .ok (.isub, 1) := by decide +kernel
theorem dX12_feed_98 : decode cX12_feed 98 = .ok (.ishr, 1) := by decide +kernel
theorem dX12_feed_99 : decode cX12_feed 99 = .ok (.sipush 255, 3) := by decide +kernel
theorem dX12_feed_102 : decode cX12_feed 102 = .ok (.iand, 1) := by decide +kernel
theorem dX12_feed_103 : decode cX12_feed 103 = .ok (.iastore, 1) := by decide +kernel
theorem dX12_feed_104 : decode cX12_feed 104 = .ok (.iinc 6 1, 3) := by decide +kernel
theorem dX12_feed_107 : decode cX12_feed 107 = .ok (.goto (-87), 3) := by decide +kernel
theorem dX12_feed_110 : decode cX12_feed 110 = .ok (.aload_n 0, 1) := by decide +kernel
theorem dX12_feed_111 : decode cX12_feed 111 = .ok (.dup, 1) := by decide +kernel
theorem dX12_feed_112 : decode cX12_feed 112 = .ok (.getfield 197, 3) := by decide +kernel
theorem dX12_feed_115 : decode cX12_feed 115 = .ok (.bipush 20, 2) := by decide +kernel
theorem dX12_feed_117 : decode cX12_feed 117 = .ok (.iadd, 1) := by decide +kernel
theorem dX12_feed_118 : decode cX12_feed 118 = .ok (.putfield 197, 3) := by decide +kernel
theorem dX12_feed_121 : decode cX12_feed 121 = .ok (.aload_n 0, 1) := by decide +kernel
theorem dX12_feed_122 : decode cX12_feed 122 = .ok (.getfield 197, 3) := by decide +kernel
theorem dX12_feed_125 : decode cX12_feed 125 = .ok (.ireturn, 1) := by decide +kernel
noncomputable def b_X12_feed_0 (rec : Rk) (x1 x2 x3 x4 x5 : Int) (h : Hp) : Option (Int × Hp) :=
  lt (sI h 12 0 0 0) fun h1 =>
  if (gI h1 12 0 2) ≤ 780 then (
    rec 1 [x1, x2, x3, x4, x5, 0] h1
  ) else (
    some ((-1), h1)
  )
noncomputable def b_X12_feed_1 (rec : Rk) (x1 x2 x3 x4 x5 x6 : Int) (h : Hp) : Option (Int × Hp) :=
  if 20 ≤ x6 then (
    ck (-2147483648 ≤ (gI h 12 0 2) + 20 ∧ (gI h 12 0 2) + 20 < 2147483648) <|
    lt (sI h 12 0 2 ((gI h 12 0 2) + 20)) fun h1 =>
    some (gI h1 12 0 2, h1)
  ) else (
    if 4 ≤ x6 then (
      if 8 ≤ x6 then (
        if 12 ≤ x6 then (
          if 16 ≤ x6 then (
            rec 2 [x1, x2, x3, x4, x5, x6, x5] h
          ) else (
            rec 2 [x1, x2, x3, x4, x5, x6, x4] h
          )
        ) else (
          rec 2 [x1, x2, x3, x4, x5, x6, x3] h
        )
      ) else (
        rec 2 [x1, x2, x3, x4, x5, x6, x2] h
      )
    ) else (
      rec 2 [x1, x2, x3, x4, x5, x6, x1] h
    )
  )
noncomputable def b_X12_feed_2 (rec : Rk) (x1 x2 x3 x4 x5 x6 y0 : Int) (h : Hp) : Option (Int × Hp) :=
  ck (-2147483648 ≤ (gI h 12 0 2) + x6 ∧ (gI h 12 0 2) + x6 < 2147483648) <|
  ck ((0 : Int) ≤ x6 ∧ (0 : Int) < 4) <|
  ck (-2147483648 ≤ 8 * (x6 % 4) ∧ 8 * (x6 % 4) < 2147483648) <|
  ck (-2147483648 ≤ 24 - (8 * (x6 % 4)) ∧ 24 - (8 * (x6 % 4)) < 2147483648) <|
  ck (0 ≤ ((gI h 12 0 2) + x6) ∧ ((gI h 12 0 2) + x6) < 800) <|
  lt (sI h 60 0 ((gI h 12 0 2) + x6) (band (bshr y0 (24 - (8 * (x6 % 4)))) 255)) fun h1 =>
  ck (-2147483648 ≤ x6 + 1 ∧ x6 + 1 < 2147483648) <|
  rec 1 [x1, x2, x3, x4, x5, x6 + 1] h1
noncomputable def g_X12_feed (n : Nat) : Rk := Nat.rec (motive := fun _ => Rk) (fun _ _ _ => none) (fun _ rec k l h => if k = 0 then b_X12_feed_0 rec (l.getD 0 0) (l.getD 1 0) (l.getD 2 0) (l.getD 3 0) (l.getD 4 0) h else if k = 1 then b_X12_feed_1 rec (l.getD 0 0) (l.getD 1 0) (l.getD 2 0) (l.getD 3 0) (l.getD 4 0) (l.getD 5 0) h else if k = 2 then b_X12_feed_2 rec (l.getD 0 0) (l.getD 1 0) (l.getD 2 0) (l.getD 3 0) (l.getD 4 0) (l.getD 5 0) (l.getD 6 0) h else none) n
noncomputable def f_X12_feed (x1 x2 x3 x4 x5 : Int) (h : Hp) : Option (Int × Hp) := g_X12_feed FU 0 [x1, x2, x3, x4, x5] h
set_option maxHeartbeats 4000000 in
set_option maxRecDepth 100000 in
theorem t_X12_feed_0 (E : xE) (d : Nat) (rec : Rk) (r : Int × Hp) (hr_20 : ∀ (x1 x2 x3 x4 x5 x6 : Int) (h : Hp), Lay h → rec 1 [x1, x2, x3, x4, x5, x6] h = some r → X E mX12_feed (d + 1) (0, 0) (0, 0) 20 [some (xr 12 0), some (xi x1), some (xi x2), some (xi x3), some (xi x4), some (xi x5), some (xi x6), none] [] h (PoI r)) (x1 x2 x3 x4 x5 : Int) (h : Hp) (hL : Lay h) (hF : b_X12_feed_0 rec x1 x2 x3 x4 x5 h = some r) : X E mX12_feed (d + 1) (0, 0) (0, 0) 0 [some (xr 12 0), some (xi x1), some (xi x2), some (xi x3), some (xi x4), some (xi x5), none, none] [] h (PoI r) := by
  unfold b_X12_feed_0 at hF
  refine x_aload_n (i := 0) (b := 1) dX12_feed_0 rfl rfl rfl ?_
  refine x_iconst (n := 0) (b := 2) dX12_feed_1 (by decide) rfl ?_
  refine x_putI (b := 5) fk_X12_194 dX12_feed_2 rfl rfl 0 rfl ?_
  obtain ⟨h1, e_h1, hF⟩ := lt_e hF
  refine x_hp (h2 := h1) e_h1 ?_
  replace hL : Lay h1 := by rw [← e_h1]; exact hL
  refine x_aload_n (i := 0) (b := 6) dX12_feed_5 rfl rfl rfl ?_
  refine x_getI (v := gI h1 12 0 2) (b := 9) fk_X12_197 dX12_feed_6 (by decide) rfl rfl ?_
  refine x_sipush (n := 780) (b := 12) dX12_feed_9 (by decide) rfl ?_
  refine x_icmp_le (tgt := 17) (b := 15) dX12_feed_12 (by decide) rfl (fun hc => ?_) (fun hc => ?_)
  · replace hF := br_T hc hF
    refine x_iconst (n := 0) (b := 18) dX12_feed_17 (by decide) rfl ?_
    refine x_istore (i := 6) (b := 20) (ls2 := [some (xr 12 0), some (xi x1), some (xi x2), some (xi x3), some (xi x4), some (xi x5), some (xi 0), none]) dX12_feed_18 (Nat.le_of_ble_eq_true rfl) rfl rfl ?_
    exact x_dp (ls2 := [some (xr 12 0), some (xi x1), some (xi x2), some (xi x3), some (xi x4), some (xi x5), some (xi 0), none]) ⟨rfl, rfl, rfl, rfl, rfl, rfl, rfl, trivial⟩ (hr_20 x1 x2 x3 x4 x5 0 h1 hL hF)
  · replace hF := br_F hc hF
    refine x_iconst (n := (-1)) (b := 16) dX12_feed_15 (by decide) rfl ?_
    refine x_ireturn dX12_feed_16 rfl ⟨Nat.le_refl _, Nat.le_refl _⟩ ?_
    cases hF
    exact ⟨rfl, rfl, hL⟩
set_option maxHeartbeats 4000000 in
set_option maxRecDepth 100000 in
theorem t_X12_feed_1 (E : xE) (d : Nat) (rec : Rk) (r : Int × Hp) (hr_73 : ∀ (x1 x2 x3 x4 x5 x6 y0 : Int) (h : Hp), Lay h → rec 2 [x1, x2, x3, x4, x5, x6, y0] h = some r → X E mX12_feed (d + 1) (0, 0) (0, 0) 73 [some (xr 12 0), some (xi x1), some (xi x2), some (xi x3), some (xi x4), some (xi x5), some (xi x6), none] [xi y0] h (PoI r)) (x1 x2 x3 x4 x5 x6 : Int) (h : Hp) (hL : Lay h) (hF : b_X12_feed_1 rec x1 x2 x3 x4 x5 x6 h = some r) : X E mX12_feed (d + 1) (0, 0) (0, 0) 20 [some (xr 12 0), some (xi x1), some (xi x2), some (xi x3), some (xi x4), some (xi x5), some (xi x6), none] [] h (PoI r) := by
  unfold b_X12_feed_1 at hF
  refine x_iload (i := 6) (b := 22) dX12_feed_20 rfl rfl ?_
  refine x_bipush (n := 20) (b := 24) dX12_feed_22 (by decide) rfl ?_
  refine x_icmp_ge (tgt := 110) (b := 27) dX12_feed_24 (by decide) rfl (fun hc => ?_) (fun hc => ?_)
  · replace hF := br_T hc hF
    refine x_aload_n (i := 0) (b := 111) dX12_feed_110 rfl rfl rfl ?_
    refine x_dup (b := 112) dX12_feed_111 rfl rfl ?_
    refine x_getI (v := gI h 12 0 2) (b := 115) fk_X12_197 dX12_feed_112 (by decide) rfl rfl ?_
    refine x_bipush (n := 20) (b := 117) dX12_feed_115 (by decide) rfl ?_
    obtain ⟨hs, hF⟩ := ck_e hF
    refine x_iadd (b := 118) dX12_feed_117 hs rfl ?_
    refine x_putI (b := 121) fk_X12_197 dX12_feed_118 rfl rfl 2 rfl ?_
    obtain ⟨h1, e_h1, hF⟩ := lt_e hF
    refine x_hp (h2 := h1) e_h1 ?_
    replace hL : Lay h1 := by rw [← e_h1]; exact hL
    refine x_aload_n (i := 0) (b := 122) dX12_feed_121 rfl rfl rfl ?_
    refine x_getI (v := gI h1 12 0 2) (b := 125) fk_X12_197 dX12_feed_122 (by decide) rfl rfl ?_
    refine x_ireturn dX12_feed_125 rfl ⟨Nat.le_refl _, Nat.le_refl _⟩ ?_
    cases hF
    exact ⟨rfl, rfl, hL⟩
  · replace hF := br_F hc hF
    refine x_iload (i := 6) (b := 29) dX12_feed_27 rfl rfl ?_
    refine x_iconst (n := 4) (b := 30) dX12_feed_29 (by decide) rfl ?_
    refine x_icmp_ge (tgt := 37) (b := 33) dX12_feed_30 (by decide) rfl (fun hc => ?_) (fun hc => ?_)
    · replace hF := br_T hc hF
      refine x_iload (i := 6) (b := 39) dX12_feed_37 rfl rfl ?_
      refine x_bipush (n := 8) (b := 41) dX12_feed_39 (by decide) rfl ?_
      refine x_icmp_ge (tgt := 48) (b := 44) dX12_feed_41 (by decide) rfl (fun hc => ?_) (fun hc => ?_)
      · replace hF := br_T hc hF
        refine x_iload (i := 6) (b := 50) dX12_feed_48 rfl rfl ?_
        refine x_bipush (n := 12) (b := 52) dX12_feed_50 (by decide) rfl ?_
        refine x_icmp_ge (tgt := 59) (b := 55) dX12_feed_52 (by decide) rfl (fun hc => ?_) (fun hc => ?_)
        · replace hF := br_T hc hF
          refine x_iload (i := 6) (b := 61) dX12_feed_59 rfl rfl ?_
          refine x_bipush (n := 16) (b := 63) dX12_feed_61 (by decide) rfl ?_
          refine x_icmp_ge (tgt := 71) (b := 66) dX12_feed_63 (by decide) rfl (fun hc => ?_) (fun hc => ?_)
          · replace hF := br_T hc hF
            refine x_iload (i := 5) (b := 73) dX12_feed_71 rfl rfl ?_
            exact x_dp (ls2 := [some (xr 12 0), some (xi x1), some (xi x2), some (xi x3), some (xi x4), some (xi x5), some (xi x6), none]) ⟨rfl, rfl, rfl, rfl, rfl, rfl, rfl, trivial⟩ (hr_73 x1 x2 x3 x4 x5 x6 x5 h hL hF)
          · replace hF := br_F hc hF
            refine x_iload (i := 4) (b := 68) dX12_feed_66 rfl rfl ?_
            refine x_goto (tgt := 73) dX12_feed_68 (by decide) ?_
            exact x_dp (ls2 := [some (xr 12 0), some (xi x1), some (xi x2), some (xi x3), some (xi x4), some (xi x5), some (xi x6), none]) ⟨rfl, rfl, rfl, rfl, rfl, rfl, rfl, trivial⟩ (hr_73 x1 x2 x3 x4 x5 x6 x4 h hL hF)
        · replace hF := br_F hc hF
          refine x_iload_n (i := 3) (b := 56) dX12_feed_55 rfl rfl rfl ?_
          refine x_goto (tgt := 73) dX12_feed_56 (by decide) ?_
          exact x_dp (ls2 := [some (xr 12 0), some (xi x1), some (xi x2), some (xi x3), some (xi x4), some (xi x5), some (xi x6), none]) ⟨rfl, rfl, rfl, rfl, rfl, rfl, rfl, trivial⟩ (hr_73 x1 x2 x3 x4 x5 x6 x3 h hL hF)
      · replace hF := br_F hc hF
        refine x_iload_n (i := 2) (b := 45) dX12_feed_44 rfl rfl rfl ?_
        refine x_goto (tgt := 73) dX12_feed_45 (by decide) ?_
        exact x_dp (ls2 := [some (xr 12 0), some (xi x1), some (xi x2), some (xi x3), some (xi x4), some (xi x5), some (xi x6), none]) ⟨rfl, rfl, rfl, rfl, rfl, rfl, rfl, trivial⟩ (hr_73 x1 x2 x3 x4 x5 x6 x2 h hL hF)
    · replace hF := br_F hc hF
      refine x_iload_n (i := 1) (b := 34) dX12_feed_33 rfl rfl rfl ?_
      refine x_goto (tgt := 73) dX12_feed_34 (by decide) ?_
      exact x_dp (ls2 := [some (xr 12 0), some (xi x1), some (xi x2), some (xi x3), some (xi x4), some (xi x5), some (xi x6), none]) ⟨rfl, rfl, rfl, rfl, rfl, rfl, rfl, trivial⟩ (hr_73 x1 x2 x3 x4 x5 x6 x1 h hL hF)
set_option maxHeartbeats 4000000 in
set_option maxRecDepth 100000 in
theorem t_X12_feed_2 (E : xE) (d : Nat) (rec : Rk) (r : Int × Hp) (hr_20 : ∀ (x1 x2 x3 x4 x5 x6 : Int) (h : Hp), Lay h → rec 1 [x1, x2, x3, x4, x5, x6] h = some r → X E mX12_feed (d + 1) (0, 0) (0, 0) 20 [some (xr 12 0), some (xi x1), some (xi x2), some (xi x3), some (xi x4), some (xi x5), some (xi x6), none] [] h (PoI r)) (x1 x2 x3 x4 x5 x6 y0 : Int) (h : Hp) (hL : Lay h) (hF : b_X12_feed_2 rec x1 x2 x3 x4 x5 x6 y0 h = some r) : X E mX12_feed (d + 1) (0, 0) (0, 0) 73 [some (xr 12 0), some (xi x1), some (xi x2), some (xi x3), some (xi x4), some (xi x5), some (xi x6), none] [xi y0] h (PoI r) := by
  unfold b_X12_feed_2 at hF
  refine x_istore (i := 7) (b := 75) (ls2 := [some (xr 12 0), some (xi x1), some (xi x2), some (xi x3), some (xi x4), some (xi x5), some (xi x6), some (xi y0)]) dX12_feed_73 (Nat.le_of_ble_eq_true rfl) rfl rfl ?_
  refine x_aload_n (i := 0) (b := 76) dX12_feed_75 rfl rfl rfl ?_
  refine x_getL (j := 0) (t := (60, 0, true)) (b := 79) fk_X12_7 dX12_feed_76 rfl hL rfl rfl rfl ?_
  refine x_aload_n (i := 0) (b := 80) dX12_feed_79 rfl rfl rfl ?_
  refine x_getI (v := gI h 12 0 2) (b := 83) fk_X12_197 dX12_feed_80 (by decide) rfl rfl ?_
  refine x_iload (i := 6) (b := 85) dX12_feed_83 rfl rfl ?_
  obtain ⟨hs, hF⟩ := ck_e hF
  refine x_iadd (b := 86) dX12_feed_85 hs rfl ?_
  refine x_iload (i := 7) (b := 88) dX12_feed_86 rfl rfl ?_
  refine x_bipush (n := 24) (b := 90) dX12_feed_88 (by decide) rfl ?_
  refine x_bipush (n := 8) (b := 92) dX12_feed_90 (by decide) rfl ?_
  refine x_iload (i := 6) (b := 94) dX12_feed_92 rfl rfl ?_
  refine x_iconst (n := 4) (b := 95) dX12_feed_94 (by decide) rfl ?_
  obtain ⟨hs, hF⟩ := ck_e hF
  refine x_irem (b := 96) dX12_feed_95 hs.1 hs.2 rfl ?_
  obtain ⟨hs, hF⟩ := ck_e hF
  refine x_imul (b := 97) dX12_feed_96 hs rfl ?_
  obtain ⟨hs, hF⟩ := ck_e hF
  refine x_isub (b := 98) dX12_feed_97 hs rfl ?_
  refine x_ishr (b := 99) dX12_feed_98 rfl ?_
  refine x_sipush (n := 255) (b := 102) dX12_feed_99 (by decide) rfl ?_
  refine x_iand (b := 103) dX12_feed_102 rfl ?_
  obtain ⟨hs, hF⟩ := ck_e hF
  have hs1 := hs
  refine x_iast (b := 104) ak_60 dX12_feed_103 hs1 rfl ?_
  obtain ⟨h1, e_h1, hF⟩ := lt_e hF
  refine x_hp (h2 := h1) e_h1 ?_
  replace hL : Lay h1 := by rw [← e_h1]; exact hL
  obtain ⟨hs, hF⟩ := ck_e hF
  refine x_iinc (i := 6) (b := 107) (ls2 := [some (xr 12 0), some (xi x1), some (xi x2), some (xi x3), some (xi x4), some (xi x5), some (xi (x6 + 1)), some (xi y0)]) dX12_feed_104 rfl (Nat.le_of_ble_eq_true rfl) hs rfl rfl ?_
  refine x_goto (tgt := 20) dX12_feed_107 (by decide) ?_
  exact x_dp (ls2 := [some (xr 12 0), some (xi x1), some (xi x2), some (xi x3), some (xi x4), some (xi x5), some (xi (x6 + 1)), none]) ⟨rfl, rfl, rfl, rfl, rfl, rfl, rfl, trivial⟩ (hr_20 x1 x2 x3 x4 x5 (x6 + 1) h1 hL hF)
set_option maxHeartbeats 4000000 in
set_option maxRecDepth 100000 in
theorem u_X12_feed (E : xE) (d : Nat) (r : Int × Hp) : ∀ n : Nat, (∀ (x1 x2 x3 x4 x5 : Int) (h : Hp), Lay h → g_X12_feed n 0 [x1, x2, x3, x4, x5] h = some r → X E mX12_feed (d + 1) (0, 0) (0, 0) 0 [some (xr 12 0), some (xi x1), some (xi x2), some (xi x3), some (xi x4), some (xi x5), none, none] [] h (PoI r)) ∧ (∀ (x1 x2 x3 x4 x5 x6 : Int) (h : Hp), Lay h → g_X12_feed n 1 [x1, x2, x3, x4, x5, x6] h = some r → X E mX12_feed (d + 1) (0, 0) (0, 0) 20 [some (xr 12 0), some (xi x1), some (xi x2), some (xi x3), some (xi x4), some (xi x5), some (xi x6), none] [] h (PoI r)) ∧ (∀ (x1 x2 x3 x4 x5 x6 y0 : Int) (h : Hp), Lay h → g_X12_feed n 2 [x1, x2, x3, x4, x5, x6, y0] h = some r → X E mX12_feed (d + 1) (0, 0) (0, 0) 73 [some (xr 12 0), some (xi x1), some (xi x2), some (xi x3), some (xi x4), some (xi x5), some (xi x6), none] [xi y0] h (PoI r)) := by
  intro n
  induction n with
  | zero => exact ⟨fun _ _ _ _ _ _ _ hF => no_e (r := r) hF, fun _ _ _ _ _ _ _ _ hF => no_e (r := r) hF, fun _ _ _ _ _ _ _ _ _ hF => no_e (r := r) hF⟩
  | succ n ih => exact ⟨fun x1 x2 x3 x4 x5 h hL hF => t_X12_feed_0 E d (g_X12_feed n) r ih.2.1 x1 x2 x3 x4 x5 h hL hF, fun x1 x2 x3 x4 x5 x6 h hL hF => t_X12_feed_1 E d (g_X12_feed n) r ih.2.2 x1 x2 x3 x4 x5 x6 h hL hF, fun x1 x2 x3 x4 x5 x6 y0 h hL hF => t_X12_feed_2 E d (g_X12_feed n) r ih.2.1 x1 x2 x3 x4 x5 x6 y0 h hL hF⟩
theorem c_X12_feed (d : Nat) (x1 x2 x3 x4 x5 : Int) (h : Hp) (r : Int × Hp) (hL : Lay h) (hF : f_X12_feed x1 x2 x3 x4 x5 h = some r) : Sp mX12_feed (d + 1) (0, 0) [xr 12 0, xi x1, xi x2, xi x3, xi x4, xi x5] h (PoI r) :=
  sp_of (by decide) rfl (Nat.le_of_ble_eq_true rfl) (ls := [some (xr 12 0), some (xi x1), some (xi x2), some (xi x3), some (xi x4), some (xi x5), none, none]) rfl (fun E _ => (u_X12_feed E d r FU).1 x1 x2 x3 x4 x5 h hL hF)
theorem dX12_fresher_0 : decode cX12_fresher 0 = .ok (.aload_n 0, 1) := by decide +kernel
theorem dX12_fresher_1 : decode cX12_fresher 1 = .ok (.getfield 13, 3) := by decide +kernel
theorem dX12_fresher_4 : decode cX12_fresher 4 = .ok (.bipush 15, 2) := by decide +kernel
theorem dX12_fresher_6 : decode cX12_fresher 6 = .ok (.iload_n 1, 1) := by decide +kernel
theorem dX12_fresher_7 : decode cX12_fresher 7 = .ok (.iadd, 1) := by decide +kernel
theorem dX12_fresher_8 : decode cX12_fresher 8 = .ok (.iaload, 1) := by decide +kernel
theorem dX12_fresher_9 : decode cX12_fresher 9 = .ok (.ireturn, 1) := by decide +kernel
noncomputable def b_X12_fresher_0 (rec : Rk) (x1 : Int) (h : Hp) : Option (Int × Hp) :=
  ck (-2147483648 ≤ 15 + x1 ∧ 15 + x1 < 2147483648) <|
  ck (0 ≤ (15 + x1) ∧ (15 + x1) < 30) <|
  some (gI h 61 0 (15 + x1), h)
noncomputable def g_X12_fresher (n : Nat) : Rk := Nat.rec (motive := fun _ => Rk) (fun _ _ _ => none) (fun _ rec k l h => if k = 0 then b_X12_fresher_0 rec (l.getD 0 0) h else none) n
noncomputable def f_X12_fresher (x1 : Int) (h : Hp) : Option (Int × Hp) := g_X12_fresher FU 0 [x1] h
set_option maxHeartbeats 4000000 in
set_option maxRecDepth 100000 in
theorem t_X12_fresher_0 (E : xE) (d : Nat) (rec : Rk) (r : Int × Hp) (x1 : Int) (h : Hp) (hL : Lay h) (hF : b_X12_fresher_0 rec x1 h = some r) : X E mX12_fresher (d + 1) (0, 0) (0, 0) 0 [some (xr 12 0), some (xi x1)] [] h (PoI r) := by
  unfold b_X12_fresher_0 at hF
  refine x_aload_n (i := 0) (b := 1) dX12_fresher_0 rfl rfl rfl ?_
  refine x_getL (j := 0) (t := (61, 0, true)) (b := 4) fk_X12_13 dX12_fresher_1 rfl hL rfl rfl rfl ?_
  refine x_bipush (n := 15) (b := 6) dX12_fresher_4 (by decide) rfl ?_
  refine x_iload_n (i := 1) (b := 7) dX12_fresher_6 rfl rfl rfl ?_
  obtain ⟨hs, hF⟩ := ck_e hF
  refine x_iadd (b := 8) dX12_fresher_7 hs rfl ?_
  obtain ⟨hs, hF⟩ := ck_e hF
  refine x_iald (v := gI h 61 0 (15 + x1)) (b := 9) ak_61 dX12_fresher_8 hs rfl rfl ?_
  refine x_ireturn dX12_fresher_9 rfl ⟨Nat.le_refl _, Nat.le_refl _⟩ ?_
  cases hF
  exact ⟨rfl, rfl, hL⟩
set_option maxHeartbeats 4000000 in
set_option maxRecDepth 100000 in
theorem u_X12_fresher (E : xE) (d : Nat) (r : Int × Hp) : ∀ n : Nat, (∀ (x1 : Int) (h : Hp), Lay h → g_X12_fresher n 0 [x1] h = some r → X E mX12_fresher (d + 1) (0, 0) (0, 0) 0 [some (xr 12 0), some (xi x1)] [] h (PoI r)) := by
  intro n
  induction n with
  | zero => exact fun _ _ _ hF => no_e (r := r) hF
  | succ n ih => exact fun x1 h hL hF => t_X12_fresher_0 E d (g_X12_fresher n) r  x1 h hL hF
theorem c_X12_fresher (d : Nat) (x1 : Int) (h : Hp) (r : Int × Hp) (hL : Lay h) (hF : f_X12_fresher x1 h = some r) : Sp mX12_fresher (d + 1) (0, 0) [xr 12 0, xi x1] h (PoI r) :=
  sp_of (by decide) rfl (Nat.le_of_ble_eq_true rfl) (ls := [some (xr 12 0), some (xi x1)]) rfl (fun E _ => (u_X12_fresher E d r FU) x1 h hL hF)
theorem dX12_here_0 : decode cX12_here 0 = .ok (.aload_n 0, 1) := by decide +kernel
theorem dX12_here_1 : decode cX12_here 1 = .ok (.getfield 200, 3) := by decide +kernel
theorem dX12_here_4 : decode cX12_here 4 = .ok (.aload_n 0, 1) := by decide +kernel
theorem dX12_here_5 : decode cX12_here 5 = .ok (.getfield 203, 3) := by decide +kernel
theorem dX12_here_8 : decode cX12_here 8 = .ok (.if_icmp .ge 15, 3) := by decide +kernel
theorem dX12_here_11 : decode cX12_here 11 = .ok (.aload_n 0, 1) := by decide +kernel
theorem dX12_here_12 : decode cX12_here 12 = .ok (.getfield 7, 3) := by decide +kernel
theorem dX12_here_15 : decode cX12_here 15 = .ok (.aload_n 0, 1) := by decide +kernel
theorem dX12_here_16 : decode cX12_here 16 = .ok (.getfield 200, 3) := by decide +kernel
theorem dX12_here_19 : decode cX12_here 19 = .ok (.iaload, 1) := by decide +kernel
theorem dX12_here_20 : decode cX12_here 20 = .ok (.goto 4, 3) := by decide +kernel
theorem dX12_here_23 : decode cX12_here 23 = .ok (.iconst (-1), 1) := by decide +kernel
theorem dX12_here_24 : decode cX12_here 24 = .ok (.ireturn, 1) := by decide +kernel
noncomputable def b_X12_here_0 (rec : Rk) (h : Hp) : Option (Int × Hp) :=
  if (gI h 12 0 27) ≤ (gI h 12 0 28) then (
    some ((-1), h)
  ) else (
    ck (0 ≤ (gI h 12 0 28) ∧ (gI h 12 0 28) < 800) <|
    some (gI h 60 0 (gI h 12 0 28), h)
  )
noncomputable def g_X12_here (n : Nat) : Rk := Nat.rec (motive := fun _ => Rk) (fun _ _ _ => none) (fun _ rec k l h => if k = 0 then b_X12_here_0 rec  h else none) n
noncomputable def f_X12_here (h : Hp) : Option (Int × Hp) := g_X12_here FU 0 [] h
set_option maxHeartbeats 4000000 in
set_option maxRecDepth 100000 in
theorem t_X12_here_0 (E : xE) (d : Nat) (rec : Rk) (r : Int × Hp) (h : Hp) (hL : Lay h) (hF : b_X12_here_0 rec  h = some r) : X E mX12_here (d + 1) (0, 0) (0, 0) 0 [some (xr 12 0)] [] h (PoI r) := by
  unfold b_X12_here_0 at hF
  refine x_aload_n (i := 0) (b := 1) dX12_here_0 rfl rfl rfl ?_
  refine x_getI (v := gI h 12 0 28) (b := 4) fk_X12_200 dX12_here_1 (by decide) rfl rfl ?_
  refine x_aload_n (i := 0) (b := 5) dX12_here_4 rfl rfl rfl ?_
  refine x_getI (v := gI h 12 0 27) (b := 8) fk_X12_203 dX12_here_5 (by decide) rfl rfl ?_
  refine x_icmp_ge (tgt := 23) (b := 11) dX12_here_8 (by decide) rfl (fun hc => ?_) (fun hc => ?_)
  · replace hF := br_T hc hF
    refine x_iconst (n := (-1)) (b := 24) dX12_here_23 (by decide) rfl ?_
    refine x_ireturn dX12_here_24 rfl ⟨Nat.le_refl _, Nat.le_refl _⟩ ?_
    cases hF
    exact ⟨rfl, rfl, hL⟩
  · replace hF := br_F hc hF
    refine x_aload_n (i := 0) (b := 12) dX12_here_11 rfl rfl rfl ?_
    refine x_getL (j := 0) (t := (60, 0, true)) (b := 15) fk_X12_7 dX12_here_12 rfl hL rfl rfl rfl ?_
    refine x_aload_n (i := 0) (b := 16) dX12_here_15 rfl rfl rfl ?_
    refine x_getI (v := gI h 12 0 28) (b := 19) fk_X12_200 dX12_here_16 (by decide) rfl rfl ?_
    obtain ⟨hs, hF⟩ := ck_e hF
    refine x_iald (v := gI h 60 0 (gI h 12 0 28)) (b := 20) ak_60 dX12_here_19 hs rfl rfl ?_
    refine x_goto (tgt := 24) dX12_here_20 (by decide) ?_
    refine x_ireturn dX12_here_24 rfl ⟨Nat.le_refl _, Nat.le_refl _⟩ ?_
    cases hF
    exact ⟨rfl, rfl, hL⟩
set_option maxHeartbeats 4000000 in
set_option maxRecDepth 100000 in
theorem u_X12_here (E : xE) (d : Nat) (r : Int × Hp) : ∀ n : Nat, (∀ (h : Hp), Lay h → g_X12_here n 0 [] h = some r → X E mX12_here (d + 1) (0, 0) (0, 0) 0 [some (xr 12 0)] [] h (PoI r)) := by
  intro n
  induction n with
  | zero => exact fun _ _ hF => no_e (r := r) hF
  | succ n ih => exact fun h hL hF => t_X12_here_0 E d (g_X12_here n) r   h hL hF
theorem c_X12_here (d : Nat) (h : Hp) (r : Int × Hp) (hL : Lay h) (hF : f_X12_here  h = some r) : Sp mX12_here (d + 1) (0, 0) [xr 12 0] h (PoI r) :=
  sp_of (by decide) rfl (Nat.le_of_ble_eq_true rfl) (ls := [some (xr 12 0)]) rfl (fun E _ => (u_X12_here E d r FU)  h hL hF)
theorem dX12_is_0 : decode cX12_is 0 = .ok (.iload_n 0, 1) := by decide +kernel
theorem dX12_is_1 : decode cX12_is 1 = .ok (.ifCond .eq 7, 3) := by decide +kernel
theorem dX12_is_4 : decode cX12_is 4 = .ok (.lconst 1, 1) := by decide +kernel
theorem dX12_is_5 : decode cX12_is 5 = .ok (.goto 4, 3) := by decide +kernel
theorem dX12_is_8 : decode cX12_is 8 = .ok (.lconst 0, 1) := by decide +kernel
theorem dX12_is_9 : decode cX12_is 9 = .ok (.lreturn, 1) := by decide +kernel
noncomputable def b_X12_is_0 (rec : Rk) (x0 : Int) (h : Hp) : Option (Int × Hp) :=
  if x0 = 0 then (
    some (0, h)
  ) else (
    some (1, h)
  )
noncomputable def g_X12_is (n : Nat) : Rk := Nat.rec (motive := fun _ => Rk) (fun _ _ _ => none) (fun _ rec k l h => if k = 0 then b_X12_is_0 rec (l.getD 0 0) h else none) n
noncomputable def f_X12_is (x0 : Int) (h : Hp) : Option (Int × Hp) := g_X12_is FU 0 [x0] h
set_option maxHeartbeats 4000000 in
set_option maxRecDepth 100000 in
theorem t_X12_is_0 (E : xE) (d : Nat) (rec : Rk) (r : Int × Hp) (x0 : Int) (h : Hp) (hL : Lay h) (hF : b_X12_is_0 rec x0 h = some r) : X E mX12_is (d + 1) (0, 0) (0, 0) 0 [some (xi x0)] [] h (PoL r) := by
  unfold b_X12_is_0 at hF
  refine x_iload_n (i := 0) (b := 1) dX12_is_0 rfl rfl rfl ?_
  refine x_if_eq (tgt := 8) (b := 4) dX12_is_1 (by decide) rfl (fun hc => ?_) (fun hc => ?_)
  · replace hF := br_T hc hF
    refine x_lconst (z := 0) (b := 9) dX12_is_8 rfl (by decide) rfl ?_
    refine x_lreturn dX12_is_9 rfl ⟨Nat.le_refl _, Nat.le_refl _⟩ ?_
    cases hF
    exact ⟨rfl, rfl, hL⟩
  · replace hF := br_F hc hF
    refine x_lconst (z := 1) (b := 5) dX12_is_4 rfl (by decide) rfl ?_
    refine x_goto (tgt := 9) dX12_is_5 (by decide) ?_
    refine x_lreturn dX12_is_9 rfl ⟨Nat.le_refl _, Nat.le_refl _⟩ ?_
    cases hF
    exact ⟨rfl, rfl, hL⟩
set_option maxHeartbeats 4000000 in
set_option maxRecDepth 100000 in
theorem u_X12_is (E : xE) (d : Nat) (r : Int × Hp) : ∀ n : Nat, (∀ (x0 : Int) (h : Hp), Lay h → g_X12_is n 0 [x0] h = some r → X E mX12_is (d + 1) (0, 0) (0, 0) 0 [some (xi x0)] [] h (PoL r)) := by
  intro n
  induction n with
  | zero => exact fun _ _ _ hF => no_e (r := r) hF
  | succ n ih => exact fun x0 h hL hF => t_X12_is_0 E d (g_X12_is n) r  x0 h hL hF
theorem c_X12_is (d : Nat) (x0 : Int) (h : Hp) (r : Int × Hp) (hL : Lay h) (hF : f_X12_is x0 h = some r) : Sp mX12_is (d + 1) (0, 0) [xi x0] h (PoL r) :=
  sp_of (by decide) rfl (Nat.le_of_ble_eq_true rfl) (ls := [some (xi x0)]) rfl (fun E _ => (u_X12_is E d r FU) x0 h hL hF)
theorem dX12_isCell_0 : decode cX12_isCell 0 = .ok (.iload_n 1, 1) := by decide +kernel
theorem dX12_isCell_1 : decode cX12_isCell 1 = .ok (.ifCond .lt 15, 3) := by decide +kernel
theorem dX12_isCell_4 : decode cX12_isCell 4 = .ok (.iload_n 1, 1) := by decide +kernel
theorem dX12_isCell_5 : decode cX12_isCell 5 = .ok (.aload_n 0, 1) := by decide +kernel
theorem dX12_isCell_6 : decode cX12_isCell 6 = .ok (.invokevirtual 374, 3) := by decide +kernel
theorem dX12_isCell_9 : decode cX12_isCell 9 = .ok (.if_icmp .ge 7, 3) := by decide +kernel
theorem dX12_isCell_12 : decode cX12_isCell 12 = .ok (.iconst 1, 1) := by decide +kernel
theorem dX12_isCell_13 : decode cX12_isCell 13 = .ok (.goto 4, 3) := by decide +kernel
theorem dX12_isCell_16 : decode cX12_isCell 16 = .ok (.iconst 0, 1) := by decide +kernel
theorem dX12_isCell_17 : decode cX12_isCell 17 = .ok (.ireturn, 1) := by decide +kernel
noncomputable def b_X12_isCell_0 (rec : Rk) (x1 : Int) (h : Hp) : Option (Int × Hp) :=
  if x1 < 0 then (
    some (0, h)
  ) else (
    bd (f_X12_cells h) fun v1 h2 =>
    if v1 ≤ x1 then (
      some (0, h2)
    ) else (
      some (1, h2)
    )
  )
noncomputable def g_X12_isCell (n : Nat) : Rk := Nat.rec (motive := fun _ => Rk) (fun _ _ _ => none) (fun _ rec k l h => if k = 0 then b_X12_isCell_0 rec (l.getD 0 0) h else none) n
noncomputable def f_X12_isCell (x1 : Int) (h : Hp) : Option (Int × Hp) := g_X12_isCell FU 0 [x1] h
set_option maxHeartbeats 4000000 in
set_option maxRecDepth 100000 in
theorem t_X12_isCell_0 (E : xE) (d : Nat) (rec : Rk) (r : Int × Hp) (x1 : Int) (h : Hp) (hL : Lay h) (hF : b_X12_isCell_0 rec x1 h = some r) : X E mX12_isCell (d + 2) (0, 0) (0, 0) 0 [some (xr 12 0), some (xi x1)] [] h (PoI r) := by
  unfold b_X12_isCell_0 at hF
  refine x_iload_n (i := 1) (b := 1) dX12_isCell_0 rfl rfl rfl ?_
  refine x_if_lt (tgt := 16) (b := 4) dX12_isCell_1 (by decide) rfl (fun hc => ?_) (fun hc => ?_)
  · replace hF := br_T hc hF
    refine x_iconst (n := 0) (b := 17) dX12_isCell_16 (by decide) rfl ?_
    refine x_zreturn dX12_isCell_17 rfl ⟨Nat.le_refl _, Nat.le_refl _⟩ (by decide) ?_
    cases hF
    exact ⟨rfl, rfl, hL⟩
  · replace hF := br_F hc hF
    refine x_iload_n (i := 1) (b := 5) dX12_isCell_4 rfl rfl rfl ?_
    refine x_aload_n (i := 0) (b := 6) dX12_isCell_5 rfl rfl rfl ?_
    obtain ⟨v1, h2, hq, hF⟩ := bd_e hF
    refine x_callV (as := []) (rest := [xi x1]) (b := 9) (c_X12_cells d h _ hL hq) dX12_isCell_6 cw_X12_374 ⟨_, _, rfl, Nat.le_of_ble_eq_true rfl⟩ rfl rfl (Nat.le_of_ble_eq_true rfl) ⟨Nat.le_refl _, Nat.le_refl _⟩ rfl (fun rv hh hp _ => ?_)
    obtain ⟨rfl, rfl, hL⟩ := hp
    refine x_icmp_ge (tgt := 16) (b := 12) dX12_isCell_9 (by decide) rfl (fun hc => ?_) (fun hc => ?_)
    · replace hF := br_T hc hF
      refine x_iconst (n := 0) (b := 17) dX12_isCell_16 (by decide) rfl ?_
      refine x_zreturn dX12_isCell_17 rfl ⟨Nat.le_refl _, Nat.le_refl _⟩ (by decide) ?_
      cases hF
      exact ⟨rfl, rfl, hL⟩
    · replace hF := br_F hc hF
      refine x_iconst (n := 1) (b := 13) dX12_isCell_12 (by decide) rfl ?_
      refine x_goto (tgt := 17) dX12_isCell_13 (by decide) ?_
      refine x_zreturn dX12_isCell_17 rfl ⟨Nat.le_refl _, Nat.le_refl _⟩ (by decide) ?_
      cases hF
      exact ⟨rfl, rfl, hL⟩
set_option maxHeartbeats 4000000 in
set_option maxRecDepth 100000 in
theorem u_X12_isCell (E : xE) (d : Nat) (r : Int × Hp) : ∀ n : Nat, (∀ (x1 : Int) (h : Hp), Lay h → g_X12_isCell n 0 [x1] h = some r → X E mX12_isCell (d + 2) (0, 0) (0, 0) 0 [some (xr 12 0), some (xi x1)] [] h (PoI r)) := by
  intro n
  induction n with
  | zero => exact fun _ _ _ hF => no_e (r := r) hF
  | succ n ih => exact fun x1 h hL hF => t_X12_isCell_0 E d (g_X12_isCell n) r  x1 h hL hF
theorem c_X12_isCell (d : Nat) (x1 : Int) (h : Hp) (r : Int × Hp) (hL : Lay h) (hF : f_X12_isCell x1 h = some r) : Sp mX12_isCell (d + 2) (0, 0) [xr 12 0, xi x1] h (PoI r) :=
  sp_of (by decide) rfl (Nat.le_of_ble_eq_true rfl) (ls := [some (xr 12 0), some (xi x1)]) rfl (fun E _ => (u_X12_isCell E d r FU) x1 h hL hF)
theorem dX12_isDigit_0 : decode cX12_isDigit 0 = .ok (.iload_n 0, 1) := by decide +kernel
theorem dX12_isDigit_1 : decode cX12_isDigit 1 = .ok (.bipush 48, 2) := by decide +kernel
theorem dX12_isDigit_3 : decode cX12_isDigit 3 = .ok (.if_icmp .lt 13, 3) := by decide +kernel
theorem dX12_isDigit_6 : decode cX12_isDigit 6 = .ok (.iload_n 0, 1) := by decide +kernel
theorem dX12_isDigit_7 : decode cX12_isDigit 7 = .ok (.bipush 57, 2) := by decide +kernel
theorem dX12_isDigit_9 : decode cX12_isDigit 9 = .ok (.if_icmp .gt 7, 3) := by decide +kernel
theorem dX12_isDigit_12 : decode cX12_isDigit 12 = .ok (.iconst 1, 1) := by decide +kernel
theorem dX12_isDigit_13 : decode cX12_isDigit 13 = .ok (.goto 4, 3) := by decide +kernel
theorem dX12_isDigit_16 : decode cX12_isDigit 16 = .ok (.iconst 0, 1) := by decide +kernel
theorem dX12_isDigit_17 : decode cX12_isDigit 17 = .ok (.ireturn, 1) := by decide +kernel
noncomputable def b_X12_isDigit_0 (rec : Rk) (x0 : Int) (h : Hp) : Option (Int × Hp) :=
  if x0 < 48 then (
    some (0, h)
  ) else (
    if 57 < x0 then (
      some (0, h)
    ) else (
      some (1, h)
    )
  )
noncomputable def g_X12_isDigit (n : Nat) : Rk := Nat.rec (motive := fun _ => Rk) (fun _ _ _ => none) (fun _ rec k l h => if k = 0 then b_X12_isDigit_0 rec (l.getD 0 0) h else none) n
noncomputable def f_X12_isDigit (x0 : Int) (h : Hp) : Option (Int × Hp) := g_X12_isDigit FU 0 [x0] h
set_option maxHeartbeats 4000000 in
set_option maxRecDepth 100000 in
theorem t_X12_isDigit_0 (E : xE) (d : Nat) (rec : Rk) (r : Int × Hp) (x0 : Int) (h : Hp) (hL : Lay h) (hF : b_X12_isDigit_0 rec x0 h = some r) : X E mX12_isDigit (d + 1) (0, 0) (0, 0) 0 [some (xi x0)] [] h (PoI r) := by
  unfold b_X12_isDigit_0 at hF
  refine x_iload_n (i := 0) (b := 1) dX12_isDigit_0 rfl rfl rfl ?_
  refine x_bipush (n := 48) (b := 3) dX12_isDigit_1 (by decide) rfl ?_
  refine x_icmp_lt (tgt := 16) (b := 6) dX12_isDigit_3 (by decide) rfl (fun hc => ?_) (fun hc => ?_)
  · replace hF := br_T hc hF
    refine x_iconst (n := 0) (b := 17) dX12_isDigit_16 (by decide) rfl ?_
    refine x_zreturn dX12_isDigit_17 rfl ⟨Nat.le_refl _, Nat.le_refl _⟩ (by decide) ?_
    cases hF
    exact ⟨rfl, rfl, hL⟩
  · replace hF := br_F hc hF
    refine x_iload_n (i := 0) (b := 7) dX12_isDigit_6 rfl rfl rfl ?_
    refine x_bipush (n := 57) (b := 9) dX12_isDigit_7 (by decide) rfl ?_
    refine x_icmp_gt (tgt := 16) (b := 12) dX12_isDigit_9 (by decide) rfl (fun hc => ?_) (fun hc => ?_)
    · replace hF := br_T hc hF
      refine x_iconst (n := 0) (b := 17) dX12_isDigit_16 (by decide) rfl ?_
      refine x_zreturn dX12_isDigit_17 rfl ⟨Nat.le_refl _, Nat.le_refl _⟩ (by decide) ?_
      cases hF
      exact ⟨rfl, rfl, hL⟩
    · replace hF := br_F hc hF
      refine x_iconst (n := 1) (b := 13) dX12_isDigit_12 (by decide) rfl ?_
      refine x_goto (tgt := 17) dX12_isDigit_13 (by decide) ?_
      refine x_zreturn dX12_isDigit_17 rfl ⟨Nat.le_refl _, Nat.le_refl _⟩ (by decide) ?_
      cases hF
      exact ⟨rfl, rfl, hL⟩
set_option maxHeartbeats 4000000 in
set_option maxRecDepth 100000 in
theorem u_X12_isDigit (E : xE) (d : Nat) (r : Int × Hp) : ∀ n : Nat, (∀ (x0 : Int) (h : Hp), Lay h → g_X12_isDigit n 0 [x0] h = some r → X E mX12_isDigit (d + 1) (0, 0) (0, 0) 0 [some (xi x0)] [] h (PoI r)) := by
  intro n
  induction n with
  | zero => exact fun _ _ _ hF => no_e (r := r) hF
  | succ n ih => exact fun x0 h hL hF => t_X12_isDigit_0 E d (g_X12_isDigit n) r  x0 h hL hF
theorem c_X12_isDigit (d : Nat) (x0 : Int) (h : Hp) (r : Int × Hp) (hL : Lay h) (hF : f_X12_isDigit x0 h = some r) : Sp mX12_isDigit (d + 1) (0, 0) [xi x0] h (PoI r) :=
  sp_of (by decide) rfl (Nat.le_of_ble_eq_true rfl) (ls := [some (xi x0)]) rfl (fun E _ => (u_X12_isDigit E d r FU) x0 h hL hF)
theorem dX12_isFull_0 : decode cX12_isFull 0 = .ok (.iload_n 1, 1) := by decide +kernel
theorem dX12_isFull_1 : decode cX12_isFull 1 = .ok (.iconst 1, 1) := by decide +kernel
theorem dX12_isFull_2 : decode cX12_isFull 2 = .ok (.if_icmp .ne 13, 3) := by decide +kernel
theorem dX12_isFull_5 : decode cX12_isFull 5 = .ok (.aload_n 0, 1) := by decide +kernel
theorem dX12_isFull_6 : decode cX12_isFull 6 = .ok (.iconst 2, 1) := by decide +kernel
theorem dX12_isFull_7 : decode cX12_isFull 7 = .ok (.invokevirtual 266, 3) := by decide +kernel
theorem dX12_isFull_10 : decode cX12_isFull 10 = .ok (.bipush 20, 2) := by decide +kernel
theorem dX12_isFull_12 : decode cX12_isFull 12 = .ok (.if_icmp .eq 65, 3) := by decide +kernel
theorem dX12_isFull_15 : decode cX12_isFull 15 = .ok (.iload_n 1, 1) := by decide +kernel
theorem dX12_isFull_16 : decode cX12_isFull 16 = .ok (.iconst 4, 1) := by decide +kernel
theorem dX12_isFull_17 : decode cX12_isFull 17 = .ok (.if_icmp .ne 12, 3) := by decide +kernel
theorem dX12_isFull_20 : decode cX12_isFull 20 = .ok (.aload_n 0, 1) := by decide +kernel
theorem dX12_isFull_21 : decode cX12_isFull 21 = .ok (.iconst 5, 1) := by decide +kernel
theorem dX12_isFull_22 : decode cX12_isFull 22 = .ok (.invokevirtual 266, 3) := by decide +kernel
theorem dX12_isFull_25 : decode cX12_isFull 25 = .ok (.iconst 3, 1) := by decide +kernel
theorem dX12_isFull_26 : decode cX12_isFull 26 = .ok (.if_icmp .eq 51, 3) := by decide +kernel
theorem dX12_isFull_29 : decode cX12_isFull 29 = .ok (.iload_n 1, 1) := by decide +kernel
theorem dX12_isFull_30 : decode cX12_isFull 30 = .ok (.bipush 6, 2) := by decide +kernel
theorem dX12_isFull_32 : decode cX12_isFull 32 = .ok (.if_icmp .ne 13, 3) := by decide +kernel
theorem dX12_isFull_35 : decode cX12_isFull 35 = .ok (.aload_n 0, 1) := by decide +kernel
theorem dX12_isFull_36 : decode cX12_isFull 36 = .ok (.bipush 7, 2) := by decide +kernel
theorem dX12_isFull_38 : decode cX12_isFull 38 = .ok (.invokevirtual 266, 3) := by decide +kernel
theorem dX12_isFull_41 : decode cX12_isFull 41 = .ok (.iconst 4, 1) := by decide +kernel
theorem dX12_isFull_42 : decode cX12_isFull 42 = .ok (.if_icmp .eq 35, 3) := by decide +kernel
theorem dX12_isFull_45 : decode cX12_isFull 45 = .ok (.iload_n 1, 1) := by decide +kernel
theorem dX12_isFull_46 : decode cX12_isFull 46 = .ok (.bipush 10, 2) := by decide +kernel
theorem dX12_isFull_48 : decode cX12_isFull 48 = .ok (.if_icmp .ne 13, 3) := by decide +kernel
theorem dX12_isFull_51 : decode cX12_isFull 51 = .ok (.aload_n 0, 1) := by decide +kernel
theorem dX12_isFull_52 : decode cX12_isFull 52 = .ok (.bipush 12, 2) := by decide +kernel
theorem dX12_isFull_54 : decode cX12_isFull 54 = .ok (.invokevirtual 266, 3) := by decide +kernel
theorem dX12_isFull_57 : decode cX12_isFull 57 = .ok (.iconst 5, 1) := by decide +kernel
theorem dX12_isFull_58 : decode cX12_isFull 58 = .ok (.if_icmp .eq 19, 3) := by decide +kernel
theorem dX12_isFull_61 : decode cX12_isFull 61 = .ok (.iload_n 1, 1) := by decide +kernel
theorem dX12_isFull_62 : decode cX12_isFull 62 = .ok (.bipush 11, 2) := by decide +kernel
theorem dX12_isFull_64 : decode cX12_isFull 64 = .ok (.if_icmp .ne 17, 3) := by decide +kernel
theorem dX12_isFull_67 : decode cX12_isFull 67 = .ok (.aload_n 0, 1) := by decide +kernel
theorem dX12_isFull_68 : decode cX12_isFull 68 = .ok (.bipush 13, 2) := by decide +kernel
theorem dX12_isFull_70 : decode cX12_isFull 70 = .ok (.invokevirtual 266, 3) := by decide +kernel
theorem dX12_isFull_73 : decode cX12_isFull 73 = .ok (.iconst 4, 1) := by decide +kernel
theorem dX12_isFull_74 : decode cX12_isFull 74 = .ok (.if_icmp .ne 7, 3) := by decide +kernel
theorem dX12_isFull_77 : decode cX12_isFull 77 = .ok (.iconst 1, 1) := by decide +kernel
theorem dX12_isFull_78 : decode cX12_isFull 78 = .ok (.goto 4, 3) := by decide +kernel
theorem dX12_isFull_81 : decode cX12_isFull 81 = .ok (.iconst 0, 1) := by decide +kernel
theorem dX12_isFull_82 : decode cX12_isFull 82 = .ok (.ireturn, 1) := by decide +kernel
noncomputable def b_X12_isFull_0 (rec : Rk) (x1 : Int) (h : Hp) : Option (Int × Hp) :=
  if x1 = 1 then (
    bd (f_X12_fresher 2 h) fun v1 h2 =>
    if v1 = 20 then (
      rec 5 [] h2
    ) else (
      rec 1 [x1] h2
    )
  ) else (
    rec 1 [x1] h
  )
noncomputable def b_X12_isFull_1 (rec : Rk) (x1 : Int) (h : Hp) : Option (Int × Hp) :=
  if x1 = 4 then (
    bd (f_X12_fresher 5 h) fun v1 h2 =>
    if v1 = 3 then (
      rec 5 [] h2
    ) else (
      rec 2 [x1] h2
    )
  ) else (
    rec 2 [x1] h
  )
noncomputable def b_X12_isFull_2 (rec : Rk) (x1 : Int) (h : Hp) : Option (Int × Hp) :=
  if x1 = 6 then (
    bd (f_X12_fresher 7 h) fun v1 h2 =>
    if v1 = 4 then (
      rec 5 [] h2
    ) else (
      rec 3 [x1] h2
    )
  ) else (
    rec 3 [x1] h
  )
noncomputable def b_X12_isFull_3 (rec : Rk) (x1 : Int) (h : Hp) : Option (Int × Hp) :=
  if x1 = 10 then (
    bd (f_X12_fresher 12 h) fun v1 h2 =>
    if v1 = 5 then (
      rec 5 [] h2
    ) else (
      rec 4 [x1] h2
    )
  ) else (
    rec 4 [x1] h
  )
noncomputable def b_X12_isFull_4 (rec : Rk) (x1 : Int) (h : Hp) : Option (Int × Hp) :=
  if x1 = 11 then (
    bd (f_X12_fresher 13 h) fun v1 h2 =>
    if v1 = 4 then (
      rec 5 [] h2
    ) else (
      some (0, h2)
    )
  ) else (
    some (0, h)
  )
noncomputable def b_X12_isFull_5 (rec : Rk) (h : Hp) : Option (Int × Hp) :=
  some (1, h)
noncomputable def g_X12_isFull (n : Nat) : Rk := Nat.rec (motive := fun _ => Rk) (fun _ _ _ => none) (fun _ rec k l h => if k = 0 then b_X12_isFull_0 rec (l.getD 0 0) h else if k = 1 then b_X12_isFull_1 rec (l.getD 0 0) h else if k = 2 then b_X12_isFull_2 rec (l.getD 0 0) h else if k = 3 then b_X12_isFull_3 rec (l.getD 0 0) h else if k = 4 then b_X12_isFull_4 rec (l.getD 0 0) h else if k = 5 then b_X12_isFull_5 rec  h else none) n
noncomputable def f_X12_isFull (x1 : Int) (h : Hp) : Option (Int × Hp) := g_X12_isFull FU 0 [x1] h
set_option maxHeartbeats 4000000 in
set_option maxRecDepth 100000 in
theorem t_X12_isFull_0 (E : xE) (d : Nat) (rec : Rk) (r : Int × Hp) (hr_15 : ∀ (x1 : Int) (h : Hp), Lay h → rec 1 [x1] h = some r → X E mX12_isFull (d + 2) (0, 0) (0, 0) 15 [some (xr 12 0), some (xi x1)] [] h (PoI r)) (hr_77 : ∀ (h : Hp), Lay h → rec 5 [] h = some r → X E mX12_isFull (d + 2) (0, 0) (0, 0) 77 [none, none] [] h (PoI r)) (x1 : Int) (h : Hp) (hL : Lay h) (hF : b_X12_isFull_0 rec x1 h = some r) : X E mX12_isFull (d + 2) (0, 0) (0, 0) 0 [some (xr 12 0), some (xi x1)] [] h (PoI r) := by
  unfold b_X12_isFull_0 at hF
  refine x_iload_n (i := 1) (b := 1) dX12_isFull_0 rfl rfl rfl ?_
  refine x_iconst (n := 1) (b := 2) dX12_isFull_1 (by decide) rfl ?_
  refine x_icmp_ne (tgt := 15) (b := 5) dX12_isFull_2 (by decide) rfl (fun hc => ?_) (fun hc => ?_)
  · replace hF := br_F hc hF
    exact x_dp (ls2 := [some (xr 12 0), some (xi x1)]) ⟨rfl, rfl, trivial⟩ (hr_15 x1 h hL hF)
  · replace hF := br_T hc hF
    refine x_aload_n (i := 0) (b := 6) dX12_isFull_5 rfl rfl rfl ?_
    refine x_iconst (n := 2) (b := 7) dX12_isFull_6 (by decide) rfl ?_
    obtain ⟨v1, h2, hq, hF⟩ := bd_e hF
    refine x_callV (as := [xi 2]) (rest := []) (b := 10) (c_X12_fresher d 2 h _ hL hq) dX12_isFull_7 cw_X12_266 ⟨_, _, rfl, Nat.le_of_ble_eq_true rfl⟩ rfl rfl (Nat.le_of_ble_eq_true rfl) ⟨Nat.le_refl _, Nat.le_refl _⟩ rfl (fun rv hh hp _ => ?_)
    obtain ⟨rfl, rfl, hL⟩ := hp
    refine x_bipush (n := 20) (b := 12) dX12_isFull_10 (by decide) rfl ?_
    refine x_icmp_eq (tgt := 77) (b := 15) dX12_isFull_12 (by decide) rfl (fun hc => ?_) (fun hc => ?_)
    · replace hF := br_T hc hF
      exact x_dp (ls2 := [none, none]) trivial (hr_77  h2 hL hF)
    · replace hF := br_F hc hF
      exact x_dp (ls2 := [some (xr 12 0), some (xi x1)]) ⟨rfl, rfl, trivial⟩ (hr_15 x1 h2 hL hF)
set_option maxHeartbeats 4000000 in
set_option maxRecDepth 100000 in
theorem t_X12_isFull_1 (E : xE) (d : Nat) (rec : Rk) (r : Int × Hp) (hr_29 : ∀ (x1 : Int) (h : Hp), Lay h → rec 2 [x1] h = some r → X E mX12_isFull (d + 2) (0, 0) (0, 0) 29 [some (xr 12 0), some (xi x1)] [] h (PoI r)) (hr_77 : ∀ (h : Hp), Lay h → rec 5 [] h = some r → X E mX12_isFull (d + 2) (0, 0) (0, 0) 77 [none, none] [] h (PoI r)) (x1 : Int) (h : Hp) (hL : Lay h) (hF : b_X12_isFull_1 rec x1 h = some r) : X E mX12_isFull (d + 2) (0, 0) (0, 0) 15 [some (xr 12 0), some (xi x1)] [] h (PoI r) := by
  unfold b_X12_isFull_1 at hF
  refine x_iload_n (i := 1) (b := 16) dX12_isFull_15 rfl rfl rfl ?_
  refine x_iconst (n := 4) (b := 17) dX12_isFull_16 (by decide) rfl ?_
  refine x_icmp_ne (tgt := 29) (b := 20) dX12_isFull_17 (by decide) rfl (fun hc => ?_) (fun hc => ?_)
  · replace hF := br_F hc hF
    exact x_dp (ls2 := [some (xr 12 0), some (xi x1)]) ⟨rfl, rfl, trivial⟩ (hr_29 x1 h hL hF)
  · replace hF := br_T hc hF
    refine x_aload_n (i := 0) (b := 21) dX12_isFull_20 rfl rfl rfl ?_
    refine x_iconst (n := 5) (b := 22) dX12_isFull_21 (by decide) rfl ?_
    obtain ⟨v1, h2, hq, hF⟩ := bd_e hF
    refine x_callV (as := [xi 5]) (rest := []) (b := 25) (c_X12_fresher d 5 h _ hL hq) dX12_isFull_22 cw_X12_266 ⟨_, _, rfl, Nat.le_of_ble_eq_true rfl⟩ rfl rfl (Nat.le_of_ble_eq_true rfl) ⟨Nat.le_refl _, Nat.le_refl _⟩ rfl (fun rv hh hp _ => ?_)
    obtain ⟨rfl, rfl, hL⟩ := hp
    refine x_iconst (n := 3) (b := 26) dX12_isFull_25 (by decide) rfl ?_
    refine x_icmp_eq (tgt := 77) (b := 29) dX12_isFull_26 (by decide) rfl (fun hc => ?_) (fun hc => ?_)
    · replace hF := br_T hc hF
      exact x_dp (ls2 := [none, none]) trivial (hr_77  h2 hL hF)
    · replace hF := br_F hc hF
      exact x_dp (ls2 := [some (xr 12 0), some (xi x1)]) ⟨rfl, rfl, trivial⟩ (hr_29 x1 h2 hL hF)
set_option maxHeartbeats 4000000 in
set_option maxRecDepth 100000 in
theorem t_X12_isFull_2 (E : xE) (d : Nat) (rec : Rk) (r : Int × Hp) (hr_45 : ∀ (x1 : Int) (h : Hp), Lay h → rec 3 [x1] h = some r → X E mX12_isFull (d + 2) (0, 0) (0, 0) 45 [some (xr 12 0), some (xi x1)] [] h (PoI r)) (hr_77 : ∀ (h : Hp), Lay h → rec 5 [] h = some r → X E mX12_isFull (d + 2) (0, 0) (0, 0) 77 [none, none] [] h (PoI r)) (x1 : Int) (h : Hp) (hL : Lay h) (hF : b_X12_isFull_2 rec x1 h = some r) : X E mX12_isFull (d + 2) (0, 0) (0, 0) 29 [some (xr 12 0), some (xi x1)] [] h (PoI r) := by
  unfold b_X12_isFull_2 at hF
  refine x_iload_n (i := 1) (b := 30) dX12_isFull_29 rfl rfl rfl ?_
  refine x_bipush (n := 6) (b := 32) dX12_isFull_30 (by decide) rfl ?_
  refine x_icmp_ne (tgt := 45) (b := 35) dX12_isFull_32 (by decide) rfl (fun hc => ?_) (fun hc => ?_)
  · replace hF := br_F hc hF
    exact x_dp (ls2 := [some (xr 12 0), some (xi x1)]) ⟨rfl, rfl, trivial⟩ (hr_45 x1 h hL hF)
  · replace hF := br_T hc hF
    refine x_aload_n (i := 0) (b := 36) dX12_isFull_35 rfl rfl rfl ?_
    refine x_bipush (n := 7) (b := 38) dX12_isFull_36 (by decide) rfl ?_
    obtain ⟨v1, h2, hq, hF⟩ := bd_e hF
    refine x_callV (as := [xi 7]) (rest := []) (b := 41) (c_X12_fresher d 7 h _ hL hq) dX12_isFull_38 cw_X12_266 ⟨_, _, rfl, Nat.le_of_ble_eq_true rfl⟩ rfl rfl (Nat.le_of_ble_eq_true rfl) ⟨Nat.le_refl _, Nat.le_refl _⟩ rfl (fun rv hh hp _ => ?_)
    obtain ⟨rfl, rfl, hL⟩ := hp
    refine x_iconst (n := 4) (b := 42) dX12_isFull_41 (by decide) rfl ?_
    refine x_icmp_eq (tgt := 77) (b := 45) dX12_isFull_42 (by decide) rfl (fun hc => ?_) (fun hc => ?_)
    · replace hF := br_T hc hF
      exact x_dp (ls2 := [none, none]) trivial (hr_77  h2 hL hF)
    · replace hF := br_F hc hF
      exact x_dp (ls2 := [some (xr 12 0), some (xi x1)]) ⟨rfl, rfl, trivial⟩ (hr_45 x1 h2 hL hF)
set_option maxHeartbeats 4000000 in
set_option maxRecDepth 100000 in
theorem t_X12_isFull_3 (E : xE) (d : Nat) (rec : Rk) (r : Int × Hp) (hr_61 : ∀ (x1 : Int) (h : Hp), Lay h → rec 4 [x1] h = some r → X E mX12_isFull (d + 2) (0, 0) (0, 0) 61 [some (xr 12 0), some (xi x1)] [] h (PoI r)) (hr_77 : ∀ (h : Hp), Lay h → rec 5 [] h = some r → X E mX12_isFull (d + 2) (0, 0) (0, 0) 77 [none, none] [] h (PoI r)) (x1 : Int) (h : Hp) (hL : Lay h) (hF : b_X12_isFull_3 rec x1 h = some r) : X E mX12_isFull (d + 2) (0, 0) (0, 0) 45 [some (xr 12 0), some (xi x1)] [] h (PoI r) := by
  unfold b_X12_isFull_3 at hF
  refine x_iload_n (i := 1) (b := 46) dX12_isFull_45 rfl rfl rfl ?_
  refine x_bipush (n := 10) (b := 48) dX12_isFull_46 (by decide) rfl ?_
  refine x_icmp_ne (tgt := 61) (b := 51) dX12_isFull_48 (by decide) rfl (fun hc => ?_) (fun hc => ?_)
  · replace hF := br_F hc hF
    exact x_dp (ls2 := [some (xr 12 0), some (xi x1)]) ⟨rfl, rfl, trivial⟩ (hr_61 x1 h hL hF)
  · replace hF := br_T hc hF
    refine x_aload_n (i := 0) (b := 52) dX12_isFull_51 rfl rfl rfl ?_
    refine x_bipush (n := 12) (b := 54) dX12_isFull_52 (by decide) rfl ?_
    obtain ⟨v1, h2, hq, hF⟩ := bd_e hF
    refine x_callV (as := [xi 12]) (rest := []) (b := 57) (c_X12_fresher d 12 h _ hL hq) dX12_isFull_54 cw_X12_266 ⟨_, _, rfl, Nat.le_of_ble_eq_true rfl⟩ rfl rfl (Nat.le_of_ble_eq_true rfl) ⟨Nat.le_refl _, Nat.le_refl _⟩ rfl (fun rv hh hp _ => ?_)
    obtain ⟨rfl, rfl, hL⟩ := hp
    refine x_iconst (n := 5) (b := 58) dX12_isFull_57 (by decide) rfl ?_
    refine x_icmp_eq (tgt := 77) (b := 61) dX12_isFull_58 (by decide) rfl (fun hc => ?_) (fun hc => ?_)
    · replace hF := br_T hc hF
      exact x_dp (ls2 := [none, none]) trivial (hr_77  h2 hL hF)
    · replace hF := br_F hc hF
      exact x_dp (ls2 := [some (xr 12 0), some (xi x1)]) ⟨rfl, rfl, trivial⟩ (hr_61 x1 h2 hL hF)
set_option maxHeartbeats 4000000 in
set_option maxRecDepth 100000 in
theorem t_X12_isFull_4 (E : xE) (d : Nat) (rec : Rk) (r : Int × Hp) (hr_77 : ∀ (h : Hp), Lay h → rec 5 [] h = some r → X E mX12_isFull (d + 2) (0, 0) (0, 0) 77 [none, none] [] h (PoI r)) (x1 : Int) (h : Hp) (hL : Lay h) (hF : b_X12_isFull_4 rec x1 h = some r) : X E mX12_isFull (d + 2) (0, 0) (0, 0) 61 [some (xr 12 0), some (xi x1)] [] h (PoI r) := by
  unfold b_X12_isFull_4 at hF
  refine x_iload_n (i := 1) (b := 62) dX12_isFull_61 rfl rfl rfl ?_
  refine x_bipush (n := 11) (b := 64) dX12_isFull_62 (by decide) rfl ?_
  refine x_icmp_ne (tgt := 81) (b := 67) dX12_isFull_64 (by decide) rfl (fun hc => ?_) (fun hc => ?_)
  · replace hF := br_F hc hF
    refine x_iconst (n := 0) (b := 82) dX12_isFull_81 (by decide) rfl ?_
    refine x_zreturn dX12_isFull_82 rfl ⟨Nat.le_refl _, Nat.le_refl _⟩ (by decide) ?_
    cases hF
    exact ⟨rfl, rfl, hL⟩
  · replace hF := br_T hc hF
    refine x_aload_n (i := 0) (b := 68) dX12_isFull_67 rfl rfl rfl ?_
    refine x_bipush (n := 13) (b := 70) dX12_isFull_68 (by decide) rfl ?_
    obtain ⟨v1, h2, hq, hF⟩ := bd_e hF
    refine x_callV (as := [xi 13]) (rest := []) (b := 73) (c_X12_fresher d 13 h _ hL hq) dX12_isFull_70 cw_X12_266 ⟨_, _, rfl, Nat.le_of_ble_eq_true rfl⟩ rfl rfl (Nat.le_of_ble_eq_true rfl) ⟨Nat.le_refl _, Nat.le_refl _⟩ rfl (fun rv hh hp _ => ?_)
    obtain ⟨rfl, rfl, hL⟩ := hp
    refine x_iconst (n := 4) (b := 74) dX12_isFull_73 (by decide) rfl ?_
    refine x_icmp_ne (tgt := 81) (b := 77) dX12_isFull_74 (by decide) rfl (fun hc => ?_) (fun hc => ?_)
    · replace hF := br_F hc hF
      refine x_iconst (n := 0) (b := 82) dX12_isFull_81 (by decide) rfl ?_
      refine x_zreturn dX12_isFull_82 rfl ⟨Nat.le_refl _, Nat.le_refl _⟩ (by decide) ?_
      cases hF
      exact ⟨rfl, rfl, hL⟩
    · replace hF := br_T hc hF
      exact x_dp (ls2 := [none, none]) trivial (hr_77  h2 hL hF)
set_option maxHeartbeats 4000000 in
set_option maxRecDepth 100000 in
theorem t_X12_isFull_5 (E : xE) (d : Nat) (rec : Rk) (r : Int × Hp) (h : Hp) (hL : Lay h) (hF : b_X12_isFull_5 rec  h = some r) : X E mX12_isFull (d + 2) (0, 0) (0, 0) 77 [none, none] [] h (PoI r) := by
  unfold b_X12_isFull_5 at hF
  refine x_iconst (n := 1) (b := 78) dX12_isFull_77 (by decide) rfl ?_
  refine x_goto (tgt := 82) dX12_isFull_78 (by decide) ?_
  refine x_zreturn dX12_isFull_82 rfl ⟨Nat.le_refl _, Nat.le_refl _⟩ (by decide) ?_
  cases hF
  exact ⟨rfl, rfl, hL⟩
set_option maxHeartbeats 4000000 in
set_option maxRecDepth 100000 in
theorem u_X12_isFull (E : xE) (d : Nat) (r : Int × Hp) : ∀ n : Nat, (∀ (x1 : Int) (h : Hp), Lay h → g_X12_isFull n 0 [x1] h = some r → X E mX12_isFull (d + 2) (0, 0) (0, 0) 0 [some (xr 12 0), some (xi x1)] [] h (PoI r)) ∧ (∀ (x1 : Int) (h : Hp), Lay h → g_X12_isFull n 1 [x1] h = some r → X E mX12_isFull (d + 2) (0, 0) (0, 0) 15 [some (xr 12 0), some (xi x1)] [] h (PoI r)) ∧ (∀ (x1 : Int) (h : Hp), Lay h → g_X12_isFull n 2 [x1] h = some r → X E mX12_isFull (d + 2) (0, 0) (0, 0) 29 [some (xr 12 0), some (xi x1)] [] h (PoI r)) ∧ (∀ (x1 : Int) (h : Hp), Lay h → g_X12_isFull n 3 [x1] h = some r → X E mX12_isFull (d + 2) (0, 0) (0, 0) 45 [some (xr 12 0), some (xi x1)] [] h (PoI r)) ∧ (∀ (x1 : Int) (h : Hp), Lay h → g_X12_isFull n 4 [x1] h = some r → X E mX12_isFull (d + 2) (0, 0) (0, 0) 61 [some (xr 12 0), some (xi x1)] [] h (PoI r)) ∧ (∀ (h : Hp), Lay h → g_X12_isFull n 5 [] h = some r → X E mX12_isFull (d + 2) (0, 0) (0, 0) 77 [none, none] [] h (PoI r)) := by
  intro n
  induction n with
  | zero => exact ⟨fun _ _ _ hF => no_e (r := r) hF, fun _ _ _ hF => no_e (r := r) hF, fun _ _ _ hF => no_e (r := r) hF, fun _ _ _ hF => no_e (r := r) hF, fun _ _ _ hF => no_e (r := r) hF, fun _ _ hF => no_e (r := r) hF⟩
  | succ n ih => exact ⟨fun x1 h hL hF => t_X12_isFull_0 E d (g_X12_isFull n) r ih.2.1 ih.2.2.2.2.2 x1 h hL hF, fun x1 h hL hF => t_X12_isFull_1 E d (g_X12_isFull n) r ih.2.2.1 ih.2.2.2.2.2 x1 h hL hF, fun x1 h hL hF => t_X12_isFull_2 E d (g_X12_isFull n) r ih.2.2.2.1 ih.2.2.2.2.2 x1 h hL hF, fun x1 h hL hF => t_X12_isFull_3 E d (g_X12_isFull n) r ih.2.2.2.2.1 ih.2.2.2.2.2 x1 h hL hF, fun x1 h hL hF => t_X12_isFull_4 E d (g_X12_isFull n) r ih.2.2.2.2.2 x1 h hL hF, fun h hL hF => t_X12_isFull_5 E d (g_X12_isFull n) r   h hL hF⟩
theorem c_X12_isFull (d : Nat) (x1 : Int) (h : Hp) (r : Int × Hp) (hL : Lay h) (hF : f_X12_isFull x1 h = some r) : Sp mX12_isFull (d + 2) (0, 0) [xr 12 0, xi x1] h (PoI r) :=
  sp_of (by decide) rfl (Nat.le_of_ble_eq_true rfl) (ls := [some (xr 12 0), some (xi x1)]) rfl (fun E _ => (u_X12_isFull E d r FU).1 x1 h hL hF)
theorem dX12_isMay_0 : decode cX12_isMay 0 = .ok (.iload_n 1, 1) := by decide +kernel
theorem dX12_isMay_1 : decode cX12_isMay 1 = .ok (.ifCond .lt 18, 3) := by decide +kernel
theorem dX12_isMay_4 : decode cX12_isMay 4 = .ok (.iload_n 1, 1) := by decide +kernel
theorem dX12_isMay_5 : decode cX12_isMay 5 = .ok (.aload_n 0, 1) := by decide +kernel
theorem dX12_isMay_6 : decode cX12_isMay 6 = .ok (.getfield 13, 3) := by decide +kernel
theorem dX12_isMay_9 : decode cX12_isMay 9 = .ok (.bipush 13, 2) := by decide +kernel
theorem dX12_isMay_11 : decode cX12_isMay 11 = .ok (.iaload, 1) := by decide +kernel
theorem dX12_isMay_12 : decode cX12_isMay 12 = .ok (.if_icmp .ge 7, 3) := by decide +kernel
theorem dX12_isMay_15 : decode cX12_isMay 15 = .ok (.iconst 1, 1) := by decide +kernel
theorem dX12_isMay_16 : decode cX12_isMay 16 = .ok (.goto 4, 3) := by decide +kernel
theorem dX12_isMay_19 : decode cX12_isMay 19 = .ok (.iconst 0, 1) := by decide +kernel
theorem dX12_isMay_20 : decode cX12_isMay 20 = .ok (.ireturn, 1) := by decide +kernel
noncomputable def b_X12_isMay_0 (rec : Rk) (x1 : Int) (h : Hp) : Option (Int × Hp) :=
  if x1 < 0 then (
    some (0, h)
  ) else (
    ck (0 ≤ (13 : Int) ∧ (13 : Int) < 30) <|
    if (gI h 61 0 13) ≤ x1 then (
      some (0, h)
    ) else (
      some (1, h)
    )
  )
noncomputable def g_X12_isMay (n : Nat) : Rk := Nat.rec (motive := fun _ => Rk) (fun _ _ _ => none) (fun _ rec k l h => if k = 0 then b_X12_isMay_0 rec (l.getD 0 0) h else none) n
noncomputable def f_X12_isMay (x1 : Int) (h : Hp) : Option (Int × Hp) := g_X12_isMay FU 0 [x1] h
set_option maxHeartbeats 4000000 in
set_option maxRecDepth 100000 in
theorem t_X12_isMay_0 (E : xE) (d : Nat) (rec : Rk) (r : Int × Hp) (x1 : Int) (h : Hp) (hL : Lay h) (hF : b_X12_isMay_0 rec x1 h = some r) : X E mX12_isMay (d + 1) (0, 0) (0, 0) 0 [some (xr 12 0), some (xi x1)] [] h (PoI r) := by
  unfold b_X12_isMay_0 at hF
  refine x_iload_n (i := 1) (b := 1) dX12_isMay_0 rfl rfl rfl ?_
  refine x_if_lt (tgt := 19) (b := 4) dX12_isMay_1 (by decide) rfl (fun hc => ?_) (fun hc => ?_)
  · replace hF := br_T hc hF
    refine x_iconst (n := 0) (b := 20) dX12_isMay_19 (by decide) rfl ?_
    refine x_zreturn dX12_isMay_20 rfl ⟨Nat.le_refl _, Nat.le_refl _⟩ (by decide) ?_
    cases hF
    exact ⟨rfl, rfl, hL⟩
  · replace hF := br_F hc hF
    refine x_iload_n (i := 1) (b := 5) dX12_isMay_4 rfl rfl rfl ?_
    refine x_aload_n (i := 0) (b := 6) dX12_isMay_5 rfl rfl rfl ?_
    refine x_getL (j := 0) (t := (61, 0, true)) (b := 9) fk_X12_13 dX12_isMay_6 rfl hL rfl rfl rfl ?_
    refine x_bipush (n := 13) (b := 11) dX12_isMay_9 (by decide) rfl ?_
    obtain ⟨hs, hF⟩ := ck_e hF
    refine x_iald (v := gI h 61 0 13) (b := 12) ak_61 dX12_isMay_11 hs rfl rfl ?_
    refine x_icmp_ge (tgt := 19) (b := 15) dX12_isMay_12 (by decide) rfl (fun hc => ?_) (fun hc => ?_)
    · replace hF := br_T hc hF
      refine x_iconst (n := 0) (b := 20) dX12_isMay_19 (by decide) rfl ?_
      refine x_zreturn dX12_isMay_20 rfl ⟨Nat.le_refl _, Nat.le_refl _⟩ (by decide) ?_
      cases hF
      exact ⟨rfl, rfl, hL⟩
    · replace hF := br_F hc hF
      refine x_iconst (n := 1) (b := 16) dX12_isMay_15 (by decide) rfl ?_
      refine x_goto (tgt := 20) dX12_isMay_16 (by decide) ?_
      refine x_zreturn dX12_isMay_20 rfl ⟨Nat.le_refl _, Nat.le_refl _⟩ (by decide) ?_
      cases hF
      exact ⟨rfl, rfl, hL⟩
set_option maxHeartbeats 4000000 in
set_option maxRecDepth 100000 in
theorem u_X12_isMay (E : xE) (d : Nat) (r : Int × Hp) : ∀ n : Nat, (∀ (x1 : Int) (h : Hp), Lay h → g_X12_isMay n 0 [x1] h = some r → X E mX12_isMay (d + 1) (0, 0) (0, 0) 0 [some (xr 12 0), some (xi x1)] [] h (PoI r)) := by
  intro n
  induction n with
  | zero => exact fun _ _ _ hF => no_e (r := r) hF
  | succ n ih => exact fun x1 h hL hF => t_X12_isMay_0 E d (g_X12_isMay n) r  x1 h hL hF
theorem c_X12_isMay (d : Nat) (x1 : Int) (h : Hp) (r : Int × Hp) (hL : Lay h) (hF : f_X12_isMay x1 h = some r) : Sp mX12_isMay (d + 1) (0, 0) [xr 12 0, xi x1] h (PoI r) :=
  sp_of (by decide) rfl (Nat.le_of_ble_eq_true rfl) (ls := [some (xr 12 0), some (xi x1)]) rfl (fun E _ => (u_X12_isMay E d r FU) x1 h hL hF)
theorem dX12_isOnce_0 : decode cX12_isOnce 0 = .ok (.iload_n 0, 1) := by decide +kernel
theorem dX12_isOnce_1 : decode cX12_isOnce 1 = .ok (.ifCond .eq 30, 3) := by decide +kernel
theorem dX12_isOnce_4 : decode cX12_isOnce 4 = .ok (.iload_n 0, 1) := by decide +kernel
theorem dX12_isOnce_5 : decode cX12_isOnce 5 = .ok (.iconst 2, 1) := by decide +kernel
theorem dX12_isOnce_6 : decode cX12_isOnce 6 = .ok (.if_icmp .eq 25, 3) := by decide +kernel
theorem dX12_isOnce_9 : decode cX12_isOnce 9 = .ok (.iload_n 0, 1) := by decide +kernel
theorem dX12_isOnce_10 : decode cX12_isOnce 10 = .ok (.iconst 3, 1) := by decide +kernel
theorem dX12_isOnce_11 : decode cX12_isOnce 11 = .ok (.if_icmp .eq 20, 3) := by decide +kernel
theorem dX12_isOnce_14 : decode cX12_isOnce 14 = .ok (.iload_n 0, 1) := by decide +kernel
theorem dX12_isOnce_15 : decode cX12_isOnce 15 = .ok (.iconst 5, 1) := by decide +kernel
theorem dX12_isOnce_16 : decode cX12_isOnce 16 = .ok (.if_icmp .eq 15, 3) := by decide +kernel
theorem dX12_isOnce_19 : decode cX12_isOnce 19 = .ok (.iload_n 0, 1) := by decide +kernel
theorem dX12_isOnce_20 : decode cX12_isOnce 20 = .ok (.bipush 7, 2) := by decide +kernel
theorem dX12_isOnce_22 : decode cX12_isOnce 22 = .ok (.if_icmp .lt 13, 3) := by decide +kernel
theorem dX12_isOnce_25 : decode cX12_isOnce 25 = .ok (.iload_n 0, 1) := by decide +kernel
theorem dX12_isOnce_26 : decode cX12_isOnce 26 = .ok (.bipush 9, 2) := by decide +kernel
theorem dX12_isOnce_28 : decode cX12_isOnce 28 = .ok (.if_icmp .gt 7, 3) := by decide +kernel
theorem dX12_isOnce_31 : decode cX12_isOnce 31 = .ok (.iconst 1, 1) := by decide +kernel
theorem dX12_isOnce_32 : decode cX12_isOnce 32 = .ok (.goto 4, 3) := by decide +kernel
theorem dX12_isOnce_35 : decode cX12_isOnce 35 = .ok (.iconst 0, 1) := by decide +kernel
theorem dX12_isOnce_36 : decode cX12_isOnce 36 = .ok (.ireturn, 1) := by decide +kernel
noncomputable def b_X12_isOnce_0 (rec : Rk) (x0 : Int) (h : Hp) : Option (Int × Hp) :=
  if x0 = 0 then (
    rec 1 [] h
  ) else (
    if x0 = 2 then (
      rec 1 [] h
    ) else (
      if x0 = 3 then (
        rec 1 [] h
      ) else (
        if x0 = 5 then (
          rec 1 [] h
        ) else (
          if x0 < 7 then (
            some (0, h)
          ) else (
            if 9 < x0 then (
              some (0, h)
            ) else (
              rec 1 [] h
            )
          )
        )
      )
    )
  )
noncomputable def b_X12_isOnce_1 (rec : Rk) (h : Hp) : Option (Int × Hp) :=
  some (1, h)
noncomputable def g_X12_isOnce (n : Nat) : Rk := Nat.rec (motive := fun _ => Rk) (fun _ _ _ => none) (fun _ rec k l h => if k = 0 then b_X12_isOnce_0 rec (l.getD 0 0) h else if k = 1 then b_X12_isOnce_1 rec  h else none) n
noncomputable def f_X12_isOnce (x0 : Int) (h : Hp) : Option (Int × Hp) := g_X12_isOnce FU 0 [x0] h
set_option maxHeartbeats 4000000 in
set_option maxRecDepth 100000 in
theorem t_X12_isOnce_0 (E : xE) (d : Nat) (rec : Rk) (r : Int × Hp) (hr_31 : ∀ (h : Hp), Lay h → rec 1 [] h = some r → X E mX12_isOnce (d + 1) (0, 0) (0, 0) 31 [none] [] h (PoI r)) (x0 : Int) (h : Hp) (hL : Lay h) (hF : b_X12_isOnce_0 rec x0 h = some r) : X E mX12_isOnce (d + 1) (0, 0) (0, 0) 0 [some (xi x0)] [] h (PoI r) := by
  unfold b_X12_isOnce_0 at hF
  refine x_iload_n (i := 0) (b := 1) dX12_isOnce_0 rfl rfl rfl ?_
  refine x_if_eq (tgt := 31) (b := 4) dX12_isOnce_1 (by decide) rfl (fun hc => ?_) (fun hc => ?_)
  · replace hF := br_T hc hF
    exact x_dp (ls2 := [none]) trivial (hr_31  h hL hF)
  · replace hF := br_F hc hF
    refine x_iload_n (i := 0) (b := 5) dX12_isOnce_4 rfl rfl rfl ?_
    refine x_iconst (n := 2) (b := 6) dX12_isOnce_5 (by decide) rfl ?_
    refine x_icmp_eq (tgt := 31) (b := 9) dX12_isOnce_6 (by decide) rfl (fun hc => ?_) (fun hc => ?_)
    · replace hF := br_T hc hF
      exact x_dp (ls2 := [none]) trivial (hr_31  h hL hF)
    · replace hF := br_F hc hF
      refine x_iload_n (i := 0) (b := 10) dX12_isOnce_9 rfl rfl rfl ?_
      refine x_iconst (n := 3) (b := 11) dX12_isOnce_10 (by decide) rfl ?_
      refine x_icmp_eq (tgt := 31) (b := 14) dX12_isOnce_11 (by decide) rfl (fun hc => ?_) (fun hc => ?_)
      · replace hF := br_T hc hF
        exact x_dp (ls2 := [none]) trivial (hr_31  h hL hF)
      · replace hF := br_F hc hF
        refine x_iload_n (i := 0) (b := 15) dX12_isOnce_14 rfl rfl rfl ?_
        refine x_iconst (n := 5) (b := 16) dX12_isOnce_15 (by decide) rfl ?_
        refine x_icmp_eq (tgt := 31) (b := 19) dX12_isOnce_16 (by decide) rfl (fun hc => ?_) (fun hc => ?_)
        · replace hF := br_T hc hF
          exact x_dp (ls2 := [none]) trivial (hr_31  h hL hF)
        · replace hF := br_F hc hF
          refine x_iload_n (i := 0) (b := 20) dX12_isOnce_19 rfl rfl rfl ?_
          refine x_bipush (n := 7) (b := 22) dX12_isOnce_20 (by decide) rfl ?_
          refine x_icmp_lt (tgt := 35) (b := 25) dX12_isOnce_22 (by decide) rfl (fun hc => ?_) (fun hc => ?_)
          · replace hF := br_T hc hF
            refine x_iconst (n := 0) (b := 36) dX12_isOnce_35 (by decide) rfl ?_
            refine x_zreturn dX12_isOnce_36 rfl ⟨Nat.le_refl _, Nat.le_refl _⟩ (by decide) ?_
            cases hF
            exact ⟨rfl, rfl, hL⟩
          · replace hF := br_F hc hF
            refine x_iload_n (i := 0) (b := 26) dX12_isOnce_25 rfl rfl rfl ?_
            refine x_bipush (n := 9) (b := 28) dX12_isOnce_26 (by decide) rfl ?_
            refine x_icmp_gt (tgt := 35) (b := 31) dX12_isOnce_28 (by decide) rfl (fun hc => ?_) (fun hc => ?_)
            · replace hF := br_T hc hF
              refine x_iconst (n := 0) (b := 36) dX12_isOnce_35 (by decide) rfl ?_
              refine x_zreturn dX12_isOnce_36 rfl ⟨Nat.le_refl _, Nat.le_refl _⟩ (by decide) ?_
              cases hF
              exact ⟨rfl, rfl, hL⟩
            · replace hF := br_F hc hF
              exact x_dp (ls2 := [none]) trivial (hr_31  h hL hF)
set_option maxHeartbeats 4000000 in
set_option maxRecDepth 100000 in
theorem t_X12_isOnce_1 (E : xE) (d : Nat) (rec : Rk) (r : Int × Hp) (h : Hp) (hL : Lay h) (hF : b_X12_isOnce_1 rec  h = some r) : X E mX12_isOnce (d + 1) (0, 0) (0, 0) 31 [none] [] h (PoI r) := by
  unfold b_X12_isOnce_1 at hF
  refine x_iconst (n := 1) (b := 32) dX12_isOnce_31 (by decide) rfl ?_
  refine x_goto (tgt := 36) dX12_isOnce_32 (by decide) ?_
  refine x_zreturn dX12_isOnce_36 rfl ⟨Nat.le_refl _, Nat.le_refl _⟩ (by decide) ?_
  cases hF
  exact ⟨rfl, rfl, hL⟩
set_option maxHeartbeats 4000000 in
set_option maxRecDepth 100000 in
theorem u_X12_isOnce (E : xE) (d : Nat) (r : Int × Hp) : ∀ n : Nat, (∀ (x0 : Int) (h : Hp), Lay h → g_X12_isOnce n 0 [x0] h = some r → X E mX12_isOnce (d + 1) (0, 0) (0, 0) 0 [some (xi x0)] [] h (PoI r)) ∧ (∀ (h : Hp), Lay h → g_X12_isOnce n 1 [] h = some r → X E mX12_isOnce (d + 1) (0, 0) (0, 0) 31 [none] [] h (PoI r)) := by
  intro n
  induction n with
  | zero => exact ⟨fun _ _ _ hF => no_e (r := r) hF, fun _ _ hF => no_e (r := r) hF⟩
  | succ n ih => exact ⟨fun x0 h hL hF => t_X12_isOnce_0 E d (g_X12_isOnce n) r ih.2 x0 h hL hF, fun h hL hF => t_X12_isOnce_1 E d (g_X12_isOnce n) r   h hL hF⟩
theorem c_X12_isOnce (d : Nat) (x0 : Int) (h : Hp) (r : Int × Hp) (hL : Lay h) (hF : f_X12_isOnce x0 h = some r) : Sp mX12_isOnce (d + 1) (0, 0) [xi x0] h (PoI r) :=
  sp_of (by decide) rfl (Nat.le_of_ble_eq_true rfl) (ls := [some (xi x0)]) rfl (fun E _ => (u_X12_isOnce E d r FU).1 x0 h hL hF)
theorem dX12_isSign_0 : decode cX12_isSign 0 = .ok (.aload_n 0, 1) := by decide +kernel
theorem dX12_isSign_1 : decode cX12_isSign 1 = .ok (.getfield 247, 3) := by decide +kernel
theorem dX12_isSign_4 : decode cX12_isSign 4 = .ok (.ifCond .ne 23, 3) := by decide +kernel
theorem dX12_isSign_7 : decode cX12_isSign 7 = .ok (.aload_n 0, 1) := by decide +kernel
theorem dX12_isSign_8 : decode cX12_isSign 8 = .ok (.getfield 213, 3) := by decide +kernel
theorem dX12_isSign_11 : decode cX12_isSign 11 = .ok (.iconst 3, 1) := by decide +kernel
theorem dX12_isSign_12 : decode cX12_isSign 12 = .ok (.if_icmp .ne 15, 3) := by decide +kernel
theorem dX12_isSign_15 : decode cX12_isSign 15 = .ok (.aload_n 0, 1) := by decide +kernel
theorem dX12_isSign_16 : decode cX12_isSign 16 = .ok (.getfield 223, 3) := by decide +kernel
theorem dX12_isSign_19 : decode cX12_isSign 19 = .ok (.iload_n 1, 1) := by decide +kernel
theorem dX12_isSign_20 : decode cX12_isSign 20 = .ok (.if_icmp .ne 7, 3) := by decide +kernel
theorem dX12_isSign_23 : decode cX12_isSign 23 = .ok (.iconst 1, 1) := by decide +kernel
theorem dX12_isSign_24 : decode cX12_isSign 24 = .ok (.goto 4, 3) := by decide +kernel
theorem dX12_isSign_27 : decode cX12_isSign 27 = .ok (.iconst 0, 1) := by decide +kernel
theorem dX12_isSign_28 : decode cX12_isSign 28 = .ok (.ireturn, 1) := by decide +kernel
noncomputable def b_X12_isSign_0 (rec : Rk) (x1 : Int) (h : Hp) : Option (Int × Hp) :=
  if (gI h 12 0 32) = 0 then (
    if (gI h 12 0 30) = 3 then (
      if (gI h 12 0 31) = x1 then (
        some (1, h)
      ) else (
        some (0, h)
      )
    ) else (
      some (0, h)
    )
  ) else (
    some (0, h)
  )
noncomputable def g_X12_isSign (n : Nat) : Rk := Nat.rec (motive := fun _ => Rk) (fun _ _ _ => none) (fun _ rec k l h => if k = 0 then b_X12_isSign_0 rec (l.getD 0 0) h else none) n
noncomputable def f_X12_isSign (x1 : Int) (h : Hp) : Option (Int × Hp) := g_X12_isSign FU 0 [x1] h
set_option maxHeartbeats 4000000 in
set_option maxRecDepth 100000 in
theorem t_X12_isSign_0 (E : xE) (d : Nat) (rec : Rk) (r : Int × Hp) (x1 : Int) (h : Hp) (hL : Lay h) (hF : b_X12_isSign_0 rec x1 h = some r) : X E mX12_isSign (d + 1) (0, 0) (0, 0) 0 [some (xr 12 0), some (xi x1)] [] h (PoI r) := by
  unfold b_X12_isSign_0 at hF
  refine x_aload_n (i := 0) (b := 1) dX12_isSign_0 rfl rfl rfl ?_
  refine x_getI (v := gI h 12 0 32) (b := 4) fk_X12_247 dX12_isSign_1 (by decide) rfl rfl ?_
  refine x_if_ne (tgt := 27) (b := 7) dX12_isSign_4 (by decide) rfl (fun hc => ?_) (fun hc => ?_)
  · replace hF := br_F hc hF
    refine x_iconst (n := 0) (b := 28) dX12_isSign_27 (by decide) rfl ?_
    refine x_zreturn dX12_isSign_28 rfl ⟨Nat.le_refl _, Nat.le_refl _⟩ (by decide) ?_
    cases hF
    exact ⟨rfl, rfl, hL⟩
  · replace hF := br_T hc hF
    refine x_aload_n (i := 0) (b := 8) dX12_isSign_7 rfl rfl rfl ?_
    refine x_getI (v := gI h 12 0 30) (b := 11) fk_X12_213 dX12_isSign_8 (by decide) rfl rfl ?_
    refine x_iconst (n := 3) (b := 12) dX12_isSign_11 (by decide) rfl ?_
    refine x_icmp_ne (tgt := 27) (b := 15) dX12_isSign_12 (by decide) rfl (fun hc => ?_) (fun hc => ?_)
    · replace hF := br_F hc hF
      refine x_iconst (n := 0) (b := 28) dX12_isSign_27 (by decide) rfl ?_
      refine x_zreturn dX12_isSign_28 rfl ⟨Nat.le_refl _, Nat.le_refl _⟩ (by decide) ?_
      cases hF
      exact ⟨rfl, rfl, hL⟩
    · replace hF := br_T hc hF
      refine x_aload_n (i := 0) (b := 16) dX12_isSign_15 rfl rfl rfl ?_
      refine x_getI (v := gI h 12 0 31) (b := 19) fk_X12_223 dX12_isSign_16 (by decide) rfl rfl ?_
      refine x_iload_n (i := 1) (b := 20) dX12_isSign_19 rfl rfl rfl ?_
      refine x_icmp_ne (tgt := 27) (b := 23) dX12_isSign_20 (by decide) rfl (fun hc => ?_) (fun hc => ?_)
      · replace hF := br_F hc hF
        refine x_iconst (n := 0) (b := 28) dX12_isSign_27 (by decide) rfl ?_
        refine x_zreturn dX12_isSign_28 rfl ⟨Nat.le_refl _, Nat.le_refl _⟩ (by decide) ?_
        cases hF
        exact ⟨rfl, rfl, hL⟩
      · replace hF := br_T hc hF
        refine x_iconst (n := 1) (b := 24) dX12_isSign_23 (by decide) rfl ?_
        refine x_goto (tgt := 28) dX12_isSign_24 (by decide) ?_
        refine x_zreturn dX12_isSign_28 rfl ⟨Nat.le_refl _, Nat.le_refl _⟩ (by decide) ?_
        cases hF
        exact ⟨rfl, rfl, hL⟩
set_option maxHeartbeats 4000000 in
set_option maxRecDepth 100000 in
theorem u_X12_isSign (E : xE) (d : Nat) (r : Int × Hp) : ∀ n : Nat, (∀ (x1 : Int) (h : Hp), Lay h → g_X12_isSign n 0 [x1] h = some r → X E mX12_isSign (d + 1) (0, 0) (0, 0) 0 [some (xr 12 0), some (xi x1)] [] h (PoI r)) := by
  intro n
  induction n with
  | zero => exact fun _ _ _ hF => no_e (r := r) hF
  | succ n ih => exact fun x1 h hL hF => t_X12_isSign_0 E d (g_X12_isSign n) r  x1 h hL hF
theorem c_X12_isSign (d : Nat) (x1 : Int) (h : Hp) (r : Int × Hp) (hL : Lay h) (hF : f_X12_isSign x1 h = some r) : Sp mX12_isSign (d + 1) (0, 0) [xr 12 0, xi x1] h (PoI r) :=
  sp_of (by decide) rfl (Nat.le_of_ble_eq_true rfl) (ls := [some (xr 12 0), some (xi x1)]) rfl (fun E _ => (u_X12_isSign E d r FU) x1 h hL hF)
theorem dX12_isSmall_0 : decode cX12_isSmall 0 = .ok (.iload_n 0, 1) := by decide +kernel
theorem dX12_isSmall_1 : decode cX12_isSmall 1 = .ok (.bipush 97, 2) := by decide +kernel
theorem dX12_isSmall_3 : decode cX12_isSmall 3 = .ok (.if_icmp .lt 13, 3) := by decide +kernel
theorem dX12_isSmall_6 : decode cX12_isSmall 6 = .ok (.iload_n 0, 1) := by decide +kernel
theorem dX12_isSmall_7 : decode cX12_isSmall 7 = .ok (.bipush 122, 2) := by decide +kernel
theorem dX12_isSmall_9 : decode cX12_isSmall 9 = .ok (.if_icmp .gt 7, 3) := by decide +kernel
theorem dX12_isSmall_12 : decode cX12_isSmall 12 = .ok (.iconst 1, 1) := by decide +kernel
theorem dX12_isSmall_13 : decode cX12_isSmall 13 = .ok (.goto 4, 3) := by decide +kernel
theorem dX12_isSmall_16 : decode cX12_isSmall 16 = .ok (.iconst 0, 1) := by decide +kernel
theorem dX12_isSmall_17 : decode cX12_isSmall 17 = .ok (.ireturn, 1) := by decide +kernel
noncomputable def b_X12_isSmall_0 (rec : Rk) (x0 : Int) (h : Hp) : Option (Int × Hp) :=
  if x0 < 97 then (
    some (0, h)
  ) else (
    if 122 < x0 then (
      some (0, h)
    ) else (
      some (1, h)
    )
  )
noncomputable def g_X12_isSmall (n : Nat) : Rk := Nat.rec (motive := fun _ => Rk) (fun _ _ _ => none) (fun _ rec k l h => if k = 0 then b_X12_isSmall_0 rec (l.getD 0 0) h else none) n
noncomputable def f_X12_isSmall (x0 : Int) (h : Hp) : Option (Int × Hp) := g_X12_isSmall FU 0 [x0] h
set_option maxHeartbeats 4000000 in
set_option maxRecDepth 100000 in
theorem t_X12_isSmall_0 (E : xE) (d : Nat) (rec : Rk) (r : Int × Hp) (x0 : Int) (h : Hp) (hL : Lay h) (hF : b_X12_isSmall_0 rec x0 h = some r) : X E mX12_isSmall (d + 1) (0, 0) (0, 0) 0 [some (xi x0)] [] h (PoI r) := by
  unfold b_X12_isSmall_0 at hF
  refine x_iload_n (i := 0) (b := 1) dX12_isSmall_0 rfl rfl rfl ?_
  refine x_bipush (n := 97) (b := 3) dX12_isSmall_1 (by decide) rfl ?_
  refine x_icmp_lt (tgt := 16) (b := 6) dX12_isSmall_3 (by decide) rfl (fun hc => ?_) (fun hc => ?_)
  · replace hF := br_T hc hF
    refine x_iconst (n := 0) (b := 17) dX12_isSmall_16 (by decide) rfl ?_
    refine x_zreturn dX12_isSmall_17 rfl ⟨Nat.le_refl _, Nat.le_refl _⟩ (by decide) ?_
    cases hF
    exact ⟨rfl, rfl, hL⟩
  · replace hF := br_F hc hF
    refine x_iload_n (i := 0) (b := 7) dX12_isSmall_6 rfl rfl rfl ?_
    refine x_bipush (n := 122) (b := 9) dX12_isSmall_7 (by decide) rfl ?_
    refine x_icmp_gt (tgt := 16) (b := 12) dX12_isSmall_9 (by decide) rfl (fun hc => ?_) (fun hc => ?_)
    · replace hF := br_T hc hF
      refine x_iconst (n := 0) (b := 17) dX12_isSmall_16 (by decide) rfl ?_
      refine x_zreturn dX12_isSmall_17 rfl ⟨Nat.le_refl _, Nat.le_refl _⟩ (by decide) ?_
      cases hF
      exact ⟨rfl, rfl, hL⟩
    · replace hF := br_F hc hF
      refine x_iconst (n := 1) (b := 13) dX12_isSmall_12 (by decide) rfl ?_
      refine x_goto (tgt := 17) dX12_isSmall_13 (by decide) ?_
      refine x_zreturn dX12_isSmall_17 rfl ⟨Nat.le_refl _, Nat.le_refl _⟩ (by decide) ?_
      cases hF
      exact ⟨rfl, rfl, hL⟩
set_option maxHeartbeats 4000000 in
set_option maxRecDepth 100000 in
theorem u_X12_isSmall (E : xE) (d : Nat) (r : Int × Hp) : ∀ n : Nat, (∀ (x0 : Int) (h : Hp), Lay h → g_X12_isSmall n 0 [x0] h = some r → X E mX12_isSmall (d + 1) (0, 0) (0, 0) 0 [some (xi x0)] [] h (PoI r)) := by
  intro n
  induction n with
  | zero => exact fun _ _ _ hF => no_e (r := r) hF
  | succ n ih => exact fun x0 h hL hF => t_X12_isSmall_0 E d (g_X12_isSmall n) r  x0 h hL hF
theorem c_X12_isSmall (d : Nat) (x0 : Int) (h : Hp) (r : Int × Hp) (hL : Lay h) (hF : f_X12_isSmall x0 h = some r) : Sp mX12_isSmall (d + 1) (0, 0) [xi x0] h (PoI r) :=
  sp_of (by decide) rfl (Nat.le_of_ble_eq_true rfl) (ls := [some (xi x0)]) rfl (fun E _ => (u_X12_isSmall E d r FU) x0 h hL hF)
theorem dX12_isThere_0 : decode cX12_isThere 0 = .ok (.iload_n 1, 1) := by decide +kernel
theorem dX12_isThere_1 : decode cX12_isThere 1 = .ok (.iconst 5, 1) := by decide +kernel
theorem dX12_isThere_2 : decode cX12_isThere 2 = .ok (.if_icmp .ge 22, 3) := by decide +kernel
theorem dX12_isThere_5 : decode cX12_isThere 5 = .ok (.iload_n 1, 1) := by decide +kernel
theorem dX12_isThere_6 : decode cX12_isThere 6 = .ok (.aload_n 0, 1) := by decide +kernel
theorem dX12_isThere_7 : decode cX12_isThere 7 = .ok (.getfield 13, 3) := by decide +kernel
theorem dX12_isThere_10 : decode cX12_isThere 10 = .ok (.bipush 12, 2) := by decide +kernel
theorem dX12_isThere_12 : decode cX12_isThere 12 = .ok (.iaload, 1) := by decide +kernel
theorem dX12_isThere_13 : decode cX12_isThere 13 = .ok (.if_icmp .ge 7, 3) := by decide +kernel
theorem dX12_isThere_16 : decode cX12_isThere 16 = .ok (.iconst 1, 1) := by decide +kernel
theorem dX12_isThere_17 : decode cX12_isThere 17 = .ok (.goto 25, 3) := by decide +kernel
theorem dX12_isThere_20 : decode cX12_isThere 20 = .ok (.iconst 0, 1) := by decide +kernel
theorem dX12_isThere_21 : decode cX12_isThere 21 = .ok (.goto 21, 3) := by decide +kernel
theorem dX12_isThere_24 : decode cX12_isThere 24 = .ok (.iload_n 1, 1) := by decide +kernel
theorem dX12_isThere_25 : decode cX12_isThere 25 = .ok (.iconst 5, 1) := by decide +kernel
theorem dX12_isThere_26 : decode cX12_isThere 26 = .ok (.isub, 1) := by decide +kernel
theorem dX12_isThere_27 : decode cX12_isThere 27 = .ok (.aload_n 0, 1) := by decide +kernel
theorem dX12_isThere_28 : decode cX12_isThere 28 = .ok (.getfield 13, 3) := by decide +kernel
theorem dX12_isThere_31 : decode cX12_isThere 31 = .ok (.bipush 13, 2) := by decide +kernel
theorem dX12_isThere_33 : decode cX12_isThere 33 = .ok (.iaload, 1) := by decide +kernel
theorem dX12_isThere_34 : decode cX12_isThere 34 = .ok (.if_icmp .ge 7, 3) := by decide +kernel
theorem dX12_isThere_37 : decode cX12_isThere 37 = .ok (.iconst 1, 1) := by decide +kernel
theorem dX12_isThere_38 : decode cX12_isThere 38 = .ok (.goto 4, 3) := by decide +kernel
theorem dX12_isThere_41 : decode cX12_isThere 41 = .ok (.iconst 0, 1) := by decide +kernel
theorem dX12_isThere_42 : decode cX12_isThere 42 = .ok (.ireturn, 1) := by decide +kernel
noncomputable def b_X12_isThere_0 (rec : Rk) (x1 : Int) (h : Hp) : Option (Int × Hp) :=
  if 5 ≤ x1 then (
    ck (-2147483648 ≤ x1 - 5 ∧ x1 - 5 < 2147483648) <|
    ck (0 ≤ (13 : Int) ∧ (13 : Int) < 30) <|
    if (gI h 61 0 13) ≤ (x1 - 5) then (
      some (0, h)
    ) else (
      some (1, h)
    )
  ) else (
    ck (0 ≤ (12 : Int) ∧ (12 : Int) < 30) <|
    if (gI h 61 0 12) ≤ x1 then (
      some (0, h)
    ) else (
      some (1, h)
    )
  )
noncomputable def g_X12_isThere (n : Nat) : Rk := Nat.rec (motive := fun _ => Rk) (fun _ _ _ => none) (fun _ rec k l h => if k = 0 then b_X12_isThere_0 rec (l.getD 0 0) h else none) n
noncomputable def f_X12_isThere (x1 : Int) (h : Hp) : Option (Int × Hp) := g_X12_isThere FU 0 [x1] h
set_option maxHeartbeats 4000000 in
set_option maxRecDepth 100000 in
theorem t_X12_isThere_0 (E : xE) (d : Nat) (rec : Rk) (r : Int × Hp) (x1 : Int) (h : Hp) (hL : Lay h) (hF : b_X12_isThere_0 rec x1 h = some r) : X E mX12_isThere (d + 1) (0, 0) (0, 0) 0 [some (xr 12 0), some (xi x1)] [] h (PoI r) := by
  unfold b_X12_isThere_0 at hF
  refine x_iload_n (i := 1) (b := 1) dX12_isThere_0 rfl rfl rfl ?_
  refine x_iconst (n := 5) (b := 2) dX12_isThere_1 (by decide) rfl ?_
  refine x_icmp_ge (tgt := 24) (b := 5) dX12_isThere_2 (by decide) rfl (fun hc => ?_) (fun hc => ?_)
  · replace hF := br_T hc hF
    refine x_iload_n (i := 1) (b := 25) dX12_isThere_24 rfl rfl rfl ?_
    refine x_iconst (n := 5) (b := 26) dX12_isThere_25 (by decide) rfl ?_
    obtain ⟨hs, hF⟩ := ck_e hF
    refine x_isub (b := 27) dX12_isThere_26 hs rfl ?_
    refine x_aload_n (i := 0) (b := 28) dX12_isThere_27 rfl rfl rfl ?_
    refine x_getL (j := 0) (t := (61, 0, true)) (b := 31) fk_X12_13 dX12_isThere_28 rfl hL rfl rfl rfl ?_
    refine x_bipush (n := 13) (b := 33) dX12_isThere_31 (by decide) rfl ?_
    obtain ⟨hs, hF⟩ := ck_e hF
    refine x_iald (v := gI h 61 0 13) (b := 34) ak_61 dX12_isThere_33 hs rfl rfl ?_
    refine x_icmp_ge (tgt := 41) (b := 37) dX12_isThere_34 (by decide) rfl (fun hc => ?_) (fun hc => ?_)
    · replace hF := br_T hc hF
      refine x_iconst (n := 0) (b := 42) dX12_isThere_41 (by decide) rfl ?_
      refine x_zreturn dX12_isThere_42 rfl ⟨Nat.le_refl _, Nat.le_refl _⟩ (by decide) ?_
      cases hF
      exact ⟨rfl, rfl, hL⟩
    · replace hF := br_F hc hF
      refine x_iconst (n := 1) (b := 38) dX12_isThere_37 (by decide) rfl ?_
      refine x_goto (tgt := 42) dX12_isThere_38 (by decide) ?_
      refine x_zreturn dX12_isThere_42 rfl ⟨Nat.le_refl _, Nat.le_refl _⟩ (by decide) ?_
      cases hF
      exact ⟨rfl, rfl, hL⟩
  · replace hF := br_F hc hF
    refine x_iload_n (i := 1) (b := 6) dX12_isThere_5 rfl rfl rfl ?_
    refine x_aload_n (i := 0) (b := 7) dX12_isThere_6 rfl rfl rfl ?_
    refine x_getL (j := 0) (t := (61, 0, true)) (b := 10) fk_X12_13 dX12_isThere_7 rfl hL rfl rfl rfl ?_
    refine x_bipush (n := 12) (b := 12) dX12_isThere_10 (by decide) rfl ?_
    obtain ⟨hs, hF⟩ := ck_e hF
    refine x_iald (v := gI h 61 0 12) (b := 13) ak_61 dX12_isThere_12 hs rfl rfl ?_
    refine x_icmp_ge (tgt := 20) (b := 16) dX12_isThere_13 (by decide) rfl (fun hc => ?_) (fun hc => ?_)
    · replace hF := br_T hc hF
      refine x_iconst (n := 0) (b := 21) dX12_isThere_20 (by decide) rfl ?_
      refine x_goto (tgt := 42) dX12_isThere_21 (by decide) ?_
      refine x_zreturn dX12_isThere_42 rfl ⟨Nat.le_refl _, Nat.le_refl _⟩ (by decide) ?_
      cases hF
      exact ⟨rfl, rfl, hL⟩
    · replace hF := br_F hc hF
      refine x_iconst (n := 1) (b := 17) dX12_isThere_16 (by decide) rfl ?_
      refine x_goto (tgt := 42) dX12_isThere_17 (by decide) ?_
      refine x_zreturn dX12_isThere_42 rfl ⟨Nat.le_refl _, Nat.le_refl _⟩ (by decide) ?_
      cases hF
      exact ⟨rfl, rfl, hL⟩
set_option maxHeartbeats 4000000 in
set_option maxRecDepth 100000 in
theorem u_X12_isThere (E : xE) (d : Nat) (r : Int × Hp) : ∀ n : Nat, (∀ (x1 : Int) (h : Hp), Lay h → g_X12_isThere n 0 [x1] h = some r → X E mX12_isThere (d + 1) (0, 0) (0, 0) 0 [some (xr 12 0), some (xi x1)] [] h (PoI r)) := by
  intro n
  induction n with
  | zero => exact fun _ _ _ hF => no_e (r := r) hF
  | succ n ih => exact fun x1 h hL hF => t_X12_isThere_0 E d (g_X12_isThere n) r  x1 h hL hF
theorem c_X12_isThere (d : Nat) (x1 : Int) (h : Hp) (r : Int × Hp) (hL : Lay h) (hF : f_X12_isThere x1 h = some r) : Sp mX12_isThere (d + 1) (0, 0) [xr 12 0, xi x1] h (PoI r) :=
  sp_of (by decide) rfl (Nat.le_of_ble_eq_true rfl) (ls := [some (xr 12 0), some (xi x1)]) rfl (fun E _ => (u_X12_isThere E d r FU) x1 h hL hF)
theorem dX12_isTold_0 : decode cX12_isTold 0 = .ok (.aload_n 0, 1) := by decide +kernel
theorem dX12_isTold_1 : decode cX12_isTold 1 = .ok (.getfield 276, 3) := by decide +kernel
theorem dX12_isTold_4 : decode cX12_isTold 4 = .ok (.iload_n 1, 1) := by decide +kernel
theorem dX12_isTold_5 : decode cX12_isTold 5 = .ok (.ishr, 1) := by decide +kernel
theorem dX12_isTold_6 : decode cX12_isTold 6 = .ok (.iconst 1, 1) := by decide +kernel
theorem dX12_isTold_7 : decode cX12_isTold 7 = .ok (.iand, 1) := by decide +kernel
theorem dX12_isTold_8 : decode cX12_isTold 8 = .ok (.iconst 1, 1) := by decide +kernel
theorem dX12_isTold_9 : decode cX12_isTold 9 = .ok (.if_icmp .ne 7, 3) := by decide +kernel
theorem dX12_isTold_12 : decode cX12_isTold 12 = .ok (.iconst 1, 1) := by decide +kernel
theorem dX12_isTold_13 : decode cX12_isTold 13 = .ok (.goto 4, 3) := by decide +kernel
theorem dX12_isTold_16 : decode cX12_isTold 16 = .ok (.iconst 0, 1) := by decide +kernel
theorem dX12_isTold_17 : decode cX12_isTold 17 = .ok (.ireturn, 1) := by decide +kernel
noncomputable def b_X12_isTold_0 (rec : Rk) (x1 : Int) (h : Hp) : Option (Int × Hp) :=
  if (band (bshr (gI h 12 0 25) x1) 1) = 1 then (
    some (1, h)
  ) else (
    some (0, h)
  )
noncomputable def g_X12_isTold (n : Nat) : Rk := Nat.rec (motive := fun _ => Rk) (fun _ _ _ => none) (fun _ rec k l h => if k = 0 then b_X12_isTold_0 rec (l.getD 0 0) h else none) n
noncomputable def f_X12_isTold (x1 : Int) (h : Hp) : Option (Int × Hp) := g_X12_isTold FU 0 [x1] h
set_option maxHeartbeats 4000000 in
set_option maxRecDepth 100000 in
theorem t_X12_isTold_0 (E : xE) (d : Nat) (rec : Rk) (r : Int × Hp) (x1 : Int) (h : Hp) (hL : Lay h) (hF : b_X12_isTold_0 rec x1 h = some r) : X E mX12_isTold (d + 1) (0, 0) (0, 0) 0 [some (xr 12 0), some (xi x1)] [] h (PoI r) := by
  unfold b_X12_isTold_0 at hF
  refine x_aload_n (i := 0) (b := 1) dX12_isTold_0 rfl rfl rfl ?_
  refine x_getI (v := gI h 12 0 25) (b := 4) fk_X12_276 dX12_isTold_1 (by decide) rfl rfl ?_
  refine x_iload_n (i := 1) (b := 5) dX12_isTold_4 rfl rfl rfl ?_
  refine x_ishr (b := 6) dX12_isTold_5 rfl ?_
  refine x_iconst (n := 1) (b := 7) dX12_isTold_6 (by decide) rfl ?_
  refine x_iand (b := 8) dX12_isTold_7 rfl ?_
  refine x_iconst (n := 1) (b := 9) dX12_isTold_8 (by decide) rfl ?_
  refine x_icmp_ne (tgt := 16) (b := 12) dX12_isTold_9 (by decide) rfl (fun hc => ?_) (fun hc => ?_)
  · replace hF := br_F hc hF
    refine x_iconst (n := 0) (b := 17) dX12_isTold_16 (by decide) rfl ?_
    refine x_zreturn dX12_isTold_17 rfl ⟨Nat.le_refl _, Nat.le_refl _⟩ (by decide) ?_
    cases hF
    exact ⟨rfl, rfl, hL⟩
  · replace hF := br_T hc hF
    refine x_iconst (n := 1) (b := 13) dX12_isTold_12 (by decide) rfl ?_
    refine x_goto (tgt := 17) dX12_isTold_13 (by decide) ?_
    refine x_zreturn dX12_isTold_17 rfl ⟨Nat.le_refl _, Nat.le_refl _⟩ (by decide) ?_
    cases hF
    exact ⟨rfl, rfl, hL⟩
set_option maxHeartbeats 4000000 in
set_option maxRecDepth 100000 in
theorem u_X12_isTold (E : xE) (d : Nat) (r : Int × Hp) : ∀ n : Nat, (∀ (x1 : Int) (h : Hp), Lay h → g_X12_isTold n 0 [x1] h = some r → X E mX12_isTold (d + 1) (0, 0) (0, 0) 0 [some (xr 12 0), some (xi x1)] [] h (PoI r)) := by
  intro n
  induction n with
  | zero => exact fun _ _ _ hF => no_e (r := r) hF
  | succ n ih => exact fun x1 h hL hF => t_X12_isTold_0 E d (g_X12_isTold n) r  x1 h hL hF
theorem c_X12_isTold (d : Nat) (x1 : Int) (h : Hp) (r : Int × Hp) (hL : Lay h) (hF : f_X12_isTold x1 h = some r) : Sp mX12_isTold (d + 1) (0, 0) [xr 12 0, xi x1] h (PoI r) :=
  sp_of (by decide) rfl (Nat.le_of_ble_eq_true rfl) (ls := [some (xr 12 0), some (xi x1)]) rfl (fun E _ => (u_X12_isTold E d r FU) x1 h hL hF)
theorem dX12_isWord_0 : decode cX12_isWord 0 = .ok (.aload_n 0, 1) := by decide +kernel
theorem dX12_isWord_1 : decode cX12_isWord 1 = .ok (.getfield 247, 3) := by decide +kernel
theorem dX12_isWord_4 : decode cX12_isWord 4 = .ok (.ifCond .ne 22, 3) := by decide +kernel
theorem dX12_isWord_7 : decode cX12_isWord 7 = .ok (.aload_n 0, 1) := by decide +kernel
theorem dX12_isWord_8 : decode cX12_isWord 8 = .ok (.getfield 213, 3) := by decide +kernel
theorem dX12_isWord_11 : decode cX12_isWord 11 = .ok (.ifCond .ne 15, 3) := by decide +kernel
theorem dX12_isWord_14 : decode cX12_isWord 14 = .ok (.aload_n 0, 1) := by decide +kernel
theorem dX12_isWord_15 : decode cX12_isWord 15 = .ok (.getfield 223, 3) := by decide +kernel
theorem dX12_isWord_18 : decode cX12_isWord 18 = .ok (.iload_n 1, 1) := by decide +kernel
theorem dX12_isWord_19 : decode cX12_isWord 19 = .ok (.if_icmp .ne 7, 3) := by decide +kernel
theorem dX12_isWord_22 : decode cX12_isWord 22 = .ok (.iconst 1, 1) := by decide +kernel
theorem dX12_isWord_23 : decode cX12_isWord 23 = .ok (.goto 4, 3) := by decide +kernel
theorem dX12_isWord_26 : decode cX12_isWord 26 = .ok (.iconst 0, 1) := by decide +kernel
theorem dX12_isWord_27 : decode cX12_isWord 27 = .ok (.ireturn, 1) := by decide +kernel
noncomputable def b_X12_isWord_0 (rec : Rk) (x1 : Int) (h : Hp) : Option (Int × Hp) :=
  if (gI h 12 0 32) = 0 then (
    if (gI h 12 0 30) = 0 then (
      if (gI h 12 0 31) = x1 then (
        some (1, h)
      ) else (
        some (0, h)
      )
    ) else (
      some (0, h)
    )
  ) else (
    some (0, h)
  )
noncomputable def g_X12_isWord (n : Nat) : Rk := Nat.rec (motive := fun _ => Rk) (fun _ _ _ => none) (fun _ rec k l h => if k = 0 then b_X12_isWord_0 rec (l.getD 0 0) h else none) n
noncomputable def f_X12_isWord (x1 : Int) (h : Hp) : Option (Int × Hp) := g_X12_isWord FU 0 [x1] h
set_option maxHeartbeats 4000000 in
set_option maxRecDepth 100000 in
theorem t_X12_isWord_0 (E : xE) (d : Nat) (rec : Rk) (r : Int × Hp) (x1 : Int) (h : Hp) (hL : Lay h) (hF : b_X12_isWord_0 rec x1 h = some r) : X E mX12_isWord (d + 1) (0, 0) (0, 0) 0 [some (xr 12 0), some (xi x1)] [] h (PoI r) := by
  unfold b_X12_isWord_0 at hF
  refine x_aload_n (i := 0) (b := 1) dX12_isWord_0 rfl rfl rfl ?_
  refine x_getI (v := gI h 12 0 32) (b := 4) fk_X12_247 dX12_isWord_1 (by decide) rfl rfl ?_
  refine x_if_ne (tgt := 26) (b := 7) dX12_isWord_4 (by decide) rfl (fun hc => ?_) (fun hc => ?_)
  · replace hF := br_F hc hF
    refine x_iconst (n := 0) (b := 27) dX12_isWord_26 (by decide) rfl ?_
    refine x_zreturn dX12_isWord_27 rfl ⟨Nat.le_refl _, Nat.le_refl _⟩ (by decide) ?_
    cases hF
    exact ⟨rfl, rfl, hL⟩
  · replace hF := br_T hc hF
    refine x_aload_n (i := 0) (b := 8) dX12_isWord_7 rfl rfl rfl ?_
    refine x_getI (v := gI h 12 0 30) (b := 11) fk_X12_213 dX12_isWord_8 (by decide) rfl rfl ?_
    refine x_if_ne (tgt := 26) (b := 14) dX12_isWord_11 (by decide) rfl (fun hc => ?_) (fun hc => ?_)
    · replace hF := br_F hc hF
      refine x_iconst (n := 0) (b := 27) dX12_isWord_26 (by decide) rfl ?_
      refine x_zreturn dX12_isWord_27 rfl ⟨Nat.le_refl _, Nat.le_refl _⟩ (by decide) ?_
      cases hF
      exact ⟨rfl, rfl, hL⟩
    · replace hF := br_T hc hF
      refine x_aload_n (i := 0) (b := 15) dX12_isWord_14 rfl rfl rfl ?_
      refine x_getI (v := gI h 12 0 31) (b := 18) fk_X12_223 dX12_isWord_15 (by decide) rfl rfl ?_
      refine x_iload_n (i := 1) (b := 19) dX12_isWord_18 rfl rfl rfl ?_
      refine x_icmp_ne (tgt := 26) (b := 22) dX12_isWord_19 (by decide) rfl (fun hc => ?_) (fun hc => ?_)
      · replace hF := br_F hc hF
        refine x_iconst (n := 0) (b := 27) dX12_isWord_26 (by decide) rfl ?_
        refine x_zreturn dX12_isWord_27 rfl ⟨Nat.le_refl _, Nat.le_refl _⟩ (by decide) ?_
        cases hF
        exact ⟨rfl, rfl, hL⟩
      · replace hF := br_T hc hF
        refine x_iconst (n := 1) (b := 23) dX12_isWord_22 (by decide) rfl ?_
        refine x_goto (tgt := 27) dX12_isWord_23 (by decide) ?_
        refine x_zreturn dX12_isWord_27 rfl ⟨Nat.le_refl _, Nat.le_refl _⟩ (by decide) ?_
        cases hF
        exact ⟨rfl, rfl, hL⟩
set_option maxHeartbeats 4000000 in
set_option maxRecDepth 100000 in
theorem u_X12_isWord (E : xE) (d : Nat) (r : Int × Hp) : ∀ n : Nat, (∀ (x1 : Int) (h : Hp), Lay h → g_X12_isWord n 0 [x1] h = some r → X E mX12_isWord (d + 1) (0, 0) (0, 0) 0 [some (xr 12 0), some (xi x1)] [] h (PoI r)) := by
  intro n
  induction n with
  | zero => exact fun _ _ _ hF => no_e (r := r) hF
  | succ n ih => exact fun x1 h hL hF => t_X12_isWord_0 E d (g_X12_isWord n) r  x1 h hL hF
theorem c_X12_isWord (d : Nat) (x1 : Int) (h : Hp) (r : Int × Hp) (hL : Lay h) (hF : f_X12_isWord x1 h = some r) : Sp mX12_isWord (d + 1) (0, 0) [xr 12 0, xi x1] h (PoI r) :=
  sp_of (by decide) rfl (Nat.le_of_ble_eq_true rfl) (ls := [some (xr 12 0), some (xi x1)]) rfl (fun E _ => (u_X12_isWord E d r FU) x1 h hL hF)
theorem dX12_keep_0 : decode cX12_keep 0 = .ok (.aload_n 0, 1) := by decide +kernel
theorem dX12_keep_1 : decode cX12_keep 1 = .ok (.iconst 0, 1) := by decide +kernel
theorem dX12_keep_2 : decode cX12_keep 2 = .ok (.putfield 194, 3) := by decide +kernel
theorem dX12_keep_5 : decode cX12_keep 5 = .ok (.aload_n 0, 1) := by decide +kernel
theorem dX12_keep_6 : decode cX12_keep 6 = .ok (.iconst 2, 1) := by decide +kernel
theorem dX12_keep_7 : decode cX12_keep 7 = .ok (.iconst 0, 1) := by decide +kernel
theorem dX12_keep_8 : decode cX12_keep 8 = .ok (.invokevirtual 468, 3) := by decide +kernel
theorem dX12_keep_11 : decode cX12_keep 11 = .ok (.aload_n 0, 1) := by decide +kernel
theorem dX12_keep_12 : decode cX12_keep 12 = .ok (.iconst 2, 1) := by decide +kernel
theorem dX12_keep_13 : decode cX12_keep 13 = .ok (.iconst 0, 1) := by decide +kernel
theorem dX12_keep_14 : decode cX12_keep 14 = .ok (.invokevirtual 514, 3) := by decide +kernel
theorem dX12_keep_17 : decode cX12_keep 17 = .ok (.aload_n 0, 1) := by decide +kernel
theorem dX12_keep_18 : decode cX12_keep 18 = .ok (.iconst 1, 1) := by decide +kernel
theorem dX12_keep_19 : decode cX12_keep 19 = .ok (.putfield 367, 3) := by decide +kernel
theorem dX12_keep_22 : decode cX12_keep 22 = .ok (.aload_n 0, 1) := by decide +kernel
theorem dX12_keep_23 : decode cX12_keep 23 = .ok (.getfield 87, 3) := by decide +kernel
theorem dX12_keep_26 : decode cX12_keep 26 = .ok (.iconst 0, 1) := by decide +kernel
theorem dX12_keep_27 : decode cX12_keep 27 = .ok (.iaload, 1) := by decide +kernel
theorem dX12_keep_28 : decode cX12_keep 28 = .ok (.ireturn, 1) := by decide +kernel
noncomputable def b_X12_keep_0 (rec : Rk) (h : Hp) : Option (Int × Hp) :=
  lt (sI h 12 0 0 0) fun h1 =>
  bd (f_X12_copies 2 0 h1) fun v2 h3 =>
  bd (f_X12_copiesLog 2 0 h3) fun v4 h5 =>
  lt (sI h5 12 0 53 1) fun h6 =>
  ck (0 ≤ (0 : Int) ∧ (0 : Int) < 23) <|
  some (gI h6 84 0 0, h6)
noncomputable def g_X12_keep (n : Nat) : Rk := Nat.rec (motive := fun _ => Rk) (fun _ _ _ => none) (fun _ rec k l h => if k = 0 then b_X12_keep_0 rec  h else none) n
noncomputable def f_X12_keep (h : Hp) : Option (Int × Hp) := g_X12_keep FU 0 [] h
set_option maxHeartbeats 4000000 in
set_option maxRecDepth 100000 in
theorem t_X12_keep_0 (E : xE) (d : Nat) (rec : Rk) (r : Int × Hp) (h : Hp) (hL : Lay h) (hF : b_X12_keep_0 rec  h = some r) : X E mX12_keep (d + 2) (0, 0) (0, 0) 0 [some (xr 12 0)] [] h (PoI r) := by
  unfold b_X12_keep_0 at hF
  refine x_aload_n (i := 0) (b := 1) dX12_keep_0 rfl rfl rfl ?_
  refine x_iconst (n := 0) (b := 2) dX12_keep_1 (by decide) rfl ?_
  refine x_putI (b := 5) fk_X12_194 dX12_keep_2 rfl rfl 0 rfl ?_
  obtain ⟨h1, e_h1, hF⟩ := lt_e hF
  refine x_hp (h2 := h1) e_h1 ?_
  replace hL : Lay h1 := by rw [← e_h1]; exact hL
  refine x_aload_n (i := 0) (b := 6) dX12_keep_5 rfl rfl rfl ?_
  refine x_iconst (n := 2) (b := 7) dX12_keep_6 (by decide) rfl ?_
  refine x_iconst (n := 0) (b := 8) dX12_keep_7 (by decide) rfl ?_
  obtain ⟨v2, h3, hq, hF⟩ := bd_e hF
  refine x_callV (as := [xi 2, xi 0]) (rest := []) (b := 11) (c_X12_copies d 2 0 h1 _ hL hq) dX12_keep_8 cw_X12_468 ⟨_, _, rfl, Nat.le_of_ble_eq_true rfl⟩ rfl rfl (Nat.le_of_ble_eq_true rfl) ⟨Nat.le_refl _, Nat.le_refl _⟩ rfl (fun rv hh hp _ => ?_)
  obtain ⟨rfl, rfl, hL⟩ := hp
  refine x_aload_n (i := 0) (b := 12) dX12_keep_11 rfl rfl rfl ?_
  refine x_iconst (n := 2) (b := 13) dX12_keep_12 (by decide) rfl ?_
  refine x_iconst (n := 0) (b := 14) dX12_keep_13 (by decide) rfl ?_
  obtain ⟨v4, h5, hq, hF⟩ := bd_e hF
  refine x_callV (as := [xi 2, xi 0]) (rest := []) (b := 17) (c_X12_copiesLog d 2 0 h3 _ hL hq) dX12_keep_14 cw_X12_514 ⟨_, _, rfl, Nat.le_of_ble_eq_true rfl⟩ rfl rfl (Nat.le_of_ble_eq_true rfl) ⟨Nat.le_refl _, Nat.le_refl _⟩ rfl (fun rv hh hp _ => ?_)
  obtain ⟨rfl, rfl, hL⟩ := hp
  refine x_aload_n (i := 0) (b := 18) dX12_keep_17 rfl rfl rfl ?_
  refine x_iconst (n := 1) (b := 19) dX12_keep_18 (by decide) rfl ?_
  refine x_putZ (b := 22) fk_X12_367 dX12_keep_19 rfl (by decide) rfl 53 rfl ?_
  obtain ⟨h6, e_h6, hF⟩ := lt_e hF
  refine x_hp (h2 := h6) e_h6 ?_
  replace hL : Lay h6 := by rw [← e_h6]; exact hL
  refine x_aload_n (i := 0) (b := 23) dX12_keep_22 rfl rfl rfl ?_
  refine x_getL (j := 0) (t := (84, 0, true)) (b := 26) fk_X12_87 dX12_keep_23 rfl hL rfl rfl rfl ?_
  refine x_iconst (n := 0) (b := 27) dX12_keep_26 (by decide) rfl ?_
  obtain ⟨hs, hF⟩ := ck_e hF
  refine x_iald (v := gI h6 84 0 0) (b := 28) ak_84 dX12_keep_27 hs rfl rfl ?_
  refine x_ireturn dX12_keep_28 rfl ⟨Nat.le_refl _, Nat.le_refl _⟩ ?_
  cases hF
  exact ⟨rfl, rfl, hL⟩
set_option maxHeartbeats 4000000 in
set_option maxRecDepth 100000 in
theorem u_X12_keep (E : xE) (d : Nat) (r : Int × Hp) : ∀ n : Nat, (∀ (h : Hp), Lay h → g_X12_keep n 0 [] h = some r → X E mX12_keep (d + 2) (0, 0) (0, 0) 0 [some (xr 12 0)] [] h (PoI r)) := by
  intro n
  induction n with
  | zero => exact fun _ _ hF => no_e (r := r) hF
  | succ n ih => exact fun h hL hF => t_X12_keep_0 E d (g_X12_keep n) r   h hL hF
theorem c_X12_keep (d : Nat) (h : Hp) (r : Int × Hp) (hL : Lay h) (hF : f_X12_keep  h = some r) : Sp mX12_keep (d + 2) (0, 0) [xr 12 0] h (PoI r) :=
  sp_of (by decide) rfl (Nat.le_of_ble_eq_true rfl) (ls := [some (xr 12 0)]) rfl (fun E _ => (u_X12_keep E d r FU)  h hL hF)
theorem dX12_keepNow_0 : decode cX12_keepNow 0 = .ok (.aload_n 0, 1) := by decide +kernel
theorem dX12_keepNow_1 : decode cX12_keepNow 1 = .ok (.getfield 371, 3) := by decide +kernel
theorem dX12_keepNow_4 : decode cX12_keepNow 4 = .ok (.bipush 20, 2) := by decide +kernel
theorem dX12_keepNow_6 : decode cX12_keepNow 6 = .ok (.if_icmp .ne 39, 3) := by decide +kernel
theorem dX12_keepNow_9 : decode cX12_keepNow 9 = .ok (.iconst 1, 1) := by decide +kernel
theorem dX12_keepNow_10 : decode cX12_keepNow 10 = .ok (.istore_n 1, 1) := by decide +kernel
theorem dX12_keepNow_11 : decode cX12_keepNow 11 = .ok (.iload_n 1, 1) := by decide +kernel
theorem dX12_keepNow_12 : decode cX12_keepNow 12 = .ok (.bipush 20, 2) := by decide +kernel
theorem dX12_keepNow_14 : decode cX12_keepNow 14 = .ok (.if_icmp .ge 21, 3) := by decide +kernel
theorem dX12_keepNow_17 : decode cX12_keepNow 17 = .ok (.aload_n 0, 1) := by decide +kernel
theorem dX12_keepNow_18 : decode cX12_keepNow 18 = .ok (.iconst 3, 1) := by decide +kernel
theorem dX12_keepNow_19 : decode cX12_keepNow 19 = .ok (.iload_n 1, 1) := by decide +kernel
theorem dX12_keepNow_20 : decode cX12_keepNow 20 = .ok (.iadd, 1) := by decide +kernel
theorem dX12_keepNow_21 : decode cX12_keepNow 21 = .ok (.iconst 1, 1) := by decide +kernel
theorem dX12_keepNow_22 : decode cX12_keepNow 22 = .ok (.isub, 1) := by decide +kernel
theorem dX12_keepNow_23 : decode cX12_keepNow 23 = .ok (.iconst 3, 1) := by decide +kernel
theorem dX12_keepNow_24 : decode cX12_keepNow 24 = .ok (.iload_n 1, 1) := by decide +kernel
theorem dX12_keepNow_25 : decode cX12_keepNow 25 = .ok (.iadd, 1) := by decide +kernel
theorem dX12_keepNow_26 : decode cX12_keepNow 26 = .ok (.invokevirtual 468, 3) := by decide +kernel
theorem dX12_keepNow_29 : decode cX12_keepNow 29 = .ok (.iinc 1 1, 3) := by decide +kernel
theorem dX12_keepNow_32 : decode cX12_keepNow 32 = .ok (.goto (-21), 3) := by decide +kernel
theorem dX12_keepNow_35 : decode cX12_keepNow 35 = .ok (.aload_n 0, 1) := by decide +kernel
theorem dX12_keepNow_36 : decode cX12_keepNow 36 = .ok (.dup, 1) := by decide +kernel
theorem dX12_keepNow_37 : decode cX12_keepNow 37 = .ok (.getfield 371, 3) := by decide +kernel
theorem dX12_keepNow_40 : decode cX12_keepNow 40 = .ok (.iconst 1, 1) := by decide +kernel
theorem dX12_keepNow_41 : decode cX12_keepNow 41 = .ok (.isub, 1) := by decide +kernel
theorem dX12_keepNow_42 : decode cX12_keepNow 42 = .ok (.putfield 371, 3) := by decide +kernel
theorem dX12_keepNow_45 : decode cX12_keepNow 45 = .ok (.aload_n 0, 1) := by decide +kernel
theorem dX12_keepNow_46 : decode cX12_keepNow 46 = .ok (.iconst 3, 1) := by decide +kernel
theorem dX12_keepNow_47 : decode cX12_keepNow 47 = .ok (.aload_n 0, 1) := by decide +kernel
theorem dX12_keepNow_48 : decode cX12_keepNow 48 = .ok (.getfield 371, 3) := by decide +kernel
theorem dX12_keepNow_51 : decode cX12_keepNow 51 = .ok (.iadd, 1) := by decide +kernel
theorem dX12_keepNow_52 : decode cX12_keepNow 52 = .ok (.iconst 0, 1) := by decide +kernel
theorem dX12_keepNow_53 : decode cX12_keepNow 53 = .ok (.invokevirtual 468, 3) := by decide +kernel
theorem dX12_keepNow_56 : decode cX12_keepNow 56 = .ok (.aload_n 0, 1) := by decide +kernel
theorem dX12_keepNow_57 : decode cX12_keepNow 57 = .ok (.dup, 1) := by decide +kernel
theorem dX12_keepNow_58 : decode cX12_keepNow 58 = .ok (.getfield 371, 3) := by decide +kernel
theorem dX12_keepNow_61 : decode cX12_keepNow 61 = .ok (.iconst 1, 1) := by decide +kernel
theorem dX12_keepNow_62 : decode cX12_keepNow 62 = .ok (.iadd, 1) := by decide +kernel
theorem dX12_keepNow_63 : decode cX12_keepNow 63 = .ok (.putfield 371, 3) := by decide +kernel
theorem dX12_keepNow_66 : decode cX12_keepNow 66 = .ok (.return_, 1) := by decide +kernel
noncomputable def b_X12_keepNow_0 (rec : Rk) (h : Hp) : Option (Int × Hp) :=
  if (gI h 12 0 54) = 20 then (
    rec 1 [1] h
  ) else (
    rec 2 [] h
  )
noncomputable def b_X12_keepNow_1 (rec : Rk) (x1 : Int) (h : Hp) : Option (Int × Hp) :=
  if 20 ≤ x1 then (
    ck (-2147483648 ≤ (gI h 12 0 54) - 1 ∧ (gI h 12 0 54) - 1 < 2147483648) <|
    lt (sI h 12 0 54 ((gI h 12 0 54) - 1)) fun h1 =>
    rec 2 [] h1
  ) else (
    ck (-2147483648 ≤ 3 + x1 ∧ 3 + x1 < 2147483648) <|
    ck (-2147483648 ≤ (3 + x1) - 1 ∧ (3 + x1) - 1 < 2147483648) <|
    ck (-2147483648 ≤ 3 + x1 ∧ 3 + x1 < 2147483648) <|
    bd (f_X12_copies ((3 + x1) - 1) (3 + x1) h) fun v2 h3 =>
    ck (-2147483648 ≤ x1 + 1 ∧ x1 + 1 < 2147483648) <|
    rec 1 [x1 + 1] h3
  )
noncomputable def b_X12_keepNow_2 (rec : Rk) (h : Hp) : Option (Int × Hp) :=
  ck (-2147483648 ≤ 3 + (gI h 12 0 54) ∧ 3 + (gI h 12 0 54) < 2147483648) <|
  bd (f_X12_copies (3 + (gI h 12 0 54)) 0 h) fun v1 h2 =>
  ck (-2147483648 ≤ (gI h2 12 0 54) + 1 ∧ (gI h2 12 0 54) + 1 < 2147483648) <|
  lt (sI h2 12 0 54 ((gI h2 12 0 54) + 1)) fun h3 =>
  some (0, h3)
noncomputable def g_X12_keepNow (n : Nat) : Rk := Nat.rec (motive := fun _ => Rk) (fun _ _ _ => none) (fun _ rec k l h => if k = 0 then b_X12_keepNow_0 rec  h else if k = 1 then b_X12_keepNow_1 rec (l.getD 0 0) h else if k = 2 then b_X12_keepNow_2 rec  h else none) n
noncomputable def f_X12_keepNow (h : Hp) : Option (Int × Hp) := g_X12_keepNow FU 0 [] h
set_option maxHeartbeats 4000000 in
set_option maxRecDepth 100000 in
theorem t_X12_keepNow_0 (E : xE) (d : Nat) (rec : Rk) (r : Int × Hp) (hr_11 : ∀ (x1 : Int) (h : Hp), Lay h → rec 1 [x1] h = some r → X E mX12_keepNow (d + 2) (0, 0) (0, 0) 11 [some (xr 12 0), some (xi x1)] [] h (PoV r)) (hr_45 : ∀ (h : Hp), Lay h → rec 2 [] h = some r → X E mX12_keepNow (d + 2) (0, 0) (0, 0) 45 [some (xr 12 0), none] [] h (PoV r)) (h : Hp) (hL : Lay h) (hF : b_X12_keepNow_0 rec  h = some r) : X E mX12_keepNow (d + 2) (0, 0) (0, 0) 0 [some (xr 12 0), none] [] h (PoV r) := by
  unfold b_X12_keepNow_0 at hF
  refine x_aload_n (i := 0) (b := 1) dX12_keepNow_0 rfl rfl rfl ?_
  refine x_getI (v := gI h 12 0 54) (b := 4) fk_X12_371 dX12_keepNow_1 (by decide) rfl rfl ?_
  refine x_bipush (n := 20) (b := 6) dX12_keepNow_4 (by decide) rfl ?_
  refine x_icmp_ne (tgt := 45) (b := 9) dX12_keepNow_6 (by decide) rfl (fun hc => ?_) (fun hc => ?_)
  · replace hF := br_F hc hF
    exact x_dp (ls2 := [some (xr 12 0), none]) ⟨rfl, trivial⟩ (hr_45  h hL hF)
  · replace hF := br_T hc hF
    refine x_iconst (n := 1) (b := 10) dX12_keepNow_9 (by decide) rfl ?_
    refine x_istore_n (i := 1) (b := 11) (ls2 := [some (xr 12 0), some (xi 1)]) dX12_keepNow_10 rfl (Nat.le_of_ble_eq_true rfl) rfl rfl ?_
    exact x_dp (ls2 := [some (xr 12 0), some (xi 1)]) ⟨rfl, rfl, trivial⟩ (hr_11 1 h hL hF)
set_option maxHeartbeats 4000000 in
set_option maxRecDepth 100000 in
theorem t_X12_keepNow_1 (E : xE) (d : Nat) (rec : Rk) (r : Int × Hp) (hr_11 : ∀ (x1 : Int) (h : Hp), Lay h → rec 1 [x1] h = some r → X E mX12_keepNow (d + 2) (0, 0) (0, 0) 11 [some (xr 12 0), some (xi x1)] [] h (PoV r)) (hr_45 : ∀ (h : Hp), Lay h → rec 2 [] h = some r → X E mX12_keepNow (d + 2) (0, 0) (0, 0) 45 [some (xr 12 0), none] [] h (PoV r)) (x1 : Int) (h : Hp) (hL : Lay h) (hF : b_X12_keepNow_1 rec x1 h = some r) : X E mX12_keepNow (d + 2) (0, 0) (0, 0) 11 [some (xr 12 0), some (xi x1)] [] h (PoV r) := by
  unfold b_X12_keepNow_1 at hF
  refine x_iload_n (i := 1) (b := 12) dX12_keepNow_11 rfl rfl rfl ?_
  refine x_bipush (n := 20) (b := 14) dX12_keepNow_12 (by decide) rfl ?_
  refine x_icmp_ge (tgt := 35) (b := 17) dX12_keepNow_14 (by decide) rfl (fun hc => ?_) (fun hc => ?_)
  · replace hF := br_T hc hF
    refine x_aload_n (i := 0) (b := 36) dX12_keepNow_35 rfl rfl rfl ?_
    refine x_dup (b := 37) dX12_keepNow_36 rfl rfl ?_
    refine x_getI (v := gI h 12 0 54) (b := 40) fk_X12_371 dX12_keepNow_37 (by decide) rfl rfl ?_
    refine x_iconst (n := 1) (b := 41) dX12_keepNow_40 (by decide) rfl ?_
    obtain ⟨hs, hF⟩ := ck_e hF
    refine x_isub (b := 42) dX12_keepNow_41 hs rfl ?_
    refine x_putI (b := 45) fk_X12_371 dX12_keepNow_42 rfl rfl 54 rfl ?_
    obtain ⟨h1, e_h1, hF⟩ := lt_e hF
    refine x_hp (h2 := h1) e_h1 ?_
    replace hL : Lay h1 := by rw [← e_h1]; exact hL
    exact x_dp (ls2 := [some (xr 12 0), none]) ⟨rfl, trivial⟩ (hr_45  h1 hL hF)
  · replace hF := br_F hc hF
    refine x_aload_n (i := 0) (b := 18) dX12_keepNow_17 rfl rfl rfl ?_
    refine x_iconst (n := 3) (b := 19) dX12_keepNow_18 (by decide) rfl ?_
    refine x_iload_n (i := 1) (b := 20) dX12_keepNow_19 rfl rfl rfl ?_
    obtain ⟨hs, hF⟩ := ck_e hF
    refine x_iadd (b := 21) dX12_keepNow_20 hs rfl ?_
    refine x_iconst (n := 1) (b := 22) dX12_keepNow_21 (by decide) rfl ?_
    obtain ⟨hs, hF⟩ := ck_e hF
    refine x_isub (b := 23) dX12_keepNow_22 hs rfl ?_
    refine x_iconst (n := 3) (b := 24) dX12_keepNow_23 (by decide) rfl ?_
    refine x_iload_n (i := 1) (b := 25) dX12_keepNow_24 rfl rfl rfl ?_
    obtain ⟨hs, hF⟩ := ck_e hF
    refine x_iadd (b := 26) dX12_keepNow_25 hs rfl ?_
    obtain ⟨v2, h3, hq, hF⟩ := bd_e hF
    refine x_callV (as := [xi ((3 + x1) - 1), xi (3 + x1)]) (rest := []) (b := 29) (c_X12_copies d ((3 + x1) - 1) (3 + x1) h _ hL hq) dX12_keepNow_26 cw_X12_468 ⟨_, _, rfl, Nat.le_of_ble_eq_true rfl⟩ rfl rfl (Nat.le_of_ble_eq_true rfl) ⟨Nat.le_refl _, Nat.le_refl _⟩ rfl (fun rv hh hp _ => ?_)
    obtain ⟨rfl, rfl, hL⟩ := hp
    obtain ⟨hs, hF⟩ := ck_e hF
    refine x_iinc (i := 1) (b := 32) (ls2 := [some (xr 12 0), some (xi (x1 + 1))]) dX12_keepNow_29 rfl (Nat.le_of_ble_eq_true rfl) hs rfl rfl ?_
    refine x_goto (tgt := 11) dX12_keepNow_32 (by decide) ?_
    exact x_dp (ls2 := [some (xr 12 0), some (xi (x1 + 1))]) ⟨rfl, rfl, trivial⟩ (hr_11 (x1 + 1) h3 hL hF)
set_option maxHeartbeats 4000000 in
set_option maxRecDepth 100000 in
theorem t_X12_keepNow_2 (E : xE) (d : Nat) (rec : Rk) (r : Int × Hp) (h : Hp) (hL : Lay h) (hF : b_X12_keepNow_2 rec  h = some r) : X E mX12_keepNow (d + 2) (0, 0) (0, 0) 45 [some (xr 12 0), none] [] h (PoV r) := by
  unfold b_X12_keepNow_2 at hF
  refine x_aload_n (i := 0) (b := 46) dX12_keepNow_45 rfl rfl rfl ?_
  refine x_iconst (n := 3) (b := 47) dX12_keepNow_46 (by decide) rfl ?_
  refine x_aload_n (i := 0) (b := 48) dX12_keepNow_47 rfl rfl rfl ?_
  refine x_getI (v := gI h 12 0 54) (b := 51) fk_X12_371 dX12_keepNow_48 (by decide) rfl rfl ?_
  obtain ⟨hs, hF⟩ := ck_e hF
  refine x_iadd (b := 52) dX12_keepNow_51 hs rfl ?_
  refine x_iconst (n := 0) (b := 53) dX12_keepNow_52 (by decide) rfl ?_
  obtain ⟨v1, h2, hq, hF⟩ := bd_e hF
  refine x_callV (as := [xi (3 + (gI h 12 0 54)), xi 0]) (rest := []) (b := 56) (c_X12_copies d (3 + (gI h 12 0 54)) 0 h _ hL hq) dX12_keepNow_53 cw_X12_468 ⟨_, _, rfl, Nat.le_of_ble_eq_true rfl⟩ rfl rfl (Nat.le_of_ble_eq_true rfl) ⟨Nat.le_refl _, Nat.le_refl _⟩ rfl (fun rv hh hp _ => ?_)
  obtain ⟨rfl, rfl, hL⟩ := hp
  refine x_aload_n (i := 0) (b := 57) dX12_keepNow_56 rfl rfl rfl ?_
  refine x_dup (b := 58) dX12_keepNow_57 rfl rfl ?_
  refine x_getI (v := gI h2 12 0 54) (b := 61) fk_X12_371 dX12_keepNow_58 (by decide) rfl rfl ?_
  refine x_iconst (n := 1) (b := 62) dX12_keepNow_61 (by decide) rfl ?_
  obtain ⟨hs, hF⟩ := ck_e hF
  refine x_iadd (b := 63) dX12_keepNow_62 hs rfl ?_
  refine x_putI (b := 66) fk_X12_371 dX12_keepNow_63 rfl rfl 54 rfl ?_
  obtain ⟨h3, e_h3, hF⟩ := lt_e hF
  refine x_hp (h2 := h3) e_h3 ?_
  replace hL : Lay h3 := by rw [← e_h3]; exact hL
  refine x_return dX12_keepNow_66 rfl ⟨Nat.le_refl _, Nat.le_refl _⟩ ?_
  cases hF
  exact ⟨rfl, rfl, hL⟩
set_option maxHeartbeats 4000000 in
set_option maxRecDepth 100000 in
theorem u_X12_keepNow (E : xE) (d : Nat) (r : Int × Hp) : ∀ n : Nat, (∀ (h : Hp), Lay h → g_X12_keepNow n 0 [] h = some r → X E mX12_keepNow (d + 2) (0, 0) (0, 0) 0 [some (xr 12 0), none] [] h (PoV r)) ∧ (∀ (x1 : Int) (h : Hp), Lay h → g_X12_keepNow n 1 [x1] h = some r → X E mX12_keepNow (d + 2) (0, 0) (0, 0) 11 [some (xr 12 0), some (xi x1)] [] h (PoV r)) ∧ (∀ (h : Hp), Lay h → g_X12_keepNow n 2 [] h = some r → X E mX12_keepNow (d + 2) (0, 0) (0, 0) 45 [some (xr 12 0), none] [] h (PoV r)) := by
  intro n
  induction n with
  | zero => exact ⟨fun _ _ hF => no_e (r := r) hF, fun _ _ _ hF => no_e (r := r) hF, fun _ _ hF => no_e (r := r) hF⟩
  | succ n ih => exact ⟨fun h hL hF => t_X12_keepNow_0 E d (g_X12_keepNow n) r ih.2.1 ih.2.2  h hL hF, fun x1 h hL hF => t_X12_keepNow_1 E d (g_X12_keepNow n) r ih.2.1 ih.2.2 x1 h hL hF, fun h hL hF => t_X12_keepNow_2 E d (g_X12_keepNow n) r   h hL hF⟩
theorem c_X12_keepNow (d : Nat) (h : Hp) (r : Int × Hp) (hL : Lay h) (hF : f_X12_keepNow  h = some r) : Sp mX12_keepNow (d + 2) (0, 0) [xr 12 0] h (PoV r) :=
  sp_of (by decide) rfl (Nat.le_of_ble_eq_true rfl) (ls := [some (xr 12 0), none]) rfl (fun E _ => (u_X12_keepNow E d r FU).1  h hL hF)
