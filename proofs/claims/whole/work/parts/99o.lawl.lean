/-! THE LAW, 8: its loop -/
theorem dL_law_0 : decode cL_law 0 = .ok (.new 8, 3) := by decide +kernel
theorem dL_law_3 : decode cL_law 3 = .ok (.dup, 1) := by decide +kernel
theorem dL_law_4 : decode cL_law 4 = .ok (.invokespecial 17, 3) := by decide +kernel
theorem dL_law_7 : decode cL_law 7 = .ok (.astore_n 1, 1) := by decide +kernel
theorem dL_law_8 : decode cL_law 8 = .ok (.new 18, 3) := by decide +kernel
theorem dL_law_11 : decode cL_law 11 = .ok (.dup, 1) := by decide +kernel
theorem dL_law_12 : decode cL_law 12 = .ok (.invokespecial 20, 3) := by decide +kernel
theorem dL_law_15 : decode cL_law 15 = .ok (.astore_n 2, 1) := by decide +kernel
theorem dL_law_16 : decode cL_law 16 = .ok (.iconst 1, 1) := by decide +kernel
theorem dL_law_17 : decode cL_law 17 = .ok (.newarray .long, 2) := by decide +kernel
theorem dL_law_19 : decode cL_law 19 = .ok (.astore_n 3, 1) := by decide +kernel
theorem dL_law_20 : decode cL_law 20 = .ok (.iconst 0, 1) := by decide +kernel
theorem dL_law_21 : decode cL_law 21 = .ok (.istore 4, 2) := by decide +kernel
theorem dL_law_23 : decode cL_law 23 = .ok (.iload 4, 2) := by decide +kernel
theorem dL_law_25 : decode cL_law 25 = .ok (.aload_n 0, 1) := by decide +kernel
theorem dL_law_26 : decode cL_law 26 = .ok (.arraylength, 1) := by decide +kernel
theorem dL_law_27 : decode cL_law 27 = .ok (.bipush 6, 2) := by decide +kernel
theorem dL_law_29 : decode cL_law 29 = .ok (.isub, 1) := by decide +kernel
theorem dL_law_30 : decode cL_law 30 = .ok (.if_icmp .gt 1078, 3) := by decide +kernel
theorem dL_law_33 : decode cL_law 33 = .ok (.aload_n 0, 1) := by decide +kernel
theorem dL_law_34 : decode cL_law 34 = .ok (.iload 4, 2) := by decide +kernel
theorem dL_law_36 : decode cL_law 36 = .ok (.iaload, 1) := by decide +kernel
theorem dL_law_37 : decode cL_law 37 = .ok (.bipush 31, 2) := by decide +kernel
theorem dL_law_39 : decode cL_law 39 = .ok (.iand, 1) := by decide +kernel
theorem dL_law_40 : decode cL_law 40 = .ok (.tableswitch 1062 0 29 #[136, 209, 234, 259, 296, 364, 389, 426, 451, 476, 526, 551, 576, 601, 626, 663, 700, 737, 774, 811, 836, 861, 874, 899, 936, 949, 998, 1011, 1024, 1037], 136) := by decide +kernel
theorem dL_law_1102 : decode cL_law 1102 = .ok (.iinc 4 6, 3) := by decide +kernel
theorem dL_law_1105 : decode cL_law 1105 = .ok (.goto (-1082), 3) := by decide +kernel
theorem dL_law_1108 : decode cL_law 1108 = .ok (.iconst 1, 1) := by decide +kernel
theorem dL_law_1109 : decode cL_law 1109 = .ok (.ireturn, 1) := by decide +kernel
theorem st_i {x k : Int} (g : k ≤ x) (y : ¬ x = k) : k + 1 ≤ x := by omega
set_option maxHeartbeats 4000000 in
set_option maxRecDepth 100000 in
theorem lw_sw {E : xE} {u : Nat × Nat} {i x : Int} {h : Hp} (hl : E.2.1.stackTraces = false) (hu : u.1 + 1 ≤ 601024 ∧ u.2 + 6 ≤ 7293034) (ib : lwB E i) (inv : lwI h) (kT : ∀ h9 : Hp, lwI h9 → X E mL_law 1312 (601024, 7293034) (u.1 + 1, u.2 + 6) 1102 (lwL i) [] h9 lwQ) : X E mL_law 1312 (601024, 7293034) u 40 (lwL i) [xi x] h lwQ := by
  by_cases z : x < 0 ∨ 29 < x
  · exact x_tableOut (tgt := 1102) dL_law_40 z (by decide) (x_wd (Nat.le_succ u.1) (Nat.le_add_right u.2 6) (kT h inv))
  have g0 : 0 ≤ x := Int.not_lt.mp (fun y => z (Or.inl y))
  by_cases y0 : x = 0
  · exact x_tableIn (tgt := 176) dL_law_40 0 y0 ⟨by decide, by decide⟩ rfl (by decide) (lc_0 hu ib inv kT)
  have g1 := st_i g0 y0
  by_cases y1 : x = 1
  · exact x_tableIn (tgt := 249) dL_law_40 1 y1 ⟨by decide, by decide⟩ rfl (by decide) (lc_1 hu ib inv kT)
  have g2 := st_i g1 y1
  by_cases y2 : x = 2
  · exact x_tableIn (tgt := 274) dL_law_40 2 y2 ⟨by decide, by decide⟩ rfl (by decide) (lc_2 hu ib inv kT)
  have g3 := st_i g2 y2
  by_cases y3 : x = 3
  · exact x_tableIn (tgt := 299) dL_law_40 3 y3 ⟨by decide, by decide⟩ rfl (by decide) (lc_3 hu ib inv kT)
  have g4 := st_i g3 y3
  by_cases y4 : x = 4
  · exact x_tableIn (tgt := 336) dL_law_40 4 y4 ⟨by decide, by decide⟩ rfl (by decide) (lc_4 hl hu ib inv kT)
  have g5 := st_i g4 y4
  by_cases y5 : x = 5
  · exact x_tableIn (tgt := 404) dL_law_40 5 y5 ⟨by decide, by decide⟩ rfl (by decide) (lc_5 hu ib inv kT)
  have g6 := st_i g5 y5
  by_cases y6 : x = 6
  · exact x_tableIn (tgt := 429) dL_law_40 6 y6 ⟨by decide, by decide⟩ rfl (by decide) (lc_6 hu ib inv kT)
  have g7 := st_i g6 y6
  by_cases y7 : x = 7
  · exact x_tableIn (tgt := 466) dL_law_40 7 y7 ⟨by decide, by decide⟩ rfl (by decide) (lc_7 hu ib inv kT)
  have g8 := st_i g7 y7
  by_cases y8 : x = 8
  · exact x_tableIn (tgt := 491) dL_law_40 8 y8 ⟨by decide, by decide⟩ rfl (by decide) (lc_8 hu ib inv kT)
  have g9 := st_i g8 y8
  by_cases y9 : x = 9
  · exact x_tableIn (tgt := 516) dL_law_40 9 y9 ⟨by decide, by decide⟩ rfl (by decide) (lc_9 hu ib inv kT)
  have g10 := st_i g9 y9
  by_cases y10 : x = 10
  · exact x_tableIn (tgt := 566) dL_law_40 10 y10 ⟨by decide, by decide⟩ rfl (by decide) (lc_10 hu ib inv kT)
  have g11 := st_i g10 y10
  by_cases y11 : x = 11
  · exact x_tableIn (tgt := 591) dL_law_40 11 y11 ⟨by decide, by decide⟩ rfl (by decide) (lc_11 hu ib inv kT)
  have g12 := st_i g11 y11
  by_cases y12 : x = 12
  · exact x_tableIn (tgt := 616) dL_law_40 12 y12 ⟨by decide, by decide⟩ rfl (by decide) (lc_12 hu ib inv kT)
  have g13 := st_i g12 y12
  by_cases y13 : x = 13
  · exact x_tableIn (tgt := 641) dL_law_40 13 y13 ⟨by decide, by decide⟩ rfl (by decide) (lc_13 hu ib inv kT)
  have g14 := st_i g13 y13
  by_cases y14 : x = 14
  · exact x_tableIn (tgt := 666) dL_law_40 14 y14 ⟨by decide, by decide⟩ rfl (by decide) (lc_14 hu ib inv kT)
  have g15 := st_i g14 y14
  by_cases y15 : x = 15
  · exact x_tableIn (tgt := 703) dL_law_40 15 y15 ⟨by decide, by decide⟩ rfl (by decide) (lc_15 hu ib inv kT)
  have g16 := st_i g15 y15
  by_cases y16 : x = 16
  · exact x_tableIn (tgt := 740) dL_law_40 16 y16 ⟨by decide, by decide⟩ rfl (by decide) (lc_16 hu ib inv kT)
  have g17 := st_i g16 y16
  by_cases y17 : x = 17
  · exact x_tableIn (tgt := 777) dL_law_40 17 y17 ⟨by decide, by decide⟩ rfl (by decide) (lc_17 hu ib inv kT)
  have g18 := st_i g17 y17
  by_cases y18 : x = 18
  · exact x_tableIn (tgt := 814) dL_law_40 18 y18 ⟨by decide, by decide⟩ rfl (by decide) (lc_18 hu ib inv kT)
  have g19 := st_i g18 y18
  by_cases y19 : x = 19
  · exact x_tableIn (tgt := 851) dL_law_40 19 y19 ⟨by decide, by decide⟩ rfl (by decide) (lc_19 hu ib inv kT)
  have g20 := st_i g19 y19
  by_cases y20 : x = 20
  · exact x_tableIn (tgt := 876) dL_law_40 20 y20 ⟨by decide, by decide⟩ rfl (by decide) (lc_20 hu ib inv kT)
  have g21 := st_i g20 y20
  by_cases y21 : x = 21
  · exact x_tableIn (tgt := 901) dL_law_40 21 y21 ⟨by decide, by decide⟩ rfl (by decide) (lc_21 hu ib inv kT)
  have g22 := st_i g21 y21
  by_cases y22 : x = 22
  · exact x_tableIn (tgt := 914) dL_law_40 22 y22 ⟨by decide, by decide⟩ rfl (by decide) (lc_22 hu ib inv kT)
  have g23 := st_i g22 y22
  by_cases y23 : x = 23
  · exact x_tableIn (tgt := 939) dL_law_40 23 y23 ⟨by decide, by decide⟩ rfl (by decide) (lc_23 hu ib inv kT)
  have g24 := st_i g23 y23
  by_cases y24 : x = 24
  · exact x_tableIn (tgt := 976) dL_law_40 24 y24 ⟨by decide, by decide⟩ rfl (by decide) (lc_24 hu ib inv kT)
  have g25 := st_i g24 y24
  by_cases y25 : x = 25
  · exact x_tableIn (tgt := 989) dL_law_40 25 y25 ⟨by decide, by decide⟩ rfl (by decide) (lc_25 hu ib inv kT)
  have g26 := st_i g25 y25
  by_cases y26 : x = 26
  · exact x_tableIn (tgt := 1038) dL_law_40 26 y26 ⟨by decide, by decide⟩ rfl (by decide) (lc_26 hu ib inv kT)
  have g27 := st_i g26 y26
  by_cases y27 : x = 27
  · exact x_tableIn (tgt := 1051) dL_law_40 27 y27 ⟨by decide, by decide⟩ rfl (by decide) (lc_27 hu ib inv kT)
  have g28 := st_i g27 y27
  by_cases y28 : x = 28
  · exact x_tableIn (tgt := 1064) dL_law_40 28 y28 ⟨by decide, by decide⟩ rfl (by decide) (lc_28 hu ib inv kT)
  have g29 := st_i g28 y28
  by_cases y29 : x = 29
  · exact x_tableIn (tgt := 1077) dL_law_40 29 y29 ⟨by decide, by decide⟩ rfl (by decide) (lc_29 hu ib inv kT)
  have g30 := st_i g29 y29
  exact absurd (Or.inr (Int.lt_of_lt_of_le (by decide) g30)) z
set_option maxHeartbeats 4000000 in
set_option maxRecDepth 100000 in
theorem lw_loop {E : xE} (hl : E.2.1.stackTraces = false) : ∀ (n : Nat) (i : Int) (h : Hp), 0 ≤ i → i ≤ lwN E → lwN E - i < 6 * (n : Int) → lwI h → X E mL_law 1312 (601024, 7293034) (300 + i.toNat, 20000 + 6 * i.toNat) 23 (lwL i) [] h lwQ := by
  intro n
  induction n with
  | zero => intro i h i0 i1 i2 inv; omega
  | succ n ih =>
    intro i h i0 i1 i2 inv
    refine x_iload (i := 4) (b := 25) dL_law_23 rfl rfl ?_
    refine x_aload_n (i := 0) (b := 26) dL_law_25 rfl rfl rfl ?_
    refine x_slen (b := 27) dL_law_26 rfl (fun nn => ?_)
    refine x_bipush (n := 6) (b := 29) dL_law_27 (by decide) rfl ?_
    refine x_isub (b := 30) dL_law_29 (by omega) rfl ?_
    refine x_icmp_gt (tgt := 1108) (b := 33) dL_law_30 (by decide) rfl (fun hc => ?_) (fun hc => ?_)
    · refine x_iconst (n := 1) (b := 1109) dL_law_1108 (by decide) rfl ?_
      refine x_zreturn dL_law_1109 rfl ⟨?_, ?_⟩ (by decide) rfl
      · show 300 + i.toNat ≤ 601024; omega
      · show 20000 + 6 * i.toNat ≤ 7293034; omega
    · have ib : lwB E i := fun j j1 j2 => by omega
      refine x_aload_n (i := 0) (b := 34) dL_law_33 rfl rfl rfl ?_
      refine x_iload (i := 4) (b := 36) dL_law_34 rfl rfl ?_
      refine x_sld (b := 37) dL_law_36 (by omega) rfl ?_
      refine x_bipush (n := 31) (b := 39) dL_law_37 (by decide) rfl ?_
      refine x_iand (b := 40) dL_law_39 rfl ?_
      refine lw_sw hl ⟨?_, ?_⟩ ib inv (fun h9 inv9 => ?_)
      · show 300 + i.toNat + 1 ≤ 601024; omega
      · show 20000 + 6 * i.toNat + 6 ≤ 7293034; omega
      · refine x_iinc (i := 4) (b := 1105) (ls2 := lwL (i + 6)) dL_law_1102 rfl (Nat.le_of_ble_eq_true rfl) (by omega) rfl rfl ?_
        refine x_goto (tgt := 23) dL_law_1105 (by decide) ?_
        refine x_wd (u2 := (300 + (i + 6).toNat, 20000 + 6 * (i + 6).toNat)) ?_ ?_ (ih (i + 6) h9 (by omega) (by omega) (by omega) inv9)
        · show 300 + i.toNat + 1 ≤ 300 + (i + 6).toNat; omega
        · show 20000 + 6 * i.toNat + 6 ≤ 20000 + 6 * (i + 6).toNat; omega
