/-! CONSTRUCTORS: pure functions as the others, that make cells; nothing is known of the layout yet -/
noncomputable def ckp {α : Type} (p : Prop) (e : Option α) : Option α := @ck α p (Classical.propDecidable p) e
theorem ckp_e {α : Type} {p : Prop} {e : Option α} {r : α} (h : ckp p e = some r) : p ∧ e = some r := @ck_e α p (Classical.propDecidable p) e r h
theorem ckp_p {α : Type} {p : Prop} {e : Option α} (h : p) : ckp p e = e := @ck_p α p (Classical.propDecidable p) e h
def PuI (r : Int × Hp) : Option Av → Hp → Prop := fun rv hh => some (xi r.1) = rv ∧ r.2 = hh
def PuV (r : Int × Hp) : Option Av → Hp → Prop := fun rv hh => none = rv ∧ r.2 = hh
theorem x_u {E : xE} {M : Mth} {d : Nat} {B u u2 : Nat × Nat} {pc : Nat} {ls : List (Option Av)} {st : List Av} {h : Hp} {Q : Option Av → Hp → Prop} (e : u = u2) (k : X E M d B u2 pc ls st h Q) : X E M d B u pc ls st h Q := e ▸ k
theorem aoM : ∀ (w : wk) (s : State) (H : Heap), wSt w s H → va_AO "PlateVote$Mouth" s := fun _ _ _ h => h.2.2.2.2.2.2.2.2.2.2.2.2.2.2.1
theorem aoV : ∀ (w : wk) (s : State) (H : Heap), wSt w s H → va_AO "PlateVote$Voyage" s := fun _ _ _ h => h.2.2.2.2.2.2.2.2.2.2.2.2.2.2.2.1
theorem dv_0 : ∀ k, k < 15 → (if xkd 0 (k : Nat) = 4 then Value.null else if xkd 0 (k : Nat) = 3 then .long 0 else .int 0) = defaultValue (tyX0 k)
  | 0, _ => rfl
  | 1, _ => rfl
  | 2, _ => rfl
  | 3, _ => rfl
  | 4, _ => rfl
  | 5, _ => rfl
  | 6, _ => rfl
  | 7, _ => rfl
  | 8, _ => rfl
  | 9, _ => rfl
  | 10, _ => rfl
  | 11, _ => rfl
  | 12, _ => rfl
  | 13, _ => rfl
  | 14, _ => rfl
  | k + 15, h => absurd h (by omega)
theorem dv_1 : ∀ k, k < 5 → (if xkd 1 (k : Nat) = 4 then Value.null else if xkd 1 (k : Nat) = 3 then .long 0 else .int 0) = defaultValue (tyX1 k)
  | 0, _ => rfl
  | 1, _ => rfl
  | 2, _ => rfl
  | 3, _ => rfl
  | 4, _ => rfl
  | k + 5, h => absurd h (by omega)
theorem dv_2 : ∀ k, k < 11 → (if xkd 2 (k : Nat) = 4 then Value.null else if xkd 2 (k : Nat) = 3 then .long 0 else .int 0) = defaultValue (tyX2 k)
  | 0, _ => rfl
  | 1, _ => rfl
  | 2, _ => rfl
  | 3, _ => rfl
  | 4, _ => rfl
  | 5, _ => rfl
  | 6, _ => rfl
  | 7, _ => rfl
  | 8, _ => rfl
  | 9, _ => rfl
  | 10, _ => rfl
  | k + 11, h => absurd h (by omega)
theorem dv_3 : ∀ k, k < 5 → (if xkd 3 (k : Nat) = 4 then Value.null else if xkd 3 (k : Nat) = 3 then .long 0 else .int 0) = defaultValue (tyX3 k)
  | 0, _ => rfl
  | 1, _ => rfl
  | 2, _ => rfl
  | 3, _ => rfl
  | 4, _ => rfl
  | k + 5, h => absurd h (by omega)
theorem dv_4 : ∀ k, k < 10 → (if xkd 4 (k : Nat) = 4 then Value.null else if xkd 4 (k : Nat) = 3 then .long 0 else .int 0) = defaultValue (tyX4 k)
  | 0, _ => rfl
  | 1, _ => rfl
  | 2, _ => rfl
  | 3, _ => rfl
  | 4, _ => rfl
  | 5, _ => rfl
  | 6, _ => rfl
  | 7, _ => rfl
  | 8, _ => rfl
  | 9, _ => rfl
  | k + 10, h => absurd h (by omega)
theorem dv_5 : ∀ k, k < 6 → (if xkd 5 (k : Nat) = 4 then Value.null else if xkd 5 (k : Nat) = 3 then .long 0 else .int 0) = defaultValue (tyX5 k)
  | 0, _ => rfl
  | 1, _ => rfl
  | 2, _ => rfl
  | 3, _ => rfl
  | 4, _ => rfl
  | 5, _ => rfl
  | k + 6, h => absurd h (by omega)
theorem dv_6 : ∀ k, k < 6 → (if xkd 6 (k : Nat) = 4 then Value.null else if xkd 6 (k : Nat) = 3 then .long 0 else .int 0) = defaultValue (tyX6 k)
  | 0, _ => rfl
  | 1, _ => rfl
  | 2, _ => rfl
  | 3, _ => rfl
  | 4, _ => rfl
  | 5, _ => rfl
  | k + 6, h => absurd h (by omega)
theorem dv_7 : ∀ k, k < 19 → (if xkd 7 (k : Nat) = 4 then Value.null else if xkd 7 (k : Nat) = 3 then .long 0 else .int 0) = defaultValue (tyX7 k)
  | 0, _ => rfl
  | 1, _ => rfl
  | 2, _ => rfl
  | 3, _ => rfl
  | 4, _ => rfl
  | 5, _ => rfl
  | 6, _ => rfl
  | 7, _ => rfl
  | 8, _ => rfl
  | 9, _ => rfl
  | 10, _ => rfl
  | 11, _ => rfl
  | 12, _ => rfl
  | 13, _ => rfl
  | 14, _ => rfl
  | 15, _ => rfl
  | 16, _ => rfl
  | 17, _ => rfl
  | 18, _ => rfl
  | k + 19, h => absurd h (by omega)
theorem dv_8 : ∀ k, k < 10 → (if xkd 8 (k : Nat) = 4 then Value.null else if xkd 8 (k : Nat) = 3 then .long 0 else .int 0) = defaultValue (tyX8 k)
  | 0, _ => rfl
  | 1, _ => rfl
  | 2, _ => rfl
  | 3, _ => rfl
  | 4, _ => rfl
  | 5, _ => rfl
  | 6, _ => rfl
  | 7, _ => rfl
  | 8, _ => rfl
  | 9, _ => rfl
  | k + 10, h => absurd h (by omega)
theorem dv_9 : ∀ k, k < 13 → (if xkd 9 (k : Nat) = 4 then Value.null else if xkd 9 (k : Nat) = 3 then .long 0 else .int 0) = defaultValue (tyX9 k)
  | 0, _ => rfl
  | 1, _ => rfl
  | 2, _ => rfl
  | 3, _ => rfl
  | 4, _ => rfl
  | 5, _ => rfl
  | 6, _ => rfl
  | 7, _ => rfl
  | 8, _ => rfl
  | 9, _ => rfl
  | 10, _ => rfl
  | 11, _ => rfl
  | 12, _ => rfl
  | k + 13, h => absurd h (by omega)
theorem dv_10 : ∀ k, k < 9 → (if xkd 10 (k : Nat) = 4 then Value.null else if xkd 10 (k : Nat) = 3 then .long 0 else .int 0) = defaultValue (tyX10 k)
  | 0, _ => rfl
  | 1, _ => rfl
  | 2, _ => rfl
  | 3, _ => rfl
  | 4, _ => rfl
  | 5, _ => rfl
  | 6, _ => rfl
  | 7, _ => rfl
  | 8, _ => rfl
  | k + 9, h => absurd h (by omega)
theorem dv_11 : ∀ k, k < 17 → (if xkd 11 (k : Nat) = 4 then Value.null else if xkd 11 (k : Nat) = 3 then .long 0 else .int 0) = defaultValue (tyX11 k)
  | 0, _ => rfl
  | 1, _ => rfl
  | 2, _ => rfl
  | 3, _ => rfl
  | 4, _ => rfl
  | 5, _ => rfl
  | 6, _ => rfl
  | 7, _ => rfl
  | 8, _ => rfl
  | 9, _ => rfl
  | 10, _ => rfl
  | 11, _ => rfl
  | 12, _ => rfl
  | 13, _ => rfl
  | 14, _ => rfl
  | 15, _ => rfl
  | 16, _ => rfl
  | k + 17, h => absurd h (by omega)
theorem dv_12 : ∀ k, k < 80 → (if xkd 12 (k : Nat) = 4 then Value.null else if xkd 12 (k : Nat) = 3 then .long 0 else .int 0) = defaultValue (tyX12 k)
  | 0, _ => rfl
  | 1, _ => rfl
  | 2, _ => rfl
  | 3, _ => rfl
  | 4, _ => rfl
  | 5, _ => rfl
  | 6, _ => rfl
  | 7, _ => rfl
  | 8, _ => rfl
  | 9, _ => rfl
  | 10, _ => rfl
  | 11, _ => rfl
  | 12, _ => rfl
  | 13, _ => rfl
  | 14, _ => rfl
  | 15, _ => rfl
  | 16, _ => rfl
  | 17, _ => rfl
  | 18, _ => rfl
  | 19, _ => rfl
  | 20, _ => rfl
  | 21, _ => rfl
  | 22, _ => rfl
  | 23, _ => rfl
  | 24, _ => rfl
  | 25, _ => rfl
  | 26, _ => rfl
  | 27, _ => rfl
  | 28, _ => rfl
  | 29, _ => rfl
  | 30, _ => rfl
  | 31, _ => rfl
  | 32, _ => rfl
  | 33, _ => rfl
  | 34, _ => rfl
  | 35, _ => rfl
  | 36, _ => rfl
  | 37, _ => rfl
  | 38, _ => rfl
  | 39, _ => rfl
  | 40, _ => rfl
  | 41, _ => rfl
  | 42, _ => rfl
  | 43, _ => rfl
  | 44, _ => rfl
  | 45, _ => rfl
  | 46, _ => rfl
  | 47, _ => rfl
  | 48, _ => rfl
  | 49, _ => rfl
  | 50, _ => rfl
  | 51, _ => rfl
  | 52, _ => rfl
  | 53, _ => rfl
  | 54, _ => rfl
  | 55, _ => rfl
  | 56, _ => rfl
  | 57, _ => rfl
  | 58, _ => rfl
  | 59, _ => rfl
  | 60, _ => rfl
  | 61, _ => rfl
  | 62, _ => rfl
  | 63, _ => rfl
  | 64, _ => rfl
  | 65, _ => rfl
  | 66, _ => rfl
  | 67, _ => rfl
  | 68, _ => rfl
  | 69, _ => rfl
  | 70, _ => rfl
  | 71, _ => rfl
  | 72, _ => rfl
  | 73, _ => rfl
  | 74, _ => rfl
  | 75, _ => rfl
  | 76, _ => rfl
  | 77, _ => rfl
  | 78, _ => rfl
  | 79, _ => rfl
  | k + 80, h => absurd h (by omega)
theorem ki_145 : Cond.methodLink RX11 3 Lib.objectInit ∈ Gw := gt_1 (i := 30) rfl rfl
theorem ki_146 : Cond.instanceMethod Lib.objectInit ∈ Gw := gt_1 (i := 31) rfl rfl
theorem ki_147 : Cond.code Lib.objectInit ⟨#[0xb1]⟩ 1 none ∈ Gw := gt_1 (i := 32) rfl rfl
theorem ki_153 : Cond.methodLink RX0 3 Lib.objectInit ∈ Gw := gt_1 (i := 38) rfl rfl
theorem ki_159 : Cond.methodLink RX9 3 Lib.objectInit ∈ Gw := gt_1 (i := 44) rfl rfl
theorem ki_229 : Cond.methodLink RX1 1 Lib.objectInit ∈ Gw := gt_1 (i := 114) rfl rfl
theorem ki_257 : Cond.methodLink RX4 3 Lib.objectInit ∈ Gw := gt_1 (i := 142) rfl rfl
theorem ki_422 : Cond.methodLink RX7 3 Lib.objectInit ∈ Gw := gt_2 (i := 67) rfl rfl
theorem ki_428 : Cond.methodLink RX8 3 Lib.objectInit ∈ Gw := gt_2 (i := 73) rfl rfl
theorem ki_579 : Cond.methodLink RX2 3 Lib.objectInit ∈ Gw := gt_2 (i := 224) rfl rfl
theorem ki_628 : Cond.methodLink RX6 3 Lib.objectInit ∈ Gw := gt_3 (i := 33) rfl rfl
theorem ki_635 : Cond.methodLink RX10 3 Lib.objectInit ∈ Gw := gt_3 (i := 40) rfl rfl
theorem ki_709 : Cond.methodLink RX3 3 Lib.objectInit ∈ Gw := gt_3 (i := 114) rfl rfl
theorem ki_736 : Cond.methodLink RX5 3 Lib.objectInit ∈ Gw := gt_3 (i := 141) rfl rfl
theorem ki_1492 : Cond.methodLink RX12 1 Lib.objectInit ∈ Gw := gt_6 (i := 177) rfl rfl
theorem ki_222 : Cond.arrayClass .byte ∈ Gw := gt_1 (i := 107) rfl rfl
theorem ki_223 : Cond.arrayClass .int ∈ Gw := gt_1 (i := 108) rfl rfl
theorem ki_250 : Cond.arrayClass .long ∈ Gw := gt_1 (i := 135) rfl rfl
theorem ki_758 : Cond.arrayClass .boolean ∈ Gw := gt_3 (i := 163) rfl rfl
theorem ki_140 : Cond.classLink "PlateVoteLaw" 8 RX11 ∈ Gw := gt_1 (i := 25) rfl rfl
theorem ki_148 : Cond.classLink "PlateVote" 17 RX0 ∈ Gw := gt_1 (i := 33) rfl rfl
theorem ki_154 : Cond.classLink "PlateVote$Chart" 9 RX9 ∈ Gw := gt_1 (i := 39) rfl rfl
theorem ki_224 : Cond.classLink "PlateVote$Chart" 18 RX1 ∈ Gw := gt_1 (i := 109) rfl rfl
theorem ki_251 : Cond.classLink "PlateVote$Chart" 25 RX4 ∈ Gw := gt_1 (i := 136) rfl rfl
theorem ki_417 : Cond.classLink "PlateVote" 27 RX7 ∈ Gw := gt_2 (i := 62) rfl rfl
theorem ki_423 : Cond.classLink "PlateVote$Reader" 24 RX8 ∈ Gw := gt_2 (i := 68) rfl rfl
theorem ki_574 : Cond.classLink "PlateVote" 36 RX2 ∈ Gw := gt_2 (i := 219) rfl rfl
theorem ki_623 : Cond.classLink "PlateVote" 45 RX6 ∈ Gw := gt_3 (i := 28) rfl rfl
theorem ki_629 : Cond.classLink "PlateVote$Planner" 9 RX10 ∈ Gw := gt_3 (i := 34) rfl rfl
theorem ki_702 : Cond.classLink "PlateVote" 54 RX10 ∈ Gw := gt_3 (i := 107) rfl rfl
theorem ki_704 : Cond.classLink "PlateVote" 61 RX3 ∈ Gw := gt_3 (i := 109) rfl rfl
theorem ki_731 : Cond.classLink "PlateVote" 85 RX5 ∈ Gw := gt_3 (i := 136) rfl rfl
theorem ki_1487 : Cond.classLink "PlateVoteLaw" 18 RX12 ∈ Gw := gt_6 (i := 172) rfl rfl
theorem ki_141 : Cond.instantiable RX11 17 ∈ Gw := gt_1 (i := 26) rfl rfl
theorem ki_149 : Cond.instantiable RX0 15 ∈ Gw := gt_1 (i := 34) rfl rfl
theorem ki_155 : Cond.instantiable RX9 13 ∈ Gw := gt_1 (i := 40) rfl rfl
theorem ki_225 : Cond.instantiable RX1 5 ∈ Gw := gt_1 (i := 110) rfl rfl
theorem ki_253 : Cond.instantiable RX4 10 ∈ Gw := gt_1 (i := 138) rfl rfl
theorem ki_418 : Cond.instantiable RX7 19 ∈ Gw := gt_2 (i := 63) rfl rfl
theorem ki_424 : Cond.instantiable RX8 10 ∈ Gw := gt_2 (i := 69) rfl rfl
theorem ki_575 : Cond.instantiable RX2 11 ∈ Gw := gt_2 (i := 220) rfl rfl
theorem ki_624 : Cond.instantiable RX6 6 ∈ Gw := gt_3 (i := 29) rfl rfl
theorem ki_631 : Cond.instantiable RX10 9 ∈ Gw := gt_3 (i := 36) rfl rfl
theorem ki_705 : Cond.instantiable RX3 5 ∈ Gw := gt_3 (i := 110) rfl rfl
theorem ki_732 : Cond.instantiable RX5 6 ∈ Gw := gt_3 (i := 137) rfl rfl
theorem ki_1488 : Cond.instantiable RX12 80 ∈ Gw := gt_6 (i := 173) rfl rfl
theorem ki_117 : Cond.initialized RX0 ∈ Gw := gt_1 (i := 2) rfl rfl
theorem ki_119 : Cond.initialized RX1 ∈ Gw := gt_1 (i := 4) rfl rfl
theorem ki_127 : Cond.initialized RX2 ∈ Gw := gt_1 (i := 12) rfl rfl
theorem ki_130 : Cond.initialized RX3 ∈ Gw := gt_1 (i := 15) rfl rfl
theorem ki_120 : Cond.initialized RX4 ∈ Gw := gt_1 (i := 5) rfl rfl
theorem ki_131 : Cond.initialized RX5 ∈ Gw := gt_1 (i := 16) rfl rfl
theorem ki_128 : Cond.initialized RX6 ∈ Gw := gt_1 (i := 13) rfl rfl
theorem ki_121 : Cond.initialized RX7 ∈ Gw := gt_1 (i := 6) rfl rfl
theorem ki_122 : Cond.initialized RX8 ∈ Gw := gt_1 (i := 7) rfl rfl
theorem ki_118 : Cond.initialized RX9 ∈ Gw := gt_1 (i := 3) rfl rfl
theorem ki_129 : Cond.initialized RX10 ∈ Gw := gt_1 (i := 14) rfl rfl
theorem ki_116 : Cond.initialized RX11 ∈ Gw := gt_1 (i := 1) rfl rfl
theorem ki_132 : Cond.initialized RX12 ∈ Gw := gt_1 (i := 17) rfl rfl
set_option maxHeartbeats 4000000 in
theorem c_J3_checkIndex_8e157_u (d : Nat) (x y : Int) (v : Option (Nat × Int)) (h : Hp) (hi : 0 ≤ x ∧ x < y) : Sp mJ3_checkIndex_8e157 (d + 1) (0, 0) [xi x, xi y, xo v] h (PuI (x, h)) := by
  refine sp_of (by decide) rfl (Nat.le_of_ble_eq_true rfl) (ls := [some (xi x), some (xi y), some (xo v)]) rfl (fun E hE => ?_)
  refine x_iload_n (i := 0) (b := 1) dJ3_checkIndex_8e157_0 rfl rfl rfl ?_
  refine x_if_lt (tgt := 9) (b := 4) dJ3_checkIndex_8e157_1 (by decide) rfl (fun hc => absurd hc (by omega)) (fun hc => ?_)
  refine x_iload_n (i := 0) (b := 5) dJ3_checkIndex_8e157_4 rfl rfl rfl ?_
  refine x_iload_n (i := 1) (b := 6) dJ3_checkIndex_8e157_5 rfl rfl rfl ?_
  refine x_icmp_lt (tgt := 16) (b := 9) dJ3_checkIndex_8e157_6 (by decide) rfl (fun hc => ?_) (fun hc => absurd hi.2 hc)
  refine x_iload_n (i := 0) (b := 17) dJ3_checkIndex_8e157_16 rfl rfl rfl ?_
  exact x_ireturn dJ3_checkIndex_8e157_17 rfl ⟨Nat.le_refl _, Nat.le_refl _⟩ ⟨rfl, rfl⟩
def f_J0_checkIndex_df160_u (x0 x1 : Int) (h : Hp) : Option (Int × Hp) := ck (0 ≤ x0 ∧ x0 < x1) (some (0, h))
set_option maxHeartbeats 4000000 in
theorem c_J0_checkIndex_df160_u (d : Nat) (x0 x1 : Int) (h : Hp) (r : Int × Hp) (hF : f_J0_checkIndex_df160_u x0 x1 h = some r) : Sp mJ0_checkIndex_df160 (d + 2) (0, 0) [xi x0, xi x1] h (PuV r) := by
  obtain ⟨hi, hF⟩ := ck_e hF
  cases hF
  refine sp_of (by decide) rfl (Nat.le_of_ble_eq_true rfl) (ls := [some (xi x0), some (xi x1)]) rfl (fun E hE => ?_)
  refine x_iload_n (i := 0) (b := 1) dJ0_checkIndex_df160_0 rfl rfl rfl ?_
  refine x_iload_n (i := 1) (b := 2) dJ0_checkIndex_df160_1 rfl rfl rfl ?_
  refine x_gsFmt (b := 5) dJ0_checkIndex_df160_2 kx_454 rfl ?_ ?_
  · refine x_callS (as := [xi x0, xi x1, xo none]) (rest := []) (b := 8) (c_J3_checkIndex_8e157_u d x0 x1 _ h hi) dJ0_checkIndex_df160_5 cx_J0_1059 rfl rfl (Nat.le_of_ble_eq_true rfl) ⟨Nat.le_refl _, Nat.le_refl _⟩ rfl (fun rv hh hp _ => ?_)
    obtain ⟨rfl, rfl⟩ := hp
    refine x_pop (b := 9) dJ0_checkIndex_df160_8 rfl rfl ?_
    exact x_return dJ0_checkIndex_df160_9 rfl ⟨Nat.le_refl _, Nat.le_refl _⟩ ⟨rfl, rfl⟩
  · refine x_callS (as := [xi x0, xi x1, xr 912 0]) (rest := []) (b := 8) (c_J3_checkIndex_8e157_u d x0 x1 _ h hi) dJ0_checkIndex_df160_5 cx_J0_1059 rfl rfl (Nat.le_of_ble_eq_true rfl) ⟨Nat.le_refl _, Nat.le_refl _⟩ rfl (fun rv hh hp _ => ?_)
    obtain ⟨rfl, rfl⟩ := hp
    refine x_pop (b := 9) dJ0_checkIndex_df160_8 rfl rfl ?_
    exact x_return dJ0_checkIndex_df160_9 rfl ⟨Nat.le_refl _, Nat.le_refl _⟩ ⟨rfl, rfl⟩
noncomputable def b_X9_isCell_u_0 (rec : Rk) (x0 x1 : Int) (h : Hp) : Option (Int × Hp) :=
  if x1 < 0 then (
    some (0, h)
  ) else (
    ck (-2147483648 ≤ (gI h 9 x0 0) * (gI h 9 x0 1) ∧ (gI h 9 x0 0) * (gI h 9 x0 1) < 2147483648) <|
    if ((gI h 9 x0 0) * (gI h 9 x0 1)) ≤ x1 then (
      some (0, h)
    ) else (
      if 64 ≤ x1 then (
        some (0, h)
      ) else (
        some (1, h)
      )
    )
  )
noncomputable def g_X9_isCell_u (n : Nat) : Rk := Nat.rec (motive := fun _ => Rk) (fun _ _ _ => none) (fun _ rec k l h => if k = 0 then b_X9_isCell_u_0 rec (l.getD 0 0) (l.getD 1 0) h else none) n
noncomputable def f_X9_isCell_u (x0 x1 : Int) (h : Hp) : Option (Int × Hp) := g_X9_isCell_u FU 0 [x0, x1] h
set_option maxHeartbeats 4000000 in
set_option maxRecDepth 100000 in
theorem t_X9_isCell_u_0 (E : xE) (d : Nat) (rec : Rk) (r : Int × Hp) (x0 x1 : Int) (h : Hp) (hF : b_X9_isCell_u_0 rec x0 x1 h = some r) : X E mX9_isCell (d + 1) (0, 0) (0, 0) 0 [some (xr 9 x0), some (xi x1)] [] h (PuI r) := by
  unfold b_X9_isCell_u_0 at hF
  refine x_iload_n (i := 1) (b := 1) dX9_isCell_0 rfl rfl rfl ?_
  refine x_if_lt (tgt := 27) (b := 4) dX9_isCell_1 (by decide) rfl (fun hc => ?_) (fun hc => ?_)
  · replace hF := br_T hc hF
    refine x_iconst (n := 0) (b := 28) dX9_isCell_27 (by decide) rfl ?_
    refine x_zreturn dX9_isCell_28 rfl ⟨Nat.le_refl _, Nat.le_refl _⟩ (by decide) ?_
    cases hF
    exact ⟨rfl, rfl⟩
  · replace hF := br_F hc hF
    refine x_iload_n (i := 1) (b := 5) dX9_isCell_4 rfl rfl rfl ?_
    refine x_aload_n (i := 0) (b := 6) dX9_isCell_5 rfl rfl rfl ?_
    refine x_getI (v := gI h 9 x0 0) (b := 9) fk_X9_9 dX9_isCell_6 (by decide) rfl rfl ?_
    refine x_aload_n (i := 0) (b := 10) dX9_isCell_9 rfl rfl rfl ?_
    refine x_getI (v := gI h 9 x0 1) (b := 13) fk_X9_15 dX9_isCell_10 (by decide) rfl rfl ?_
    obtain ⟨hs, hF⟩ := ck_e hF
    refine x_imul (b := 14) dX9_isCell_13 hs rfl ?_
    refine x_icmp_ge (tgt := 27) (b := 17) dX9_isCell_14 (by decide) rfl (fun hc => ?_) (fun hc => ?_)
    · replace hF := br_T hc hF
      refine x_iconst (n := 0) (b := 28) dX9_isCell_27 (by decide) rfl ?_
      refine x_zreturn dX9_isCell_28 rfl ⟨Nat.le_refl _, Nat.le_refl _⟩ (by decide) ?_
      cases hF
      exact ⟨rfl, rfl⟩
    · replace hF := br_F hc hF
      refine x_iload_n (i := 1) (b := 18) dX9_isCell_17 rfl rfl rfl ?_
      refine x_bipush (n := 64) (b := 20) dX9_isCell_18 (by decide) rfl ?_
      refine x_icmp_ge (tgt := 27) (b := 23) dX9_isCell_20 (by decide) rfl (fun hc => ?_) (fun hc => ?_)
      · replace hF := br_T hc hF
        refine x_iconst (n := 0) (b := 28) dX9_isCell_27 (by decide) rfl ?_
        refine x_zreturn dX9_isCell_28 rfl ⟨Nat.le_refl _, Nat.le_refl _⟩ (by decide) ?_
        cases hF
        exact ⟨rfl, rfl⟩
      · replace hF := br_F hc hF
        refine x_iconst (n := 1) (b := 24) dX9_isCell_23 (by decide) rfl ?_
        refine x_goto (tgt := 28) dX9_isCell_24 (by decide) ?_
        refine x_zreturn dX9_isCell_28 rfl ⟨Nat.le_refl _, Nat.le_refl _⟩ (by decide) ?_
        cases hF
        exact ⟨rfl, rfl⟩
set_option maxHeartbeats 4000000 in
set_option maxRecDepth 100000 in
theorem u_X9_isCell_u (E : xE) (d : Nat) (r : Int × Hp) : ∀ n : Nat, (∀ (x0 x1 : Int) (h : Hp), g_X9_isCell_u n 0 [x0, x1] h = some r → X E mX9_isCell (d + 1) (0, 0) (0, 0) 0 [some (xr 9 x0), some (xi x1)] [] h (PuI r)) := by
  intro n
  induction n with
  | zero => exact fun _ _ _ hF => no_e (r := r) hF
  | succ n ih => exact fun x0 x1 h hF => t_X9_isCell_u_0 E d (g_X9_isCell_u n) r  x0 x1 h hF
theorem c_X9_isCell_u (d : Nat) (x0 x1 : Int) (h : Hp) (r : Int × Hp) (hF : f_X9_isCell_u x0 x1 h = some r) : Sp mX9_isCell (d + 1) (0, 0) [xr 9 x0, xi x1] h (PuI r) :=
  sp_of (by decide) rfl (Nat.le_of_ble_eq_true rfl) (ls := [some (xr 9 x0), some (xi x1)]) rfl (fun E _ => (u_X9_isCell_u E d r FU) x0 x1 h hF)
noncomputable def b_X9_isWater_u_0 (rec : Rk) (x0 x1 : Int) (h : Hp) : Option (Int × Hp) :=
  bd (f_X9_isCell_u x0 x1 h) fun v1 h2 =>
  if v1 = 0 then (
    some (0, h2)
  ) else (
    if (lc (bandL (bushrL (gI h2 9 x0 2) x1) 1) 0) = 0 then (
      some (1, h2)
    ) else (
      some (0, h2)
    )
  )
noncomputable def g_X9_isWater_u (n : Nat) : Rk := Nat.rec (motive := fun _ => Rk) (fun _ _ _ => none) (fun _ rec k l h => if k = 0 then b_X9_isWater_u_0 rec (l.getD 0 0) (l.getD 1 0) h else none) n
noncomputable def f_X9_isWater_u (x0 x1 : Int) (h : Hp) : Option (Int × Hp) := g_X9_isWater_u FU 0 [x0, x1] h
set_option maxHeartbeats 4000000 in
set_option maxRecDepth 100000 in
theorem t_X9_isWater_u_0 (E : xE) (d : Nat) (rec : Rk) (r : Int × Hp) (x0 x1 : Int) (h : Hp) (hF : b_X9_isWater_u_0 rec x0 x1 h = some r) : X E mX9_isWater (d + 2) (0, 0) (0, 0) 0 [some (xr 9 x0), some (xi x1)] [] h (PuI r) := by
  unfold b_X9_isWater_u_0 at hF
  refine x_aload_n (i := 0) (b := 1) dX9_isWater_0 rfl rfl rfl ?_
  refine x_iload_n (i := 1) (b := 2) dX9_isWater_1 rfl rfl rfl ?_
  obtain ⟨v1, h2, hq, hF⟩ := bd_e hF
  refine x_callV (as := [xi x1]) (rest := []) (b := 5) (c_X9_isCell_u d x0 x1 h _ hq) dX9_isWater_2 cw_X9_53 ⟨_, _, rfl, Nat.le_of_ble_eq_true rfl⟩ rfl rfl (Nat.le_of_ble_eq_true rfl) ⟨Nat.le_refl _, Nat.le_refl _⟩ rfl (fun rv hh hp _ => ?_)
  obtain ⟨rfl, rfl⟩ := hp
  refine x_if_eq (tgt := 25) (b := 8) dX9_isWater_5 (by decide) rfl (fun hc => ?_) (fun hc => ?_)
  · replace hF := br_T hc hF
    refine x_iconst (n := 0) (b := 26) dX9_isWater_25 (by decide) rfl ?_
    refine x_zreturn dX9_isWater_26 rfl ⟨Nat.le_refl _, Nat.le_refl _⟩ (by decide) ?_
    cases hF
    exact ⟨rfl, rfl⟩
  · replace hF := br_F hc hF
    refine x_aload_n (i := 0) (b := 9) dX9_isWater_8 rfl rfl rfl ?_
    refine x_getJ (v := gI h2 9 x0 2) (b := 12) fk_X9_18 dX9_isWater_9 rfl rfl rfl ?_
    refine x_iload_n (i := 1) (b := 13) dX9_isWater_12 rfl rfl rfl ?_
    refine x_lushr (b := 14) dX9_isWater_13 rfl ?_
    refine x_lconst (z := 1) (b := 15) dX9_isWater_14 rfl (by decide) rfl ?_
    refine x_land (b := 16) dX9_isWater_15 rfl ?_
    refine x_lconst (z := 0) (b := 17) dX9_isWater_16 rfl (by decide) rfl ?_
    refine x_lcmp (b := 18) dX9_isWater_17 rfl ?_
    refine x_if_ne (tgt := 25) (b := 21) dX9_isWater_18 (by decide) rfl (fun hc => ?_) (fun hc => ?_)
    · replace hF := br_F hc hF
      refine x_iconst (n := 0) (b := 26) dX9_isWater_25 (by decide) rfl ?_
      refine x_zreturn dX9_isWater_26 rfl ⟨Nat.le_refl _, Nat.le_refl _⟩ (by decide) ?_
      cases hF
      exact ⟨rfl, rfl⟩
    · replace hF := br_T hc hF
      refine x_iconst (n := 1) (b := 22) dX9_isWater_21 (by decide) rfl ?_
      refine x_goto (tgt := 26) dX9_isWater_22 (by decide) ?_
      refine x_zreturn dX9_isWater_26 rfl ⟨Nat.le_refl _, Nat.le_refl _⟩ (by decide) ?_
      cases hF
      exact ⟨rfl, rfl⟩
set_option maxHeartbeats 4000000 in
set_option maxRecDepth 100000 in
theorem u_X9_isWater_u (E : xE) (d : Nat) (r : Int × Hp) : ∀ n : Nat, (∀ (x0 x1 : Int) (h : Hp), g_X9_isWater_u n 0 [x0, x1] h = some r → X E mX9_isWater (d + 2) (0, 0) (0, 0) 0 [some (xr 9 x0), some (xi x1)] [] h (PuI r)) := by
  intro n
  induction n with
  | zero => exact fun _ _ _ hF => no_e (r := r) hF
  | succ n ih => exact fun x0 x1 h hF => t_X9_isWater_u_0 E d (g_X9_isWater_u n) r  x0 x1 h hF
theorem c_X9_isWater_u (d : Nat) (x0 x1 : Int) (h : Hp) (r : Int × Hp) (hF : f_X9_isWater_u x0 x1 h = some r) : Sp mX9_isWater (d + 2) (0, 0) [xr 9 x0, xi x1] h (PuI r) :=
  sp_of (by decide) rfl (Nat.le_of_ble_eq_true rfl) (ls := [some (xr 9 x0), some (xi x1)]) rfl (fun E _ => (u_X9_isWater_u E d r FU) x0 x1 h hF)
noncomputable def b_X9_step_u_0 (rec : Rk) (x0 x1 x2 : Int) (h : Hp) : Option (Int × Hp) :=
  bd (f_X9_isCell_u x0 x1 h) fun v1 h2 =>
  if v1 = 0 then (
    some ((-1), h2)
  ) else (
    if 1 ≤ (gI h2 9 x0 0) then (
      ck ((0 : Int) ≤ x1 ∧ (0 : Int) < (gI h2 9 x0 0)) <|
      lt (x1 % (gI h2 9 x0 0)) fun z3 =>
      if x2 = 0 then (
        if x1 < (gI h2 9 x0 0) then (
          some ((-1), h2)
        ) else (
          ck (-2147483648 ≤ x1 - (gI h2 9 x0 0) ∧ x1 - (gI h2 9 x0 0) < 2147483648) <|
          some (x1 - (gI h2 9 x0 0), h2)
        )
      ) else (
      if x2 = 1 then (
        ck (-2147483648 ≤ z3 + 1 ∧ z3 + 1 < 2147483648) <|
        if (gI h2 9 x0 0) ≤ (z3 + 1) then (
          some ((-1), h2)
        ) else (
          ck (-2147483648 ≤ x1 + 1 ∧ x1 + 1 < 2147483648) <|
          some (x1 + 1, h2)
        )
      ) else (
      if x2 = 2 then (
        ck (-2147483648 ≤ x1 + (gI h2 9 x0 0) ∧ x1 + (gI h2 9 x0 0) < 2147483648) <|
        bd (f_X9_isCell_u x0 (x1 + (gI h2 9 x0 0)) h2) fun v4 h5 =>
        if v4 = 0 then (
          some ((-1), h5)
        ) else (
          ck (-2147483648 ≤ x1 + (gI h5 9 x0 0) ∧ x1 + (gI h5 9 x0 0) < 2147483648) <|
          some (x1 + (gI h5 9 x0 0), h5)
        )
      ) else (
      if x2 = 3 then (
        if z3 ≤ 0 then (
          some ((-1), h2)
        ) else (
          ck (-2147483648 ≤ x1 - 1 ∧ x1 - 1 < 2147483648) <|
          some (x1 - 1, h2)
        )
      ) else (
      some ((-1), h2)
      )
      )
      )
      )
    ) else (
      some ((-1), h2)
    )
  )
noncomputable def g_X9_step_u (n : Nat) : Rk := Nat.rec (motive := fun _ => Rk) (fun _ _ _ => none) (fun _ rec k l h => if k = 0 then b_X9_step_u_0 rec (l.getD 0 0) (l.getD 1 0) (l.getD 2 0) h else none) n
noncomputable def f_X9_step_u (x0 x1 x2 : Int) (h : Hp) : Option (Int × Hp) := g_X9_step_u FU 0 [x0, x1, x2] h
set_option maxHeartbeats 4000000 in
set_option maxRecDepth 100000 in
theorem t_X9_step_u_0 (E : xE) (d : Nat) (rec : Rk) (r : Int × Hp) (x0 x1 x2 : Int) (h : Hp) (hF : b_X9_step_u_0 rec x0 x1 x2 h = some r) : X E mX9_step (d + 2) (0, 0) (0, 0) 0 [some (xr 9 x0), some (xi x1), some (xi x2), none] [] h (PuI r) := by
  unfold b_X9_step_u_0 at hF
  refine x_aload_n (i := 0) (b := 1) dX9_step_0 rfl rfl rfl ?_
  refine x_iload_n (i := 1) (b := 2) dX9_step_1 rfl rfl rfl ?_
  obtain ⟨v1, h2, hq, hF⟩ := bd_e hF
  refine x_callV (as := [xi x1]) (rest := []) (b := 5) (c_X9_isCell_u d x0 x1 h _ hq) dX9_step_2 cw_X9_53 ⟨_, _, rfl, Nat.le_of_ble_eq_true rfl⟩ rfl rfl (Nat.le_of_ble_eq_true rfl) ⟨Nat.le_refl _, Nat.le_refl _⟩ rfl (fun rv hh hp _ => ?_)
  obtain ⟨rfl, rfl⟩ := hp
  refine x_if_eq (tgt := 16) (b := 8) dX9_step_5 (by decide) rfl (fun hc => ?_) (fun hc => ?_)
  · replace hF := br_T hc hF
    refine x_iconst (n := (-1)) (b := 17) dX9_step_16 (by decide) rfl ?_
    refine x_ireturn dX9_step_17 rfl ⟨Nat.le_refl _, Nat.le_refl _⟩ ?_
    cases hF
    exact ⟨rfl, rfl⟩
  · replace hF := br_F hc hF
    refine x_aload_n (i := 0) (b := 9) dX9_step_8 rfl rfl rfl ?_
    refine x_getI (v := gI h2 9 x0 0) (b := 12) fk_X9_9 dX9_step_9 (by decide) rfl rfl ?_
    refine x_iconst (n := 1) (b := 13) dX9_step_12 (by decide) rfl ?_
    refine x_icmp_ge (tgt := 18) (b := 16) dX9_step_13 (by decide) rfl (fun hc => ?_) (fun hc => ?_)
    · replace hF := br_T hc hF
      refine x_iload_n (i := 1) (b := 19) dX9_step_18 rfl rfl rfl ?_
      refine x_aload_n (i := 0) (b := 20) dX9_step_19 rfl rfl rfl ?_
      refine x_getI (v := gI h2 9 x0 0) (b := 23) fk_X9_9 dX9_step_20 (by decide) rfl rfl ?_
      obtain ⟨hs, hF⟩ := ck_e hF
      refine x_irem (b := 24) dX9_step_23 hs.1 hs.2 rfl ?_
      obtain ⟨z3, e_z3, hF⟩ := lt_e hF
      refine x_eq (y := z3) e_z3 ?_
      refine x_istore_n (i := 3) (b := 25) (ls2 := [some (xr 9 x0), some (xi x1), some (xi x2), some (xi z3)]) dX9_step_24 rfl (Nat.le_of_ble_eq_true rfl) rfl rfl ?_
      refine x_iload_n (i := 2) (b := 26) dX9_step_25 rfl rfl rfl ?_
      by_cases hw26_0 : x2 = 0
      · replace hF := br_T hw26_0 hF
        refine x_tableIn (tgt := 56) dX9_step_26 0 hw26_0 ⟨by decide, by decide⟩ rfl (by decide) ?_
        refine x_iload_n (i := 1) (b := 57) dX9_step_56 rfl rfl rfl ?_
        refine x_aload_n (i := 0) (b := 58) dX9_step_57 rfl rfl rfl ?_
        refine x_getI (v := gI h2 9 x0 0) (b := 61) fk_X9_9 dX9_step_58 (by decide) rfl rfl ?_
        refine x_icmp_lt (tgt := 73) (b := 64) dX9_step_61 (by decide) rfl (fun hc => ?_) (fun hc => ?_)
        · replace hF := br_T hc hF
          refine x_iconst (n := (-1)) (b := 74) dX9_step_73 (by decide) rfl ?_
          refine x_ireturn dX9_step_74 rfl ⟨Nat.le_refl _, Nat.le_refl _⟩ ?_
          cases hF
          exact ⟨rfl, rfl⟩
        · replace hF := br_F hc hF
          refine x_iload_n (i := 1) (b := 65) dX9_step_64 rfl rfl rfl ?_
          refine x_aload_n (i := 0) (b := 66) dX9_step_65 rfl rfl rfl ?_
          refine x_getI (v := gI h2 9 x0 0) (b := 69) fk_X9_9 dX9_step_66 (by decide) rfl rfl ?_
          obtain ⟨hs, hF⟩ := ck_e hF
          refine x_isub (b := 70) dX9_step_69 hs rfl ?_
          refine x_goto (tgt := 74) dX9_step_70 (by decide) ?_
          refine x_ireturn dX9_step_74 rfl ⟨Nat.le_refl _, Nat.le_refl _⟩ ?_
          cases hF
          exact ⟨rfl, rfl⟩
      replace hF := br_F hw26_0 hF
      by_cases hw26_1 : x2 = 1
      · replace hF := br_T hw26_1 hF
        refine x_tableIn (tgt := 75) dX9_step_26 1 hw26_1 ⟨by decide, by decide⟩ rfl (by decide) ?_
        refine x_iload_n (i := 3) (b := 76) dX9_step_75 rfl rfl rfl ?_
        refine x_iconst (n := 1) (b := 77) dX9_step_76 (by decide) rfl ?_
        obtain ⟨hs, hF⟩ := ck_e hF
        refine x_iadd (b := 78) dX9_step_77 hs rfl ?_
        refine x_aload_n (i := 0) (b := 79) dX9_step_78 rfl rfl rfl ?_
        refine x_getI (v := gI h2 9 x0 0) (b := 82) fk_X9_9 dX9_step_79 (by decide) rfl rfl ?_
        refine x_icmp_ge (tgt := 91) (b := 85) dX9_step_82 (by decide) rfl (fun hc => ?_) (fun hc => ?_)
        · replace hF := br_T hc hF
          refine x_iconst (n := (-1)) (b := 92) dX9_step_91 (by decide) rfl ?_
          refine x_ireturn dX9_step_92 rfl ⟨Nat.le_refl _, Nat.le_refl _⟩ ?_
          cases hF
          exact ⟨rfl, rfl⟩
        · replace hF := br_F hc hF
          refine x_iload_n (i := 1) (b := 86) dX9_step_85 rfl rfl rfl ?_
          refine x_iconst (n := 1) (b := 87) dX9_step_86 (by decide) rfl ?_
          obtain ⟨hs, hF⟩ := ck_e hF
          refine x_iadd (b := 88) dX9_step_87 hs rfl ?_
          refine x_goto (tgt := 92) dX9_step_88 (by decide) ?_
          refine x_ireturn dX9_step_92 rfl ⟨Nat.le_refl _, Nat.le_refl _⟩ ?_
          cases hF
          exact ⟨rfl, rfl⟩
      replace hF := br_F hw26_1 hF
      by_cases hw26_2 : x2 = 2
      · replace hF := br_T hw26_2 hF
        refine x_tableIn (tgt := 93) dX9_step_26 2 hw26_2 ⟨by decide, by decide⟩ rfl (by decide) ?_
        refine x_aload_n (i := 0) (b := 94) dX9_step_93 rfl rfl rfl ?_
        refine x_iload_n (i := 1) (b := 95) dX9_step_94 rfl rfl rfl ?_
        refine x_aload_n (i := 0) (b := 96) dX9_step_95 rfl rfl rfl ?_
        refine x_getI (v := gI h2 9 x0 0) (b := 99) fk_X9_9 dX9_step_96 (by decide) rfl rfl ?_
        obtain ⟨hs, hF⟩ := ck_e hF
        refine x_iadd (b := 100) dX9_step_99 hs rfl ?_
        obtain ⟨v4, h5, hq, hF⟩ := bd_e hF
        refine x_callV (as := [xi (x1 + (gI h2 9 x0 0))]) (rest := []) (b := 103) (c_X9_isCell_u d x0 (x1 + (gI h2 9 x0 0)) h2 _ hq) dX9_step_100 cw_X9_53 ⟨_, _, rfl, Nat.le_of_ble_eq_true rfl⟩ rfl rfl (Nat.le_of_ble_eq_true rfl) ⟨Nat.le_refl _, Nat.le_refl _⟩ rfl (fun rv hh hp _ => ?_)
        obtain ⟨rfl, rfl⟩ := hp
        refine x_if_eq (tgt := 115) (b := 106) dX9_step_103 (by decide) rfl (fun hc => ?_) (fun hc => ?_)
        · replace hF := br_T hc hF
          refine x_iconst (n := (-1)) (b := 116) dX9_step_115 (by decide) rfl ?_
          refine x_ireturn dX9_step_116 rfl ⟨Nat.le_refl _, Nat.le_refl _⟩ ?_
          cases hF
          exact ⟨rfl, rfl⟩
        · replace hF := br_F hc hF
          refine x_iload_n (i := 1) (b := 107) dX9_step_106 rfl rfl rfl ?_
          refine x_aload_n (i := 0) (b := 108) dX9_step_107 rfl rfl rfl ?_
          refine x_getI (v := gI h5 9 x0 0) (b := 111) fk_X9_9 dX9_step_108 (by decide) rfl rfl ?_
          obtain ⟨hs, hF⟩ := ck_e hF
          refine x_iadd (b := 112) dX9_step_111 hs rfl ?_
          refine x_goto (tgt := 116) dX9_step_112 (by decide) ?_
          refine x_ireturn dX9_step_116 rfl ⟨Nat.le_refl _, Nat.le_refl _⟩ ?_
          cases hF
          exact ⟨rfl, rfl⟩
      replace hF := br_F hw26_2 hF
      by_cases hw26_3 : x2 = 3
      · replace hF := br_T hw26_3 hF
        refine x_tableIn (tgt := 117) dX9_step_26 3 hw26_3 ⟨by decide, by decide⟩ rfl (by decide) ?_
        refine x_iload_n (i := 3) (b := 118) dX9_step_117 rfl rfl rfl ?_
        refine x_if_le (tgt := 127) (b := 121) dX9_step_118 (by decide) rfl (fun hc => ?_) (fun hc => ?_)
        · replace hF := br_T hc hF
          refine x_iconst (n := (-1)) (b := 128) dX9_step_127 (by decide) rfl ?_
          refine x_ireturn dX9_step_128 rfl ⟨Nat.le_refl _, Nat.le_refl _⟩ ?_
          cases hF
          exact ⟨rfl, rfl⟩
        · replace hF := br_F hc hF
          refine x_iload_n (i := 1) (b := 122) dX9_step_121 rfl rfl rfl ?_
          refine x_iconst (n := 1) (b := 123) dX9_step_122 (by decide) rfl ?_
          obtain ⟨hs, hF⟩ := ck_e hF
          refine x_isub (b := 124) dX9_step_123 hs rfl ?_
          refine x_goto (tgt := 128) dX9_step_124 (by decide) ?_
          refine x_ireturn dX9_step_128 rfl ⟨Nat.le_refl _, Nat.le_refl _⟩ ?_
          cases hF
          exact ⟨rfl, rfl⟩
      replace hF := br_F hw26_3 hF
      refine x_tableOut (tgt := 129) dX9_step_26 (by omega) (by decide) ?_
      refine x_iconst (n := (-1)) (b := 130) dX9_step_129 (by decide) rfl ?_
      refine x_ireturn dX9_step_130 rfl ⟨Nat.le_refl _, Nat.le_refl _⟩ ?_
      cases hF
      exact ⟨rfl, rfl⟩
    · replace hF := br_F hc hF
      refine x_iconst (n := (-1)) (b := 17) dX9_step_16 (by decide) rfl ?_
      refine x_ireturn dX9_step_17 rfl ⟨Nat.le_refl _, Nat.le_refl _⟩ ?_
      cases hF
      exact ⟨rfl, rfl⟩
set_option maxHeartbeats 4000000 in
set_option maxRecDepth 100000 in
theorem u_X9_step_u (E : xE) (d : Nat) (r : Int × Hp) : ∀ n : Nat, (∀ (x0 x1 x2 : Int) (h : Hp), g_X9_step_u n 0 [x0, x1, x2] h = some r → X E mX9_step (d + 2) (0, 0) (0, 0) 0 [some (xr 9 x0), some (xi x1), some (xi x2), none] [] h (PuI r)) := by
  intro n
  induction n with
  | zero => exact fun _ _ _ _ hF => no_e (r := r) hF
  | succ n ih => exact fun x0 x1 x2 h hF => t_X9_step_u_0 E d (g_X9_step_u n) r  x0 x1 x2 h hF
theorem c_X9_step_u (d : Nat) (x0 x1 x2 : Int) (h : Hp) (r : Int × Hp) (hF : f_X9_step_u x0 x1 x2 h = some r) : Sp mX9_step (d + 2) (0, 0) [xr 9 x0, xi x1, xi x2] h (PuI r) :=
  sp_of (by decide) rfl (Nat.le_of_ble_eq_true rfl) (ls := [some (xr 9 x0), some (xi x1), some (xi x2), none]) rfl (fun E _ => (u_X9_step_u E d r FU) x0 x1 x2 h hF)
noncomputable def b_X9_spread_u_0 (rec : Rk) (x0 x1 x2 : Int) (h : Hp) : Option (Int × Hp) :=
  ck (-2147483648 ≤ x2 * 64 ∧ x2 * 64 < 2147483648) <|
  lt (x2 * 64) fun z1 =>
  if z1 < 0 then (
    some (0, h)
  ) else (
    ck (-2147483648 ≤ z1 + 64 ∧ z1 + 64 < 2147483648) <|
    ck (gR h 9 x0 11 = some (55, x0)) <|
    if (z1 + 64) ≤ 320 then (
      rec 1 [x0, x1, z1, 0] h
    ) else (
      some (0, h)
    )
  )
noncomputable def b_X9_spread_u_1 (rec : Rk) (x0 x1 x3 x4 : Int) (h : Hp) : Option (Int × Hp) :=
  if 64 ≤ x4 then (
    bd (f_X9_isWater_u x0 x1 h) fun v1 h2 =>
    if v1 = 0 then (
      some (0, h2)
    ) else (
      ck (gR h2 9 x0 12 = some (56, x0)) <|
      ck (0 ≤ (0 : Int) ∧ (0 : Int) < 64) <|
      lt (sI h2 56 x0 0 x1) fun h3 =>
      ck (gR h3 9 x0 11 = some (55, x0)) <|
      ck (-2147483648 ≤ x3 + x1 ∧ x3 + x1 < 2147483648) <|
      ck (0 ≤ (x3 + x1) ∧ (x3 + x1) < 320) <|
      lt (sI h3 55 x0 (x3 + x1) 0) fun h4 =>
      rec 2 [x0, x3, 1, 0] h4
    )
  ) else (
    ck (gR h 9 x0 11 = some (55, x0)) <|
    ck (-2147483648 ≤ x3 + x4 ∧ x3 + x4 < 2147483648) <|
    ck (0 ≤ (x3 + x4) ∧ (x3 + x4) < 320) <|
    lt (sI h 55 x0 (x3 + x4) 99) fun h5 =>
    ck (-2147483648 ≤ x4 + 1 ∧ x4 + 1 < 2147483648) <|
    rec 1 [x0, x1, x3, x4 + 1] h5
  )
noncomputable def b_X9_spread_u_2 (rec : Rk) (x0 x3 x4 x5 : Int) (h : Hp) : Option (Int × Hp) :=
  if x4 ≤ x5 then (
    some (0, h)
  ) else (
    if 64 ≤ x5 then (
      some (0, h)
    ) else (
      ck (gR h 9 x0 12 = some (56, x0)) <|
      ck (0 ≤ x5 ∧ x5 < 64) <|
      lt (gI h 56 x0 x5) fun z1 =>
      rec 3 [x0, x3, x4, x5, z1, 0] h
    )
  )
noncomputable def b_X9_spread_u_3 (rec : Rk) (x0 x3 x4 x5 x6 x7 : Int) (h : Hp) : Option (Int × Hp) :=
  if 4 ≤ x7 then (
    ck (-2147483648 ≤ x5 + 1 ∧ x5 + 1 < 2147483648) <|
    rec 2 [x0, x3, x4, x5 + 1] h
  ) else (
    bd (f_X9_step_u x0 x6 x7 h) fun v1 h2 =>
    bd (f_X9_isWater_u x0 v1 h2) fun v3 h4 =>
    if v3 = 0 then (
      rec 4 [x0, x3, x4, x5, x6, x7] h4
    ) else (
      ck (gR h4 9 x0 11 = some (55, x0)) <|
      ck (-2147483648 ≤ x3 + v1 ∧ x3 + v1 < 2147483648) <|
      ck (0 ≤ (x3 + v1) ∧ (x3 + v1) < 320) <|
      if (gI h4 55 x0 (x3 + v1)) = 99 then (
        if 64 ≤ x4 then (
          rec 4 [x0, x3, x4, x5, x6, x7] h4
        ) else (
          ck (gR h4 9 x0 11 = some (55, x0)) <|
          ck (-2147483648 ≤ x3 + v1 ∧ x3 + v1 < 2147483648) <|
          ck (gR h4 9 x0 11 = some (55, x0)) <|
          ck (-2147483648 ≤ x3 + x6 ∧ x3 + x6 < 2147483648) <|
          ck (0 ≤ (x3 + x6) ∧ (x3 + x6) < 320) <|
          ck (-2147483648 ≤ (gI h4 55 x0 (x3 + x6)) + 1 ∧ (gI h4 55 x0 (x3 + x6)) + 1 < 2147483648) <|
          ck (0 ≤ (x3 + v1) ∧ (x3 + v1) < 320) <|
          lt (sI h4 55 x0 (x3 + v1) ((gI h4 55 x0 (x3 + x6)) + 1)) fun h5 =>
          ck (gR h5 9 x0 12 = some (56, x0)) <|
          ck (0 ≤ x4 ∧ x4 < 64) <|
          lt (sI h5 56 x0 x4 v1) fun h6 =>
          ck (-2147483648 ≤ x4 + 1 ∧ x4 + 1 < 2147483648) <|
          rec 4 [x0, x3, x4 + 1, x5, x6, x7] h6
        )
      ) else (
        rec 4 [x0, x3, x4, x5, x6, x7] h4
      )
    )
  )
noncomputable def b_X9_spread_u_4 (rec : Rk) (x0 x3 x4 x5 x6 x7 : Int) (h : Hp) : Option (Int × Hp) :=
  ck (-2147483648 ≤ x7 + 1 ∧ x7 + 1 < 2147483648) <|
  rec 3 [x0, x3, x4, x5, x6, x7 + 1] h
noncomputable def g_X9_spread_u (n : Nat) : Rk := Nat.rec (motive := fun _ => Rk) (fun _ _ _ => none) (fun _ rec k l h => if k = 0 then b_X9_spread_u_0 rec (l.getD 0 0) (l.getD 1 0) (l.getD 2 0) h else if k = 1 then b_X9_spread_u_1 rec (l.getD 0 0) (l.getD 1 0) (l.getD 2 0) (l.getD 3 0) h else if k = 2 then b_X9_spread_u_2 rec (l.getD 0 0) (l.getD 1 0) (l.getD 2 0) (l.getD 3 0) h else if k = 3 then b_X9_spread_u_3 rec (l.getD 0 0) (l.getD 1 0) (l.getD 2 0) (l.getD 3 0) (l.getD 4 0) (l.getD 5 0) h else if k = 4 then b_X9_spread_u_4 rec (l.getD 0 0) (l.getD 1 0) (l.getD 2 0) (l.getD 3 0) (l.getD 4 0) (l.getD 5 0) h else none) n
noncomputable def f_X9_spread_u (x0 x1 x2 : Int) (h : Hp) : Option (Int × Hp) := g_X9_spread_u FU 0 [x0, x1, x2] h
set_option maxHeartbeats 4000000 in
set_option maxRecDepth 100000 in
theorem t_X9_spread_u_0 (E : xE) (d : Nat) (rec : Rk) (r : Int × Hp) (hr_25 : ∀ (x0 x1 x3 x4 : Int) (h : Hp), rec 1 [x0, x1, x3, x4] h = some r → X E mX9_spread (d + 3) (0, 0) (0, 0) 25 [some (xr 9 x0), some (xi x1), none, some (xi x3), some (xi x4), none, none, none, none] [] h (PuV r)) (x0 x1 x2 : Int) (h : Hp) (hF : b_X9_spread_u_0 rec x0 x1 x2 h = some r) : X E mX9_spread (d + 3) (0, 0) (0, 0) 0 [some (xr 9 x0), some (xi x1), some (xi x2), none, none, none, none, none, none] [] h (PuV r) := by
  unfold b_X9_spread_u_0 at hF
  refine x_iload_n (i := 2) (b := 1) dX9_spread_0 rfl rfl rfl ?_
  refine x_bipush (n := 64) (b := 3) dX9_spread_1 (by decide) rfl ?_
  obtain ⟨hs, hF⟩ := ck_e hF
  refine x_imul (b := 4) dX9_spread_3 hs rfl ?_
  obtain ⟨z1, e_z1, hF⟩ := lt_e hF
  refine x_eq (y := z1) e_z1 ?_
  refine x_istore_n (i := 3) (b := 5) (ls2 := [some (xr 9 x0), some (xi x1), some (xi x2), some (xi z1), none, none, none, none, none]) dX9_spread_4 rfl (Nat.le_of_ble_eq_true rfl) rfl rfl ?_
  refine x_iload_n (i := 3) (b := 6) dX9_spread_5 rfl rfl rfl ?_
  refine x_if_lt (tgt := 21) (b := 9) dX9_spread_6 (by decide) rfl (fun hc => ?_) (fun hc => ?_)
  · replace hF := br_T hc hF
    refine x_return dX9_spread_21 rfl ⟨Nat.le_refl _, Nat.le_refl _⟩ ?_
    cases hF
    exact ⟨rfl, rfl⟩
  · replace hF := br_F hc hF
    refine x_iload_n (i := 3) (b := 10) dX9_spread_9 rfl rfl rfl ?_
    refine x_bipush (n := 64) (b := 12) dX9_spread_10 (by decide) rfl ?_
    obtain ⟨hs, hF⟩ := ck_e hF
    refine x_iadd (b := 13) dX9_spread_12 hs rfl ?_
    refine x_aload_n (i := 0) (b := 14) dX9_spread_13 rfl rfl rfl ?_
    obtain ⟨hs, hF⟩ := ck_e hF
    refine x_getR (v := some (55, x0)) (b := 17) fk_X9_47 dX9_spread_14 rfl hs rfl ?_
    refine x_alen (kind := 0) (ct := 0) (b := 18) ak_55 (by decide) dX9_spread_17 rfl ?_
    refine x_eq (y := 320) rfl ?_
    refine x_icmp_le (tgt := 22) (b := 21) dX9_spread_18 (by decide) rfl (fun hc => ?_) (fun hc => ?_)
    · replace hF := br_T hc hF
      refine x_iconst (n := 0) (b := 23) dX9_spread_22 (by decide) rfl ?_
      refine x_istore (i := 4) (b := 25) (ls2 := [some (xr 9 x0), some (xi x1), some (xi x2), some (xi z1), some (xi 0), none, none, none, none]) dX9_spread_23 (Nat.le_of_ble_eq_true rfl) rfl rfl ?_
      exact x_dp (ls2 := [some (xr 9 x0), some (xi x1), none, some (xi z1), some (xi 0), none, none, none, none]) ⟨rfl, rfl, rfl, rfl, trivial⟩ (hr_25 x0 x1 z1 0 h hF)
    · replace hF := br_F hc hF
      refine x_return dX9_spread_21 rfl ⟨Nat.le_refl _, Nat.le_refl _⟩ ?_
      cases hF
      exact ⟨rfl, rfl⟩
set_option maxHeartbeats 4000000 in
set_option maxRecDepth 100000 in
theorem t_X9_spread_u_1 (E : xE) (d : Nat) (rec : Rk) (r : Int × Hp) (hr_25 : ∀ (x0 x1 x3 x4 : Int) (h : Hp), rec 1 [x0, x1, x3, x4] h = some r → X E mX9_spread (d + 3) (0, 0) (0, 0) 25 [some (xr 9 x0), some (xi x1), none, some (xi x3), some (xi x4), none, none, none, none] [] h (PuV r)) (hr_80 : ∀ (x0 x3 x4 x5 : Int) (h : Hp), rec 2 [x0, x3, x4, x5] h = some r → X E mX9_spread (d + 3) (0, 0) (0, 0) 80 [some (xr 9 x0), none, none, some (xi x3), some (xi x4), some (xi x5), none, none, none] [] h (PuV r)) (x0 x1 x3 x4 : Int) (h : Hp) (hF : b_X9_spread_u_1 rec x0 x1 x3 x4 h = some r) : X E mX9_spread (d + 3) (0, 0) (0, 0) 25 [some (xr 9 x0), some (xi x1), none, some (xi x3), some (xi x4), none, none, none, none] [] h (PuV r) := by
  unfold b_X9_spread_u_1 at hF
  refine x_iload (i := 4) (b := 27) dX9_spread_25 rfl rfl ?_
  refine x_bipush (n := 64) (b := 29) dX9_spread_27 (by decide) rfl ?_
  refine x_icmp_ge (tgt := 49) (b := 32) dX9_spread_29 (by decide) rfl (fun hc => ?_) (fun hc => ?_)
  · replace hF := br_T hc hF
    refine x_aload_n (i := 0) (b := 50) dX9_spread_49 rfl rfl rfl ?_
    refine x_iload_n (i := 1) (b := 51) dX9_spread_50 rfl rfl rfl ?_
    obtain ⟨v1, h2, hq, hF⟩ := bd_e hF
    refine x_callV (as := [xi x1]) (rest := []) (b := 54) (c_X9_isWater_u d x0 x1 h _ hq) dX9_spread_51 cw_X9_61 ⟨_, _, rfl, Nat.le_of_ble_eq_true rfl⟩ rfl rfl (Nat.le_of_ble_eq_true rfl) ⟨Nat.le_refl _, Nat.le_refl _⟩ rfl (fun rv hh hp _ => ?_)
    obtain ⟨rfl, rfl⟩ := hp
    refine x_if_ne (tgt := 58) (b := 57) dX9_spread_54 (by decide) rfl (fun hc => ?_) (fun hc => ?_)
    · replace hF := br_F hc hF
      refine x_iconst (n := 1) (b := 59) dX9_spread_58 (by decide) rfl ?_
      refine x_istore (i := 4) (b := 61) (ls2 := [some (xr 9 x0), some (xi x1), none, some (xi x3), some (xi 1), none, none, none, none]) dX9_spread_59 (Nat.le_of_ble_eq_true rfl) rfl rfl ?_
      refine x_aload_n (i := 0) (b := 62) dX9_spread_61 rfl rfl rfl ?_
      obtain ⟨hs, hF⟩ := ck_e hF
      refine x_getR (v := some (56, x0)) (b := 65) fk_X9_50 dX9_spread_62 rfl hs rfl ?_
      refine x_iconst (n := 0) (b := 66) dX9_spread_65 (by decide) rfl ?_
      refine x_iload_n (i := 1) (b := 67) dX9_spread_66 rfl rfl rfl ?_
      obtain ⟨hs, hF⟩ := ck_e hF
      have hs1 := hs
      refine x_iast (b := 68) ak_56 dX9_spread_67 hs1 rfl ?_
      obtain ⟨h3, e_h3, hF⟩ := lt_e hF
      refine x_hp (h2 := h3) e_h3 ?_
      refine x_aload_n (i := 0) (b := 69) dX9_spread_68 rfl rfl rfl ?_
      obtain ⟨hs, hF⟩ := ck_e hF
      refine x_getR (v := some (55, x0)) (b := 72) fk_X9_47 dX9_spread_69 rfl hs rfl ?_
      refine x_iload_n (i := 3) (b := 73) dX9_spread_72 rfl rfl rfl ?_
      refine x_iload_n (i := 1) (b := 74) dX9_spread_73 rfl rfl rfl ?_
      obtain ⟨hs, hF⟩ := ck_e hF
      refine x_iadd (b := 75) dX9_spread_74 hs rfl ?_
      refine x_iconst (n := 0) (b := 76) dX9_spread_75 (by decide) rfl ?_
      obtain ⟨hs, hF⟩ := ck_e hF
      have hs1 := hs
      refine x_iast (b := 77) ak_55 dX9_spread_76 hs1 rfl ?_
      obtain ⟨h4, e_h4, hF⟩ := lt_e hF
      refine x_hp (h2 := h4) e_h4 ?_
      refine x_iconst (n := 0) (b := 78) dX9_spread_77 (by decide) rfl ?_
      refine x_istore (i := 5) (b := 80) (ls2 := [some (xr 9 x0), some (xi x1), none, some (xi x3), some (xi 1), some (xi 0), none, none, none]) dX9_spread_78 (Nat.le_of_ble_eq_true rfl) rfl rfl ?_
      exact x_dp (ls2 := [some (xr 9 x0), none, none, some (xi x3), some (xi 1), some (xi 0), none, none, none]) ⟨rfl, rfl, rfl, rfl, trivial⟩ (hr_80 x0 x3 1 0 h4 hF)
    · replace hF := br_T hc hF
      refine x_return dX9_spread_57 rfl ⟨Nat.le_refl _, Nat.le_refl _⟩ ?_
      cases hF
      exact ⟨rfl, rfl⟩
  · replace hF := br_F hc hF
    refine x_aload_n (i := 0) (b := 33) dX9_spread_32 rfl rfl rfl ?_
    obtain ⟨hs, hF⟩ := ck_e hF
    refine x_getR (v := some (55, x0)) (b := 36) fk_X9_47 dX9_spread_33 rfl hs rfl ?_
    refine x_iload_n (i := 3) (b := 37) dX9_spread_36 rfl rfl rfl ?_
    refine x_iload (i := 4) (b := 39) dX9_spread_37 rfl rfl ?_
    obtain ⟨hs, hF⟩ := ck_e hF
    refine x_iadd (b := 40) dX9_spread_39 hs rfl ?_
    refine x_bipush (n := 99) (b := 42) dX9_spread_40 (by decide) rfl ?_
    obtain ⟨hs, hF⟩ := ck_e hF
    have hs1 := hs
    refine x_iast (b := 43) ak_55 dX9_spread_42 hs1 rfl ?_
    obtain ⟨h5, e_h5, hF⟩ := lt_e hF
    refine x_hp (h2 := h5) e_h5 ?_
    obtain ⟨hs, hF⟩ := ck_e hF
    refine x_iinc (i := 4) (b := 46) (ls2 := [some (xr 9 x0), some (xi x1), none, some (xi x3), some (xi (x4 + 1)), none, none, none, none]) dX9_spread_43 rfl (Nat.le_of_ble_eq_true rfl) hs rfl rfl ?_
    refine x_goto (tgt := 25) dX9_spread_46 (by decide) ?_
    exact x_dp (ls2 := [some (xr 9 x0), some (xi x1), none, some (xi x3), some (xi (x4 + 1)), none, none, none, none]) ⟨rfl, rfl, rfl, rfl, trivial⟩ (hr_25 x0 x1 x3 (x4 + 1) h5 hF)
set_option maxHeartbeats 4000000 in
set_option maxRecDepth 100000 in
theorem t_X9_spread_u_2 (E : xE) (d : Nat) (rec : Rk) (r : Int × Hp) (hr_106 : ∀ (x0 x3 x4 x5 x6 x7 : Int) (h : Hp), rec 3 [x0, x3, x4, x5, x6, x7] h = some r → X E mX9_spread (d + 3) (0, 0) (0, 0) 106 [some (xr 9 x0), none, none, some (xi x3), some (xi x4), some (xi x5), some (xi x6), some (xi x7), none] [] h (PuV r)) (x0 x3 x4 x5 : Int) (h : Hp) (hF : b_X9_spread_u_2 rec x0 x3 x4 x5 h = some r) : X E mX9_spread (d + 3) (0, 0) (0, 0) 80 [some (xr 9 x0), none, none, some (xi x3), some (xi x4), some (xi x5), none, none, none] [] h (PuV r) := by
  unfold b_X9_spread_u_2 at hF
  refine x_iload (i := 5) (b := 82) dX9_spread_80 rfl rfl ?_
  refine x_iload (i := 4) (b := 84) dX9_spread_82 rfl rfl ?_
  refine x_icmp_ge (tgt := 196) (b := 87) dX9_spread_84 (by decide) rfl (fun hc => ?_) (fun hc => ?_)
  · replace hF := br_T hc hF
    refine x_return dX9_spread_196 rfl ⟨Nat.le_refl _, Nat.le_refl _⟩ ?_
    cases hF
    exact ⟨rfl, rfl⟩
  · replace hF := br_F hc hF
    refine x_iload (i := 5) (b := 89) dX9_spread_87 rfl rfl ?_
    refine x_bipush (n := 64) (b := 91) dX9_spread_89 (by decide) rfl ?_
    refine x_icmp_ge (tgt := 196) (b := 94) dX9_spread_91 (by decide) rfl (fun hc => ?_) (fun hc => ?_)
    · replace hF := br_T hc hF
      refine x_return dX9_spread_196 rfl ⟨Nat.le_refl _, Nat.le_refl _⟩ ?_
      cases hF
      exact ⟨rfl, rfl⟩
    · replace hF := br_F hc hF
      refine x_aload_n (i := 0) (b := 95) dX9_spread_94 rfl rfl rfl ?_
      obtain ⟨hs, hF⟩ := ck_e hF
      refine x_getR (v := some (56, x0)) (b := 98) fk_X9_50 dX9_spread_95 rfl hs rfl ?_
      refine x_iload (i := 5) (b := 100) dX9_spread_98 rfl rfl ?_
      obtain ⟨hs, hF⟩ := ck_e hF
      refine x_iald (v := gI h 56 x0 x5) (b := 101) ak_56 dX9_spread_100 hs rfl rfl ?_
      obtain ⟨z1, e_z1, hF⟩ := lt_e hF
      refine x_eq (y := z1) e_z1 ?_
      refine x_istore (i := 6) (b := 103) (ls2 := [some (xr 9 x0), none, none, some (xi x3), some (xi x4), some (xi x5), some (xi z1), none, none]) dX9_spread_101 (Nat.le_of_ble_eq_true rfl) rfl rfl ?_
      refine x_iconst (n := 0) (b := 104) dX9_spread_103 (by decide) rfl ?_
      refine x_istore (i := 7) (b := 106) (ls2 := [some (xr 9 x0), none, none, some (xi x3), some (xi x4), some (xi x5), some (xi z1), some (xi 0), none]) dX9_spread_104 (Nat.le_of_ble_eq_true rfl) rfl rfl ?_
      exact x_dp (ls2 := [some (xr 9 x0), none, none, some (xi x3), some (xi x4), some (xi x5), some (xi z1), some (xi 0), none]) ⟨rfl, rfl, rfl, rfl, rfl, rfl, trivial⟩ (hr_106 x0 x3 x4 x5 z1 0 h hF)
set_option maxHeartbeats 4000000 in
set_option maxRecDepth 100000 in
theorem t_X9_spread_u_3 (E : xE) (d : Nat) (rec : Rk) (r : Int × Hp) (hr_80 : ∀ (x0 x3 x4 x5 : Int) (h : Hp), rec 2 [x0, x3, x4, x5] h = some r → X E mX9_spread (d + 3) (0, 0) (0, 0) 80 [some (xr 9 x0), none, none, some (xi x3), some (xi x4), some (xi x5), none, none, none] [] h (PuV r)) (hr_184 : ∀ (x0 x3 x4 x5 x6 x7 : Int) (h : Hp), rec 4 [x0, x3, x4, x5, x6, x7] h = some r → X E mX9_spread (d + 3) (0, 0) (0, 0) 184 [some (xr 9 x0), none, none, some (xi x3), some (xi x4), some (xi x5), some (xi x6), some (xi x7), none] [] h (PuV r)) (x0 x3 x4 x5 x6 x7 : Int) (h : Hp) (hF : b_X9_spread_u_3 rec x0 x3 x4 x5 x6 x7 h = some r) : X E mX9_spread (d + 3) (0, 0) (0, 0) 106 [some (xr 9 x0), none, none, some (xi x3), some (xi x4), some (xi x5), some (xi x6), some (xi x7), none] [] h (PuV r) := by
  unfold b_X9_spread_u_3 at hF
  refine x_iload (i := 7) (b := 108) dX9_spread_106 rfl rfl ?_
  refine x_iconst (n := 4) (b := 109) dX9_spread_108 (by decide) rfl ?_
  refine x_icmp_ge (tgt := 190) (b := 112) dX9_spread_109 (by decide) rfl (fun hc => ?_) (fun hc => ?_)
  · replace hF := br_T hc hF
    obtain ⟨hs, hF⟩ := ck_e hF
    refine x_iinc (i := 5) (b := 193) (ls2 := [some (xr 9 x0), none, none, some (xi x3), some (xi x4), some (xi (x5 + 1)), some (xi x6), some (xi x7), none]) dX9_spread_190 rfl (Nat.le_of_ble_eq_true rfl) hs rfl rfl ?_
    refine x_goto (tgt := 80) dX9_spread_193 (by decide) ?_
    exact x_dp (ls2 := [some (xr 9 x0), none, none, some (xi x3), some (xi x4), some (xi (x5 + 1)), none, none, none]) ⟨rfl, rfl, rfl, rfl, trivial⟩ (hr_80 x0 x3 x4 (x5 + 1) h hF)
  · replace hF := br_F hc hF
    refine x_aload_n (i := 0) (b := 113) dX9_spread_112 rfl rfl rfl ?_
    refine x_iload (i := 6) (b := 115) dX9_spread_113 rfl rfl ?_
    refine x_iload (i := 7) (b := 117) dX9_spread_115 rfl rfl ?_
    obtain ⟨v1, h2, hq, hF⟩ := bd_e hF
    refine x_callV (as := [xi x6, xi x7]) (rest := []) (b := 120) (c_X9_step_u d x0 x6 x7 h _ hq) dX9_spread_117 cw_X9_64 ⟨_, _, rfl, Nat.le_of_ble_eq_true rfl⟩ rfl rfl (Nat.le_of_ble_eq_true rfl) ⟨Nat.le_refl _, Nat.le_refl _⟩ rfl (fun rv hh hp _ => ?_)
    obtain ⟨rfl, rfl⟩ := hp
    refine x_istore (i := 8) (b := 122) (ls2 := [some (xr 9 x0), none, none, some (xi x3), some (xi x4), some (xi x5), some (xi x6), some (xi x7), some (xi v1)]) dX9_spread_120 (Nat.le_of_ble_eq_true rfl) rfl rfl ?_
    refine x_aload_n (i := 0) (b := 123) dX9_spread_122 rfl rfl rfl ?_
    refine x_iload (i := 8) (b := 125) dX9_spread_123 rfl rfl ?_
    obtain ⟨v3, h4, hq, hF⟩ := bd_e hF
    refine x_callV (as := [xi v1]) (rest := []) (b := 128) (c_X9_isWater_u d x0 v1 h2 _ hq) dX9_spread_125 cw_X9_61 ⟨_, _, rfl, Nat.le_of_ble_eq_true rfl⟩ rfl rfl (Nat.le_of_ble_eq_true rfl) ⟨Nat.le_refl _, Nat.le_refl _⟩ rfl (fun rv hh hp _ => ?_)
    obtain ⟨rfl, rfl⟩ := hp
    refine x_if_eq (tgt := 184) (b := 131) dX9_spread_128 (by decide) rfl (fun hc => ?_) (fun hc => ?_)
    · replace hF := br_T hc hF
      exact x_dp (ls2 := [some (xr 9 x0), none, none, some (xi x3), some (xi x4), some (xi x5), some (xi x6), some (xi x7), none]) ⟨rfl, rfl, rfl, rfl, rfl, rfl, trivial⟩ (hr_184 x0 x3 x4 x5 x6 x7 h4 hF)
    · replace hF := br_F hc hF
      refine x_aload_n (i := 0) (b := 132) dX9_spread_131 rfl rfl rfl ?_
      obtain ⟨hs, hF⟩ := ck_e hF
      refine x_getR (v := some (55, x0)) (b := 135) fk_X9_47 dX9_spread_132 rfl hs rfl ?_
      refine x_iload_n (i := 3) (b := 136) dX9_spread_135 rfl rfl rfl ?_
      refine x_iload (i := 8) (b := 138) dX9_spread_136 rfl rfl ?_
      obtain ⟨hs, hF⟩ := ck_e hF
      refine x_iadd (b := 139) dX9_spread_138 hs rfl ?_
      obtain ⟨hs, hF⟩ := ck_e hF
      refine x_iald (v := gI h4 55 x0 (x3 + v1)) (b := 140) ak_55 dX9_spread_139 hs rfl rfl ?_
      refine x_bipush (n := 99) (b := 142) dX9_spread_140 (by decide) rfl ?_
      refine x_icmp_ne (tgt := 184) (b := 145) dX9_spread_142 (by decide) rfl (fun hc => ?_) (fun hc => ?_)
      · replace hF := br_F hc hF
        exact x_dp (ls2 := [some (xr 9 x0), none, none, some (xi x3), some (xi x4), some (xi x5), some (xi x6), some (xi x7), none]) ⟨rfl, rfl, rfl, rfl, rfl, rfl, trivial⟩ (hr_184 x0 x3 x4 x5 x6 x7 h4 hF)
      · replace hF := br_T hc hF
        refine x_iload (i := 4) (b := 147) dX9_spread_145 rfl rfl ?_
        refine x_bipush (n := 64) (b := 149) dX9_spread_147 (by decide) rfl ?_
        refine x_icmp_ge (tgt := 184) (b := 152) dX9_spread_149 (by decide) rfl (fun hc => ?_) (fun hc => ?_)
        · replace hF := br_T hc hF
          exact x_dp (ls2 := [some (xr 9 x0), none, none, some (xi x3), some (xi x4), some (xi x5), some (xi x6), some (xi x7), none]) ⟨rfl, rfl, rfl, rfl, rfl, rfl, trivial⟩ (hr_184 x0 x3 x4 x5 x6 x7 h4 hF)
        · replace hF := br_F hc hF
          refine x_aload_n (i := 0) (b := 153) dX9_spread_152 rfl rfl rfl ?_
          obtain ⟨hs, hF⟩ := ck_e hF
          refine x_getR (v := some (55, x0)) (b := 156) fk_X9_47 dX9_spread_153 rfl hs rfl ?_
          refine x_iload_n (i := 3) (b := 157) dX9_spread_156 rfl rfl rfl ?_
          refine x_iload (i := 8) (b := 159) dX9_spread_157 rfl rfl ?_
          obtain ⟨hs, hF⟩ := ck_e hF
          refine x_iadd (b := 160) dX9_spread_159 hs rfl ?_
          refine x_aload_n (i := 0) (b := 161) dX9_spread_160 rfl rfl rfl ?_
          obtain ⟨hs, hF⟩ := ck_e hF
          refine x_getR (v := some (55, x0)) (b := 164) fk_X9_47 dX9_spread_161 rfl hs rfl ?_
          refine x_iload_n (i := 3) (b := 165) dX9_spread_164 rfl rfl rfl ?_
          refine x_iload (i := 6) (b := 167) dX9_spread_165 rfl rfl ?_
          obtain ⟨hs, hF⟩ := ck_e hF
          refine x_iadd (b := 168) dX9_spread_167 hs rfl ?_
          obtain ⟨hs, hF⟩ := ck_e hF
          refine x_iald (v := gI h4 55 x0 (x3 + x6)) (b := 169) ak_55 dX9_spread_168 hs rfl rfl ?_
          refine x_iconst (n := 1) (b := 170) dX9_spread_169 (by decide) rfl ?_
          obtain ⟨hs, hF⟩ := ck_e hF
          refine x_iadd (b := 171) dX9_spread_170 hs rfl ?_
          obtain ⟨hs, hF⟩ := ck_e hF
          have hs1 := hs
          refine x_iast (b := 172) ak_55 dX9_spread_171 hs1 rfl ?_
          obtain ⟨h5, e_h5, hF⟩ := lt_e hF
          refine x_hp (h2 := h5) e_h5 ?_
          refine x_aload_n (i := 0) (b := 173) dX9_spread_172 rfl rfl rfl ?_
          obtain ⟨hs, hF⟩ := ck_e hF
          refine x_getR (v := some (56, x0)) (b := 176) fk_X9_50 dX9_spread_173 rfl hs rfl ?_
          refine x_iload (i := 4) (b := 178) dX9_spread_176 rfl rfl ?_
          refine x_iload (i := 8) (b := 180) dX9_spread_178 rfl rfl ?_
          obtain ⟨hs, hF⟩ := ck_e hF
          have hs1 := hs
          refine x_iast (b := 181) ak_56 dX9_spread_180 hs1 rfl ?_
          obtain ⟨h6, e_h6, hF⟩ := lt_e hF
          refine x_hp (h2 := h6) e_h6 ?_
          obtain ⟨hs, hF⟩ := ck_e hF
          refine x_iinc (i := 4) (b := 184) (ls2 := [some (xr 9 x0), none, none, some (xi x3), some (xi (x4 + 1)), some (xi x5), some (xi x6), some (xi x7), some (xi v1)]) dX9_spread_181 rfl (Nat.le_of_ble_eq_true rfl) hs rfl rfl ?_
          exact x_dp (ls2 := [some (xr 9 x0), none, none, some (xi x3), some (xi (x4 + 1)), some (xi x5), some (xi x6), some (xi x7), none]) ⟨rfl, rfl, rfl, rfl, rfl, rfl, trivial⟩ (hr_184 x0 x3 (x4 + 1) x5 x6 x7 h6 hF)
set_option maxHeartbeats 4000000 in
set_option maxRecDepth 100000 in
theorem t_X9_spread_u_4 (E : xE) (d : Nat) (rec : Rk) (r : Int × Hp) (hr_106 : ∀ (x0 x3 x4 x5 x6 x7 : Int) (h : Hp), rec 3 [x0, x3, x4, x5, x6, x7] h = some r → X E mX9_spread (d + 3) (0, 0) (0, 0) 106 [some (xr 9 x0), none, none, some (xi x3), some (xi x4), some (xi x5), some (xi x6), some (xi x7), none] [] h (PuV r)) (x0 x3 x4 x5 x6 x7 : Int) (h : Hp) (hF : b_X9_spread_u_4 rec x0 x3 x4 x5 x6 x7 h = some r) : X E mX9_spread (d + 3) (0, 0) (0, 0) 184 [some (xr 9 x0), none, none, some (xi x3), some (xi x4), some (xi x5), some (xi x6), some (xi x7), none] [] h (PuV r) := by
  unfold b_X9_spread_u_4 at hF
  obtain ⟨hs, hF⟩ := ck_e hF
  refine x_iinc (i := 7) (b := 187) (ls2 := [some (xr 9 x0), none, none, some (xi x3), some (xi x4), some (xi x5), some (xi x6), some (xi (x7 + 1)), none]) dX9_spread_184 rfl (Nat.le_of_ble_eq_true rfl) hs rfl rfl ?_
  refine x_goto (tgt := 106) dX9_spread_187 (by decide) ?_
  exact x_dp (ls2 := [some (xr 9 x0), none, none, some (xi x3), some (xi x4), some (xi x5), some (xi x6), some (xi (x7 + 1)), none]) ⟨rfl, rfl, rfl, rfl, rfl, rfl, trivial⟩ (hr_106 x0 x3 x4 x5 x6 (x7 + 1) h hF)
set_option maxHeartbeats 4000000 in
set_option maxRecDepth 100000 in
theorem u_X9_spread_u (E : xE) (d : Nat) (r : Int × Hp) : ∀ n : Nat, (∀ (x0 x1 x2 : Int) (h : Hp), g_X9_spread_u n 0 [x0, x1, x2] h = some r → X E mX9_spread (d + 3) (0, 0) (0, 0) 0 [some (xr 9 x0), some (xi x1), some (xi x2), none, none, none, none, none, none] [] h (PuV r)) ∧ (∀ (x0 x1 x3 x4 : Int) (h : Hp), g_X9_spread_u n 1 [x0, x1, x3, x4] h = some r → X E mX9_spread (d + 3) (0, 0) (0, 0) 25 [some (xr 9 x0), some (xi x1), none, some (xi x3), some (xi x4), none, none, none, none] [] h (PuV r)) ∧ (∀ (x0 x3 x4 x5 : Int) (h : Hp), g_X9_spread_u n 2 [x0, x3, x4, x5] h = some r → X E mX9_spread (d + 3) (0, 0) (0, 0) 80 [some (xr 9 x0), none, none, some (xi x3), some (xi x4), some (xi x5), none, none, none] [] h (PuV r)) ∧ (∀ (x0 x3 x4 x5 x6 x7 : Int) (h : Hp), g_X9_spread_u n 3 [x0, x3, x4, x5, x6, x7] h = some r → X E mX9_spread (d + 3) (0, 0) (0, 0) 106 [some (xr 9 x0), none, none, some (xi x3), some (xi x4), some (xi x5), some (xi x6), some (xi x7), none] [] h (PuV r)) ∧ (∀ (x0 x3 x4 x5 x6 x7 : Int) (h : Hp), g_X9_spread_u n 4 [x0, x3, x4, x5, x6, x7] h = some r → X E mX9_spread (d + 3) (0, 0) (0, 0) 184 [some (xr 9 x0), none, none, some (xi x3), some (xi x4), some (xi x5), some (xi x6), some (xi x7), none] [] h (PuV r)) := by
  intro n
  induction n with
  | zero => exact ⟨fun _ _ _ _ hF => no_e (r := r) hF, fun _ _ _ _ _ hF => no_e (r := r) hF, fun _ _ _ _ _ hF => no_e (r := r) hF, fun _ _ _ _ _ _ _ hF => no_e (r := r) hF, fun _ _ _ _ _ _ _ hF => no_e (r := r) hF⟩
  | succ n ih => exact ⟨fun x0 x1 x2 h hF => t_X9_spread_u_0 E d (g_X9_spread_u n) r ih.2.1 x0 x1 x2 h hF, fun x0 x1 x3 x4 h hF => t_X9_spread_u_1 E d (g_X9_spread_u n) r ih.2.1 ih.2.2.1 x0 x1 x3 x4 h hF, fun x0 x3 x4 x5 h hF => t_X9_spread_u_2 E d (g_X9_spread_u n) r ih.2.2.2.1 x0 x3 x4 x5 h hF, fun x0 x3 x4 x5 x6 x7 h hF => t_X9_spread_u_3 E d (g_X9_spread_u n) r ih.2.2.1 ih.2.2.2.2 x0 x3 x4 x5 x6 x7 h hF, fun x0 x3 x4 x5 x6 x7 h hF => t_X9_spread_u_4 E d (g_X9_spread_u n) r ih.2.2.2.1 x0 x3 x4 x5 x6 x7 h hF⟩
theorem c_X9_spread_u (d : Nat) (x0 x1 x2 : Int) (h : Hp) (r : Int × Hp) (hF : f_X9_spread_u x0 x1 x2 h = some r) : Sp mX9_spread (d + 3) (0, 0) [xr 9 x0, xi x1, xi x2] h (PuV r) :=
  sp_of (by decide) rfl (Nat.le_of_ble_eq_true rfl) (ls := [some (xr 9 x0), some (xi x1), some (xi x2), none, none, none, none, none, none]) rfl (fun E _ => (u_X9_spread_u E d r FU).1 x0 x1 x2 h hF)
noncomputable def b_X9_measure_u_0 (rec : Rk) (x0 : Int) (h : Hp) : Option (Int × Hp) :=
  rec 1 [x0, 0] h
noncomputable def b_X9_measure_u_1 (rec : Rk) (x0 x1 : Int) (h : Hp) : Option (Int × Hp) :=
  if (gI h 9 x0 6) ≤ x1 then (
    rec 2 [x0] h
  ) else (
    if 3 ≤ x1 then (
      rec 2 [x0] h
    ) else (
      ck (gR h 9 x0 8 = some (52, x0)) <|
      ck (0 ≤ x1 ∧ x1 < 3) <|
      bd (f_X9_spread_u x0 (gI h 52 x0 x1) x1 h) fun v1 h2 =>
      ck (-2147483648 ≤ x1 + 1 ∧ x1 + 1 < 2147483648) <|
      rec 1 [x0, x1 + 1] h2
    )
  )
noncomputable def b_X9_measure_u_2 (rec : Rk) (x0 : Int) (h : Hp) : Option (Int × Hp) :=
  bd (f_X9_spread_u x0 (gI h 9 x0 5) 3 h) fun v1 h2 =>
  some (0, h2)
noncomputable def g_X9_measure_u (n : Nat) : Rk := Nat.rec (motive := fun _ => Rk) (fun _ _ _ => none) (fun _ rec k l h => if k = 0 then b_X9_measure_u_0 rec (l.getD 0 0) h else if k = 1 then b_X9_measure_u_1 rec (l.getD 0 0) (l.getD 1 0) h else if k = 2 then b_X9_measure_u_2 rec (l.getD 0 0) h else none) n
noncomputable def f_X9_measure_u (x0 : Int) (h : Hp) : Option (Int × Hp) := g_X9_measure_u FU 0 [x0] h
set_option maxHeartbeats 4000000 in
set_option maxRecDepth 100000 in
theorem t_X9_measure_u_0 (E : xE) (d : Nat) (rec : Rk) (r : Int × Hp) (hr_2 : ∀ (x0 x1 : Int) (h : Hp), rec 1 [x0, x1] h = some r → X E mX9_measure (d + 4) (0, 0) (0, 0) 2 [some (xr 9 x0), some (xi x1)] [] h (PuV r)) (x0 : Int) (h : Hp) (hF : b_X9_measure_u_0 rec x0 h = some r) : X E mX9_measure (d + 4) (0, 0) (0, 0) 0 [some (xr 9 x0), none] [] h (PuV r) := by
  unfold b_X9_measure_u_0 at hF
  refine x_iconst (n := 0) (b := 1) dX9_measure_0 (by decide) rfl ?_
  refine x_istore_n (i := 1) (b := 2) (ls2 := [some (xr 9 x0), some (xi 0)]) dX9_measure_1 rfl (Nat.le_of_ble_eq_true rfl) rfl rfl ?_
  exact x_dp (ls2 := [some (xr 9 x0), some (xi 0)]) ⟨rfl, rfl, trivial⟩ (hr_2 x0 0 h hF)
set_option maxHeartbeats 4000000 in
set_option maxRecDepth 100000 in
theorem t_X9_measure_u_1 (E : xE) (d : Nat) (rec : Rk) (r : Int × Hp) (hr_2 : ∀ (x0 x1 : Int) (h : Hp), rec 1 [x0, x1] h = some r → X E mX9_measure (d + 4) (0, 0) (0, 0) 2 [some (xr 9 x0), some (xi x1)] [] h (PuV r)) (hr_32 : ∀ (x0 : Int) (h : Hp), rec 2 [x0] h = some r → X E mX9_measure (d + 4) (0, 0) (0, 0) 32 [some (xr 9 x0), none] [] h (PuV r)) (x0 x1 : Int) (h : Hp) (hF : b_X9_measure_u_1 rec x0 x1 h = some r) : X E mX9_measure (d + 4) (0, 0) (0, 0) 2 [some (xr 9 x0), some (xi x1)] [] h (PuV r) := by
  unfold b_X9_measure_u_1 at hF
  refine x_iload_n (i := 1) (b := 3) dX9_measure_2 rfl rfl rfl ?_
  refine x_aload_n (i := 0) (b := 4) dX9_measure_3 rfl rfl rfl ?_
  refine x_getI (v := gI h 9 x0 6) (b := 7) fk_X9_31 dX9_measure_4 (by decide) rfl rfl ?_
  refine x_icmp_ge (tgt := 32) (b := 10) dX9_measure_7 (by decide) rfl (fun hc => ?_) (fun hc => ?_)
  · replace hF := br_T hc hF
    exact x_dp (ls2 := [some (xr 9 x0), none]) ⟨rfl, trivial⟩ (hr_32 x0 h hF)
  · replace hF := br_F hc hF
    refine x_iload_n (i := 1) (b := 11) dX9_measure_10 rfl rfl rfl ?_
    refine x_iconst (n := 3) (b := 12) dX9_measure_11 (by decide) rfl ?_
    refine x_icmp_ge (tgt := 32) (b := 15) dX9_measure_12 (by decide) rfl (fun hc => ?_) (fun hc => ?_)
    · replace hF := br_T hc hF
      exact x_dp (ls2 := [some (xr 9 x0), none]) ⟨rfl, trivial⟩ (hr_32 x0 h hF)
    · replace hF := br_F hc hF
      refine x_aload_n (i := 0) (b := 16) dX9_measure_15 rfl rfl rfl ?_
      refine x_aload_n (i := 0) (b := 17) dX9_measure_16 rfl rfl rfl ?_
      obtain ⟨hs, hF⟩ := ck_e hF
      refine x_getR (v := some (52, x0)) (b := 20) fk_X9_38 dX9_measure_17 rfl hs rfl ?_
      refine x_iload_n (i := 1) (b := 21) dX9_measure_20 rfl rfl rfl ?_
      obtain ⟨hs, hF⟩ := ck_e hF
      refine x_iald (v := gI h 52 x0 x1) (b := 22) ak_52 dX9_measure_21 hs rfl rfl ?_
      refine x_iload_n (i := 1) (b := 23) dX9_measure_22 rfl rfl rfl ?_
      obtain ⟨v1, h2, hq, hF⟩ := bd_e hF
      refine x_callV (as := [xi (gI h 52 x0 x1), xi x1]) (rest := []) (b := 26) (c_X9_spread_u d x0 (gI h 52 x0 x1) x1 h _ hq) dX9_measure_23 cw_X9_57 ⟨_, _, rfl, Nat.le_of_ble_eq_true rfl⟩ rfl rfl (Nat.le_of_ble_eq_true rfl) ⟨Nat.le_refl _, Nat.le_refl _⟩ rfl (fun rv hh hp _ => ?_)
      obtain ⟨rfl, rfl⟩ := hp
      obtain ⟨hs, hF⟩ := ck_e hF
      refine x_iinc (i := 1) (b := 29) (ls2 := [some (xr 9 x0), some (xi (x1 + 1))]) dX9_measure_26 rfl (Nat.le_of_ble_eq_true rfl) hs rfl rfl ?_
      refine x_goto (tgt := 2) dX9_measure_29 (by decide) ?_
      exact x_dp (ls2 := [some (xr 9 x0), some (xi (x1 + 1))]) ⟨rfl, rfl, trivial⟩ (hr_2 x0 (x1 + 1) h2 hF)
set_option maxHeartbeats 4000000 in
set_option maxRecDepth 100000 in
theorem t_X9_measure_u_2 (E : xE) (d : Nat) (rec : Rk) (r : Int × Hp) (x0 : Int) (h : Hp) (hF : b_X9_measure_u_2 rec x0 h = some r) : X E mX9_measure (d + 4) (0, 0) (0, 0) 32 [some (xr 9 x0), none] [] h (PuV r) := by
  unfold b_X9_measure_u_2 at hF
  refine x_aload_n (i := 0) (b := 33) dX9_measure_32 rfl rfl rfl ?_
  refine x_aload_n (i := 0) (b := 34) dX9_measure_33 rfl rfl rfl ?_
  refine x_getI (v := gI h 9 x0 5) (b := 37) fk_X9_28 dX9_measure_34 (by decide) rfl rfl ?_
  refine x_iconst (n := 3) (b := 38) dX9_measure_37 (by decide) rfl ?_
  obtain ⟨v1, h2, hq, hF⟩ := bd_e hF
  refine x_callV (as := [xi (gI h 9 x0 5), xi 3]) (rest := []) (b := 41) (c_X9_spread_u d x0 (gI h 9 x0 5) 3 h _ hq) dX9_measure_38 cw_X9_57 ⟨_, _, rfl, Nat.le_of_ble_eq_true rfl⟩ rfl rfl (Nat.le_of_ble_eq_true rfl) ⟨Nat.le_refl _, Nat.le_refl _⟩ rfl (fun rv hh hp _ => ?_)
  obtain ⟨rfl, rfl⟩ := hp
  refine x_return dX9_measure_41 rfl ⟨Nat.le_refl _, Nat.le_refl _⟩ ?_
  cases hF
  exact ⟨rfl, rfl⟩
set_option maxHeartbeats 4000000 in
set_option maxRecDepth 100000 in
theorem u_X9_measure_u (E : xE) (d : Nat) (r : Int × Hp) : ∀ n : Nat, (∀ (x0 : Int) (h : Hp), g_X9_measure_u n 0 [x0] h = some r → X E mX9_measure (d + 4) (0, 0) (0, 0) 0 [some (xr 9 x0), none] [] h (PuV r)) ∧ (∀ (x0 x1 : Int) (h : Hp), g_X9_measure_u n 1 [x0, x1] h = some r → X E mX9_measure (d + 4) (0, 0) (0, 0) 2 [some (xr 9 x0), some (xi x1)] [] h (PuV r)) ∧ (∀ (x0 : Int) (h : Hp), g_X9_measure_u n 2 [x0] h = some r → X E mX9_measure (d + 4) (0, 0) (0, 0) 32 [some (xr 9 x0), none] [] h (PuV r)) := by
  intro n
  induction n with
  | zero => exact ⟨fun _ _ hF => no_e (r := r) hF, fun _ _ _ hF => no_e (r := r) hF, fun _ _ hF => no_e (r := r) hF⟩
  | succ n ih => exact ⟨fun x0 h hF => t_X9_measure_u_0 E d (g_X9_measure_u n) r ih.2.1 x0 h hF, fun x0 x1 h hF => t_X9_measure_u_1 E d (g_X9_measure_u n) r ih.2.1 ih.2.2 x0 x1 h hF, fun x0 h hF => t_X9_measure_u_2 E d (g_X9_measure_u n) r  x0 h hF⟩
theorem c_X9_measure_u (d : Nat) (x0 : Int) (h : Hp) (r : Int × Hp) (hF : f_X9_measure_u x0 h = some r) : Sp mX9_measure (d + 4) (0, 0) [xr 9 x0] h (PuV r) :=
  sp_of (by decide) rfl (Nat.le_of_ble_eq_true rfl) (ls := [some (xr 9 x0), none]) rfl (fun E _ => (u_X9_measure_u E d r FU).1 x0 h hF)
noncomputable def b_X9_clear_u_0 (rec : Rk) (x0 : Int) (h : Hp) : Option (Int × Hp) :=
  lt (sI h 9 x0 0 4) fun h1 =>
  lt (sI h1 9 x0 1 4) fun h2 =>
  lt (sI h2 9 x0 2 0) fun h3 =>
  lt (sI h3 9 x0 3 0) fun h4 =>
  lt (sI h4 9 x0 4 0) fun h5 =>
  lt (sI h5 9 x0 5 0) fun h6 =>
  lt (sI h6 9 x0 6 0) fun h7 =>
  some (0, h7)
noncomputable def g_X9_clear_u (n : Nat) : Rk := Nat.rec (motive := fun _ => Rk) (fun _ _ _ => none) (fun _ rec k l h => if k = 0 then b_X9_clear_u_0 rec (l.getD 0 0) h else none) n
noncomputable def f_X9_clear_u (x0 : Int) (h : Hp) : Option (Int × Hp) := g_X9_clear_u FU 0 [x0] h
set_option maxHeartbeats 4000000 in
set_option maxRecDepth 100000 in
theorem t_X9_clear_u_0 (E : xE) (d : Nat) (rec : Rk) (r : Int × Hp) (x0 : Int) (h : Hp) (hF : b_X9_clear_u_0 rec x0 h = some r) : X E mX9_clear (d + 1) (0, 0) (0, 0) 0 [some (xr 9 x0)] [] h (PuV r) := by
  unfold b_X9_clear_u_0 at hF
  refine x_aload_n (i := 0) (b := 1) dX9_clear_0 rfl rfl rfl ?_
  refine x_iconst (n := 4) (b := 2) dX9_clear_1 (by decide) rfl ?_
  refine x_putI (b := 5) fk_X9_9 dX9_clear_2 rfl rfl 0 rfl ?_
  obtain ⟨h1, e_h1, hF⟩ := lt_e hF
  refine x_hp (h2 := h1) e_h1 ?_
  refine x_aload_n (i := 0) (b := 6) dX9_clear_5 rfl rfl rfl ?_
  refine x_iconst (n := 4) (b := 7) dX9_clear_6 (by decide) rfl ?_
  refine x_putI (b := 10) fk_X9_15 dX9_clear_7 rfl rfl 1 rfl ?_
  obtain ⟨h2, e_h2, hF⟩ := lt_e hF
  refine x_hp (h2 := h2) e_h2 ?_
  refine x_aload_n (i := 0) (b := 11) dX9_clear_10 rfl rfl rfl ?_
  refine x_lconst (z := 0) (b := 12) dX9_clear_11 rfl (by decide) rfl ?_
  refine x_putJ (b := 15) fk_X9_18 dX9_clear_12 rfl rfl 2 rfl ?_
  obtain ⟨h3, e_h3, hF⟩ := lt_e hF
  refine x_hp (h2 := h3) e_h3 ?_
  refine x_aload_n (i := 0) (b := 16) dX9_clear_15 rfl rfl rfl ?_
  refine x_iconst (n := 0) (b := 17) dX9_clear_16 (by decide) rfl ?_
  refine x_putI (b := 20) fk_X9_22 dX9_clear_17 rfl rfl 3 rfl ?_
  obtain ⟨h4, e_h4, hF⟩ := lt_e hF
  refine x_hp (h2 := h4) e_h4 ?_
  refine x_aload_n (i := 0) (b := 21) dX9_clear_20 rfl rfl rfl ?_
  refine x_iconst (n := 0) (b := 22) dX9_clear_21 (by decide) rfl ?_
  refine x_putI (b := 25) fk_X9_25 dX9_clear_22 rfl rfl 4 rfl ?_
  obtain ⟨h5, e_h5, hF⟩ := lt_e hF
  refine x_hp (h2 := h5) e_h5 ?_
  refine x_aload_n (i := 0) (b := 26) dX9_clear_25 rfl rfl rfl ?_
  refine x_iconst (n := 0) (b := 27) dX9_clear_26 (by decide) rfl ?_
  refine x_putI (b := 30) fk_X9_28 dX9_clear_27 rfl rfl 5 rfl ?_
  obtain ⟨h6, e_h6, hF⟩ := lt_e hF
  refine x_hp (h2 := h6) e_h6 ?_
  refine x_aload_n (i := 0) (b := 31) dX9_clear_30 rfl rfl rfl ?_
  refine x_iconst (n := 0) (b := 32) dX9_clear_31 (by decide) rfl ?_
  refine x_putI (b := 35) fk_X9_31 dX9_clear_32 rfl rfl 6 rfl ?_
  obtain ⟨h7, e_h7, hF⟩ := lt_e hF
  refine x_hp (h2 := h7) e_h7 ?_
  refine x_return dX9_clear_35 rfl ⟨Nat.le_refl _, Nat.le_refl _⟩ ?_
  cases hF
  exact ⟨rfl, rfl⟩
set_option maxHeartbeats 4000000 in
set_option maxRecDepth 100000 in
theorem u_X9_clear_u (E : xE) (d : Nat) (r : Int × Hp) : ∀ n : Nat, (∀ (x0 : Int) (h : Hp), g_X9_clear_u n 0 [x0] h = some r → X E mX9_clear (d + 1) (0, 0) (0, 0) 0 [some (xr 9 x0)] [] h (PuV r)) := by
  intro n
  induction n with
  | zero => exact fun _ _ hF => no_e (r := r) hF
  | succ n ih => exact fun x0 h hF => t_X9_clear_u_0 E d (g_X9_clear_u n) r  x0 h hF
theorem c_X9_clear_u (d : Nat) (x0 : Int) (h : Hp) (r : Int × Hp) (hF : f_X9_clear_u x0 h = some r) : Sp mX9_clear (d + 1) (0, 0) [xr 9 x0] h (PuV r) :=
  sp_of (by decide) rfl (Nat.le_of_ble_eq_true rfl) (ls := [some (xr 9 x0)]) rfl (fun E _ => (u_X9_clear_u E d r FU) x0 h hF)
noncomputable def b_X0_clear_u_0 (rec : Rk) (x0 : Int) (h : Hp) : Option (Int × Hp) :=
  ck (gR h 0 x0 0 = some (9, x0)) <|
  bd (f_X9_clear_u x0 h) fun v1 h2 =>
  ck (gR h2 0 x0 1 = some (1, x0)) <|
  lt (sI h2 1 x0 2 0) fun h3 =>
  lt (sI h3 0 x0 3 0) fun h4 =>
  lt (sI h4 0 x0 4 0) fun h5 =>
  lt (sI h5 0 x0 6 0) fun h6 =>
  lt (sI h6 0 x0 10 0) fun h7 =>
  lt (sI h7 0 x0 11 0) fun h8 =>
  lt (sI h8 0 x0 12 1) fun h9 =>
  lt (sI h9 0 x0 13 100) fun h10 =>
  lt (sI h10 0 x0 14 0) fun h11 =>
  some (0, h11)
noncomputable def g_X0_clear_u (n : Nat) : Rk := Nat.rec (motive := fun _ => Rk) (fun _ _ _ => none) (fun _ rec k l h => if k = 0 then b_X0_clear_u_0 rec (l.getD 0 0) h else none) n
noncomputable def f_X0_clear_u (x0 : Int) (h : Hp) : Option (Int × Hp) := g_X0_clear_u FU 0 [x0] h
set_option maxHeartbeats 4000000 in
set_option maxRecDepth 100000 in
theorem t_X0_clear_u_0 (E : xE) (d : Nat) (rec : Rk) (r : Int × Hp) (x0 : Int) (h : Hp) (hF : b_X0_clear_u_0 rec x0 h = some r) : X E mX0_clear (d + 2) (0, 0) (0, 0) 0 [some (xr 0 x0)] [] h (PuV r) := by
  unfold b_X0_clear_u_0 at hF
  refine x_aload_n (i := 0) (b := 1) dX0_clear_0 rfl rfl rfl ?_
  obtain ⟨hs, hF⟩ := ck_e hF
  refine x_getR (v := some (9, x0)) (b := 4) fk_X0_12 dX0_clear_1 rfl hs rfl ?_
  obtain ⟨v1, h2, hq, hF⟩ := bd_e hF
  refine x_callV (as := []) (rest := []) (b := 7) (c_X9_clear_u d x0 h _ hq) dX0_clear_4 cw_X0_76 ⟨_, _, rfl, Nat.le_of_ble_eq_true rfl⟩ rfl rfl (Nat.le_of_ble_eq_true rfl) ⟨Nat.le_refl _, Nat.le_refl _⟩ rfl (fun rv hh hp _ => ?_)
  obtain ⟨rfl, rfl⟩ := hp
  refine x_aload_n (i := 0) (b := 8) dX0_clear_7 rfl rfl rfl ?_
  obtain ⟨hs, hF⟩ := ck_e hF
  refine x_getR (v := some (1, x0)) (b := 11) fk_X0_21 dX0_clear_8 rfl hs rfl ?_
  refine x_iconst (n := 0) (b := 12) dX0_clear_11 (by decide) rfl ?_
  refine x_putI (b := 15) fk_X0_77 dX0_clear_12 rfl rfl 2 rfl ?_
  obtain ⟨h3, e_h3, hF⟩ := lt_e hF
  refine x_hp (h2 := h3) e_h3 ?_
  refine x_aload_n (i := 0) (b := 16) dX0_clear_15 rfl rfl rfl ?_
  refine x_iconst (n := 0) (b := 17) dX0_clear_16 (by decide) rfl ?_
  refine x_putI (b := 20) fk_X0_31 dX0_clear_17 rfl rfl 3 rfl ?_
  obtain ⟨h4, e_h4, hF⟩ := lt_e hF
  refine x_hp (h2 := h4) e_h4 ?_
  refine x_aload_n (i := 0) (b := 21) dX0_clear_20 rfl rfl rfl ?_
  refine x_iconst (n := 0) (b := 22) dX0_clear_21 (by decide) rfl ?_
  refine x_putI (b := 25) fk_X0_35 dX0_clear_22 rfl rfl 4 rfl ?_
  obtain ⟨h5, e_h5, hF⟩ := lt_e hF
  refine x_hp (h2 := h5) e_h5 ?_
  refine x_aload_n (i := 0) (b := 26) dX0_clear_25 rfl rfl rfl ?_
  refine x_iconst (n := 0) (b := 27) dX0_clear_26 (by decide) rfl ?_
  refine x_putI (b := 30) fk_X0_42 dX0_clear_27 rfl rfl 6 rfl ?_
  obtain ⟨h6, e_h6, hF⟩ := lt_e hF
  refine x_hp (h2 := h6) e_h6 ?_
  refine x_aload_n (i := 0) (b := 31) dX0_clear_30 rfl rfl rfl ?_
  refine x_iconst (n := 0) (b := 32) dX0_clear_31 (by decide) rfl ?_
  refine x_putI (b := 35) fk_X0_54 dX0_clear_32 rfl rfl 10 rfl ?_
  obtain ⟨h7, e_h7, hF⟩ := lt_e hF
  refine x_hp (h2 := h7) e_h7 ?_
  refine x_aload_n (i := 0) (b := 36) dX0_clear_35 rfl rfl rfl ?_
  refine x_iconst (n := 0) (b := 37) dX0_clear_36 (by decide) rfl ?_
  refine x_putI (b := 40) fk_X0_57 dX0_clear_37 rfl rfl 11 rfl ?_
  obtain ⟨h8, e_h8, hF⟩ := lt_e hF
  refine x_hp (h2 := h8) e_h8 ?_
  refine x_aload_n (i := 0) (b := 41) dX0_clear_40 rfl rfl rfl ?_
  refine x_iconst (n := 1) (b := 42) dX0_clear_41 (by decide) rfl ?_
  refine x_putI (b := 45) fk_X0_60 dX0_clear_42 rfl rfl 12 rfl ?_
  obtain ⟨h9, e_h9, hF⟩ := lt_e hF
  refine x_hp (h2 := h9) e_h9 ?_
  refine x_aload_n (i := 0) (b := 46) dX0_clear_45 rfl rfl rfl ?_
  refine x_bipush (n := 100) (b := 48) dX0_clear_46 (by decide) rfl ?_
  refine x_putI (b := 51) fk_X0_63 dX0_clear_48 rfl rfl 13 rfl ?_
  obtain ⟨h10, e_h10, hF⟩ := lt_e hF
  refine x_hp (h2 := h10) e_h10 ?_
  refine x_aload_n (i := 0) (b := 52) dX0_clear_51 rfl rfl rfl ?_
  refine x_iconst (n := 0) (b := 53) dX0_clear_52 (by decide) rfl ?_
  refine x_putI (b := 56) fk_X0_66 dX0_clear_53 rfl rfl 14 rfl ?_
  obtain ⟨h11, e_h11, hF⟩ := lt_e hF
  refine x_hp (h2 := h11) e_h11 ?_
  refine x_return dX0_clear_56 rfl ⟨Nat.le_refl _, Nat.le_refl _⟩ ?_
  cases hF
  exact ⟨rfl, rfl⟩
set_option maxHeartbeats 4000000 in
set_option maxRecDepth 100000 in
theorem u_X0_clear_u (E : xE) (d : Nat) (r : Int × Hp) : ∀ n : Nat, (∀ (x0 : Int) (h : Hp), g_X0_clear_u n 0 [x0] h = some r → X E mX0_clear (d + 2) (0, 0) (0, 0) 0 [some (xr 0 x0)] [] h (PuV r)) := by
  intro n
  induction n with
  | zero => exact fun _ _ hF => no_e (r := r) hF
  | succ n ih => exact fun x0 h hF => t_X0_clear_u_0 E d (g_X0_clear_u n) r  x0 h hF
theorem c_X0_clear_u (d : Nat) (x0 : Int) (h : Hp) (r : Int × Hp) (hF : f_X0_clear_u x0 h = some r) : Sp mX0_clear (d + 2) (0, 0) [xr 0 x0] h (PuV r) :=
  sp_of (by decide) rfl (Nat.le_of_ble_eq_true rfl) (ls := [some (xr 0 x0)]) rfl (fun E _ => (u_X0_clear_u E d r FU) x0 h hF)
noncomputable def b_X10_begin_u_0 (rec : Rk) (x0 x1 : Int) (h : Hp) : Option (Int × Hp) :=
  lt (sI h 10 x0 0 0) fun h1 =>
  ck (gR h1 0 x1 0 = some (9, x1)) <|
  lt (sI h1 10 x0 1 (gI h1 9 x1 4)) fun h2 =>
  lt (sI h2 10 x0 2 (gI h2 0 x1 13)) fun h3 =>
  lt (sI h3 10 x0 3 (gI h3 0 x1 14)) fun h4 =>
  ck (-2147483648 ≤ (bshl 1 (gI h4 0 x1 3)) - 1 ∧ (bshl 1 (gI h4 0 x1 3)) - 1 < 2147483648) <|
  lt (sI h4 10 x0 4 ((bshl 1 (gI h4 0 x1 3)) - 1)) fun h5 =>
  lt (sI h5 10 x0 5 0) fun h6 =>
  lt (sI h6 10 x0 6 0) fun h7 =>
  ck (gR h7 0 x1 0 = some (9, x1)) <|
  if (gI h7 10 x0 1) = (gI h7 9 x1 5) then (
    rec 1 [x0, 0, x0] h7
  ) else (
    rec 1 [x0, (-1), x0] h7
  )
noncomputable def b_X10_begin_u_1 (rec : Rk) (x0 y0 y1 : Int) (h : Hp) : Option (Int × Hp) :=
  lt (sI h 10 y1 7 y0) fun h1 =>
  rec 2 [x0, 0] h1
noncomputable def b_X10_begin_u_2 (rec : Rk) (x0 x2 : Int) (h : Hp) : Option (Int × Hp) :=
  if 9 ≤ x2 then (
    some (0, h)
  ) else (
    ck (gR h 10 x0 8 = some (57, x0)) <|
    ck (0 ≤ x2 ∧ x2 < 9) <|
    lt (sI h 57 x0 x2 0) fun h1 =>
    ck (-2147483648 ≤ x2 + 1 ∧ x2 + 1 < 2147483648) <|
    rec 2 [x0, x2 + 1] h1
  )
noncomputable def g_X10_begin_u (n : Nat) : Rk := Nat.rec (motive := fun _ => Rk) (fun _ _ _ => none) (fun _ rec k l h => if k = 0 then b_X10_begin_u_0 rec (l.getD 0 0) (l.getD 1 0) h else if k = 1 then b_X10_begin_u_1 rec (l.getD 0 0) (l.getD 1 0) (l.getD 2 0) h else if k = 2 then b_X10_begin_u_2 rec (l.getD 0 0) (l.getD 1 0) h else none) n
noncomputable def f_X10_begin_u (x0 x1 : Int) (h : Hp) : Option (Int × Hp) := g_X10_begin_u FU 0 [x0, x1] h
set_option maxHeartbeats 4000000 in
set_option maxRecDepth 100000 in
theorem t_X10_begin_u_0 (E : xE) (d : Nat) (rec : Rk) (r : Int × Hp) (hr_75 : ∀ (x0 y0 y1 : Int) (h : Hp), rec 1 [x0, y0, y1] h = some r → X E mX10_begin (d + 1) (0, 0) (0, 0) 75 [some (xr 10 x0), none, none] [xi y0, xr 10 y1] h (PuV r)) (x0 x1 : Int) (h : Hp) (hF : b_X10_begin_u_0 rec x0 x1 h = some r) : X E mX10_begin (d + 1) (0, 0) (0, 0) 0 [some (xr 10 x0), some (xr 0 x1), none] [] h (PuV r) := by
  unfold b_X10_begin_u_0 at hF
  refine x_aload_n (i := 0) (b := 1) dX10_begin_0 rfl rfl rfl ?_
  refine x_iconst (n := 0) (b := 2) dX10_begin_1 (by decide) rfl ?_
  refine x_putI (b := 5) fk_X10_9 dX10_begin_2 rfl rfl 0 rfl ?_
  obtain ⟨h1, e_h1, hF⟩ := lt_e hF
  refine x_hp (h2 := h1) e_h1 ?_
  refine x_aload_n (i := 0) (b := 6) dX10_begin_5 rfl rfl rfl ?_
  refine x_aload_n (i := 1) (b := 7) dX10_begin_6 rfl rfl rfl ?_
  obtain ⟨hs, hF⟩ := ck_e hF
  refine x_getR (v := some (9, x1)) (b := 10) fk_X10_41 dX10_begin_7 rfl hs rfl ?_
  refine x_getI (v := gI h1 9 x1 4) (b := 13) fk_X10_47 dX10_begin_10 (by decide) rfl rfl ?_
  refine x_putI (b := 16) fk_X10_15 dX10_begin_13 rfl rfl 1 rfl ?_
  obtain ⟨h2, e_h2, hF⟩ := lt_e hF
  refine x_hp (h2 := h2) e_h2 ?_
  refine x_aload_n (i := 0) (b := 17) dX10_begin_16 rfl rfl rfl ?_
  refine x_aload_n (i := 1) (b := 18) dX10_begin_17 rfl rfl rfl ?_
  refine x_getI (v := gI h2 0 x1 13) (b := 21) fk_X10_52 dX10_begin_18 (by decide) rfl rfl ?_
  refine x_putI (b := 24) fk_X10_18 dX10_begin_21 rfl rfl 2 rfl ?_
  obtain ⟨h3, e_h3, hF⟩ := lt_e hF
  refine x_hp (h2 := h3) e_h3 ?_
  refine x_aload_n (i := 0) (b := 25) dX10_begin_24 rfl rfl rfl ?_
  refine x_aload_n (i := 1) (b := 26) dX10_begin_25 rfl rfl rfl ?_
  refine x_getI (v := gI h3 0 x1 14) (b := 29) fk_X10_53 dX10_begin_26 (by decide) rfl rfl ?_
  refine x_i2l (b := 30) dX10_begin_29 rfl ?_
  refine x_putJ (b := 33) fk_X10_21 dX10_begin_30 rfl rfl 3 rfl ?_
  obtain ⟨h4, e_h4, hF⟩ := lt_e hF
  refine x_hp (h2 := h4) e_h4 ?_
  refine x_aload_n (i := 0) (b := 34) dX10_begin_33 rfl rfl rfl ?_
  refine x_iconst (n := 1) (b := 35) dX10_begin_34 (by decide) rfl ?_
  refine x_aload_n (i := 1) (b := 36) dX10_begin_35 rfl rfl rfl ?_
  refine x_getI (v := gI h4 0 x1 3) (b := 39) fk_X10_56 dX10_begin_36 (by decide) rfl rfl ?_
  refine x_ishl (b := 40) dX10_begin_39 rfl ?_
  refine x_iconst (n := 1) (b := 41) dX10_begin_40 (by decide) rfl ?_
  obtain ⟨hs, hF⟩ := ck_e hF
  refine x_isub (b := 42) dX10_begin_41 hs rfl ?_
  refine x_putI (b := 45) fk_X10_25 dX10_begin_42 rfl rfl 4 rfl ?_
  obtain ⟨h5, e_h5, hF⟩ := lt_e hF
  refine x_hp (h2 := h5) e_h5 ?_
  refine x_aload_n (i := 0) (b := 46) dX10_begin_45 rfl rfl rfl ?_
  refine x_iconst (n := 0) (b := 47) dX10_begin_46 (by decide) rfl ?_
  refine x_putI (b := 50) fk_X10_28 dX10_begin_47 rfl rfl 5 rfl ?_
  obtain ⟨h6, e_h6, hF⟩ := lt_e hF
  refine x_hp (h2 := h6) e_h6 ?_
  refine x_aload_n (i := 0) (b := 51) dX10_begin_50 rfl rfl rfl ?_
  refine x_iconst (n := 0) (b := 52) dX10_begin_51 (by decide) rfl ?_
  refine x_putI (b := 55) fk_X10_31 dX10_begin_52 rfl rfl 6 rfl ?_
  obtain ⟨h7, e_h7, hF⟩ := lt_e hF
  refine x_hp (h2 := h7) e_h7 ?_
  refine x_aload_n (i := 0) (b := 56) dX10_begin_55 rfl rfl rfl ?_
  refine x_aload_n (i := 0) (b := 57) dX10_begin_56 rfl rfl rfl ?_
  refine x_getI (v := gI h7 10 x0 1) (b := 60) fk_X10_15 dX10_begin_57 (by decide) rfl rfl ?_
  refine x_aload_n (i := 1) (b := 61) dX10_begin_60 rfl rfl rfl ?_
  obtain ⟨hs, hF⟩ := ck_e hF
  refine x_getR (v := some (9, x1)) (b := 64) fk_X10_41 dX10_begin_61 rfl hs rfl ?_
  refine x_getI (v := gI h7 9 x1 5) (b := 67) fk_X10_59 dX10_begin_64 (by decide) rfl rfl ?_
  refine x_icmp_ne (tgt := 74) (b := 70) dX10_begin_67 (by decide) rfl (fun hc => ?_) (fun hc => ?_)
  · replace hF := br_F hc hF
    refine x_iconst (n := (-1)) (b := 75) dX10_begin_74 (by decide) rfl ?_
    exact x_dp (ls2 := [some (xr 10 x0), none, none]) ⟨rfl, trivial⟩ (hr_75 x0 (-1) x0 h7 hF)
  · replace hF := br_T hc hF
    refine x_iconst (n := 0) (b := 71) dX10_begin_70 (by decide) rfl ?_
    refine x_goto (tgt := 75) dX10_begin_71 (by decide) ?_
    exact x_dp (ls2 := [some (xr 10 x0), none, none]) ⟨rfl, trivial⟩ (hr_75 x0 0 x0 h7 hF)
set_option maxHeartbeats 4000000 in
set_option maxRecDepth 100000 in
theorem t_X10_begin_u_1 (E : xE) (d : Nat) (rec : Rk) (r : Int × Hp) (hr_80 : ∀ (x0 x2 : Int) (h : Hp), rec 2 [x0, x2] h = some r → X E mX10_begin (d + 1) (0, 0) (0, 0) 80 [some (xr 10 x0), none, some (xi x2)] [] h (PuV r)) (x0 y0 y1 : Int) (h : Hp) (hF : b_X10_begin_u_1 rec x0 y0 y1 h = some r) : X E mX10_begin (d + 1) (0, 0) (0, 0) 75 [some (xr 10 x0), none, none] [xi y0, xr 10 y1] h (PuV r) := by
  unfold b_X10_begin_u_1 at hF
  refine x_putI (b := 78) fk_X10_34 dX10_begin_75 rfl rfl 7 rfl ?_
  obtain ⟨h1, e_h1, hF⟩ := lt_e hF
  refine x_hp (h2 := h1) e_h1 ?_
  refine x_iconst (n := 0) (b := 79) dX10_begin_78 (by decide) rfl ?_
  refine x_istore_n (i := 2) (b := 80) (ls2 := [some (xr 10 x0), none, some (xi 0)]) dX10_begin_79 rfl (Nat.le_of_ble_eq_true rfl) rfl rfl ?_
  exact x_dp (ls2 := [some (xr 10 x0), none, some (xi 0)]) ⟨rfl, rfl, trivial⟩ (hr_80 x0 0 h1 hF)
set_option maxHeartbeats 4000000 in
set_option maxRecDepth 100000 in
theorem t_X10_begin_u_2 (E : xE) (d : Nat) (rec : Rk) (r : Int × Hp) (hr_80 : ∀ (x0 x2 : Int) (h : Hp), rec 2 [x0, x2] h = some r → X E mX10_begin (d + 1) (0, 0) (0, 0) 80 [some (xr 10 x0), none, some (xi x2)] [] h (PuV r)) (x0 x2 : Int) (h : Hp) (hF : b_X10_begin_u_2 rec x0 x2 h = some r) : X E mX10_begin (d + 1) (0, 0) (0, 0) 80 [some (xr 10 x0), none, some (xi x2)] [] h (PuV r) := by
  unfold b_X10_begin_u_2 at hF
  refine x_iload_n (i := 2) (b := 81) dX10_begin_80 rfl rfl rfl ?_
  refine x_bipush (n := 9) (b := 83) dX10_begin_81 (by decide) rfl ?_
  refine x_icmp_ge (tgt := 99) (b := 86) dX10_begin_83 (by decide) rfl (fun hc => ?_) (fun hc => ?_)
  · replace hF := br_T hc hF
    refine x_return dX10_begin_99 rfl ⟨Nat.le_refl _, Nat.le_refl _⟩ ?_
    cases hF
    exact ⟨rfl, rfl⟩
  · replace hF := br_F hc hF
    refine x_aload_n (i := 0) (b := 87) dX10_begin_86 rfl rfl rfl ?_
    obtain ⟨hs, hF⟩ := ck_e hF
    refine x_getR (v := some (57, x0)) (b := 90) fk_X10_37 dX10_begin_87 rfl hs rfl ?_
    refine x_iload_n (i := 2) (b := 91) dX10_begin_90 rfl rfl rfl ?_
    refine x_iconst (n := 0) (b := 92) dX10_begin_91 (by decide) rfl ?_
    obtain ⟨hs, hF⟩ := ck_e hF
    have hs1 := hs
    refine x_iast (b := 93) ak_57 dX10_begin_92 hs1 rfl ?_
    obtain ⟨h1, e_h1, hF⟩ := lt_e hF
    refine x_hp (h2 := h1) e_h1 ?_
    obtain ⟨hs, hF⟩ := ck_e hF
    refine x_iinc (i := 2) (b := 96) (ls2 := [some (xr 10 x0), none, some (xi (x2 + 1))]) dX10_begin_93 rfl (Nat.le_of_ble_eq_true rfl) hs rfl rfl ?_
    refine x_goto (tgt := 80) dX10_begin_96 (by decide) ?_
    exact x_dp (ls2 := [some (xr 10 x0), none, some (xi (x2 + 1))]) ⟨rfl, rfl, trivial⟩ (hr_80 x0 (x2 + 1) h1 hF)
set_option maxHeartbeats 4000000 in
set_option maxRecDepth 100000 in
theorem u_X10_begin_u (E : xE) (d : Nat) (r : Int × Hp) : ∀ n : Nat, (∀ (x0 x1 : Int) (h : Hp), g_X10_begin_u n 0 [x0, x1] h = some r → X E mX10_begin (d + 1) (0, 0) (0, 0) 0 [some (xr 10 x0), some (xr 0 x1), none] [] h (PuV r)) ∧ (∀ (x0 y0 y1 : Int) (h : Hp), g_X10_begin_u n 1 [x0, y0, y1] h = some r → X E mX10_begin (d + 1) (0, 0) (0, 0) 75 [some (xr 10 x0), none, none] [xi y0, xr 10 y1] h (PuV r)) ∧ (∀ (x0 x2 : Int) (h : Hp), g_X10_begin_u n 2 [x0, x2] h = some r → X E mX10_begin (d + 1) (0, 0) (0, 0) 80 [some (xr 10 x0), none, some (xi x2)] [] h (PuV r)) := by
  intro n
  induction n with
  | zero => exact ⟨fun _ _ _ hF => no_e (r := r) hF, fun _ _ _ _ hF => no_e (r := r) hF, fun _ _ _ hF => no_e (r := r) hF⟩
  | succ n ih => exact ⟨fun x0 x1 h hF => t_X10_begin_u_0 E d (g_X10_begin_u n) r ih.2.1 x0 x1 h hF, fun x0 y0 y1 h hF => t_X10_begin_u_1 E d (g_X10_begin_u n) r ih.2.2 x0 y0 y1 h hF, fun x0 x2 h hF => t_X10_begin_u_2 E d (g_X10_begin_u n) r ih.2.2 x0 x2 h hF⟩
theorem c_X10_begin_u (d : Nat) (x0 x1 : Int) (h : Hp) (r : Int × Hp) (hF : f_X10_begin_u x0 x1 h = some r) : Sp mX10_begin (d + 1) (0, 0) [xr 10 x0, xr 0 x1] h (PuV r) :=
  sp_of (by decide) rfl (Nat.le_of_ble_eq_true rfl) (ls := [some (xr 10 x0), some (xr 0 x1), none]) rfl (fun E _ => (u_X10_begin_u E d r FU).1 x0 x1 h hF)
noncomputable def b_X12_cells_u_0 (rec : Rk) (h : Hp) : Option (Int × Hp) :=
  ck (gR h 12 0 3 = some (61, 0)) <|
  ck (0 ≤ (0 : Int) ∧ (0 : Int) < 30) <|
  ck (gR h 12 0 3 = some (61, 0)) <|
  ck (0 ≤ (1 : Int) ∧ (1 : Int) < 30) <|
  ck (-2147483648 ≤ (gI h 61 0 0) * (gI h 61 0 1) ∧ (gI h 61 0 0) * (gI h 61 0 1) < 2147483648) <|
  some ((gI h 61 0 0) * (gI h 61 0 1), h)
noncomputable def g_X12_cells_u (n : Nat) : Rk := Nat.rec (motive := fun _ => Rk) (fun _ _ _ => none) (fun _ rec k l h => if k = 0 then b_X12_cells_u_0 rec  h else none) n
noncomputable def f_X12_cells_u (h : Hp) : Option (Int × Hp) := g_X12_cells_u FU 0 [] h
set_option maxHeartbeats 4000000 in
set_option maxRecDepth 100000 in
theorem t_X12_cells_u_0 (E : xE) (d : Nat) (rec : Rk) (r : Int × Hp) (h : Hp) (hF : b_X12_cells_u_0 rec  h = some r) : X E mX12_cells (d + 1) (0, 0) (0, 0) 0 [some (xr 12 0)] [] h (PuI r) := by
  unfold b_X12_cells_u_0 at hF
  refine x_aload_n (i := 0) (b := 1) dX12_cells_0 rfl rfl rfl ?_
  obtain ⟨hs, hF⟩ := ck_e hF
  refine x_getR (v := some (61, 0)) (b := 4) fk_X12_13 dX12_cells_1 rfl hs rfl ?_
  refine x_iconst (n := 0) (b := 5) dX12_cells_4 (by decide) rfl ?_
  obtain ⟨hs, hF⟩ := ck_e hF
  refine x_iald (v := gI h 61 0 0) (b := 6) ak_61 dX12_cells_5 hs rfl rfl ?_
  refine x_aload_n (i := 0) (b := 7) dX12_cells_6 rfl rfl rfl ?_
  obtain ⟨hs, hF⟩ := ck_e hF
  refine x_getR (v := some (61, 0)) (b := 10) fk_X12_13 dX12_cells_7 rfl hs rfl ?_
  refine x_iconst (n := 1) (b := 11) dX12_cells_10 (by decide) rfl ?_
  obtain ⟨hs, hF⟩ := ck_e hF
  refine x_iald (v := gI h 61 0 1) (b := 12) ak_61 dX12_cells_11 hs rfl rfl ?_
  obtain ⟨hs, hF⟩ := ck_e hF
  refine x_imul (b := 13) dX12_cells_12 hs rfl ?_
  refine x_ireturn dX12_cells_13 rfl ⟨Nat.le_refl _, Nat.le_refl _⟩ ?_
  cases hF
  exact ⟨rfl, rfl⟩
set_option maxHeartbeats 4000000 in
set_option maxRecDepth 100000 in
theorem u_X12_cells_u (E : xE) (d : Nat) (r : Int × Hp) : ∀ n : Nat, (∀ (h : Hp), g_X12_cells_u n 0 [] h = some r → X E mX12_cells (d + 1) (0, 0) (0, 0) 0 [some (xr 12 0)] [] h (PuI r)) := by
  intro n
  induction n with
  | zero => exact fun _ hF => no_e (r := r) hF
  | succ n ih => exact fun h hF => t_X12_cells_u_0 E d (g_X12_cells_u n) r   h hF
theorem c_X12_cells_u (d : Nat) (h : Hp) (r : Int × Hp) (hF : f_X12_cells_u  h = some r) : Sp mX12_cells (d + 1) (0, 0) [xr 12 0] h (PuI r) :=
  sp_of (by decide) rfl (Nat.le_of_ble_eq_true rfl) (ls := [some (xr 12 0)]) rfl (fun E _ => (u_X12_cells_u E d r FU)  h hF)
noncomputable def b_X12_leads_u_0 (rec : Rk) (x1 x2 : Int) (h : Hp) : Option (Int × Hp) :=
  ck (gR h 12 0 3 = some (61, 0)) <|
  ck (0 ≤ (0 : Int) ∧ (0 : Int) < 30) <|
  ck ((0 : Int) ≤ x1 ∧ (0 : Int) < (gI h 61 0 0)) <|
  if x2 = 1 then (
    rec 1 [x1, x2, 1, x1 % (gI h 61 0 0)] h
  ) else (
    if x2 = 3 then (
      rec 1 [x1, x2, (-1), x1 % (gI h 61 0 0)] h
    ) else (
      rec 1 [x1, x2, 0, x1 % (gI h 61 0 0)] h
    )
  )
noncomputable def b_X12_leads_u_1 (rec : Rk) (x1 x2 y0 y1 : Int) (h : Hp) : Option (Int × Hp) :=
  ck (-2147483648 ≤ y1 + y0 ∧ y1 + y0 < 2147483648) <|
  lt (y1 + y0) fun z1 =>
  ck (gR h 12 0 3 = some (61, 0)) <|
  ck (0 ≤ (0 : Int) ∧ (0 : Int) < 30) <|
  ck ((0 : Int) ≤ x1 ∧ (0 : Int) < (gI h 61 0 0)) <|
  if x2 = 2 then (
    rec 2 [z1, 1, x1 / (gI h 61 0 0)] h
  ) else (
    if x2 = 0 then (
      rec 2 [z1, (-1), x1 / (gI h 61 0 0)] h
    ) else (
      rec 2 [z1, 0, x1 / (gI h 61 0 0)] h
    )
  )
noncomputable def b_X12_leads_u_2 (rec : Rk) (x3 y0 y1 : Int) (h : Hp) : Option (Int × Hp) :=
  ck (-2147483648 ≤ y1 + y0 ∧ y1 + y0 < 2147483648) <|
  lt (y1 + y0) fun z1 =>
  if x3 < 0 then (
    rec 3 [] h
  ) else (
    if z1 < 0 then (
      rec 3 [] h
    ) else (
      ck (gR h 12 0 3 = some (61, 0)) <|
      ck (0 ≤ (0 : Int) ∧ (0 : Int) < 30) <|
      if (gI h 61 0 0) ≤ x3 then (
        rec 3 [] h
      ) else (
        ck (gR h 12 0 3 = some (61, 0)) <|
        ck (0 ≤ (1 : Int) ∧ (1 : Int) < 30) <|
        if z1 < (gI h 61 0 1) then (
          ck (gR h 12 0 3 = some (61, 0)) <|
          ck (0 ≤ (0 : Int) ∧ (0 : Int) < 30) <|
          ck (-2147483648 ≤ z1 * (gI h 61 0 0) ∧ z1 * (gI h 61 0 0) < 2147483648) <|
          ck (-2147483648 ≤ (z1 * (gI h 61 0 0)) + x3 ∧ (z1 * (gI h 61 0 0)) + x3 < 2147483648) <|
          some ((z1 * (gI h 61 0 0)) + x3, h)
        ) else (
          rec 3 [] h
        )
      )
    )
  )
noncomputable def b_X12_leads_u_3 (rec : Rk) (h : Hp) : Option (Int × Hp) :=
  some ((-1), h)
noncomputable def g_X12_leads_u (n : Nat) : Rk := Nat.rec (motive := fun _ => Rk) (fun _ _ _ => none) (fun _ rec k l h => if k = 0 then b_X12_leads_u_0 rec (l.getD 0 0) (l.getD 1 0) h else if k = 1 then b_X12_leads_u_1 rec (l.getD 0 0) (l.getD 1 0) (l.getD 2 0) (l.getD 3 0) h else if k = 2 then b_X12_leads_u_2 rec (l.getD 0 0) (l.getD 1 0) (l.getD 2 0) h else if k = 3 then b_X12_leads_u_3 rec  h else none) n
noncomputable def f_X12_leads_u (x1 x2 : Int) (h : Hp) : Option (Int × Hp) := g_X12_leads_u FU 0 [x1, x2] h
set_option maxHeartbeats 4000000 in
set_option maxRecDepth 100000 in
theorem t_X12_leads_u_0 (E : xE) (d : Nat) (rec : Rk) (r : Int × Hp) (hr_27 : ∀ (x1 x2 y0 y1 : Int) (h : Hp), rec 1 [x1, x2, y0, y1] h = some r → X E mX12_leads (d + 1) (0, 0) (0, 0) 27 [some (xr 12 0), some (xi x1), some (xi x2), none, none] [xi y0, xi y1] h (PuI r)) (x1 x2 : Int) (h : Hp) (hF : b_X12_leads_u_0 rec x1 x2 h = some r) : X E mX12_leads (d + 1) (0, 0) (0, 0) 0 [some (xr 12 0), some (xi x1), some (xi x2), none, none] [] h (PuI r) := by
  unfold b_X12_leads_u_0 at hF
  refine x_iload_n (i := 1) (b := 1) dX12_leads_0 rfl rfl rfl ?_
  refine x_aload_n (i := 0) (b := 2) dX12_leads_1 rfl rfl rfl ?_
  obtain ⟨hs, hF⟩ := ck_e hF
  refine x_getR (v := some (61, 0)) (b := 5) fk_X12_13 dX12_leads_2 rfl hs rfl ?_
  refine x_iconst (n := 0) (b := 6) dX12_leads_5 (by decide) rfl ?_
  obtain ⟨hs, hF⟩ := ck_e hF
  refine x_iald (v := gI h 61 0 0) (b := 7) ak_61 dX12_leads_6 hs rfl rfl ?_
  obtain ⟨hs, hF⟩ := ck_e hF
  refine x_irem (b := 8) dX12_leads_7 hs.1 hs.2 rfl ?_
  refine x_iload_n (i := 2) (b := 9) dX12_leads_8 rfl rfl rfl ?_
  refine x_iconst (n := 1) (b := 10) dX12_leads_9 (by decide) rfl ?_
  refine x_icmp_ne (tgt := 17) (b := 13) dX12_leads_10 (by decide) rfl (fun hc => ?_) (fun hc => ?_)
  · replace hF := br_F hc hF
    refine x_iload_n (i := 2) (b := 18) dX12_leads_17 rfl rfl rfl ?_
    refine x_iconst (n := 3) (b := 19) dX12_leads_18 (by decide) rfl ?_
    refine x_icmp_ne (tgt := 26) (b := 22) dX12_leads_19 (by decide) rfl (fun hc => ?_) (fun hc => ?_)
    · replace hF := br_F hc hF
      refine x_iconst (n := 0) (b := 27) dX12_leads_26 (by decide) rfl ?_
      exact x_dp (ls2 := [some (xr 12 0), some (xi x1), some (xi x2), none, none]) ⟨rfl, rfl, rfl, trivial⟩ (hr_27 x1 x2 0 (x1 % (gI h 61 0 0)) h hF)
    · replace hF := br_T hc hF
      refine x_iconst (n := (-1)) (b := 23) dX12_leads_22 (by decide) rfl ?_
      refine x_goto (tgt := 27) dX12_leads_23 (by decide) ?_
      exact x_dp (ls2 := [some (xr 12 0), some (xi x1), some (xi x2), none, none]) ⟨rfl, rfl, rfl, trivial⟩ (hr_27 x1 x2 (-1) (x1 % (gI h 61 0 0)) h hF)
  · replace hF := br_T hc hF
    refine x_iconst (n := 1) (b := 14) dX12_leads_13 (by decide) rfl ?_
    refine x_goto (tgt := 27) dX12_leads_14 (by decide) ?_
    exact x_dp (ls2 := [some (xr 12 0), some (xi x1), some (xi x2), none, none]) ⟨rfl, rfl, rfl, trivial⟩ (hr_27 x1 x2 1 (x1 % (gI h 61 0 0)) h hF)
set_option maxHeartbeats 4000000 in
set_option maxRecDepth 100000 in
theorem t_X12_leads_u_1 (E : xE) (d : Nat) (rec : Rk) (r : Int × Hp) (hr_55 : ∀ (x3 y0 y1 : Int) (h : Hp), rec 2 [x3, y0, y1] h = some r → X E mX12_leads (d + 1) (0, 0) (0, 0) 55 [some (xr 12 0), none, none, some (xi x3), none] [xi y0, xi y1] h (PuI r)) (x1 x2 y0 y1 : Int) (h : Hp) (hF : b_X12_leads_u_1 rec x1 x2 y0 y1 h = some r) : X E mX12_leads (d + 1) (0, 0) (0, 0) 27 [some (xr 12 0), some (xi x1), some (xi x2), none, none] [xi y0, xi y1] h (PuI r) := by
  unfold b_X12_leads_u_1 at hF
  obtain ⟨hs, hF⟩ := ck_e hF
  refine x_iadd (b := 28) dX12_leads_27 hs rfl ?_
  obtain ⟨z1, e_z1, hF⟩ := lt_e hF
  refine x_eq (y := z1) e_z1 ?_
  refine x_istore_n (i := 3) (b := 29) (ls2 := [some (xr 12 0), some (xi x1), some (xi x2), some (xi z1), none]) dX12_leads_28 rfl (Nat.le_of_ble_eq_true rfl) rfl rfl ?_
  refine x_iload_n (i := 1) (b := 30) dX12_leads_29 rfl rfl rfl ?_
  refine x_aload_n (i := 0) (b := 31) dX12_leads_30 rfl rfl rfl ?_
  obtain ⟨hs, hF⟩ := ck_e hF
  refine x_getR (v := some (61, 0)) (b := 34) fk_X12_13 dX12_leads_31 rfl hs rfl ?_
  refine x_iconst (n := 0) (b := 35) dX12_leads_34 (by decide) rfl ?_
  obtain ⟨hs, hF⟩ := ck_e hF
  refine x_iald (v := gI h 61 0 0) (b := 36) ak_61 dX12_leads_35 hs rfl rfl ?_
  obtain ⟨hs, hF⟩ := ck_e hF
  refine x_idiv (b := 37) dX12_leads_36 hs.1 hs.2 rfl ?_
  refine x_iload_n (i := 2) (b := 38) dX12_leads_37 rfl rfl rfl ?_
  refine x_iconst (n := 2) (b := 39) dX12_leads_38 (by decide) rfl ?_
  refine x_icmp_ne (tgt := 46) (b := 42) dX12_leads_39 (by decide) rfl (fun hc => ?_) (fun hc => ?_)
  · replace hF := br_F hc hF
    refine x_iload_n (i := 2) (b := 47) dX12_leads_46 rfl rfl rfl ?_
    refine x_if_ne (tgt := 54) (b := 50) dX12_leads_47 (by decide) rfl (fun hc => ?_) (fun hc => ?_)
    · replace hF := br_F hc hF
      refine x_iconst (n := 0) (b := 55) dX12_leads_54 (by decide) rfl ?_
      exact x_dp (ls2 := [some (xr 12 0), none, none, some (xi z1), none]) ⟨rfl, rfl, trivial⟩ (hr_55 z1 0 (x1 / (gI h 61 0 0)) h hF)
    · replace hF := br_T hc hF
      refine x_iconst (n := (-1)) (b := 51) dX12_leads_50 (by decide) rfl ?_
      refine x_goto (tgt := 55) dX12_leads_51 (by decide) ?_
      exact x_dp (ls2 := [some (xr 12 0), none, none, some (xi z1), none]) ⟨rfl, rfl, trivial⟩ (hr_55 z1 (-1) (x1 / (gI h 61 0 0)) h hF)
  · replace hF := br_T hc hF
    refine x_iconst (n := 1) (b := 43) dX12_leads_42 (by decide) rfl ?_
    refine x_goto (tgt := 55) dX12_leads_43 (by decide) ?_
    exact x_dp (ls2 := [some (xr 12 0), none, none, some (xi z1), none]) ⟨rfl, rfl, trivial⟩ (hr_55 z1 1 (x1 / (gI h 61 0 0)) h hF)
set_option maxHeartbeats 4000000 in
set_option maxRecDepth 100000 in
theorem t_X12_leads_u_2 (E : xE) (d : Nat) (rec : Rk) (r : Int × Hp) (hr_88 : ∀ (h : Hp), rec 3 [] h = some r → X E mX12_leads (d + 1) (0, 0) (0, 0) 88 [none, none, none, none, none] [] h (PuI r)) (x3 y0 y1 : Int) (h : Hp) (hF : b_X12_leads_u_2 rec x3 y0 y1 h = some r) : X E mX12_leads (d + 1) (0, 0) (0, 0) 55 [some (xr 12 0), none, none, some (xi x3), none] [xi y0, xi y1] h (PuI r) := by
  unfold b_X12_leads_u_2 at hF
  obtain ⟨hs, hF⟩ := ck_e hF
  refine x_iadd (b := 56) dX12_leads_55 hs rfl ?_
  obtain ⟨z1, e_z1, hF⟩ := lt_e hF
  refine x_eq (y := z1) e_z1 ?_
  refine x_istore (i := 4) (b := 58) (ls2 := [some (xr 12 0), none, none, some (xi x3), some (xi z1)]) dX12_leads_56 (Nat.le_of_ble_eq_true rfl) rfl rfl ?_
  refine x_iload_n (i := 3) (b := 59) dX12_leads_58 rfl rfl rfl ?_
  refine x_if_lt (tgt := 88) (b := 62) dX12_leads_59 (by decide) rfl (fun hc => ?_) (fun hc => ?_)
  · replace hF := br_T hc hF
    exact x_dp (ls2 := [none, none, none, none, none]) trivial (hr_88  h hF)
  · replace hF := br_F hc hF
    refine x_iload (i := 4) (b := 64) dX12_leads_62 rfl rfl ?_
    refine x_if_lt (tgt := 88) (b := 67) dX12_leads_64 (by decide) rfl (fun hc => ?_) (fun hc => ?_)
    · replace hF := br_T hc hF
      exact x_dp (ls2 := [none, none, none, none, none]) trivial (hr_88  h hF)
    · replace hF := br_F hc hF
      refine x_iload_n (i := 3) (b := 68) dX12_leads_67 rfl rfl rfl ?_
      refine x_aload_n (i := 0) (b := 69) dX12_leads_68 rfl rfl rfl ?_
      obtain ⟨hs, hF⟩ := ck_e hF
      refine x_getR (v := some (61, 0)) (b := 72) fk_X12_13 dX12_leads_69 rfl hs rfl ?_
      refine x_iconst (n := 0) (b := 73) dX12_leads_72 (by decide) rfl ?_
      obtain ⟨hs, hF⟩ := ck_e hF
      refine x_iald (v := gI h 61 0 0) (b := 74) ak_61 dX12_leads_73 hs rfl rfl ?_
      refine x_icmp_ge (tgt := 88) (b := 77) dX12_leads_74 (by decide) rfl (fun hc => ?_) (fun hc => ?_)
      · replace hF := br_T hc hF
        exact x_dp (ls2 := [none, none, none, none, none]) trivial (hr_88  h hF)
      · replace hF := br_F hc hF
        refine x_iload (i := 4) (b := 79) dX12_leads_77 rfl rfl ?_
        refine x_aload_n (i := 0) (b := 80) dX12_leads_79 rfl rfl rfl ?_
        obtain ⟨hs, hF⟩ := ck_e hF
        refine x_getR (v := some (61, 0)) (b := 83) fk_X12_13 dX12_leads_80 rfl hs rfl ?_
        refine x_iconst (n := 1) (b := 84) dX12_leads_83 (by decide) rfl ?_
        obtain ⟨hs, hF⟩ := ck_e hF
        refine x_iald (v := gI h 61 0 1) (b := 85) ak_61 dX12_leads_84 hs rfl rfl ?_
        refine x_icmp_lt (tgt := 92) (b := 88) dX12_leads_85 (by decide) rfl (fun hc => ?_) (fun hc => ?_)
        · replace hF := br_T hc hF
          refine x_iload (i := 4) (b := 94) dX12_leads_92 rfl rfl ?_
          refine x_aload_n (i := 0) (b := 95) dX12_leads_94 rfl rfl rfl ?_
          obtain ⟨hs, hF⟩ := ck_e hF
          refine x_getR (v := some (61, 0)) (b := 98) fk_X12_13 dX12_leads_95 rfl hs rfl ?_
          refine x_iconst (n := 0) (b := 99) dX12_leads_98 (by decide) rfl ?_
          obtain ⟨hs, hF⟩ := ck_e hF
          refine x_iald (v := gI h 61 0 0) (b := 100) ak_61 dX12_leads_99 hs rfl rfl ?_
          obtain ⟨hs, hF⟩ := ck_e hF
          refine x_imul (b := 101) dX12_leads_100 hs rfl ?_
          refine x_iload_n (i := 3) (b := 102) dX12_leads_101 rfl rfl rfl ?_
          obtain ⟨hs, hF⟩ := ck_e hF
          refine x_iadd (b := 103) dX12_leads_102 hs rfl ?_
          refine x_ireturn dX12_leads_103 rfl ⟨Nat.le_refl _, Nat.le_refl _⟩ ?_
          cases hF
          exact ⟨rfl, rfl⟩
        · replace hF := br_F hc hF
          exact x_dp (ls2 := [none, none, none, none, none]) trivial (hr_88  h hF)
set_option maxHeartbeats 4000000 in
set_option maxRecDepth 100000 in
theorem t_X12_leads_u_3 (E : xE) (d : Nat) (rec : Rk) (r : Int × Hp) (h : Hp) (hF : b_X12_leads_u_3 rec  h = some r) : X E mX12_leads (d + 1) (0, 0) (0, 0) 88 [none, none, none, none, none] [] h (PuI r) := by
  unfold b_X12_leads_u_3 at hF
  refine x_iconst (n := (-1)) (b := 89) dX12_leads_88 (by decide) rfl ?_
  refine x_goto (tgt := 103) dX12_leads_89 (by decide) ?_
  refine x_ireturn dX12_leads_103 rfl ⟨Nat.le_refl _, Nat.le_refl _⟩ ?_
  cases hF
  exact ⟨rfl, rfl⟩
set_option maxHeartbeats 4000000 in
set_option maxRecDepth 100000 in
theorem u_X12_leads_u (E : xE) (d : Nat) (r : Int × Hp) : ∀ n : Nat, (∀ (x1 x2 : Int) (h : Hp), g_X12_leads_u n 0 [x1, x2] h = some r → X E mX12_leads (d + 1) (0, 0) (0, 0) 0 [some (xr 12 0), some (xi x1), some (xi x2), none, none] [] h (PuI r)) ∧ (∀ (x1 x2 y0 y1 : Int) (h : Hp), g_X12_leads_u n 1 [x1, x2, y0, y1] h = some r → X E mX12_leads (d + 1) (0, 0) (0, 0) 27 [some (xr 12 0), some (xi x1), some (xi x2), none, none] [xi y0, xi y1] h (PuI r)) ∧ (∀ (x3 y0 y1 : Int) (h : Hp), g_X12_leads_u n 2 [x3, y0, y1] h = some r → X E mX12_leads (d + 1) (0, 0) (0, 0) 55 [some (xr 12 0), none, none, some (xi x3), none] [xi y0, xi y1] h (PuI r)) ∧ (∀ (h : Hp), g_X12_leads_u n 3 [] h = some r → X E mX12_leads (d + 1) (0, 0) (0, 0) 88 [none, none, none, none, none] [] h (PuI r)) := by
  intro n
  induction n with
  | zero => exact ⟨fun _ _ _ hF => no_e (r := r) hF, fun _ _ _ _ _ hF => no_e (r := r) hF, fun _ _ _ _ hF => no_e (r := r) hF, fun _ hF => no_e (r := r) hF⟩
  | succ n ih => exact ⟨fun x1 x2 h hF => t_X12_leads_u_0 E d (g_X12_leads_u n) r ih.2.1 x1 x2 h hF, fun x1 x2 y0 y1 h hF => t_X12_leads_u_1 E d (g_X12_leads_u n) r ih.2.2.1 x1 x2 y0 y1 h hF, fun x3 y0 y1 h hF => t_X12_leads_u_2 E d (g_X12_leads_u n) r ih.2.2.2 x3 y0 y1 h hF, fun h hF => t_X12_leads_u_3 E d (g_X12_leads_u n) r   h hF⟩
theorem c_X12_leads_u (d : Nat) (x1 x2 : Int) (h : Hp) (r : Int × Hp) (hF : f_X12_leads_u x1 x2 h = some r) : Sp mX12_leads (d + 1) (0, 0) [xr 12 0, xi x1, xi x2] h (PuI r) :=
  sp_of (by decide) rfl (Nat.le_of_ble_eq_true rfl) (ls := [some (xr 12 0), some (xi x1), some (xi x2), none, none]) rfl (fun E _ => (u_X12_leads_u E d r FU).1 x1 x2 h hF)
noncomputable def b_X12_layFar_u_0 (rec : Rk) (h : Hp) : Option (Int × Hp) :=
  rec 1 [0] h
noncomputable def b_X12_layFar_u_1 (rec : Rk) (x1 : Int) (h : Hp) : Option (Int × Hp) :=
  ck (gR h 12 0 38 = some (83, 0)) <|
  if 4096 ≤ x1 then (
    rec 2 [0] h
  ) else (
    ck (gR h 12 0 38 = some (83, 0)) <|
    ck (0 ≤ x1 ∧ x1 < 4096) <|
    lt (sI h 83 0 x1 99) fun h1 =>
    ck (-2147483648 ≤ x1 + 1 ∧ x1 + 1 < 2147483648) <|
    rec 1 [x1 + 1] h1
  )
noncomputable def b_X12_layFar_u_2 (rec : Rk) (x1 : Int) (h : Hp) : Option (Int × Hp) :=
  bd (f_X12_cells_u h) fun v1 h2 =>
  if v1 ≤ x1 then (
    some (0, h2)
  ) else (
    ck (gR h2 12 0 4 = some (62, 0)) <|
    ck (0 ≤ x1 ∧ x1 < 128) <|
    if (gI h2 62 0 x1) = 0 then (
      ck (gR h2 12 0 38 = some (83, 0)) <|
      ck (-2147483648 ≤ 64 * x1 ∧ 64 * x1 < 2147483648) <|
      ck (-2147483648 ≤ (64 * x1) + x1 ∧ (64 * x1) + x1 < 2147483648) <|
      ck (0 ≤ ((64 * x1) + x1) ∧ ((64 * x1) + x1) < 4096) <|
      lt (sI h2 83 0 ((64 * x1) + x1) 0) fun h3 =>
      rec 3 [x1, 1, 0] h3
    ) else (
      rec 8 [x1] h2
    )
  )
noncomputable def b_X12_layFar_u_3 (rec : Rk) (x1 x2 x3 : Int) (h : Hp) : Option (Int × Hp) :=
  if x2 = 0 then (
    rec 8 [x1] h
  ) else (
    rec 4 [x1, 0, x3, 0] h
  )
noncomputable def b_X12_layFar_u_4 (rec : Rk) (x1 x2 x3 x4 : Int) (h : Hp) : Option (Int × Hp) :=
  bd (f_X12_cells_u h) fun v1 h2 =>
  if v1 ≤ x4 then (
    ck (-2147483648 ≤ x3 + 1 ∧ x3 + 1 < 2147483648) <|
    rec 3 [x1, x2, x3 + 1] h2
  ) else (
    ck (gR h2 12 0 38 = some (83, 0)) <|
    ck (-2147483648 ≤ 64 * x1 ∧ 64 * x1 < 2147483648) <|
    ck (-2147483648 ≤ (64 * x1) + x4 ∧ (64 * x1) + x4 < 2147483648) <|
    ck (0 ≤ ((64 * x1) + x4) ∧ ((64 * x1) + x4) < 4096) <|
    if (gI h2 83 0 ((64 * x1) + x4)) = x3 then (
      rec 5 [x1, x2, x3, x4, 0] h2
    ) else (
      rec 7 [x1, x2, x3, x4] h2
    )
  )
noncomputable def b_X12_layFar_u_5 (rec : Rk) (x1 x2 x3 x4 x5 : Int) (h : Hp) : Option (Int × Hp) :=
  if 4 ≤ x5 then (
    rec 7 [x1, x2, x3, x4] h
  ) else (
    bd (f_X12_leads_u x4 x5 h) fun v1 h2 =>
    if v1 = (-1) then (
      rec 6 [x1, x2, x3, x4, x5] h2
    ) else (
      ck (gR h2 12 0 4 = some (62, 0)) <|
      ck (0 ≤ v1 ∧ v1 < 128) <|
      if (gI h2 62 0 v1) = 0 then (
        ck (gR h2 12 0 38 = some (83, 0)) <|
        ck (-2147483648 ≤ 64 * x1 ∧ 64 * x1 < 2147483648) <|
        ck (-2147483648 ≤ (64 * x1) + v1 ∧ (64 * x1) + v1 < 2147483648) <|
        ck (0 ≤ ((64 * x1) + v1) ∧ ((64 * x1) + v1) < 4096) <|
        ck (-2147483648 ≤ x3 + 1 ∧ x3 + 1 < 2147483648) <|
        if (x3 + 1) < (gI h2 83 0 ((64 * x1) + v1)) then (
          ck (gR h2 12 0 38 = some (83, 0)) <|
          ck (-2147483648 ≤ 64 * x1 ∧ 64 * x1 < 2147483648) <|
          ck (-2147483648 ≤ (64 * x1) + v1 ∧ (64 * x1) + v1 < 2147483648) <|
          ck (-2147483648 ≤ x3 + 1 ∧ x3 + 1 < 2147483648) <|
          ck (0 ≤ ((64 * x1) + v1) ∧ ((64 * x1) + v1) < 4096) <|
          lt (sI h2 83 0 ((64 * x1) + v1) (x3 + 1)) fun h3 =>
          rec 6 [x1, 1, x3, x4, x5] h3
        ) else (
          rec 6 [x1, x2, x3, x4, x5] h2
        )
      ) else (
        rec 6 [x1, x2, x3, x4, x5] h2
      )
    )
  )
noncomputable def b_X12_layFar_u_6 (rec : Rk) (x1 x2 x3 x4 x5 : Int) (h : Hp) : Option (Int × Hp) :=
  ck (-2147483648 ≤ x5 + 1 ∧ x5 + 1 < 2147483648) <|
  rec 5 [x1, x2, x3, x4, x5 + 1] h
noncomputable def b_X12_layFar_u_7 (rec : Rk) (x1 x2 x3 x4 : Int) (h : Hp) : Option (Int × Hp) :=
  ck (-2147483648 ≤ x4 + 1 ∧ x4 + 1 < 2147483648) <|
  rec 4 [x1, x2, x3, x4 + 1] h
noncomputable def b_X12_layFar_u_8 (rec : Rk) (x1 : Int) (h : Hp) : Option (Int × Hp) :=
  ck (-2147483648 ≤ x1 + 1 ∧ x1 + 1 < 2147483648) <|
  rec 2 [x1 + 1] h
noncomputable def g_X12_layFar_u (n : Nat) : Rk := Nat.rec (motive := fun _ => Rk) (fun _ _ _ => none) (fun _ rec k l h => if k = 0 then b_X12_layFar_u_0 rec  h else if k = 1 then b_X12_layFar_u_1 rec (l.getD 0 0) h else if k = 2 then b_X12_layFar_u_2 rec (l.getD 0 0) h else if k = 3 then b_X12_layFar_u_3 rec (l.getD 0 0) (l.getD 1 0) (l.getD 2 0) h else if k = 4 then b_X12_layFar_u_4 rec (l.getD 0 0) (l.getD 1 0) (l.getD 2 0) (l.getD 3 0) h else if k = 5 then b_X12_layFar_u_5 rec (l.getD 0 0) (l.getD 1 0) (l.getD 2 0) (l.getD 3 0) (l.getD 4 0) h else if k = 6 then b_X12_layFar_u_6 rec (l.getD 0 0) (l.getD 1 0) (l.getD 2 0) (l.getD 3 0) (l.getD 4 0) h else if k = 7 then b_X12_layFar_u_7 rec (l.getD 0 0) (l.getD 1 0) (l.getD 2 0) (l.getD 3 0) h else if k = 8 then b_X12_layFar_u_8 rec (l.getD 0 0) h else none) n
noncomputable def f_X12_layFar_u (h : Hp) : Option (Int × Hp) := g_X12_layFar_u FU 0 [] h
set_option maxHeartbeats 4000000 in
set_option maxRecDepth 100000 in
theorem t_X12_layFar_u_0 (E : xE) (d : Nat) (rec : Rk) (r : Int × Hp) (hr_2 : ∀ (x1 : Int) (h : Hp), rec 1 [x1] h = some r → X E mX12_layFar (d + 2) (0, 0) (0, 0) 2 [some (xr 12 0), some (xi x1), none, none, none, none, none] [] h (PuV r)) (h : Hp) (hF : b_X12_layFar_u_0 rec  h = some r) : X E mX12_layFar (d + 2) (0, 0) (0, 0) 0 [some (xr 12 0), none, none, none, none, none, none] [] h (PuV r) := by
  unfold b_X12_layFar_u_0 at hF
  refine x_iconst (n := 0) (b := 1) dX12_layFar_0 (by decide) rfl ?_
  refine x_istore_n (i := 1) (b := 2) (ls2 := [some (xr 12 0), some (xi 0), none, none, none, none, none]) dX12_layFar_1 rfl (Nat.le_of_ble_eq_true rfl) rfl rfl ?_
  exact x_dp (ls2 := [some (xr 12 0), some (xi 0), none, none, none, none, none]) ⟨rfl, rfl, trivial⟩ (hr_2 0 h hF)
set_option maxHeartbeats 4000000 in
set_option maxRecDepth 100000 in
theorem t_X12_layFar_u_1 (E : xE) (d : Nat) (rec : Rk) (r : Int × Hp) (hr_2 : ∀ (x1 : Int) (h : Hp), rec 1 [x1] h = some r → X E mX12_layFar (d + 2) (0, 0) (0, 0) 2 [some (xr 12 0), some (xi x1), none, none, none, none, none] [] h (PuV r)) (hr_27 : ∀ (x1 : Int) (h : Hp), rec 2 [x1] h = some r → X E mX12_layFar (d + 2) (0, 0) (0, 0) 27 [some (xr 12 0), some (xi x1), none, none, none, none, none] [] h (PuV r)) (x1 : Int) (h : Hp) (hF : b_X12_layFar_u_1 rec x1 h = some r) : X E mX12_layFar (d + 2) (0, 0) (0, 0) 2 [some (xr 12 0), some (xi x1), none, none, none, none, none] [] h (PuV r) := by
  unfold b_X12_layFar_u_1 at hF
  refine x_iload_n (i := 1) (b := 3) dX12_layFar_2 rfl rfl rfl ?_
  refine x_aload_n (i := 0) (b := 4) dX12_layFar_3 rfl rfl rfl ?_
  obtain ⟨hs, hF⟩ := ck_e hF
  refine x_getR (v := some (83, 0)) (b := 7) fk_X12_84 dX12_layFar_4 rfl hs rfl ?_
  refine x_alen (kind := 0) (ct := 0) (b := 8) ak_83 (by decide) dX12_layFar_7 rfl ?_
  refine x_eq (y := 4096) rfl ?_
  refine x_icmp_ge (tgt := 25) (b := 11) dX12_layFar_8 (by decide) rfl (fun hc => ?_) (fun hc => ?_)
  · replace hF := br_T hc hF
    refine x_iconst (n := 0) (b := 26) dX12_layFar_25 (by decide) rfl ?_
    refine x_istore_n (i := 1) (b := 27) (ls2 := [some (xr 12 0), some (xi 0), none, none, none, none, none]) dX12_layFar_26 rfl (Nat.le_of_ble_eq_true rfl) rfl rfl ?_
    exact x_dp (ls2 := [some (xr 12 0), some (xi 0), none, none, none, none, none]) ⟨rfl, rfl, trivial⟩ (hr_27 0 h hF)
  · replace hF := br_F hc hF
    refine x_aload_n (i := 0) (b := 12) dX12_layFar_11 rfl rfl rfl ?_
    obtain ⟨hs, hF⟩ := ck_e hF
    refine x_getR (v := some (83, 0)) (b := 15) fk_X12_84 dX12_layFar_12 rfl hs rfl ?_
    refine x_iload_n (i := 1) (b := 16) dX12_layFar_15 rfl rfl rfl ?_
    refine x_bipush (n := 99) (b := 18) dX12_layFar_16 (by decide) rfl ?_
    obtain ⟨hs, hF⟩ := ck_e hF
    have hs1 := hs
    refine x_iast (b := 19) ak_83 dX12_layFar_18 hs1 rfl ?_
    obtain ⟨h1, e_h1, hF⟩ := lt_e hF
    refine x_hp (h2 := h1) e_h1 ?_
    obtain ⟨hs, hF⟩ := ck_e hF
    refine x_iinc (i := 1) (b := 22) (ls2 := [some (xr 12 0), some (xi (x1 + 1)), none, none, none, none, none]) dX12_layFar_19 rfl (Nat.le_of_ble_eq_true rfl) hs rfl rfl ?_
    refine x_goto (tgt := 2) dX12_layFar_22 (by decide) ?_
    exact x_dp (ls2 := [some (xr 12 0), some (xi (x1 + 1)), none, none, none, none, none]) ⟨rfl, rfl, trivial⟩ (hr_2 (x1 + 1) h1 hF)
set_option maxHeartbeats 4000000 in
set_option maxRecDepth 100000 in
theorem t_X12_layFar_u_2 (E : xE) (d : Nat) (rec : Rk) (r : Int × Hp) (hr_63 : ∀ (x1 x2 x3 : Int) (h : Hp), rec 3 [x1, x2, x3] h = some r → X E mX12_layFar (d + 2) (0, 0) (0, 0) 63 [some (xr 12 0), some (xi x1), some (xi x2), some (xi x3), none, none, none] [] h (PuV r)) (hr_191 : ∀ (x1 : Int) (h : Hp), rec 8 [x1] h = some r → X E mX12_layFar (d + 2) (0, 0) (0, 0) 191 [some (xr 12 0), some (xi x1), none, none, none, none, none] [] h (PuV r)) (x1 : Int) (h : Hp) (hF : b_X12_layFar_u_2 rec x1 h = some r) : X E mX12_layFar (d + 2) (0, 0) (0, 0) 27 [some (xr 12 0), some (xi x1), none, none, none, none, none] [] h (PuV r) := by
  unfold b_X12_layFar_u_2 at hF
  refine x_iload_n (i := 1) (b := 28) dX12_layFar_27 rfl rfl rfl ?_
  refine x_aload_n (i := 0) (b := 29) dX12_layFar_28 rfl rfl rfl ?_
  obtain ⟨v1, h2, hq, hF⟩ := bd_e hF
  refine x_callV (as := []) (rest := [xi x1]) (b := 32) (c_X12_cells_u d h _ hq) dX12_layFar_29 cw_X12_374 ⟨_, _, rfl, Nat.le_of_ble_eq_true rfl⟩ rfl rfl (Nat.le_of_ble_eq_true rfl) ⟨Nat.le_refl _, Nat.le_refl _⟩ rfl (fun rv hh hp _ => ?_)
  obtain ⟨rfl, rfl⟩ := hp
  refine x_icmp_ge (tgt := 197) (b := 35) dX12_layFar_32 (by decide) rfl (fun hc => ?_) (fun hc => ?_)
  · replace hF := br_T hc hF
    refine x_return dX12_layFar_197 rfl ⟨Nat.le_refl _, Nat.le_refl _⟩ ?_
    cases hF
    exact ⟨rfl, rfl⟩
  · replace hF := br_F hc hF
    refine x_aload_n (i := 0) (b := 36) dX12_layFar_35 rfl rfl rfl ?_
    obtain ⟨hs, hF⟩ := ck_e hF
    refine x_getR (v := some (62, 0)) (b := 39) fk_X12_16 dX12_layFar_36 rfl hs rfl ?_
    refine x_iload_n (i := 1) (b := 40) dX12_layFar_39 rfl rfl rfl ?_
    obtain ⟨hs, hF⟩ := ck_e hF
    refine x_zald (v := gI h2 62 0 x1) (b := 41) ak_62 dX12_layFar_40 hs rfl rfl ?_
    refine x_if_eq (tgt := 47) (b := 44) dX12_layFar_41 (by decide) rfl (fun hc => ?_) (fun hc => ?_)
    · replace hF := br_T hc hF
      refine x_aload_n (i := 0) (b := 48) dX12_layFar_47 rfl rfl rfl ?_
      obtain ⟨hs, hF⟩ := ck_e hF
      refine x_getR (v := some (83, 0)) (b := 51) fk_X12_84 dX12_layFar_48 rfl hs rfl ?_
      refine x_bipush (n := 64) (b := 53) dX12_layFar_51 (by decide) rfl ?_
      refine x_iload_n (i := 1) (b := 54) dX12_layFar_53 rfl rfl rfl ?_
      obtain ⟨hs, hF⟩ := ck_e hF
      refine x_imul (b := 55) dX12_layFar_54 hs rfl ?_
      refine x_iload_n (i := 1) (b := 56) dX12_layFar_55 rfl rfl rfl ?_
      obtain ⟨hs, hF⟩ := ck_e hF
      refine x_iadd (b := 57) dX12_layFar_56 hs rfl ?_
      refine x_iconst (n := 0) (b := 58) dX12_layFar_57 (by decide) rfl ?_
      obtain ⟨hs, hF⟩ := ck_e hF
      have hs1 := hs
      refine x_iast (b := 59) ak_83 dX12_layFar_58 hs1 rfl ?_
      obtain ⟨h3, e_h3, hF⟩ := lt_e hF
      refine x_hp (h2 := h3) e_h3 ?_
      refine x_iconst (n := 1) (b := 60) dX12_layFar_59 (by decide) rfl ?_
      refine x_istore_n (i := 2) (b := 61) (ls2 := [some (xr 12 0), some (xi x1), some (xi 1), none, none, none, none]) dX12_layFar_60 rfl (Nat.le_of_ble_eq_true rfl) rfl rfl ?_
      refine x_iconst (n := 0) (b := 62) dX12_layFar_61 (by decide) rfl ?_
      refine x_istore_n (i := 3) (b := 63) (ls2 := [some (xr 12 0), some (xi x1), some (xi 1), some (xi 0), none, none, none]) dX12_layFar_62 rfl (Nat.le_of_ble_eq_true rfl) rfl rfl ?_
      exact x_dp (ls2 := [some (xr 12 0), some (xi x1), some (xi 1), some (xi 0), none, none, none]) ⟨rfl, rfl, rfl, rfl, trivial⟩ (hr_63 x1 1 0 h3 hF)
    · replace hF := br_F hc hF
      refine x_goto (tgt := 191) dX12_layFar_44 (by decide) ?_
      exact x_dp (ls2 := [some (xr 12 0), some (xi x1), none, none, none, none, none]) ⟨rfl, rfl, trivial⟩ (hr_191 x1 h2 hF)
set_option maxHeartbeats 4000000 in
set_option maxRecDepth 100000 in
theorem t_X12_layFar_u_3 (E : xE) (d : Nat) (rec : Rk) (r : Int × Hp) (hr_72 : ∀ (x1 x2 x3 x4 : Int) (h : Hp), rec 4 [x1, x2, x3, x4] h = some r → X E mX12_layFar (d + 2) (0, 0) (0, 0) 72 [some (xr 12 0), some (xi x1), some (xi x2), some (xi x3), some (xi x4), none, none] [] h (PuV r)) (hr_191 : ∀ (x1 : Int) (h : Hp), rec 8 [x1] h = some r → X E mX12_layFar (d + 2) (0, 0) (0, 0) 191 [some (xr 12 0), some (xi x1), none, none, none, none, none] [] h (PuV r)) (x1 x2 x3 : Int) (h : Hp) (hF : b_X12_layFar_u_3 rec x1 x2 x3 h = some r) : X E mX12_layFar (d + 2) (0, 0) (0, 0) 63 [some (xr 12 0), some (xi x1), some (xi x2), some (xi x3), none, none, none] [] h (PuV r) := by
  unfold b_X12_layFar_u_3 at hF
  refine x_iload_n (i := 2) (b := 64) dX12_layFar_63 rfl rfl rfl ?_
  refine x_if_eq (tgt := 191) (b := 67) dX12_layFar_64 (by decide) rfl (fun hc => ?_) (fun hc => ?_)
  · replace hF := br_T hc hF
    exact x_dp (ls2 := [some (xr 12 0), some (xi x1), none, none, none, none, none]) ⟨rfl, rfl, trivial⟩ (hr_191 x1 h hF)
  · replace hF := br_F hc hF
    refine x_iconst (n := 0) (b := 68) dX12_layFar_67 (by decide) rfl ?_
    refine x_istore_n (i := 2) (b := 69) (ls2 := [some (xr 12 0), some (xi x1), some (xi 0), some (xi x3), none, none, none]) dX12_layFar_68 rfl (Nat.le_of_ble_eq_true rfl) rfl rfl ?_
    refine x_iconst (n := 0) (b := 70) dX12_layFar_69 (by decide) rfl ?_
    refine x_istore (i := 4) (b := 72) (ls2 := [some (xr 12 0), some (xi x1), some (xi 0), some (xi x3), some (xi 0), none, none]) dX12_layFar_70 (Nat.le_of_ble_eq_true rfl) rfl rfl ?_
    exact x_dp (ls2 := [some (xr 12 0), some (xi x1), some (xi 0), some (xi x3), some (xi 0), none, none]) ⟨rfl, rfl, rfl, rfl, rfl, trivial⟩ (hr_72 x1 0 x3 0 h hF)
set_option maxHeartbeats 4000000 in
set_option maxRecDepth 100000 in
theorem t_X12_layFar_u_4 (E : xE) (d : Nat) (rec : Rk) (r : Int × Hp) (hr_63 : ∀ (x1 x2 x3 : Int) (h : Hp), rec 3 [x1, x2, x3] h = some r → X E mX12_layFar (d + 2) (0, 0) (0, 0) 63 [some (xr 12 0), some (xi x1), some (xi x2), some (xi x3), none, none, none] [] h (PuV r)) (hr_103 : ∀ (x1 x2 x3 x4 x5 : Int) (h : Hp), rec 5 [x1, x2, x3, x4, x5] h = some r → X E mX12_layFar (d + 2) (0, 0) (0, 0) 103 [some (xr 12 0), some (xi x1), some (xi x2), some (xi x3), some (xi x4), some (xi x5), none] [] h (PuV r)) (hr_179 : ∀ (x1 x2 x3 x4 : Int) (h : Hp), rec 7 [x1, x2, x3, x4] h = some r → X E mX12_layFar (d + 2) (0, 0) (0, 0) 179 [some (xr 12 0), some (xi x1), some (xi x2), some (xi x3), some (xi x4), none, none] [] h (PuV r)) (x1 x2 x3 x4 : Int) (h : Hp) (hF : b_X12_layFar_u_4 rec x1 x2 x3 x4 h = some r) : X E mX12_layFar (d + 2) (0, 0) (0, 0) 72 [some (xr 12 0), some (xi x1), some (xi x2), some (xi x3), some (xi x4), none, none] [] h (PuV r) := by
  unfold b_X12_layFar_u_4 at hF
  refine x_iload (i := 4) (b := 74) dX12_layFar_72 rfl rfl ?_
  refine x_aload_n (i := 0) (b := 75) dX12_layFar_74 rfl rfl rfl ?_
  obtain ⟨v1, h2, hq, hF⟩ := bd_e hF
  refine x_callV (as := []) (rest := [xi x4]) (b := 78) (c_X12_cells_u d h _ hq) dX12_layFar_75 cw_X12_374 ⟨_, _, rfl, Nat.le_of_ble_eq_true rfl⟩ rfl rfl (Nat.le_of_ble_eq_true rfl) ⟨Nat.le_refl _, Nat.le_refl _⟩ rfl (fun rv hh hp _ => ?_)
  obtain ⟨rfl, rfl⟩ := hp
  refine x_icmp_ge (tgt := 185) (b := 81) dX12_layFar_78 (by decide) rfl (fun hc => ?_) (fun hc => ?_)
  · replace hF := br_T hc hF
    obtain ⟨hs, hF⟩ := ck_e hF
    refine x_iinc (i := 3) (b := 188) (ls2 := [some (xr 12 0), some (xi x1), some (xi x2), some (xi (x3 + 1)), some (xi x4), none, none]) dX12_layFar_185 rfl (Nat.le_of_ble_eq_true rfl) hs rfl rfl ?_
    refine x_goto (tgt := 63) dX12_layFar_188 (by decide) ?_
    exact x_dp (ls2 := [some (xr 12 0), some (xi x1), some (xi x2), some (xi (x3 + 1)), none, none, none]) ⟨rfl, rfl, rfl, rfl, trivial⟩ (hr_63 x1 x2 (x3 + 1) h2 hF)
  · replace hF := br_F hc hF
    refine x_aload_n (i := 0) (b := 82) dX12_layFar_81 rfl rfl rfl ?_
    obtain ⟨hs, hF⟩ := ck_e hF
    refine x_getR (v := some (83, 0)) (b := 85) fk_X12_84 dX12_layFar_82 rfl hs rfl ?_
    refine x_bipush (n := 64) (b := 87) dX12_layFar_85 (by decide) rfl ?_
    refine x_iload_n (i := 1) (b := 88) dX12_layFar_87 rfl rfl rfl ?_
    obtain ⟨hs, hF⟩ := ck_e hF
    refine x_imul (b := 89) dX12_layFar_88 hs rfl ?_
    refine x_iload (i := 4) (b := 91) dX12_layFar_89 rfl rfl ?_
    obtain ⟨hs, hF⟩ := ck_e hF
    refine x_iadd (b := 92) dX12_layFar_91 hs rfl ?_
    obtain ⟨hs, hF⟩ := ck_e hF
    refine x_iald (v := gI h2 83 0 ((64 * x1) + x4)) (b := 93) ak_83 dX12_layFar_92 hs rfl rfl ?_
    refine x_iload_n (i := 3) (b := 94) dX12_layFar_93 rfl rfl rfl ?_
    refine x_icmp_eq (tgt := 100) (b := 97) dX12_layFar_94 (by decide) rfl (fun hc => ?_) (fun hc => ?_)
    · replace hF := br_T hc hF
      refine x_iconst (n := 0) (b := 101) dX12_layFar_100 (by decide) rfl ?_
      refine x_istore (i := 5) (b := 103) (ls2 := [some (xr 12 0), some (xi x1), some (xi x2), some (xi x3), some (xi x4), some (xi 0), none]) dX12_layFar_101 (Nat.le_of_ble_eq_true rfl) rfl rfl ?_
      exact x_dp (ls2 := [some (xr 12 0), some (xi x1), some (xi x2), some (xi x3), some (xi x4), some (xi 0), none]) ⟨rfl, rfl, rfl, rfl, rfl, rfl, trivial⟩ (hr_103 x1 x2 x3 x4 0 h2 hF)
    · replace hF := br_F hc hF
      refine x_goto (tgt := 179) dX12_layFar_97 (by decide) ?_
      exact x_dp (ls2 := [some (xr 12 0), some (xi x1), some (xi x2), some (xi x3), some (xi x4), none, none]) ⟨rfl, rfl, rfl, rfl, rfl, trivial⟩ (hr_179 x1 x2 x3 x4 h2 hF)
set_option maxHeartbeats 4000000 in
set_option maxRecDepth 100000 in
theorem t_X12_layFar_u_5 (E : xE) (d : Nat) (rec : Rk) (r : Int × Hp) (hr_173 : ∀ (x1 x2 x3 x4 x5 : Int) (h : Hp), rec 6 [x1, x2, x3, x4, x5] h = some r → X E mX12_layFar (d + 2) (0, 0) (0, 0) 173 [some (xr 12 0), some (xi x1), some (xi x2), some (xi x3), some (xi x4), some (xi x5), none] [] h (PuV r)) (hr_179 : ∀ (x1 x2 x3 x4 : Int) (h : Hp), rec 7 [x1, x2, x3, x4] h = some r → X E mX12_layFar (d + 2) (0, 0) (0, 0) 179 [some (xr 12 0), some (xi x1), some (xi x2), some (xi x3), some (xi x4), none, none] [] h (PuV r)) (x1 x2 x3 x4 x5 : Int) (h : Hp) (hF : b_X12_layFar_u_5 rec x1 x2 x3 x4 x5 h = some r) : X E mX12_layFar (d + 2) (0, 0) (0, 0) 103 [some (xr 12 0), some (xi x1), some (xi x2), some (xi x3), some (xi x4), some (xi x5), none] [] h (PuV r) := by
  unfold b_X12_layFar_u_5 at hF
  refine x_iload (i := 5) (b := 105) dX12_layFar_103 rfl rfl ?_
  refine x_iconst (n := 4) (b := 106) dX12_layFar_105 (by decide) rfl ?_
  refine x_icmp_ge (tgt := 179) (b := 109) dX12_layFar_106 (by decide) rfl (fun hc => ?_) (fun hc => ?_)
  · replace hF := br_T hc hF
    exact x_dp (ls2 := [some (xr 12 0), some (xi x1), some (xi x2), some (xi x3), some (xi x4), none, none]) ⟨rfl, rfl, rfl, rfl, rfl, trivial⟩ (hr_179 x1 x2 x3 x4 h hF)
  · replace hF := br_F hc hF
    refine x_aload_n (i := 0) (b := 110) dX12_layFar_109 rfl rfl rfl ?_
    refine x_iload (i := 4) (b := 112) dX12_layFar_110 rfl rfl ?_
    refine x_iload (i := 5) (b := 114) dX12_layFar_112 rfl rfl ?_
    obtain ⟨v1, h2, hq, hF⟩ := bd_e hF
    refine x_callV (as := [xi x4, xi x5]) (rest := []) (b := 117) (c_X12_leads_u d x4 x5 h _ hq) dX12_layFar_114 cw_X12_377 ⟨_, _, rfl, Nat.le_of_ble_eq_true rfl⟩ rfl rfl (Nat.le_of_ble_eq_true rfl) ⟨Nat.le_refl _, Nat.le_refl _⟩ rfl (fun rv hh hp _ => ?_)
    obtain ⟨rfl, rfl⟩ := hp
    refine x_istore (i := 6) (b := 119) (ls2 := [some (xr 12 0), some (xi x1), some (xi x2), some (xi x3), some (xi x4), some (xi x5), some (xi v1)]) dX12_layFar_117 (Nat.le_of_ble_eq_true rfl) rfl rfl ?_
    refine x_iload (i := 6) (b := 121) dX12_layFar_119 rfl rfl ?_
    refine x_iconst (n := (-1)) (b := 122) dX12_layFar_121 (by decide) rfl ?_
    refine x_icmp_eq (tgt := 173) (b := 125) dX12_layFar_122 (by decide) rfl (fun hc => ?_) (fun hc => ?_)
    · replace hF := br_T hc hF
      exact x_dp (ls2 := [some (xr 12 0), some (xi x1), some (xi x2), some (xi x3), some (xi x4), some (xi x5), none]) ⟨rfl, rfl, rfl, rfl, rfl, rfl, trivial⟩ (hr_173 x1 x2 x3 x4 x5 h2 hF)
    · replace hF := br_F hc hF
      refine x_aload_n (i := 0) (b := 126) dX12_layFar_125 rfl rfl rfl ?_
      obtain ⟨hs, hF⟩ := ck_e hF
      refine x_getR (v := some (62, 0)) (b := 129) fk_X12_16 dX12_layFar_126 rfl hs rfl ?_
      refine x_iload (i := 6) (b := 131) dX12_layFar_129 rfl rfl ?_
      obtain ⟨hs, hF⟩ := ck_e hF
      refine x_zald (v := gI h2 62 0 v1) (b := 132) ak_62 dX12_layFar_131 hs rfl rfl ?_
      refine x_if_ne (tgt := 173) (b := 135) dX12_layFar_132 (by decide) rfl (fun hc => ?_) (fun hc => ?_)
      · replace hF := br_F hc hF
        exact x_dp (ls2 := [some (xr 12 0), some (xi x1), some (xi x2), some (xi x3), some (xi x4), some (xi x5), none]) ⟨rfl, rfl, rfl, rfl, rfl, rfl, trivial⟩ (hr_173 x1 x2 x3 x4 x5 h2 hF)
      · replace hF := br_T hc hF
        refine x_aload_n (i := 0) (b := 136) dX12_layFar_135 rfl rfl rfl ?_
        obtain ⟨hs, hF⟩ := ck_e hF
        refine x_getR (v := some (83, 0)) (b := 139) fk_X12_84 dX12_layFar_136 rfl hs rfl ?_
        refine x_bipush (n := 64) (b := 141) dX12_layFar_139 (by decide) rfl ?_
        refine x_iload_n (i := 1) (b := 142) dX12_layFar_141 rfl rfl rfl ?_
        obtain ⟨hs, hF⟩ := ck_e hF
        refine x_imul (b := 143) dX12_layFar_142 hs rfl ?_
        refine x_iload (i := 6) (b := 145) dX12_layFar_143 rfl rfl ?_
        obtain ⟨hs, hF⟩ := ck_e hF
        refine x_iadd (b := 146) dX12_layFar_145 hs rfl ?_
        obtain ⟨hs, hF⟩ := ck_e hF
        refine x_iald (v := gI h2 83 0 ((64 * x1) + v1)) (b := 147) ak_83 dX12_layFar_146 hs rfl rfl ?_
        refine x_iload_n (i := 3) (b := 148) dX12_layFar_147 rfl rfl rfl ?_
        refine x_iconst (n := 1) (b := 149) dX12_layFar_148 (by decide) rfl ?_
        obtain ⟨hs, hF⟩ := ck_e hF
        refine x_iadd (b := 150) dX12_layFar_149 hs rfl ?_
        refine x_icmp_gt (tgt := 156) (b := 153) dX12_layFar_150 (by decide) rfl (fun hc => ?_) (fun hc => ?_)
        · replace hF := br_T hc hF
          refine x_aload_n (i := 0) (b := 157) dX12_layFar_156 rfl rfl rfl ?_
          obtain ⟨hs, hF⟩ := ck_e hF
          refine x_getR (v := some (83, 0)) (b := 160) fk_X12_84 dX12_layFar_157 rfl hs rfl ?_
          refine x_bipush (n := 64) (b := 162) dX12_layFar_160 (by decide) rfl ?_
          refine x_iload_n (i := 1) (b := 163) dX12_layFar_162 rfl rfl rfl ?_
          obtain ⟨hs, hF⟩ := ck_e hF
          refine x_imul (b := 164) dX12_layFar_163 hs rfl ?_
          refine x_iload (i := 6) (b := 166) dX12_layFar_164 rfl rfl ?_
          obtain ⟨hs, hF⟩ := ck_e hF
          refine x_iadd (b := 167) dX12_layFar_166 hs rfl ?_
          refine x_iload_n (i := 3) (b := 168) dX12_layFar_167 rfl rfl rfl ?_
          refine x_iconst (n := 1) (b := 169) dX12_layFar_168 (by decide) rfl ?_
          obtain ⟨hs, hF⟩ := ck_e hF
          refine x_iadd (b := 170) dX12_layFar_169 hs rfl ?_
          obtain ⟨hs, hF⟩ := ck_e hF
          have hs1 := hs
          refine x_iast (b := 171) ak_83 dX12_layFar_170 hs1 rfl ?_
          obtain ⟨h3, e_h3, hF⟩ := lt_e hF
          refine x_hp (h2 := h3) e_h3 ?_
          refine x_iconst (n := 1) (b := 172) dX12_layFar_171 (by decide) rfl ?_
          refine x_istore_n (i := 2) (b := 173) (ls2 := [some (xr 12 0), some (xi x1), some (xi 1), some (xi x3), some (xi x4), some (xi x5), some (xi v1)]) dX12_layFar_172 rfl (Nat.le_of_ble_eq_true rfl) rfl rfl ?_
          exact x_dp (ls2 := [some (xr 12 0), some (xi x1), some (xi 1), some (xi x3), some (xi x4), some (xi x5), none]) ⟨rfl, rfl, rfl, rfl, rfl, rfl, trivial⟩ (hr_173 x1 1 x3 x4 x5 h3 hF)
        · replace hF := br_F hc hF
          refine x_goto (tgt := 173) dX12_layFar_153 (by decide) ?_
          exact x_dp (ls2 := [some (xr 12 0), some (xi x1), some (xi x2), some (xi x3), some (xi x4), some (xi x5), none]) ⟨rfl, rfl, rfl, rfl, rfl, rfl, trivial⟩ (hr_173 x1 x2 x3 x4 x5 h2 hF)
set_option maxHeartbeats 4000000 in
set_option maxRecDepth 100000 in
theorem t_X12_layFar_u_6 (E : xE) (d : Nat) (rec : Rk) (r : Int × Hp) (hr_103 : ∀ (x1 x2 x3 x4 x5 : Int) (h : Hp), rec 5 [x1, x2, x3, x4, x5] h = some r → X E mX12_layFar (d + 2) (0, 0) (0, 0) 103 [some (xr 12 0), some (xi x1), some (xi x2), some (xi x3), some (xi x4), some (xi x5), none] [] h (PuV r)) (x1 x2 x3 x4 x5 : Int) (h : Hp) (hF : b_X12_layFar_u_6 rec x1 x2 x3 x4 x5 h = some r) : X E mX12_layFar (d + 2) (0, 0) (0, 0) 173 [some (xr 12 0), some (xi x1), some (xi x2), some (xi x3), some (xi x4), some (xi x5), none] [] h (PuV r) := by
  unfold b_X12_layFar_u_6 at hF
  obtain ⟨hs, hF⟩ := ck_e hF
  refine x_iinc (i := 5) (b := 176) (ls2 := [some (xr 12 0), some (xi x1), some (xi x2), some (xi x3), some (xi x4), some (xi (x5 + 1)), none]) dX12_layFar_173 rfl (Nat.le_of_ble_eq_true rfl) hs rfl rfl ?_
  refine x_goto (tgt := 103) dX12_layFar_176 (by decide) ?_
  exact x_dp (ls2 := [some (xr 12 0), some (xi x1), some (xi x2), some (xi x3), some (xi x4), some (xi (x5 + 1)), none]) ⟨rfl, rfl, rfl, rfl, rfl, rfl, trivial⟩ (hr_103 x1 x2 x3 x4 (x5 + 1) h hF)
set_option maxHeartbeats 4000000 in
set_option maxRecDepth 100000 in
theorem t_X12_layFar_u_7 (E : xE) (d : Nat) (rec : Rk) (r : Int × Hp) (hr_72 : ∀ (x1 x2 x3 x4 : Int) (h : Hp), rec 4 [x1, x2, x3, x4] h = some r → X E mX12_layFar (d + 2) (0, 0) (0, 0) 72 [some (xr 12 0), some (xi x1), some (xi x2), some (xi x3), some (xi x4), none, none] [] h (PuV r)) (x1 x2 x3 x4 : Int) (h : Hp) (hF : b_X12_layFar_u_7 rec x1 x2 x3 x4 h = some r) : X E mX12_layFar (d + 2) (0, 0) (0, 0) 179 [some (xr 12 0), some (xi x1), some (xi x2), some (xi x3), some (xi x4), none, none] [] h (PuV r) := by
  unfold b_X12_layFar_u_7 at hF
  obtain ⟨hs, hF⟩ := ck_e hF
  refine x_iinc (i := 4) (b := 182) (ls2 := [some (xr 12 0), some (xi x1), some (xi x2), some (xi x3), some (xi (x4 + 1)), none, none]) dX12_layFar_179 rfl (Nat.le_of_ble_eq_true rfl) hs rfl rfl ?_
  refine x_goto (tgt := 72) dX12_layFar_182 (by decide) ?_
  exact x_dp (ls2 := [some (xr 12 0), some (xi x1), some (xi x2), some (xi x3), some (xi (x4 + 1)), none, none]) ⟨rfl, rfl, rfl, rfl, rfl, trivial⟩ (hr_72 x1 x2 x3 (x4 + 1) h hF)
set_option maxHeartbeats 4000000 in
set_option maxRecDepth 100000 in
theorem t_X12_layFar_u_8 (E : xE) (d : Nat) (rec : Rk) (r : Int × Hp) (hr_27 : ∀ (x1 : Int) (h : Hp), rec 2 [x1] h = some r → X E mX12_layFar (d + 2) (0, 0) (0, 0) 27 [some (xr 12 0), some (xi x1), none, none, none, none, none] [] h (PuV r)) (x1 : Int) (h : Hp) (hF : b_X12_layFar_u_8 rec x1 h = some r) : X E mX12_layFar (d + 2) (0, 0) (0, 0) 191 [some (xr 12 0), some (xi x1), none, none, none, none, none] [] h (PuV r) := by
  unfold b_X12_layFar_u_8 at hF
  obtain ⟨hs, hF⟩ := ck_e hF
  refine x_iinc (i := 1) (b := 194) (ls2 := [some (xr 12 0), some (xi (x1 + 1)), none, none, none, none, none]) dX12_layFar_191 rfl (Nat.le_of_ble_eq_true rfl) hs rfl rfl ?_
  refine x_goto (tgt := 27) dX12_layFar_194 (by decide) ?_
  exact x_dp (ls2 := [some (xr 12 0), some (xi (x1 + 1)), none, none, none, none, none]) ⟨rfl, rfl, trivial⟩ (hr_27 (x1 + 1) h hF)
set_option maxHeartbeats 4000000 in
set_option maxRecDepth 100000 in
theorem u_X12_layFar_u (E : xE) (d : Nat) (r : Int × Hp) : ∀ n : Nat, (∀ (h : Hp), g_X12_layFar_u n 0 [] h = some r → X E mX12_layFar (d + 2) (0, 0) (0, 0) 0 [some (xr 12 0), none, none, none, none, none, none] [] h (PuV r)) ∧ (∀ (x1 : Int) (h : Hp), g_X12_layFar_u n 1 [x1] h = some r → X E mX12_layFar (d + 2) (0, 0) (0, 0) 2 [some (xr 12 0), some (xi x1), none, none, none, none, none] [] h (PuV r)) ∧ (∀ (x1 : Int) (h : Hp), g_X12_layFar_u n 2 [x1] h = some r → X E mX12_layFar (d + 2) (0, 0) (0, 0) 27 [some (xr 12 0), some (xi x1), none, none, none, none, none] [] h (PuV r)) ∧ (∀ (x1 x2 x3 : Int) (h : Hp), g_X12_layFar_u n 3 [x1, x2, x3] h = some r → X E mX12_layFar (d + 2) (0, 0) (0, 0) 63 [some (xr 12 0), some (xi x1), some (xi x2), some (xi x3), none, none, none] [] h (PuV r)) ∧ (∀ (x1 x2 x3 x4 : Int) (h : Hp), g_X12_layFar_u n 4 [x1, x2, x3, x4] h = some r → X E mX12_layFar (d + 2) (0, 0) (0, 0) 72 [some (xr 12 0), some (xi x1), some (xi x2), some (xi x3), some (xi x4), none, none] [] h (PuV r)) ∧ (∀ (x1 x2 x3 x4 x5 : Int) (h : Hp), g_X12_layFar_u n 5 [x1, x2, x3, x4, x5] h = some r → X E mX12_layFar (d + 2) (0, 0) (0, 0) 103 [some (xr 12 0), some (xi x1), some (xi x2), some (xi x3), some (xi x4), some (xi x5), none] [] h (PuV r)) ∧ (∀ (x1 x2 x3 x4 x5 : Int) (h : Hp), g_X12_layFar_u n 6 [x1, x2, x3, x4, x5] h = some r → X E mX12_layFar (d + 2) (0, 0) (0, 0) 173 [some (xr 12 0), some (xi x1), some (xi x2), some (xi x3), some (xi x4), some (xi x5), none] [] h (PuV r)) ∧ (∀ (x1 x2 x3 x4 : Int) (h : Hp), g_X12_layFar_u n 7 [x1, x2, x3, x4] h = some r → X E mX12_layFar (d + 2) (0, 0) (0, 0) 179 [some (xr 12 0), some (xi x1), some (xi x2), some (xi x3), some (xi x4), none, none] [] h (PuV r)) ∧ (∀ (x1 : Int) (h : Hp), g_X12_layFar_u n 8 [x1] h = some r → X E mX12_layFar (d + 2) (0, 0) (0, 0) 191 [some (xr 12 0), some (xi x1), none, none, none, none, none] [] h (PuV r)) := by
  intro n
  induction n with
  | zero => exact ⟨fun _ hF => no_e (r := r) hF, fun _ _ hF => no_e (r := r) hF, fun _ _ hF => no_e (r := r) hF, fun _ _ _ _ hF => no_e (r := r) hF, fun _ _ _ _ _ hF => no_e (r := r) hF, fun _ _ _ _ _ _ hF => no_e (r := r) hF, fun _ _ _ _ _ _ hF => no_e (r := r) hF, fun _ _ _ _ _ hF => no_e (r := r) hF, fun _ _ hF => no_e (r := r) hF⟩
  | succ n ih => exact ⟨fun h hF => t_X12_layFar_u_0 E d (g_X12_layFar_u n) r ih.2.1  h hF, fun x1 h hF => t_X12_layFar_u_1 E d (g_X12_layFar_u n) r ih.2.1 ih.2.2.1 x1 h hF, fun x1 h hF => t_X12_layFar_u_2 E d (g_X12_layFar_u n) r ih.2.2.2.1 ih.2.2.2.2.2.2.2.2 x1 h hF, fun x1 x2 x3 h hF => t_X12_layFar_u_3 E d (g_X12_layFar_u n) r ih.2.2.2.2.1 ih.2.2.2.2.2.2.2.2 x1 x2 x3 h hF, fun x1 x2 x3 x4 h hF => t_X12_layFar_u_4 E d (g_X12_layFar_u n) r ih.2.2.2.1 ih.2.2.2.2.2.1 ih.2.2.2.2.2.2.2.1 x1 x2 x3 x4 h hF, fun x1 x2 x3 x4 x5 h hF => t_X12_layFar_u_5 E d (g_X12_layFar_u n) r ih.2.2.2.2.2.2.1 ih.2.2.2.2.2.2.2.1 x1 x2 x3 x4 x5 h hF, fun x1 x2 x3 x4 x5 h hF => t_X12_layFar_u_6 E d (g_X12_layFar_u n) r ih.2.2.2.2.2.1 x1 x2 x3 x4 x5 h hF, fun x1 x2 x3 x4 h hF => t_X12_layFar_u_7 E d (g_X12_layFar_u n) r ih.2.2.2.2.1 x1 x2 x3 x4 h hF, fun x1 h hF => t_X12_layFar_u_8 E d (g_X12_layFar_u n) r ih.2.2.1 x1 h hF⟩
theorem c_X12_layFar_u (d : Nat) (h : Hp) (r : Int × Hp) (hF : f_X12_layFar_u  h = some r) : Sp mX12_layFar (d + 2) (0, 0) [xr 12 0] h (PuV r) :=
  sp_of (by decide) rfl (Nat.le_of_ble_eq_true rfl) (ls := [some (xr 12 0), none, none, none, none, none, none]) rfl (fun E _ => (u_X12_layFar_u E d r FU).1  h hF)
noncomputable def b_X12_begins_u_0 (rec : Rk) (x1 : Int) (h : Hp) : Option (Int × Hp) :=
  ck (gR h 12 0 39 = some (84, 0)) <|
  ck (0 ≤ x1 ∧ x1 < 23) <|
  lt (sI h 84 0 x1 0) fun h1 =>
  ck (gR h1 12 0 40 = some (85, 0)) <|
  ck (gR h1 12 0 3 = some (61, 0)) <|
  ck (0 ≤ (3 : Int) ∧ (3 : Int) < 30) <|
  ck (0 ≤ x1 ∧ x1 < 23) <|
  lt (sI h1 85 0 x1 (gI h1 61 0 3)) fun h2 =>
  ck (gR h2 12 0 41 = some (86, 0)) <|
  ck (gR h2 12 0 3 = some (61, 0)) <|
  ck (0 ≤ (10 : Int) ∧ (10 : Int) < 30) <|
  ck (0 ≤ x1 ∧ x1 < 23) <|
  lt (sI h2 86 0 x1 (gI h2 61 0 10)) fun h3 =>
  ck (gR h3 12 0 42 = some (87, 0)) <|
  ck (gR h3 12 0 3 = some (61, 0)) <|
  ck (0 ≤ (11 : Int) ∧ (11 : Int) < 30) <|
  ck (0 ≤ x1 ∧ x1 < 23) <|
  lt (sI h3 87 0 x1 (gI h3 61 0 11)) fun h4 =>
  ck (gR h4 12 0 43 = some (88, 0)) <|
  ck (gR h4 12 0 3 = some (61, 0)) <|
  ck (0 ≤ (3 : Int) ∧ (3 : Int) < 30) <|
  ck (gR h4 12 0 3 = some (61, 0)) <|
  ck (0 ≤ (4 : Int) ∧ (4 : Int) < 30) <|
  if (gI h4 61 0 3) = (gI h4 61 0 4) then (
    rec 1 [x1, 0, x1] h4
  ) else (
    rec 1 [x1, (-1), x1] h4
  )
noncomputable def b_X12_begins_u_1 (rec : Rk) (x1 y0 y1 : Int) (h : Hp) : Option (Int × Hp) :=
  ck (0 ≤ y1 ∧ y1 < 23) <|
  lt (sI h 88 0 y1 y0) fun h1 =>
  ck (gR h1 12 0 44 = some (89, 0)) <|
  ck (0 ≤ x1 ∧ x1 < 23) <|
  lt (sI h1 89 0 x1 31) fun h2 =>
  ck (gR h2 12 0 45 = some (90, 0)) <|
  ck (0 ≤ x1 ∧ x1 < 23) <|
  lt (sI h2 90 0 x1 0) fun h3 =>
  rec 2 [x1, 0] h3
noncomputable def b_X12_begins_u_2 (rec : Rk) (x1 x2 : Int) (h : Hp) : Option (Int × Hp) :=
  if 9 ≤ x2 then (
    some (0, h)
  ) else (
    ck (gR h 12 0 46 = some (91, 0)) <|
    ck (-2147483648 ≤ 9 * x1 ∧ 9 * x1 < 2147483648) <|
    ck (-2147483648 ≤ (9 * x1) + x2 ∧ (9 * x1) + x2 < 2147483648) <|
    ck (0 ≤ ((9 * x1) + x2) ∧ ((9 * x1) + x2) < 207) <|
    lt (sI h 91 0 ((9 * x1) + x2) 0) fun h1 =>
    ck (gR h1 12 0 47 = some (92, 0)) <|
    ck (-2147483648 ≤ 9 * x1 ∧ 9 * x1 < 2147483648) <|
    ck (-2147483648 ≤ (9 * x1) + x2 ∧ (9 * x1) + x2 < 2147483648) <|
    ck (0 ≤ ((9 * x1) + x2) ∧ ((9 * x1) + x2) < 207) <|
    lt (sI h1 92 0 ((9 * x1) + x2) 0) fun h2 =>
    ck (-2147483648 ≤ x2 + 1 ∧ x2 + 1 < 2147483648) <|
    rec 2 [x1, x2 + 1] h2
  )
noncomputable def g_X12_begins_u (n : Nat) : Rk := Nat.rec (motive := fun _ => Rk) (fun _ _ _ => none) (fun _ rec k l h => if k = 0 then b_X12_begins_u_0 rec (l.getD 0 0) h else if k = 1 then b_X12_begins_u_1 rec (l.getD 0 0) (l.getD 1 0) (l.getD 2 0) h else if k = 2 then b_X12_begins_u_2 rec (l.getD 0 0) (l.getD 1 0) h else none) n
noncomputable def f_X12_begins_u (x1 : Int) (h : Hp) : Option (Int × Hp) := g_X12_begins_u FU 0 [x1] h
set_option maxHeartbeats 4000000 in
set_option maxRecDepth 100000 in
theorem t_X12_begins_u_0 (E : xE) (d : Nat) (rec : Rk) (r : Int × Hp) (hr_70 : ∀ (x1 y0 y1 : Int) (h : Hp), rec 1 [x1, y0, y1] h = some r → X E mX12_begins (d + 1) (0, 0) (0, 0) 70 [some (xr 12 0), some (xi x1), none] [xi y0, xi y1, xr 88 0] h (PuV r)) (x1 : Int) (h : Hp) (hF : b_X12_begins_u_0 rec x1 h = some r) : X E mX12_begins (d + 1) (0, 0) (0, 0) 0 [some (xr 12 0), some (xi x1), none] [] h (PuV r) := by
  unfold b_X12_begins_u_0 at hF
  refine x_aload_n (i := 0) (b := 1) dX12_begins_0 rfl rfl rfl ?_
  obtain ⟨hs, hF⟩ := ck_e hF
  refine x_getR (v := some (84, 0)) (b := 4) fk_X12_87 dX12_begins_1 rfl hs rfl ?_
  refine x_iload_n (i := 1) (b := 5) dX12_begins_4 rfl rfl rfl ?_
  refine x_iconst (n := 0) (b := 6) dX12_begins_5 (by decide) rfl ?_
  obtain ⟨hs, hF⟩ := ck_e hF
  have hs1 := hs
  refine x_iast (b := 7) ak_84 dX12_begins_6 hs1 rfl ?_
  obtain ⟨h1, e_h1, hF⟩ := lt_e hF
  refine x_hp (h2 := h1) e_h1 ?_
  refine x_aload_n (i := 0) (b := 8) dX12_begins_7 rfl rfl rfl ?_
  obtain ⟨hs, hF⟩ := ck_e hF
  refine x_getR (v := some (85, 0)) (b := 11) fk_X12_90 dX12_begins_8 rfl hs rfl ?_
  refine x_iload_n (i := 1) (b := 12) dX12_begins_11 rfl rfl rfl ?_
  refine x_aload_n (i := 0) (b := 13) dX12_begins_12 rfl rfl rfl ?_
  obtain ⟨hs, hF⟩ := ck_e hF
  refine x_getR (v := some (61, 0)) (b := 16) fk_X12_13 dX12_begins_13 rfl hs rfl ?_
  refine x_iconst (n := 3) (b := 17) dX12_begins_16 (by decide) rfl ?_
  obtain ⟨hs, hF⟩ := ck_e hF
  refine x_iald (v := gI h1 61 0 3) (b := 18) ak_61 dX12_begins_17 hs rfl rfl ?_
  obtain ⟨hs, hF⟩ := ck_e hF
  have hs1 := hs
  refine x_iast (b := 19) ak_85 dX12_begins_18 hs1 rfl ?_
  obtain ⟨h2, e_h2, hF⟩ := lt_e hF
  refine x_hp (h2 := h2) e_h2 ?_
  refine x_aload_n (i := 0) (b := 20) dX12_begins_19 rfl rfl rfl ?_
  obtain ⟨hs, hF⟩ := ck_e hF
  refine x_getR (v := some (86, 0)) (b := 23) fk_X12_93 dX12_begins_20 rfl hs rfl ?_
  refine x_iload_n (i := 1) (b := 24) dX12_begins_23 rfl rfl rfl ?_
  refine x_aload_n (i := 0) (b := 25) dX12_begins_24 rfl rfl rfl ?_
  obtain ⟨hs, hF⟩ := ck_e hF
  refine x_getR (v := some (61, 0)) (b := 28) fk_X12_13 dX12_begins_25 rfl hs rfl ?_
  refine x_bipush (n := 10) (b := 30) dX12_begins_28 (by decide) rfl ?_
  obtain ⟨hs, hF⟩ := ck_e hF
  refine x_iald (v := gI h2 61 0 10) (b := 31) ak_61 dX12_begins_30 hs rfl rfl ?_
  obtain ⟨hs, hF⟩ := ck_e hF
  have hs1 := hs
  refine x_iast (b := 32) ak_86 dX12_begins_31 hs1 rfl ?_
  obtain ⟨h3, e_h3, hF⟩ := lt_e hF
  refine x_hp (h2 := h3) e_h3 ?_
  refine x_aload_n (i := 0) (b := 33) dX12_begins_32 rfl rfl rfl ?_
  obtain ⟨hs, hF⟩ := ck_e hF
  refine x_getR (v := some (87, 0)) (b := 36) fk_X12_96 dX12_begins_33 rfl hs rfl ?_
  refine x_iload_n (i := 1) (b := 37) dX12_begins_36 rfl rfl rfl ?_
  refine x_aload_n (i := 0) (b := 38) dX12_begins_37 rfl rfl rfl ?_
  obtain ⟨hs, hF⟩ := ck_e hF
  refine x_getR (v := some (61, 0)) (b := 41) fk_X12_13 dX12_begins_38 rfl hs rfl ?_
  refine x_bipush (n := 11) (b := 43) dX12_begins_41 (by decide) rfl ?_
  obtain ⟨hs, hF⟩ := ck_e hF
  refine x_iald (v := gI h3 61 0 11) (b := 44) ak_61 dX12_begins_43 hs rfl rfl ?_
  obtain ⟨hs, hF⟩ := ck_e hF
  have hs1 := hs
  refine x_iast (b := 45) ak_87 dX12_begins_44 hs1 rfl ?_
  obtain ⟨h4, e_h4, hF⟩ := lt_e hF
  refine x_hp (h2 := h4) e_h4 ?_
  refine x_aload_n (i := 0) (b := 46) dX12_begins_45 rfl rfl rfl ?_
  obtain ⟨hs, hF⟩ := ck_e hF
  refine x_getR (v := some (88, 0)) (b := 49) fk_X12_99 dX12_begins_46 rfl hs rfl ?_
  refine x_iload_n (i := 1) (b := 50) dX12_begins_49 rfl rfl rfl ?_
  refine x_aload_n (i := 0) (b := 51) dX12_begins_50 rfl rfl rfl ?_
  obtain ⟨hs, hF⟩ := ck_e hF
  refine x_getR (v := some (61, 0)) (b := 54) fk_X12_13 dX12_begins_51 rfl hs rfl ?_
  refine x_iconst (n := 3) (b := 55) dX12_begins_54 (by decide) rfl ?_
  obtain ⟨hs, hF⟩ := ck_e hF
  refine x_iald (v := gI h4 61 0 3) (b := 56) ak_61 dX12_begins_55 hs rfl rfl ?_
  refine x_aload_n (i := 0) (b := 57) dX12_begins_56 rfl rfl rfl ?_
  obtain ⟨hs, hF⟩ := ck_e hF
  refine x_getR (v := some (61, 0)) (b := 60) fk_X12_13 dX12_begins_57 rfl hs rfl ?_
  refine x_iconst (n := 4) (b := 61) dX12_begins_60 (by decide) rfl ?_
  obtain ⟨hs, hF⟩ := ck_e hF
  refine x_iald (v := gI h4 61 0 4) (b := 62) ak_61 dX12_begins_61 hs rfl rfl ?_
  refine x_icmp_ne (tgt := 69) (b := 65) dX12_begins_62 (by decide) rfl (fun hc => ?_) (fun hc => ?_)
  · replace hF := br_F hc hF
    refine x_iconst (n := (-1)) (b := 70) dX12_begins_69 (by decide) rfl ?_
    exact x_dp (ls2 := [some (xr 12 0), some (xi x1), none]) ⟨rfl, rfl, trivial⟩ (hr_70 x1 (-1) x1 h4 hF)
  · replace hF := br_T hc hF
    refine x_iconst (n := 0) (b := 66) dX12_begins_65 (by decide) rfl ?_
    refine x_goto (tgt := 70) dX12_begins_66 (by decide) ?_
    exact x_dp (ls2 := [some (xr 12 0), some (xi x1), none]) ⟨rfl, rfl, trivial⟩ (hr_70 x1 0 x1 h4 hF)
set_option maxHeartbeats 4000000 in
set_option maxRecDepth 100000 in
theorem t_X12_begins_u_1 (E : xE) (d : Nat) (rec : Rk) (r : Int × Hp) (hr_88 : ∀ (x1 x2 : Int) (h : Hp), rec 2 [x1, x2] h = some r → X E mX12_begins (d + 1) (0, 0) (0, 0) 88 [some (xr 12 0), some (xi x1), some (xi x2)] [] h (PuV r)) (x1 y0 y1 : Int) (h : Hp) (hF : b_X12_begins_u_1 rec x1 y0 y1 h = some r) : X E mX12_begins (d + 1) (0, 0) (0, 0) 70 [some (xr 12 0), some (xi x1), none] [xi y0, xi y1, xr 88 0] h (PuV r) := by
  unfold b_X12_begins_u_1 at hF
  obtain ⟨hs, hF⟩ := ck_e hF
  have hs1 := hs
  refine x_iast (b := 71) ak_88 dX12_begins_70 hs1 rfl ?_
  obtain ⟨h1, e_h1, hF⟩ := lt_e hF
  refine x_hp (h2 := h1) e_h1 ?_
  refine x_aload_n (i := 0) (b := 72) dX12_begins_71 rfl rfl rfl ?_
  obtain ⟨hs, hF⟩ := ck_e hF
  refine x_getR (v := some (89, 0)) (b := 75) fk_X12_102 dX12_begins_72 rfl hs rfl ?_
  refine x_iload_n (i := 1) (b := 76) dX12_begins_75 rfl rfl rfl ?_
  refine x_bipush (n := 31) (b := 78) dX12_begins_76 (by decide) rfl ?_
  obtain ⟨hs, hF⟩ := ck_e hF
  have hs1 := hs
  refine x_iast (b := 79) ak_89 dX12_begins_78 hs1 rfl ?_
  obtain ⟨h2, e_h2, hF⟩ := lt_e hF
  refine x_hp (h2 := h2) e_h2 ?_
  refine x_aload_n (i := 0) (b := 80) dX12_begins_79 rfl rfl rfl ?_
  obtain ⟨hs, hF⟩ := ck_e hF
  refine x_getR (v := some (90, 0)) (b := 83) fk_X12_105 dX12_begins_80 rfl hs rfl ?_
  refine x_iload_n (i := 1) (b := 84) dX12_begins_83 rfl rfl rfl ?_
  refine x_iconst (n := 0) (b := 85) dX12_begins_84 (by decide) rfl ?_
  obtain ⟨hs, hF⟩ := ck_e hF
  have hs1 := hs
  refine x_iast (b := 86) ak_90 dX12_begins_85 hs1 rfl ?_
  obtain ⟨h3, e_h3, hF⟩ := lt_e hF
  refine x_hp (h2 := h3) e_h3 ?_
  refine x_iconst (n := 0) (b := 87) dX12_begins_86 (by decide) rfl ?_
  refine x_istore_n (i := 2) (b := 88) (ls2 := [some (xr 12 0), some (xi x1), some (xi 0)]) dX12_begins_87 rfl (Nat.le_of_ble_eq_true rfl) rfl rfl ?_
  exact x_dp (ls2 := [some (xr 12 0), some (xi x1), some (xi 0)]) ⟨rfl, rfl, rfl, trivial⟩ (hr_88 x1 0 h3 hF)
set_option maxHeartbeats 4000000 in
set_option maxRecDepth 100000 in
theorem t_X12_begins_u_2 (E : xE) (d : Nat) (rec : Rk) (r : Int × Hp) (hr_88 : ∀ (x1 x2 : Int) (h : Hp), rec 2 [x1, x2] h = some r → X E mX12_begins (d + 1) (0, 0) (0, 0) 88 [some (xr 12 0), some (xi x1), some (xi x2)] [] h (PuV r)) (x1 x2 : Int) (h : Hp) (hF : b_X12_begins_u_2 rec x1 x2 h = some r) : X E mX12_begins (d + 1) (0, 0) (0, 0) 88 [some (xr 12 0), some (xi x1), some (xi x2)] [] h (PuV r) := by
  unfold b_X12_begins_u_2 at hF
  refine x_iload_n (i := 2) (b := 89) dX12_begins_88 rfl rfl rfl ?_
  refine x_bipush (n := 9) (b := 91) dX12_begins_89 (by decide) rfl ?_
  refine x_icmp_ge (tgt := 124) (b := 94) dX12_begins_91 (by decide) rfl (fun hc => ?_) (fun hc => ?_)
  · replace hF := br_T hc hF
    refine x_return dX12_begins_124 rfl ⟨Nat.le_refl _, Nat.le_refl _⟩ ?_
    cases hF
    exact ⟨rfl, rfl⟩
  · replace hF := br_F hc hF
    refine x_aload_n (i := 0) (b := 95) dX12_begins_94 rfl rfl rfl ?_
    obtain ⟨hs, hF⟩ := ck_e hF
    refine x_getR (v := some (91, 0)) (b := 98) fk_X12_108 dX12_begins_95 rfl hs rfl ?_
    refine x_bipush (n := 9) (b := 100) dX12_begins_98 (by decide) rfl ?_
    refine x_iload_n (i := 1) (b := 101) dX12_begins_100 rfl rfl rfl ?_
    obtain ⟨hs, hF⟩ := ck_e hF
    refine x_imul (b := 102) dX12_begins_101 hs rfl ?_
    refine x_iload_n (i := 2) (b := 103) dX12_begins_102 rfl rfl rfl ?_
    obtain ⟨hs, hF⟩ := ck_e hF
    refine x_iadd (b := 104) dX12_begins_103 hs rfl ?_
    refine x_iconst (n := 0) (b := 105) dX12_begins_104 (by decide) rfl ?_
    obtain ⟨hs, hF⟩ := ck_e hF
    have hs1 := hs
    refine x_iast (b := 106) ak_91 dX12_begins_105 hs1 rfl ?_
    obtain ⟨h1, e_h1, hF⟩ := lt_e hF
    refine x_hp (h2 := h1) e_h1 ?_
    refine x_aload_n (i := 0) (b := 107) dX12_begins_106 rfl rfl rfl ?_
    obtain ⟨hs, hF⟩ := ck_e hF
    refine x_getR (v := some (92, 0)) (b := 110) fk_X12_111 dX12_begins_107 rfl hs rfl ?_
    refine x_bipush (n := 9) (b := 112) dX12_begins_110 (by decide) rfl ?_
    refine x_iload_n (i := 1) (b := 113) dX12_begins_112 rfl rfl rfl ?_
    obtain ⟨hs, hF⟩ := ck_e hF
    refine x_imul (b := 114) dX12_begins_113 hs rfl ?_
    refine x_iload_n (i := 2) (b := 115) dX12_begins_114 rfl rfl rfl ?_
    obtain ⟨hs, hF⟩ := ck_e hF
    refine x_iadd (b := 116) dX12_begins_115 hs rfl ?_
    refine x_iconst (n := 0) (b := 117) dX12_begins_116 (by decide) rfl ?_
    obtain ⟨hs, hF⟩ := ck_e hF
    have hs1 := hs
    refine x_zast (b := 118) ak_92 dX12_begins_117 hs1 (by decide) rfl ?_
    obtain ⟨h2, e_h2, hF⟩ := lt_e hF
    refine x_hp (h2 := h2) e_h2 ?_
    obtain ⟨hs, hF⟩ := ck_e hF
    refine x_iinc (i := 2) (b := 121) (ls2 := [some (xr 12 0), some (xi x1), some (xi (x2 + 1))]) dX12_begins_118 rfl (Nat.le_of_ble_eq_true rfl) hs rfl rfl ?_
    refine x_goto (tgt := 88) dX12_begins_121 (by decide) ?_
    exact x_dp (ls2 := [some (xr 12 0), some (xi x1), some (xi (x2 + 1))]) ⟨rfl, rfl, rfl, trivial⟩ (hr_88 x1 (x2 + 1) h2 hF)
set_option maxHeartbeats 4000000 in
set_option maxRecDepth 100000 in
theorem u_X12_begins_u (E : xE) (d : Nat) (r : Int × Hp) : ∀ n : Nat, (∀ (x1 : Int) (h : Hp), g_X12_begins_u n 0 [x1] h = some r → X E mX12_begins (d + 1) (0, 0) (0, 0) 0 [some (xr 12 0), some (xi x1), none] [] h (PuV r)) ∧ (∀ (x1 y0 y1 : Int) (h : Hp), g_X12_begins_u n 1 [x1, y0, y1] h = some r → X E mX12_begins (d + 1) (0, 0) (0, 0) 70 [some (xr 12 0), some (xi x1), none] [xi y0, xi y1, xr 88 0] h (PuV r)) ∧ (∀ (x1 x2 : Int) (h : Hp), g_X12_begins_u n 2 [x1, x2] h = some r → X E mX12_begins (d + 1) (0, 0) (0, 0) 88 [some (xr 12 0), some (xi x1), some (xi x2)] [] h (PuV r)) := by
  intro n
  induction n with
  | zero => exact ⟨fun _ _ hF => no_e (r := r) hF, fun _ _ _ _ hF => no_e (r := r) hF, fun _ _ _ hF => no_e (r := r) hF⟩
  | succ n ih => exact ⟨fun x1 h hF => t_X12_begins_u_0 E d (g_X12_begins_u n) r ih.2.1 x1 h hF, fun x1 y0 y1 h hF => t_X12_begins_u_1 E d (g_X12_begins_u n) r ih.2.2 x1 y0 y1 h hF, fun x1 x2 h hF => t_X12_begins_u_2 E d (g_X12_begins_u n) r ih.2.2 x1 x2 h hF⟩
theorem c_X12_begins_u (d : Nat) (x1 : Int) (h : Hp) (r : Int × Hp) (hF : f_X12_begins_u x1 h = some r) : Sp mX12_begins (d + 1) (0, 0) [xr 12 0, xi x1] h (PuV r) :=
  sp_of (by decide) rfl (Nat.le_of_ble_eq_true rfl) (ls := [some (xr 12 0), some (xi x1), none]) rfl (fun E _ => (u_X12_begins_u E d r FU).1 x1 h hF)
noncomputable def b_J0_coder_7d493_u_0 (rec : Rk) (h : Hp) : Option (Int × Hp) :=
  ck (-128 ≤ (0 : Int) ∧ (0 : Int) < 128) <|
  some (0, h)
noncomputable def g_J0_coder_7d493_u (n : Nat) : Rk := Nat.rec (motive := fun _ => Rk) (fun _ _ _ => none) (fun _ rec k l h => if k = 0 then b_J0_coder_7d493_u_0 rec  h else none) n
noncomputable def f_J0_coder_7d493_u (h : Hp) : Option (Int × Hp) := g_J0_coder_7d493_u FU 0 [] h
set_option maxHeartbeats 4000000 in
set_option maxRecDepth 100000 in
theorem t_J0_coder_7d493_u_0 (E : xE) (d : Nat) (rec : Rk) (r : Int × Hp) (h : Hp) (hF : b_J0_coder_7d493_u_0 rec  h = some r) : X E mJ0_coder_7d493 (d + 1) (0, 0) (0, 0) 0 [some (xr 910 0)] [] h (PuI r) := by
  unfold b_J0_coder_7d493_u_0 at hF
  refine x_gsCS (b := 3) dJ0_coder_7d493_0 kx_438 rfl ?_
  refine x_if_eq (tgt := 13) (b := 6) dJ0_coder_7d493_3 (by decide) rfl (fun hc => absurd hc (by decide)) (fun hc => ?_)
  refine x_aload_n (i := 0) (b := 7) dJ0_coder_7d493_6 rfl rfl rfl ?_
  refine x_sCod (b := 10) rfl dJ0_coder_7d493_7 kx_2164 rfl ?_
  refine x_goto (tgt := 14) dJ0_coder_7d493_10 (by decide) ?_
  obtain ⟨hs, hF⟩ := ck_e hF
  refine x_breturn dJ0_coder_7d493_14 rfl ⟨Nat.le_refl _, Nat.le_refl _⟩ hs ?_
  cases hF
  exact ⟨rfl, rfl⟩
set_option maxHeartbeats 4000000 in
set_option maxRecDepth 100000 in
theorem u_J0_coder_7d493_u (E : xE) (d : Nat) (r : Int × Hp) : ∀ n : Nat, (∀ (h : Hp), g_J0_coder_7d493_u n 0 [] h = some r → X E mJ0_coder_7d493 (d + 1) (0, 0) (0, 0) 0 [some (xr 910 0)] [] h (PuI r)) := by
  intro n
  induction n with
  | zero => exact fun _ hF => no_e (r := r) hF
  | succ n ih => exact fun h hF => t_J0_coder_7d493_u_0 E d (g_J0_coder_7d493_u n) r   h hF
theorem c_J0_coder_7d493_u (d : Nat) (h : Hp) (r : Int × Hp) (hF : f_J0_coder_7d493_u  h = some r) : Sp mJ0_coder_7d493 (d + 1) (0, 0) [xr 910 0] h (PuI r) :=
  sp_of (by decide) rfl (Nat.le_of_ble_eq_true rfl) (ls := [some (xr 910 0)]) rfl (fun E _ => (u_J0_coder_7d493_u E d r FU)  h hF)
noncomputable def b_J0_isLatin1_aae02_u_0 (rec : Rk) (h : Hp) : Option (Int × Hp) :=
  some (1, h)
noncomputable def g_J0_isLatin1_aae02_u (n : Nat) : Rk := Nat.rec (motive := fun _ => Rk) (fun _ _ _ => none) (fun _ rec k l h => if k = 0 then b_J0_isLatin1_aae02_u_0 rec  h else none) n
noncomputable def f_J0_isLatin1_aae02_u (h : Hp) : Option (Int × Hp) := g_J0_isLatin1_aae02_u FU 0 [] h
set_option maxHeartbeats 4000000 in
set_option maxRecDepth 100000 in
theorem t_J0_isLatin1_aae02_u_0 (E : xE) (d : Nat) (rec : Rk) (r : Int × Hp) (h : Hp) (hF : b_J0_isLatin1_aae02_u_0 rec  h = some r) : X E mJ0_isLatin1_aae02 (d + 1) (0, 0) (0, 0) 0 [some (xr 910 0)] [] h (PuI r) := by
  unfold b_J0_isLatin1_aae02_u_0 at hF
  refine x_gsCS (b := 3) dJ0_isLatin1_aae02_0 kx_438 rfl ?_
  refine x_if_eq (tgt := 17) (b := 6) dJ0_isLatin1_aae02_3 (by decide) rfl (fun hc => absurd hc (by decide)) (fun hc => ?_)
  refine x_aload_n (i := 0) (b := 7) dJ0_isLatin1_aae02_6 rfl rfl rfl ?_
  refine x_sCod (b := 10) rfl dJ0_isLatin1_aae02_7 kx_2164 rfl ?_
  refine x_if_ne (tgt := 17) (b := 13) dJ0_isLatin1_aae02_10 (by decide) rfl (fun hc => absurd hc (by decide)) (fun hc => ?_)
  refine x_iconst (n := 1) (b := 14) dJ0_isLatin1_aae02_13 (by decide) rfl ?_
  refine x_goto (tgt := 18) dJ0_isLatin1_aae02_14 (by decide) ?_
  refine x_zreturn dJ0_isLatin1_aae02_18 rfl ⟨Nat.le_refl _, Nat.le_refl _⟩ (by decide) ?_
  cases hF
  exact ⟨rfl, rfl⟩
set_option maxHeartbeats 4000000 in
set_option maxRecDepth 100000 in
theorem u_J0_isLatin1_aae02_u (E : xE) (d : Nat) (r : Int × Hp) : ∀ n : Nat, (∀ (h : Hp), g_J0_isLatin1_aae02_u n 0 [] h = some r → X E mJ0_isLatin1_aae02 (d + 1) (0, 0) (0, 0) 0 [some (xr 910 0)] [] h (PuI r)) := by
  intro n
  induction n with
  | zero => exact fun _ hF => no_e (r := r) hF
  | succ n ih => exact fun h hF => t_J0_isLatin1_aae02_u_0 E d (g_J0_isLatin1_aae02_u n) r   h hF
theorem c_J0_isLatin1_aae02_u (d : Nat) (h : Hp) (r : Int × Hp) (hF : f_J0_isLatin1_aae02_u  h = some r) : Sp mJ0_isLatin1_aae02 (d + 1) (0, 0) [xr 910 0] h (PuI r) :=
  sp_of (by decide) rfl (Nat.le_of_ble_eq_true rfl) (ls := [some (xr 910 0)]) rfl (fun E _ => (u_J0_isLatin1_aae02_u E d r FU)  h hF)
noncomputable def b_J0_length_8abf5_u_0 (rec : Rk) (h : Hp) : Option (Int × Hp) :=
  bd (f_J0_coder_7d493_u h) fun v1 h2 =>
  some (bshr 138 v1, h2)
noncomputable def g_J0_length_8abf5_u (n : Nat) : Rk := Nat.rec (motive := fun _ => Rk) (fun _ _ _ => none) (fun _ rec k l h => if k = 0 then b_J0_length_8abf5_u_0 rec  h else none) n
noncomputable def f_J0_length_8abf5_u (h : Hp) : Option (Int × Hp) := g_J0_length_8abf5_u FU 0 [] h
set_option maxHeartbeats 4000000 in
set_option maxRecDepth 100000 in
theorem t_J0_length_8abf5_u_0 (E : xE) (d : Nat) (rec : Rk) (r : Int × Hp) (h : Hp) (hF : b_J0_length_8abf5_u_0 rec  h = some r) : X E mJ0_length_8abf5 (d + 2) (0, 0) (0, 0) 0 [some (xr 910 0)] [] h (PuI r) := by
  unfold b_J0_length_8abf5_u_0 at hF
  refine x_aload_n (i := 0) (b := 1) dJ0_length_8abf5_0 rfl rfl rfl ?_
  refine x_sVal (b := 4) rfl dJ0_length_8abf5_1 kx_2163 rfl ?_
  refine x_alenS (v := 138) (b := 5) dJ0_length_8abf5_4 rfl rfl ?_
  refine x_aload_n (i := 0) (b := 6) dJ0_length_8abf5_5 rfl rfl rfl ?_
  obtain ⟨v1, h2, hq, hF⟩ := bd_e hF
  refine x_callVS (as := []) (rest := [xi 138]) (b := 9) (c_J0_coder_7d493_u d h _ hq) rfl dJ0_length_8abf5_6 cx_J0_335 rfl rfl (Nat.le_of_ble_eq_true rfl) ⟨Nat.le_refl _, Nat.le_refl _⟩ rfl (fun rv hh hp _ => ?_)
  obtain ⟨rfl, rfl⟩ := hp
  refine x_ishr (b := 10) dJ0_length_8abf5_9 rfl ?_
  refine x_ireturn dJ0_length_8abf5_10 rfl ⟨Nat.le_refl _, Nat.le_refl _⟩ ?_
  cases hF
  exact ⟨rfl, rfl⟩
set_option maxHeartbeats 4000000 in
set_option maxRecDepth 100000 in
theorem u_J0_length_8abf5_u (E : xE) (d : Nat) (r : Int × Hp) : ∀ n : Nat, (∀ (h : Hp), g_J0_length_8abf5_u n 0 [] h = some r → X E mJ0_length_8abf5 (d + 2) (0, 0) (0, 0) 0 [some (xr 910 0)] [] h (PuI r)) := by
  intro n
  induction n with
  | zero => exact fun _ hF => no_e (r := r) hF
  | succ n ih => exact fun h hF => t_J0_length_8abf5_u_0 E d (g_J0_length_8abf5_u n) r   h hF
theorem c_J0_length_8abf5_u (d : Nat) (h : Hp) (r : Int × Hp) (hF : f_J0_length_8abf5_u  h = some r) : Sp mJ0_length_8abf5 (d + 2) (0, 0) [xr 910 0] h (PuI r) :=
  sp_of (by decide) rfl (Nat.le_of_ble_eq_true rfl) (ls := [some (xr 910 0)]) rfl (fun E _ => (u_J0_length_8abf5_u E d r FU)  h hF)
noncomputable def b_J1_charAt_3b067_u_0 (rec : Rk) (x1 : Int) (h : Hp) : Option (Int × Hp) :=
  bd (f_J0_checkIndex_df160_u x1 138 h) fun v1 h2 =>
  ck (0 ≤ x1 ∧ x1 < 138) <|
  ck (0 ≤ (band (xTb.getD (x1).toNat 0) 255) ∧ (band (xTb.getD (x1).toNat 0) 255) < 65536) <|
  ck (0 ≤ (band (xTb.getD (x1).toNat 0) 255) ∧ (band (xTb.getD (x1).toNat 0) 255) < 65536) <|
  some (band (xTb.getD (x1).toNat 0) 255, h2)
noncomputable def g_J1_charAt_3b067_u (n : Nat) : Rk := Nat.rec (motive := fun _ => Rk) (fun _ _ _ => none) (fun _ rec k l h => if k = 0 then b_J1_charAt_3b067_u_0 rec (l.getD 0 0) h else none) n
noncomputable def f_J1_charAt_3b067_u (x1 : Int) (h : Hp) : Option (Int × Hp) := g_J1_charAt_3b067_u FU 0 [x1] h
set_option maxHeartbeats 4000000 in
set_option maxRecDepth 100000 in
theorem t_J1_charAt_3b067_u_0 (E : xE) (d : Nat) (rec : Rk) (r : Int × Hp) (x1 : Int) (h : Hp) (hF : b_J1_charAt_3b067_u_0 rec x1 h = some r) : X E mJ1_charAt_3b067 (d + 3) (0, 0) (0, 0) 0 [some (xr 911 0), some (xi x1)] [] h (PuI r) := by
  unfold b_J1_charAt_3b067_u_0 at hF
  refine x_iload_n (i := 1) (b := 1) dJ1_charAt_3b067_0 rfl rfl rfl ?_
  refine x_aload_n (i := 0) (b := 2) dJ1_charAt_3b067_1 rfl rfl rfl ?_
  refine x_alenS (v := 138) (b := 3) dJ1_charAt_3b067_2 rfl rfl ?_
  obtain ⟨v1, h2, hq, hF⟩ := bd_e hF
  refine x_callS (as := [xi x1, xi 138]) (rest := []) (b := 6) (c_J0_checkIndex_df160_u d x1 138 h _ hq) dJ1_charAt_3b067_3 cx_J1_9 rfl rfl (Nat.le_of_ble_eq_true rfl) ⟨Nat.le_refl _, Nat.le_refl _⟩ rfl (fun rv hh hp _ => ?_)
  obtain ⟨rfl, rfl⟩ := hp
  refine x_aload_n (i := 0) (b := 7) dJ1_charAt_3b067_6 rfl rfl rfl ?_
  refine x_iload_n (i := 1) (b := 8) dJ1_charAt_3b067_7 rfl rfl rfl ?_
  obtain ⟨hs, hF⟩ := ck_e hF
  refine x_baldS (v := xTb.getD (x1).toNat 0) (b := 9) dJ1_charAt_3b067_8 hs rfl rfl ?_
  refine x_sipush (n := 255) (b := 12) dJ1_charAt_3b067_9 (by decide) rfl ?_
  refine x_iand (b := 13) dJ1_charAt_3b067_12 rfl ?_
  obtain ⟨hs, hF⟩ := ck_e hF
  refine x_i2c (b := 14) dJ1_charAt_3b067_13 hs rfl ?_
  obtain ⟨hs, hF⟩ := ck_e hF
  refine x_creturn dJ1_charAt_3b067_14 rfl ⟨Nat.le_refl _, Nat.le_refl _⟩ hs ?_
  cases hF
  exact ⟨rfl, rfl⟩
set_option maxHeartbeats 4000000 in
set_option maxRecDepth 100000 in
theorem u_J1_charAt_3b067_u (E : xE) (d : Nat) (r : Int × Hp) : ∀ n : Nat, (∀ (x1 : Int) (h : Hp), g_J1_charAt_3b067_u n 0 [x1] h = some r → X E mJ1_charAt_3b067 (d + 3) (0, 0) (0, 0) 0 [some (xr 911 0), some (xi x1)] [] h (PuI r)) := by
  intro n
  induction n with
  | zero => exact fun _ _ hF => no_e (r := r) hF
  | succ n ih => exact fun x1 h hF => t_J1_charAt_3b067_u_0 E d (g_J1_charAt_3b067_u n) r  x1 h hF
theorem c_J1_charAt_3b067_u (d : Nat) (x1 : Int) (h : Hp) (r : Int × Hp) (hF : f_J1_charAt_3b067_u x1 h = some r) : Sp mJ1_charAt_3b067 (d + 3) (0, 0) [xr 911 0, xi x1] h (PuI r) :=
  sp_of (by decide) rfl (Nat.le_of_ble_eq_true rfl) (ls := [some (xr 911 0), some (xi x1)]) rfl (fun E _ => (u_J1_charAt_3b067_u E d r FU) x1 h hF)
noncomputable def b_J0_charAt_5068e_u_0 (rec : Rk) (x1 : Int) (h : Hp) : Option (Int × Hp) :=
  bd (f_J0_isLatin1_aae02_u h) fun v1 h2 =>
  if v1 = 0 then (
    none
  ) else (
    bd (f_J1_charAt_3b067_u x1 h2) fun v3 h4 =>
    ck (0 ≤ v3 ∧ v3 < 65536) <|
    some (v3, h4)
  )
noncomputable def g_J0_charAt_5068e_u (n : Nat) : Rk := Nat.rec (motive := fun _ => Rk) (fun _ _ _ => none) (fun _ rec k l h => if k = 0 then b_J0_charAt_5068e_u_0 rec (l.getD 0 0) h else none) n
noncomputable def f_J0_charAt_5068e_u (x1 : Int) (h : Hp) : Option (Int × Hp) := g_J0_charAt_5068e_u FU 0 [x1] h
set_option maxHeartbeats 4000000 in
set_option maxRecDepth 100000 in
theorem t_J0_charAt_5068e_u_0 (E : xE) (d : Nat) (rec : Rk) (r : Int × Hp) (x1 : Int) (h : Hp) (hF : b_J0_charAt_5068e_u_0 rec x1 h = some r) : X E mJ0_charAt_5068e (d + 4) (0, 0) (0, 0) 0 [some (xr 910 0), some (xi x1)] [] h (PuI r) := by
  unfold b_J0_charAt_5068e_u_0 at hF
  refine x_aload_n (i := 0) (b := 1) dJ0_charAt_5068e_0 rfl rfl rfl ?_
  obtain ⟨v1, h2, hq, hF⟩ := bd_e hF
  refine x_callVS (as := []) (rest := []) (b := 4) (c_J0_isLatin1_aae02_u (d + 2) h _ hq) rfl dJ0_charAt_5068e_1 cx_J0_492 rfl rfl (Nat.le_of_ble_eq_true rfl) ⟨Nat.le_refl _, Nat.le_refl _⟩ rfl (fun rv hh hp _ => ?_)
  obtain ⟨rfl, rfl⟩ := hp
  refine x_if_eq (tgt := 16) (b := 7) dJ0_charAt_5068e_4 (by decide) rfl (fun hc => ?_) (fun hc => ?_)
  · replace hF := br_T hc hF
    refine x_aload_n (i := 0) (b := 17) dJ0_charAt_5068e_16 rfl rfl rfl ?_
    refine x_sVal (b := 20) rfl dJ0_charAt_5068e_17 kx_2163 rfl ?_
    refine x_iload_n (i := 1) (b := 21) dJ0_charAt_5068e_20 rfl rfl rfl ?_
    exact no_e hF
  · replace hF := br_F hc hF
    refine x_aload_n (i := 0) (b := 8) dJ0_charAt_5068e_7 rfl rfl rfl ?_
    refine x_sVal (b := 11) rfl dJ0_charAt_5068e_8 kx_2163 rfl ?_
    refine x_iload_n (i := 1) (b := 12) dJ0_charAt_5068e_11 rfl rfl rfl ?_
    obtain ⟨v3, h4, hq, hF⟩ := bd_e hF
    refine x_callS (as := [xr 911 0, xi x1]) (rest := []) (b := 15) (c_J1_charAt_3b067_u d x1 h2 _ hq) dJ0_charAt_5068e_12 cx_J0_495 rfl rfl (Nat.le_of_ble_eq_true rfl) ⟨Nat.le_refl _, Nat.le_refl _⟩ rfl (fun rv hh hp _ => ?_)
    obtain ⟨rfl, rfl⟩ := hp
    obtain ⟨hs, hF⟩ := ck_e hF
    refine x_creturn dJ0_charAt_5068e_15 rfl ⟨Nat.le_refl _, Nat.le_refl _⟩ hs ?_
    cases hF
    exact ⟨rfl, rfl⟩
set_option maxHeartbeats 4000000 in
set_option maxRecDepth 100000 in
theorem u_J0_charAt_5068e_u (E : xE) (d : Nat) (r : Int × Hp) : ∀ n : Nat, (∀ (x1 : Int) (h : Hp), g_J0_charAt_5068e_u n 0 [x1] h = some r → X E mJ0_charAt_5068e (d + 4) (0, 0) (0, 0) 0 [some (xr 910 0), some (xi x1)] [] h (PuI r)) := by
  intro n
  induction n with
  | zero => exact fun _ _ hF => no_e (r := r) hF
  | succ n ih => exact fun x1 h hF => t_J0_charAt_5068e_u_0 E d (g_J0_charAt_5068e_u n) r  x1 h hF
theorem c_J0_charAt_5068e_u (d : Nat) (x1 : Int) (h : Hp) (r : Int × Hp) (hF : f_J0_charAt_5068e_u x1 h = some r) : Sp mJ0_charAt_5068e (d + 4) (0, 0) [xr 910 0, xi x1] h (PuI r) :=
  sp_of (by decide) rfl (Nat.le_of_ble_eq_true rfl) (ls := [some (xr 910 0), some (xi x1)]) rfl (fun E _ => (u_J0_charAt_5068e_u E d r FU) x1 h hF)
