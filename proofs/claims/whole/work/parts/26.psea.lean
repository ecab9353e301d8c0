/-! WHAT THE FUNCTIONS ARE, 1: the sea of the class -/
theorem ck_p2 {α : Type} {p : Prop} [Decidable p] {e : Option α} (h : p) : ck p e = e := if_pos h
theorem lt_p {α β : Type} {x : α} {f : α → Option β} : lt x f = f x := rfl
abbrev cellP (W H c : Int) : Prop := 0 ≤ c ∧ c < W * H
abbrev seaB (h : Hp) (i : Int) : Prop := 1 ≤ gI h 9 i 0 ∧ gI h 9 i 0 ≤ 8 ∧ 1 ≤ gI h 9 i 1 ∧ gI h 9 i 1 ≤ 8
/-- the bit c of a row of bits -/
abbrev lbit (N c : Int) : Prop := ¬ bandL (bushrL N c) 1 = 0
def stepF (W H c k : Int) : Int := if cellP W H c then (if k = 0 then (if W ≤ c then c - W else -1) else if k = 1 then (if c % W + 1 < W then c + 1 else -1) else if k = 2 then (if c + W < W * H then c + W else -1) else if k = 3 then (if 0 < c % W then c - 1 else -1) else -1) else -1
theorem sea_mul {W H : Int} (h : 1 ≤ W ∧ W ≤ 8 ∧ 1 ≤ H ∧ H ≤ 8) : 1 ≤ W * H ∧ W * H ≤ 64 := by
  obtain ⟨h1, h2, h3, h4⟩ := h
  have e1 : W * H ≤ 8 * 8 := Int.mul_le_mul h2 h4 (by omega) (by omega)
  have e2 : 1 * 1 ≤ W * H := Int.mul_le_mul h1 h3 (by omega) (by omega)
  omega
theorem p_X9_isCell {h : Hp} {i c : Int} (hb : seaB h i) : f_X9_isCell i c h = some (b2i (cellP (gI h 9 i 0) (gI h 9 i 1) c), h) := by
  show b_X9_isCell_0 (g_X9_isCell 999999999) i c h = _
  have hm := sea_mul hb
  unfold b_X9_isCell_0 b2i cellP
  rw [ck_p2 (by omega)]
  split
  · rw [if_neg (by omega)]
  · split
    · rw [if_neg (by omega)]
    · rw [if_neg (by omega), if_pos (by omega)]
theorem p_X9_isWater {h : Hp} {i c : Int} (hb : seaB h i) : f_X9_isWater i c h = some (b2i (cellP (gI h 9 i 0) (gI h 9 i 1) c ∧ ¬ lbit (gI h 9 i 2) c), h) := by
  show b_X9_isWater_0 (g_X9_isWater 999999999) i c h = _
  unfold b_X9_isWater_0
  rw [p_X9_isCell hb, bd_s]
  by_cases q : cellP (gI h 9 i 0) (gI h 9 i 1) c
  · rw [if_neg (fun z => (b2i_0.mp z) q)]
    by_cases q2 : bandL (bushrL (gI h 9 i 2) c) 1 = 0
    · rw [if_pos (lc_eq0.mpr q2), b2i, if_pos ⟨q, fun z => z q2⟩]
    · rw [if_neg (fun z => q2 (lc_eq0.mp z)), b2i, if_neg (fun z => z.2 q2)]
  · rw [if_pos (b2i_0.mpr q), b2i, if_neg (fun z => q z.1)]
theorem p_X9_isLand {h : Hp} {i c : Int} (hb : seaB h i) : f_X9_isLand i c h = some (b2i (cellP (gI h 9 i 0) (gI h 9 i 1) c ∧ lbit (gI h 9 i 2) c), h) := by
  show b_X9_isLand_0 (g_X9_isLand 999999999) i c h = _
  unfold b_X9_isLand_0
  rw [p_X9_isCell hb, bd_s]
  by_cases q : cellP (gI h 9 i 0) (gI h 9 i 1) c
  · rw [if_neg (fun z => (b2i_0.mp z) q)]
    by_cases q2 : bandL (bushrL (gI h 9 i 2) c) 1 = 0
    · rw [if_pos (lc_eq0.mpr q2), b2i, if_neg (fun z => z.2 q2)]
    · rw [if_neg (fun z => q2 (lc_eq0.mp z)), b2i, if_pos ⟨q, q2⟩]
  · rw [if_pos (b2i_0.mpr q), b2i, if_neg (fun z => q z.1)]
theorem p_X9_fromBahia {h : Hp} {i c : Int} : f_X9_fromBahia i c h = some (if 0 ≤ c ∧ c < 64 then gI h 55 i (192 + c) else 99, h) := by
  show b_X9_fromBahia_0 (g_X9_fromBahia 999999999) i c h = _
  unfold b_X9_fromBahia_0
  by_cases q1 : c < 0
  · rw [if_pos q1, if_neg (by omega)]
  · rw [if_neg q1]
    by_cases q2 : 64 ≤ c
    · rw [if_pos q2, if_neg (by omega)]
    · rw [if_neg q2, ck_p2 (by omega), ck_p2 (by omega), if_pos (by omega)]
theorem p_X9_step {h : Hp} {i c k : Int} (hb : seaB h i) : f_X9_step i c k h = some (stepF (gI h 9 i 0) (gI h 9 i 1) c k, h) := by
  show b_X9_step_0 (g_X9_step 999999999) i c k h = _
  have hm := sea_mul hb
  unfold b_X9_step_0 stepF
  rw [p_X9_isCell hb, bd_s]
  by_cases q : cellP (gI h 9 i 0) (gI h 9 i 1) c
  · have m1 := Int.emod_nonneg c (show gI h 9 i 0 ≠ 0 by omega)
    have m2 := Int.emod_lt_of_pos c (show 0 < gI h 9 i 0 by omega)
    rw [if_neg (fun z => (b2i_0.mp z) q), if_pos hb.1, ck_p2 (by omega), lt_p, if_pos q]
    by_cases k0 : k = 0
    · rw [if_pos k0, if_pos k0]
      by_cases z : c < gI h 9 i 0
      · rw [if_pos z, if_neg (by omega)]
      · rw [if_neg z, if_pos (by omega), ck_p2 (by omega)]
    · rw [if_neg k0, if_neg k0]
      by_cases k1 : k = 1
      · rw [if_pos k1, if_pos k1, ck_p2 (by omega)]
        by_cases z : gI h 9 i 0 ≤ c % gI h 9 i 0 + 1
        · rw [if_pos z, if_neg (by omega)]
        · rw [if_neg z, if_pos (by omega), ck_p2 (by omega)]
      · rw [if_neg k1, if_neg k1]
        by_cases k2 : k = 2
        · rw [if_pos k2, if_pos k2, ck_p2 (by omega), p_X9_isCell hb, bd_s]
          by_cases z : c + gI h 9 i 0 < gI h 9 i 0 * gI h 9 i 1
          · rw [if_neg (fun w => (b2i_0.mp w) ⟨by omega, z⟩), if_pos z, ck_p2 (by omega)]
          · rw [if_pos (b2i_0.mpr (fun w => z w.2)), if_neg z]
        · rw [if_neg k2, if_neg k2]
          by_cases k3 : k = 3
          · rw [if_pos k3, if_pos k3]
            by_cases z : c % gI h 9 i 0 ≤ 0
            · rw [if_pos z, if_neg (by omega)]
            · rw [if_neg z, if_pos (by omega), ck_p2 (by omega)]
          · rw [if_neg k3, if_neg k3]
  · rw [if_pos (b2i_0.mpr q), if_neg q]
