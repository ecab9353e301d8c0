/-! METHODS WITHOUT THE LAYOUT: they do as those with it, where the references stand as laid -/
section
variable {α β : Type} {r : Int × Hp} {P : Prop}
theorem sl_lt {x : α} {f : α → Option (Int × Hp)} (h : f x = some r ∧ P) : lt x f = some r ∧ P := h
theorem lt_x {x : α} {f : α → Option (Int × Hp)} (h : lt x f = some r) : f x = some r := h
theorem sl_ck {p : Prop} [Decidable p] {e : Option (Int × Hp)} (hp : p) (h : e = some r ∧ P) : ck p e = some r ∧ P := by rw [ck_p hp]; exact h
theorem sl_t {p : Prop} [Decidable p] {a b : Option (Int × Hp)} (q : p) (h : a = some r ∧ P) : (if p then a else b) = some r ∧ P := by rw [if_pos q]; exact h
theorem sl_f {p : Prop} [Decidable p] {a b : Option (Int × Hp)} (q : ¬ p) (h : b = some r ∧ P) : (if p then a else b) = some r ∧ P := by rw [if_neg q]; exact h
theorem sl_if {p : Prop} [Decidable p] {a b : Option (Int × Hp)} (h : (if p then a else b) = some r) : (p ∧ a = some r) ∨ (¬ p ∧ b = some r) := by
  by_cases q : p
  · rw [if_pos q] at h; exact Or.inl ⟨q, h⟩
  · rw [if_neg q] at h; exact Or.inr ⟨q, h⟩
theorem sl_bd {o : Option (Int × Hp)} {f : Int → Hp → Option (Int × Hp)} {v : Int} {h : Hp} (e : o = some (v, h)) (k : f v h = some r ∧ P) : bd o f = some r ∧ P := by rw [e, bd_s]; exact k
end
abbrev Rf : Type := (Nat → Int → Int → Option (Nat × Int)) × (Nat → Int → Option Nat)
set_option maxHeartbeats 2000000 in
theorem si_X9_isCell {R : Rf} {c : Int}  : ∀ n : Nat, (∀ (x1 : Int) (h : Hp) (r : Int × Hp), h.2 = R → g_X9_isCell n 0 [c, x1] h = some r → g_X9_isCell_u n 0 [c, x1] h = some r ∧ r.2.2 = R)
  | 0 => fun _ _ _ _ hF => no_e hF
  | n + 1 => by
    have i0 := si_X9_isCell (R := R) (c := c)  n
    intro x1 h r hR hF
    replace hF : b_X9_isCell_0 (g_X9_isCell n) c x1 h = some r := hF
    show b_X9_isCell_u_0 (g_X9_isCell_u n) c x1 h = some r ∧ r.2.2 = R
    unfold b_X9_isCell_0 at hF
    unfold b_X9_isCell_u_0
    rcases sl_if hF with ⟨q1, hF⟩ | ⟨q1, hF⟩
    · refine sl_t q1 ?_
      exact ⟨hF, by cases hF; exact hR⟩
    · refine sl_f q1 ?_
      obtain ⟨q2, hF⟩ := ck_e hF
      refine sl_ck q2 ?_
      rcases sl_if hF with ⟨q3, hF⟩ | ⟨q3, hF⟩
      · refine sl_t q3 ?_
        exact ⟨hF, by cases hF; exact hR⟩
      · refine sl_f q3 ?_
        rcases sl_if hF with ⟨q4, hF⟩ | ⟨q4, hF⟩
        · refine sl_t q4 ?_
          exact ⟨hF, by cases hF; exact hR⟩
        · refine sl_f q4 ?_
          exact ⟨hF, by cases hF; exact hR⟩
theorem sm_X9_isCell {R : Rf} {c : Int} {x1 : Int} {h : Hp} {r : Int × Hp} (hR : h.2 = R) (hF : f_X9_isCell c x1 h = some r) : f_X9_isCell_u c x1 h = some r ∧ r.2.2 = R := (si_X9_isCell  FU) x1 h r hR hF
set_option maxHeartbeats 2000000 in
theorem si_X9_isWater {R : Rf} {c : Int}  : ∀ n : Nat, (∀ (x1 : Int) (h : Hp) (r : Int × Hp), h.2 = R → g_X9_isWater n 0 [c, x1] h = some r → g_X9_isWater_u n 0 [c, x1] h = some r ∧ r.2.2 = R)
  | 0 => fun _ _ _ _ hF => no_e hF
  | n + 1 => by
    have i0 := si_X9_isWater (R := R) (c := c)  n
    intro x1 h r hR hF
    replace hF : b_X9_isWater_0 (g_X9_isWater n) c x1 h = some r := hF
    show b_X9_isWater_u_0 (g_X9_isWater_u n) c x1 h = some r ∧ r.2.2 = R
    unfold b_X9_isWater_0 at hF
    unfold b_X9_isWater_u_0
    obtain ⟨v1, hh1, e1, hF⟩ := bd_e hF
    obtain ⟨s1, hR1⟩ := sm_X9_isCell  hR e1
    refine sl_bd s1 ?_
    rcases sl_if hF with ⟨q2, hF⟩ | ⟨q2, hF⟩
    · refine sl_t q2 ?_
      exact ⟨hF, by cases hF; exact hR1⟩
    · refine sl_f q2 ?_
      rcases sl_if hF with ⟨q3, hF⟩ | ⟨q3, hF⟩
      · refine sl_t q3 ?_
        exact ⟨hF, by cases hF; exact hR1⟩
      · refine sl_f q3 ?_
        exact ⟨hF, by cases hF; exact hR1⟩
theorem sm_X9_isWater {R : Rf} {c : Int} {x1 : Int} {h : Hp} {r : Int × Hp} (hR : h.2 = R) (hF : f_X9_isWater c x1 h = some r) : f_X9_isWater_u c x1 h = some r ∧ r.2.2 = R := (si_X9_isWater  FU) x1 h r hR hF
set_option maxHeartbeats 2000000 in
theorem si_X9_step {R : Rf} {c : Int}  : ∀ n : Nat, (∀ (x1 x2 : Int) (h : Hp) (r : Int × Hp), h.2 = R → g_X9_step n 0 [c, x1, x2] h = some r → g_X9_step_u n 0 [c, x1, x2] h = some r ∧ r.2.2 = R)
  | 0 => fun _ _ _ _ _ hF => no_e hF
  | n + 1 => by
    have i0 := si_X9_step (R := R) (c := c)  n
    intro x1 x2 h r hR hF
    replace hF : b_X9_step_0 (g_X9_step n) c x1 x2 h = some r := hF
    show b_X9_step_u_0 (g_X9_step_u n) c x1 x2 h = some r ∧ r.2.2 = R
    unfold b_X9_step_0 at hF
    unfold b_X9_step_u_0
    obtain ⟨v1, hh1, e1, hF⟩ := bd_e hF
    obtain ⟨s1, hR1⟩ := sm_X9_isCell  hR e1
    refine sl_bd s1 ?_
    rcases sl_if hF with ⟨q2, hF⟩ | ⟨q2, hF⟩
    · refine sl_t q2 ?_
      exact ⟨hF, by cases hF; exact hR1⟩
    · refine sl_f q2 ?_
      rcases sl_if hF with ⟨q3, hF⟩ | ⟨q3, hF⟩
      · refine sl_t q3 ?_
        obtain ⟨q4, hF⟩ := ck_e hF
        refine sl_ck q4 ?_
        replace hF := lt_x hF
        refine sl_lt ?_
        rcases sl_if hF with ⟨q5, hF⟩ | ⟨q5, hF⟩
        · refine sl_t q5 ?_
          rcases sl_if hF with ⟨q6, hF⟩ | ⟨q6, hF⟩
          · refine sl_t q6 ?_
            exact ⟨hF, by cases hF; exact hR1⟩
          · refine sl_f q6 ?_
            obtain ⟨q7, hF⟩ := ck_e hF
            refine sl_ck q7 ?_
            exact ⟨hF, by cases hF; exact hR1⟩
        · refine sl_f q5 ?_
          rcases sl_if hF with ⟨q8, hF⟩ | ⟨q8, hF⟩
          · refine sl_t q8 ?_
            obtain ⟨q9, hF⟩ := ck_e hF
            refine sl_ck q9 ?_
            rcases sl_if hF with ⟨q10, hF⟩ | ⟨q10, hF⟩
            · refine sl_t q10 ?_
              exact ⟨hF, by cases hF; exact hR1⟩
            · refine sl_f q10 ?_
              obtain ⟨q11, hF⟩ := ck_e hF
              refine sl_ck q11 ?_
              exact ⟨hF, by cases hF; exact hR1⟩
          · refine sl_f q8 ?_
            rcases sl_if hF with ⟨q12, hF⟩ | ⟨q12, hF⟩
            · refine sl_t q12 ?_
              obtain ⟨q13, hF⟩ := ck_e hF
              refine sl_ck q13 ?_
              obtain ⟨v14, hh14, e14, hF⟩ := bd_e hF
              obtain ⟨s14, hR14⟩ := sm_X9_isCell  hR1 e14
              refine sl_bd s14 ?_
              rcases sl_if hF with ⟨q15, hF⟩ | ⟨q15, hF⟩
              · refine sl_t q15 ?_
                exact ⟨hF, by cases hF; exact hR14⟩
              · refine sl_f q15 ?_
                obtain ⟨q16, hF⟩ := ck_e hF
                refine sl_ck q16 ?_
                exact ⟨hF, by cases hF; exact hR14⟩
            · refine sl_f q12 ?_
              rcases sl_if hF with ⟨q17, hF⟩ | ⟨q17, hF⟩
              · refine sl_t q17 ?_
                rcases sl_if hF with ⟨q18, hF⟩ | ⟨q18, hF⟩
                · refine sl_t q18 ?_
                  exact ⟨hF, by cases hF; exact hR1⟩
                · refine sl_f q18 ?_
                  obtain ⟨q19, hF⟩ := ck_e hF
                  refine sl_ck q19 ?_
                  exact ⟨hF, by cases hF; exact hR1⟩
              · refine sl_f q17 ?_
                exact ⟨hF, by cases hF; exact hR1⟩
      · refine sl_f q3 ?_
        exact ⟨hF, by cases hF; exact hR1⟩
theorem sm_X9_step {R : Rf} {c : Int} {x1 x2 : Int} {h : Hp} {r : Int × Hp} (hR : h.2 = R) (hF : f_X9_step c x1 x2 h = some r) : f_X9_step_u c x1 x2 h = some r ∧ r.2.2 = R := (si_X9_step  FU) x1 x2 h r hR hF
set_option maxHeartbeats 2000000 in
theorem si_X9_spread {R : Rf} {c : Int} (f0 : R.1 9 c 11 = some (55, c)) (f1 : R.1 9 c 12 = some (56, c)) : ∀ n : Nat, (∀ (x1 x2 : Int) (h : Hp) (r : Int × Hp), h.2 = R → g_X9_spread n 0 [c, x1, x2] h = some r → g_X9_spread_u n 0 [c, x1, x2] h = some r ∧ r.2.2 = R) ∧ (∀ (x1 x3 x4 : Int) (h : Hp) (r : Int × Hp), h.2 = R → g_X9_spread n 1 [c, x1, x3, x4] h = some r → g_X9_spread_u n 1 [c, x1, x3, x4] h = some r ∧ r.2.2 = R) ∧ (∀ (x3 x4 x5 : Int) (h : Hp) (r : Int × Hp), h.2 = R → g_X9_spread n 2 [c, x3, x4, x5] h = some r → g_X9_spread_u n 2 [c, x3, x4, x5] h = some r ∧ r.2.2 = R) ∧ (∀ (x3 x4 x5 x6 x7 : Int) (h : Hp) (r : Int × Hp), h.2 = R → g_X9_spread n 3 [c, x3, x4, x5, x6, x7] h = some r → g_X9_spread_u n 3 [c, x3, x4, x5, x6, x7] h = some r ∧ r.2.2 = R) ∧ (∀ (x3 x4 x5 x6 x7 : Int) (h : Hp) (r : Int × Hp), h.2 = R → g_X9_spread n 4 [c, x3, x4, x5, x6, x7] h = some r → g_X9_spread_u n 4 [c, x3, x4, x5, x6, x7] h = some r ∧ r.2.2 = R)
  | 0 => ⟨fun _ _ _ _ _ hF => no_e hF, fun _ _ _ _ _ _ hF => no_e hF, fun _ _ _ _ _ _ hF => no_e hF, fun _ _ _ _ _ _ _ _ hF => no_e hF, fun _ _ _ _ _ _ _ _ hF => no_e hF⟩
  | n + 1 => by
    obtain ⟨i0, i1, i2, i3, i4⟩ := si_X9_spread (R := R) (c := c) f0 f1 n
    refine ⟨?_, ?_, ?_, ?_, ?_⟩
    · intro x1 x2 h r hR hF
      replace hF : b_X9_spread_0 (g_X9_spread n) c x1 x2 h = some r := hF
      show b_X9_spread_u_0 (g_X9_spread_u n) c x1 x2 h = some r ∧ r.2.2 = R
      unfold b_X9_spread_0 at hF
      unfold b_X9_spread_u_0
      obtain ⟨q1, hF⟩ := ck_e hF
      refine sl_ck q1 ?_
      replace hF := lt_x hF
      refine sl_lt ?_
      rcases sl_if hF with ⟨q2, hF⟩ | ⟨q2, hF⟩
      · refine sl_t q2 ?_
        exact ⟨hF, by cases hF; exact hR⟩
      · refine sl_f q2 ?_
        obtain ⟨q3, hF⟩ := ck_e hF
        refine sl_ck q3 ?_
        refine sl_ck (by show h.2.1 9 c 11 = _; rw [hR]; exact f0) ?_
        rcases sl_if hF with ⟨q4, hF⟩ | ⟨q4, hF⟩
        · refine sl_t q4 ?_
          exact i1 _ _ _ _ _ hR hF
        · refine sl_f q4 ?_
          exact ⟨hF, by cases hF; exact hR⟩
    · intro x1 x3 x4 h r hR hF
      replace hF : b_X9_spread_1 (g_X9_spread n) c x1 x3 x4 h = some r := hF
      show b_X9_spread_u_1 (g_X9_spread_u n) c x1 x3 x4 h = some r ∧ r.2.2 = R
      unfold b_X9_spread_1 at hF
      unfold b_X9_spread_u_1
      rcases sl_if hF with ⟨q1, hF⟩ | ⟨q1, hF⟩
      · refine sl_t q1 ?_
        obtain ⟨v2, hh2, e2, hF⟩ := bd_e hF
        obtain ⟨s2, hR2⟩ := sm_X9_isWater  hR e2
        refine sl_bd s2 ?_
        rcases sl_if hF with ⟨q3, hF⟩ | ⟨q3, hF⟩
        · refine sl_t q3 ?_
          exact ⟨hF, by cases hF; exact hR2⟩
        · refine sl_f q3 ?_
          refine sl_ck (by show hh2.2.1 9 c 12 = _; rw [hR2]; exact f1) ?_
          obtain ⟨q4, hF⟩ := ck_e hF
          refine sl_ck q4 ?_
          replace hF := lt_x hF
          refine sl_lt ?_
          refine sl_ck (by show hh2.2.1 9 c 11 = _; rw [hR2]; exact f0) ?_
          obtain ⟨q5, hF⟩ := ck_e hF
          refine sl_ck q5 ?_
          obtain ⟨q6, hF⟩ := ck_e hF
          refine sl_ck q6 ?_
          replace hF := lt_x hF
          refine sl_lt ?_
          exact i2 _ _ _ _ _ hR2 hF
      · refine sl_f q1 ?_
        refine sl_ck (by show h.2.1 9 c 11 = _; rw [hR]; exact f0) ?_
        obtain ⟨q7, hF⟩ := ck_e hF
        refine sl_ck q7 ?_
        obtain ⟨q8, hF⟩ := ck_e hF
        refine sl_ck q8 ?_
        replace hF := lt_x hF
        refine sl_lt ?_
        obtain ⟨q9, hF⟩ := ck_e hF
        refine sl_ck q9 ?_
        exact i1 _ _ _ _ _ hR hF
    · intro x3 x4 x5 h r hR hF
      replace hF : b_X9_spread_2 (g_X9_spread n) c x3 x4 x5 h = some r := hF
      show b_X9_spread_u_2 (g_X9_spread_u n) c x3 x4 x5 h = some r ∧ r.2.2 = R
      unfold b_X9_spread_2 at hF
      unfold b_X9_spread_u_2
      rcases sl_if hF with ⟨q1, hF⟩ | ⟨q1, hF⟩
      · refine sl_t q1 ?_
        exact ⟨hF, by cases hF; exact hR⟩
      · refine sl_f q1 ?_
        rcases sl_if hF with ⟨q2, hF⟩ | ⟨q2, hF⟩
        · refine sl_t q2 ?_
          exact ⟨hF, by cases hF; exact hR⟩
        · refine sl_f q2 ?_
          refine sl_ck (by show h.2.1 9 c 12 = _; rw [hR]; exact f1) ?_
          obtain ⟨q3, hF⟩ := ck_e hF
          refine sl_ck q3 ?_
          replace hF := lt_x hF
          refine sl_lt ?_
          exact i3 _ _ _ _ _ _ _ hR hF
    · intro x3 x4 x5 x6 x7 h r hR hF
      replace hF : b_X9_spread_3 (g_X9_spread n) c x3 x4 x5 x6 x7 h = some r := hF
      show b_X9_spread_u_3 (g_X9_spread_u n) c x3 x4 x5 x6 x7 h = some r ∧ r.2.2 = R
      unfold b_X9_spread_3 at hF
      unfold b_X9_spread_u_3
      rcases sl_if hF with ⟨q1, hF⟩ | ⟨q1, hF⟩
      · refine sl_t q1 ?_
        obtain ⟨q2, hF⟩ := ck_e hF
        refine sl_ck q2 ?_
        exact i2 _ _ _ _ _ hR hF
      · refine sl_f q1 ?_
        obtain ⟨v3, hh3, e3, hF⟩ := bd_e hF
        obtain ⟨s3, hR3⟩ := sm_X9_step  hR e3
        refine sl_bd s3 ?_
        obtain ⟨v4, hh4, e4, hF⟩ := bd_e hF
        obtain ⟨s4, hR4⟩ := sm_X9_isWater  hR3 e4
        refine sl_bd s4 ?_
        rcases sl_if hF with ⟨q5, hF⟩ | ⟨q5, hF⟩
        · refine sl_t q5 ?_
          exact i4 _ _ _ _ _ _ _ hR4 hF
        · refine sl_f q5 ?_
          refine sl_ck (by show hh4.2.1 9 c 11 = _; rw [hR4]; exact f0) ?_
          obtain ⟨q6, hF⟩ := ck_e hF
          refine sl_ck q6 ?_
          obtain ⟨q7, hF⟩ := ck_e hF
          refine sl_ck q7 ?_
          rcases sl_if hF with ⟨q8, hF⟩ | ⟨q8, hF⟩
          · refine sl_t q8 ?_
            rcases sl_if hF with ⟨q9, hF⟩ | ⟨q9, hF⟩
            · refine sl_t q9 ?_
              exact i4 _ _ _ _ _ _ _ hR4 hF
            · refine sl_f q9 ?_
              refine sl_ck (by show hh4.2.1 9 c 11 = _; rw [hR4]; exact f0) ?_
              obtain ⟨q10, hF⟩ := ck_e hF
              refine sl_ck q10 ?_
              refine sl_ck (by show hh4.2.1 9 c 11 = _; rw [hR4]; exact f0) ?_
              obtain ⟨q11, hF⟩ := ck_e hF
              refine sl_ck q11 ?_
              obtain ⟨q12, hF⟩ := ck_e hF
              refine sl_ck q12 ?_
              obtain ⟨q13, hF⟩ := ck_e hF
              refine sl_ck q13 ?_
              obtain ⟨q14, hF⟩ := ck_e hF
              refine sl_ck q14 ?_
              replace hF := lt_x hF
              refine sl_lt ?_
              refine sl_ck (by show hh4.2.1 9 c 12 = _; rw [hR4]; exact f1) ?_
              obtain ⟨q15, hF⟩ := ck_e hF
              refine sl_ck q15 ?_
              replace hF := lt_x hF
              refine sl_lt ?_
              obtain ⟨q16, hF⟩ := ck_e hF
              refine sl_ck q16 ?_
              exact i4 _ _ _ _ _ _ _ hR4 hF
          · refine sl_f q8 ?_
            exact i4 _ _ _ _ _ _ _ hR4 hF
    · intro x3 x4 x5 x6 x7 h r hR hF
      replace hF : b_X9_spread_4 (g_X9_spread n) c x3 x4 x5 x6 x7 h = some r := hF
      show b_X9_spread_u_4 (g_X9_spread_u n) c x3 x4 x5 x6 x7 h = some r ∧ r.2.2 = R
      unfold b_X9_spread_4 at hF
      unfold b_X9_spread_u_4
      obtain ⟨q1, hF⟩ := ck_e hF
      refine sl_ck q1 ?_
      exact i3 _ _ _ _ _ _ _ hR hF
theorem sm_X9_spread {R : Rf} {c : Int} {x1 x2 : Int} (f0 : R.1 9 c 11 = some (55, c)) (f1 : R.1 9 c 12 = some (56, c)) {h : Hp} {r : Int × Hp} (hR : h.2 = R) (hF : f_X9_spread c x1 x2 h = some r) : f_X9_spread_u c x1 x2 h = some r ∧ r.2.2 = R := (si_X9_spread f0 f1 FU).1 x1 x2 h r hR hF
set_option maxHeartbeats 2000000 in
theorem si_X9_measure {R : Rf} {c : Int} (f0 : R.1 9 c 8 = some (52, c)) (f1 : R.1 9 c 11 = some (55, c)) (f2 : R.1 9 c 12 = some (56, c)) : ∀ n : Nat, (∀ (h : Hp) (r : Int × Hp), h.2 = R → g_X9_measure n 0 [c] h = some r → g_X9_measure_u n 0 [c] h = some r ∧ r.2.2 = R) ∧ (∀ (x1 : Int) (h : Hp) (r : Int × Hp), h.2 = R → g_X9_measure n 1 [c, x1] h = some r → g_X9_measure_u n 1 [c, x1] h = some r ∧ r.2.2 = R) ∧ (∀ (h : Hp) (r : Int × Hp), h.2 = R → g_X9_measure n 2 [c] h = some r → g_X9_measure_u n 2 [c] h = some r ∧ r.2.2 = R)
  | 0 => ⟨fun _ _ _ hF => no_e hF, fun _ _ _ _ hF => no_e hF, fun _ _ _ hF => no_e hF⟩
  | n + 1 => by
    obtain ⟨i0, i1, i2⟩ := si_X9_measure (R := R) (c := c) f0 f1 f2 n
    refine ⟨?_, ?_, ?_⟩
    · intro h r hR hF
      replace hF : b_X9_measure_0 (g_X9_measure n) c h = some r := hF
      show b_X9_measure_u_0 (g_X9_measure_u n) c h = some r ∧ r.2.2 = R
      unfold b_X9_measure_0 at hF
      unfold b_X9_measure_u_0
      exact i1 _ _ _ hR hF
    · intro x1 h r hR hF
      replace hF : b_X9_measure_1 (g_X9_measure n) c x1 h = some r := hF
      show b_X9_measure_u_1 (g_X9_measure_u n) c x1 h = some r ∧ r.2.2 = R
      unfold b_X9_measure_1 at hF
      unfold b_X9_measure_u_1
      rcases sl_if hF with ⟨q1, hF⟩ | ⟨q1, hF⟩
      · refine sl_t q1 ?_
        exact i2 _ _ hR hF
      · refine sl_f q1 ?_
        rcases sl_if hF with ⟨q2, hF⟩ | ⟨q2, hF⟩
        · refine sl_t q2 ?_
          exact i2 _ _ hR hF
        · refine sl_f q2 ?_
          refine sl_ck (by show h.2.1 9 c 8 = _; rw [hR]; exact f0) ?_
          obtain ⟨q3, hF⟩ := ck_e hF
          refine sl_ck q3 ?_
          obtain ⟨v4, hh4, e4, hF⟩ := bd_e hF
          obtain ⟨s4, hR4⟩ := sm_X9_spread f1 f2 hR e4
          refine sl_bd s4 ?_
          obtain ⟨q5, hF⟩ := ck_e hF
          refine sl_ck q5 ?_
          exact i1 _ _ _ hR4 hF
    · intro h r hR hF
      replace hF : b_X9_measure_2 (g_X9_measure n) c h = some r := hF
      show b_X9_measure_u_2 (g_X9_measure_u n) c h = some r ∧ r.2.2 = R
      unfold b_X9_measure_2 at hF
      unfold b_X9_measure_u_2
      obtain ⟨v1, hh1, e1, hF⟩ := bd_e hF
      obtain ⟨s1, hR1⟩ := sm_X9_spread f1 f2 hR e1
      refine sl_bd s1 ?_
      exact ⟨hF, by cases hF; exact hR1⟩
theorem sm_X9_measure {R : Rf} {c : Int} (f0 : R.1 9 c 8 = some (52, c)) (f1 : R.1 9 c 11 = some (55, c)) (f2 : R.1 9 c 12 = some (56, c)) {h : Hp} {r : Int × Hp} (hR : h.2 = R) (hF : f_X9_measure c h = some r) : f_X9_measure_u c h = some r ∧ r.2.2 = R := (si_X9_measure f0 f1 f2 FU).1 h r hR hF
set_option maxHeartbeats 2000000 in
theorem si_X9_clear {R : Rf} {c : Int}  : ∀ n : Nat, (∀ (h : Hp) (r : Int × Hp), h.2 = R → g_X9_clear n 0 [c] h = some r → g_X9_clear_u n 0 [c] h = some r ∧ r.2.2 = R)
  | 0 => fun _ _ _ hF => no_e hF
  | n + 1 => by
    have i0 := si_X9_clear (R := R) (c := c)  n
    intro h r hR hF
    replace hF : b_X9_clear_0 (g_X9_clear n) c h = some r := hF
    show b_X9_clear_u_0 (g_X9_clear_u n) c h = some r ∧ r.2.2 = R
    unfold b_X9_clear_0 at hF
    unfold b_X9_clear_u_0
    replace hF := lt_x hF
    refine sl_lt ?_
    replace hF := lt_x hF
    refine sl_lt ?_
    replace hF := lt_x hF
    refine sl_lt ?_
    replace hF := lt_x hF
    refine sl_lt ?_
    replace hF := lt_x hF
    refine sl_lt ?_
    replace hF := lt_x hF
    refine sl_lt ?_
    replace hF := lt_x hF
    refine sl_lt ?_
    exact ⟨hF, by cases hF; exact hR⟩
theorem sm_X9_clear {R : Rf} {c : Int} {h : Hp} {r : Int × Hp} (hR : h.2 = R) (hF : f_X9_clear c h = some r) : f_X9_clear_u c h = some r ∧ r.2.2 = R := (si_X9_clear  FU) h r hR hF
set_option maxHeartbeats 2000000 in
theorem si_X0_clear {R : Rf} {c : Int} (f0 : R.1 0 c 0 = some (9, c)) (f1 : R.1 0 c 1 = some (1, c)) : ∀ n : Nat, (∀ (h : Hp) (r : Int × Hp), h.2 = R → g_X0_clear n 0 [c] h = some r → g_X0_clear_u n 0 [c] h = some r ∧ r.2.2 = R)
  | 0 => fun _ _ _ hF => no_e hF
  | n + 1 => by
    have i0 := si_X0_clear (R := R) (c := c) f0 f1 n
    intro h r hR hF
    replace hF : b_X0_clear_0 (g_X0_clear n) c h = some r := hF
    show b_X0_clear_u_0 (g_X0_clear_u n) c h = some r ∧ r.2.2 = R
    unfold b_X0_clear_0 at hF
    unfold b_X0_clear_u_0
    refine sl_ck (by show h.2.1 0 c 0 = _; rw [hR]; exact f0) ?_
    obtain ⟨v1, hh1, e1, hF⟩ := bd_e hF
    obtain ⟨s1, hR1⟩ := sm_X9_clear  hR e1
    refine sl_bd s1 ?_
    refine sl_ck (by show hh1.2.1 0 c 1 = _; rw [hR1]; exact f1) ?_
    replace hF := lt_x hF
    refine sl_lt ?_
    replace hF := lt_x hF
    refine sl_lt ?_
    replace hF := lt_x hF
    refine sl_lt ?_
    replace hF := lt_x hF
    refine sl_lt ?_
    replace hF := lt_x hF
    refine sl_lt ?_
    replace hF := lt_x hF
    refine sl_lt ?_
    replace hF := lt_x hF
    refine sl_lt ?_
    replace hF := lt_x hF
    refine sl_lt ?_
    replace hF := lt_x hF
    refine sl_lt ?_
    exact ⟨hF, by cases hF; exact hR1⟩
theorem sm_X0_clear {R : Rf} {c : Int} (f0 : R.1 0 c 0 = some (9, c)) (f1 : R.1 0 c 1 = some (1, c)) {h : Hp} {r : Int × Hp} (hR : h.2 = R) (hF : f_X0_clear c h = some r) : f_X0_clear_u c h = some r ∧ r.2.2 = R := (si_X0_clear f0 f1 FU) h r hR hF
set_option maxHeartbeats 2000000 in
theorem si_X10_begin {R : Rf} {v c : Int} (f0 : R.1 0 c 0 = some (9, c)) (f1 : R.1 10 v 8 = some (57, v)) : ∀ n : Nat, (∀ (h : Hp) (r : Int × Hp), h.2 = R → g_X10_begin n 0 [v, c] h = some r → g_X10_begin_u n 0 [v, c] h = some r ∧ r.2.2 = R) ∧ (∀ (y0 y1 : Int) (h : Hp) (r : Int × Hp), h.2 = R → g_X10_begin n 1 [v, y0, y1] h = some r → g_X10_begin_u n 1 [v, y0, y1] h = some r ∧ r.2.2 = R) ∧ (∀ (x2 : Int) (h : Hp) (r : Int × Hp), h.2 = R → g_X10_begin n 2 [v, x2] h = some r → g_X10_begin_u n 2 [v, x2] h = some r ∧ r.2.2 = R)
  | 0 => ⟨fun _ _ _ hF => no_e hF, fun _ _ _ _ _ hF => no_e hF, fun _ _ _ _ hF => no_e hF⟩
  | n + 1 => by
    obtain ⟨i0, i1, i2⟩ := si_X10_begin (R := R) (v := v) (c := c) f0 f1 n
    refine ⟨?_, ?_, ?_⟩
    · intro h r hR hF
      replace hF : b_X10_begin_0 (g_X10_begin n) v c h = some r := hF
      show b_X10_begin_u_0 (g_X10_begin_u n) v c h = some r ∧ r.2.2 = R
      unfold b_X10_begin_0 at hF
      unfold b_X10_begin_u_0
      replace hF := lt_x hF
      refine sl_lt ?_
      refine sl_ck (by show h.2.1 0 c 0 = _; rw [hR]; exact f0) ?_
      replace hF := lt_x hF
      refine sl_lt ?_
      replace hF := lt_x hF
      refine sl_lt ?_
      replace hF := lt_x hF
      refine sl_lt ?_
      obtain ⟨q1, hF⟩ := ck_e hF
      refine sl_ck q1 ?_
      replace hF := lt_x hF
      refine sl_lt ?_
      replace hF := lt_x hF
      refine sl_lt ?_
      replace hF := lt_x hF
      refine sl_lt ?_
      refine sl_ck (by show h.2.1 0 c 0 = _; rw [hR]; exact f0) ?_
      rcases sl_if hF with ⟨q2, hF⟩ | ⟨q2, hF⟩
      · refine sl_t q2 ?_
        exact i1 _ _ _ _ hR hF
      · refine sl_f q2 ?_
        exact i1 _ _ _ _ hR hF
    · intro y0 y1 h r hR hF
      replace hF : b_X10_begin_1 (g_X10_begin n) v y0 y1 h = some r := hF
      show b_X10_begin_u_1 (g_X10_begin_u n) v y0 y1 h = some r ∧ r.2.2 = R
      unfold b_X10_begin_1 at hF
      unfold b_X10_begin_u_1
      replace hF := lt_x hF
      refine sl_lt ?_
      exact i2 _ _ _ hR hF
    · intro x2 h r hR hF
      replace hF : b_X10_begin_2 (g_X10_begin n) v x2 h = some r := hF
      show b_X10_begin_u_2 (g_X10_begin_u n) v x2 h = some r ∧ r.2.2 = R
      unfold b_X10_begin_2 at hF
      unfold b_X10_begin_u_2
      rcases sl_if hF with ⟨q1, hF⟩ | ⟨q1, hF⟩
      · refine sl_t q1 ?_
        exact ⟨hF, by cases hF; exact hR⟩
      · refine sl_f q1 ?_
        refine sl_ck (by show h.2.1 10 v 8 = _; rw [hR]; exact f1) ?_
        obtain ⟨q2, hF⟩ := ck_e hF
        refine sl_ck q2 ?_
        replace hF := lt_x hF
        refine sl_lt ?_
        obtain ⟨q3, hF⟩ := ck_e hF
        refine sl_ck q3 ?_
        exact i2 _ _ _ hR hF
theorem sm_X10_begin {R : Rf} {v c : Int} (f0 : R.1 0 c 0 = some (9, c)) (f1 : R.1 10 v 8 = some (57, v)) {h : Hp} {r : Int × Hp} (hR : h.2 = R) (hF : f_X10_begin v c h = some r) : f_X10_begin_u v c h = some r ∧ r.2.2 = R := (si_X10_begin f0 f1 FU).1 h r hR hF
set_option maxHeartbeats 2000000 in
theorem si_X12_cells {R : Rf} (f0 : R.1 12 0 3 = some (61, 0)) : ∀ n : Nat, (∀ (h : Hp) (r : Int × Hp), h.2 = R → g_X12_cells n 0 [] h = some r → g_X12_cells_u n 0 [] h = some r ∧ r.2.2 = R)
  | 0 => fun _ _ _ hF => no_e hF
  | n + 1 => by
    have i0 := si_X12_cells (R := R)  f0 n
    intro h r hR hF
    replace hF : b_X12_cells_0 (g_X12_cells n)  h = some r := hF
    show b_X12_cells_u_0 (g_X12_cells_u n)  h = some r ∧ r.2.2 = R
    unfold b_X12_cells_0 at hF
    unfold b_X12_cells_u_0
    refine sl_ck (by show h.2.1 12 0 3 = _; rw [hR]; exact f0) ?_
    obtain ⟨q1, hF⟩ := ck_e hF
    refine sl_ck q1 ?_
    refine sl_ck (by show h.2.1 12 0 3 = _; rw [hR]; exact f0) ?_
    obtain ⟨q2, hF⟩ := ck_e hF
    refine sl_ck q2 ?_
    obtain ⟨q3, hF⟩ := ck_e hF
    refine sl_ck q3 ?_
    exact ⟨hF, by cases hF; exact hR⟩
theorem sm_X12_cells {R : Rf} (f0 : R.1 12 0 3 = some (61, 0)) {h : Hp} {r : Int × Hp} (hR : h.2 = R) (hF : f_X12_cells  h = some r) : f_X12_cells_u  h = some r ∧ r.2.2 = R := (si_X12_cells f0 FU) h r hR hF
set_option maxHeartbeats 2000000 in
theorem si_X12_leads {R : Rf} (f0 : R.1 12 0 3 = some (61, 0)) : ∀ n : Nat, (∀ (x1 x2 : Int) (h : Hp) (r : Int × Hp), h.2 = R → g_X12_leads n 0 [x1, x2] h = some r → g_X12_leads_u n 0 [x1, x2] h = some r ∧ r.2.2 = R) ∧ (∀ (x1 x2 y0 y1 : Int) (h : Hp) (r : Int × Hp), h.2 = R → g_X12_leads n 1 [x1, x2, y0, y1] h = some r → g_X12_leads_u n 1 [x1, x2, y0, y1] h = some r ∧ r.2.2 = R) ∧ (∀ (x3 y0 y1 : Int) (h : Hp) (r : Int × Hp), h.2 = R → g_X12_leads n 2 [x3, y0, y1] h = some r → g_X12_leads_u n 2 [x3, y0, y1] h = some r ∧ r.2.2 = R) ∧ (∀ (h : Hp) (r : Int × Hp), h.2 = R → g_X12_leads n 3 [] h = some r → g_X12_leads_u n 3 [] h = some r ∧ r.2.2 = R)
  | 0 => ⟨fun _ _ _ _ _ hF => no_e hF, fun _ _ _ _ _ _ _ hF => no_e hF, fun _ _ _ _ _ _ hF => no_e hF, fun _ _ _ hF => no_e hF⟩
  | n + 1 => by
    obtain ⟨i0, i1, i2, i3⟩ := si_X12_leads (R := R)  f0 n
    refine ⟨?_, ?_, ?_, ?_⟩
    · intro x1 x2 h r hR hF
      replace hF : b_X12_leads_0 (g_X12_leads n) x1 x2 h = some r := hF
      show b_X12_leads_u_0 (g_X12_leads_u n) x1 x2 h = some r ∧ r.2.2 = R
      unfold b_X12_leads_0 at hF
      unfold b_X12_leads_u_0
      refine sl_ck (by show h.2.1 12 0 3 = _; rw [hR]; exact f0) ?_
      obtain ⟨q1, hF⟩ := ck_e hF
      refine sl_ck q1 ?_
      obtain ⟨q2, hF⟩ := ck_e hF
      refine sl_ck q2 ?_
      rcases sl_if hF with ⟨q3, hF⟩ | ⟨q3, hF⟩
      · refine sl_t q3 ?_
        exact i1 _ _ _ _ _ _ hR hF
      · refine sl_f q3 ?_
        rcases sl_if hF with ⟨q4, hF⟩ | ⟨q4, hF⟩
        · refine sl_t q4 ?_
          exact i1 _ _ _ _ _ _ hR hF
        · refine sl_f q4 ?_
          exact i1 _ _ _ _ _ _ hR hF
    · intro x1 x2 y0 y1 h r hR hF
      replace hF : b_X12_leads_1 (g_X12_leads n) x1 x2 y0 y1 h = some r := hF
      show b_X12_leads_u_1 (g_X12_leads_u n) x1 x2 y0 y1 h = some r ∧ r.2.2 = R
      unfold b_X12_leads_1 at hF
      unfold b_X12_leads_u_1
      obtain ⟨q1, hF⟩ := ck_e hF
      refine sl_ck q1 ?_
      replace hF := lt_x hF
      refine sl_lt ?_
      refine sl_ck (by show h.2.1 12 0 3 = _; rw [hR]; exact f0) ?_
      obtain ⟨q2, hF⟩ := ck_e hF
      refine sl_ck q2 ?_
      obtain ⟨q3, hF⟩ := ck_e hF
      refine sl_ck q3 ?_
      rcases sl_if hF with ⟨q4, hF⟩ | ⟨q4, hF⟩
      · refine sl_t q4 ?_
        exact i2 _ _ _ _ _ hR hF
      · refine sl_f q4 ?_
        rcases sl_if hF with ⟨q5, hF⟩ | ⟨q5, hF⟩
        · refine sl_t q5 ?_
          exact i2 _ _ _ _ _ hR hF
        · refine sl_f q5 ?_
          exact i2 _ _ _ _ _ hR hF
    · intro x3 y0 y1 h r hR hF
      replace hF : b_X12_leads_2 (g_X12_leads n) x3 y0 y1 h = some r := hF
      show b_X12_leads_u_2 (g_X12_leads_u n) x3 y0 y1 h = some r ∧ r.2.2 = R
      unfold b_X12_leads_2 at hF
      unfold b_X12_leads_u_2
      obtain ⟨q1, hF⟩ := ck_e hF
      refine sl_ck q1 ?_
      replace hF := lt_x hF
      refine sl_lt ?_
      rcases sl_if hF with ⟨q2, hF⟩ | ⟨q2, hF⟩
      · refine sl_t q2 ?_
        exact i3 _ _ hR hF
      · refine sl_f q2 ?_
        rcases sl_if hF with ⟨q3, hF⟩ | ⟨q3, hF⟩
        · refine sl_t q3 ?_
          exact i3 _ _ hR hF
        · refine sl_f q3 ?_
          refine sl_ck (by show h.2.1 12 0 3 = _; rw [hR]; exact f0) ?_
          obtain ⟨q4, hF⟩ := ck_e hF
          refine sl_ck q4 ?_
          rcases sl_if hF with ⟨q5, hF⟩ | ⟨q5, hF⟩
          · refine sl_t q5 ?_
            exact i3 _ _ hR hF
          · refine sl_f q5 ?_
            refine sl_ck (by show h.2.1 12 0 3 = _; rw [hR]; exact f0) ?_
            obtain ⟨q6, hF⟩ := ck_e hF
            refine sl_ck q6 ?_
            rcases sl_if hF with ⟨q7, hF⟩ | ⟨q7, hF⟩
            · refine sl_t q7 ?_
              refine sl_ck (by show h.2.1 12 0 3 = _; rw [hR]; exact f0) ?_
              obtain ⟨q8, hF⟩ := ck_e hF
              refine sl_ck q8 ?_
              obtain ⟨q9, hF⟩ := ck_e hF
              refine sl_ck q9 ?_
              obtain ⟨q10, hF⟩ := ck_e hF
              refine sl_ck q10 ?_
              exact ⟨hF, by cases hF; exact hR⟩
            · refine sl_f q7 ?_
              exact i3 _ _ hR hF
    · intro h r hR hF
      replace hF : b_X12_leads_3 (g_X12_leads n)  h = some r := hF
      show b_X12_leads_u_3 (g_X12_leads_u n)  h = some r ∧ r.2.2 = R
      unfold b_X12_leads_3 at hF
      unfold b_X12_leads_u_3
      exact ⟨hF, by cases hF; exact hR⟩
theorem sm_X12_leads {R : Rf} {x1 x2 : Int} (f0 : R.1 12 0 3 = some (61, 0)) {h : Hp} {r : Int × Hp} (hR : h.2 = R) (hF : f_X12_leads x1 x2 h = some r) : f_X12_leads_u x1 x2 h = some r ∧ r.2.2 = R := (si_X12_leads f0 FU).1 x1 x2 h r hR hF
set_option maxHeartbeats 2000000 in
theorem si_X12_layFar {R : Rf} (f0 : R.1 12 0 38 = some (83, 0)) (f1 : R.1 12 0 4 = some (62, 0)) (f2 : R.1 12 0 3 = some (61, 0)) : ∀ n : Nat, (∀ (h : Hp) (r : Int × Hp), h.2 = R → g_X12_layFar n 0 [] h = some r → g_X12_layFar_u n 0 [] h = some r ∧ r.2.2 = R) ∧ (∀ (x1 : Int) (h : Hp) (r : Int × Hp), h.2 = R → g_X12_layFar n 1 [x1] h = some r → g_X12_layFar_u n 1 [x1] h = some r ∧ r.2.2 = R) ∧ (∀ (x1 : Int) (h : Hp) (r : Int × Hp), h.2 = R → g_X12_layFar n 2 [x1] h = some r → g_X12_layFar_u n 2 [x1] h = some r ∧ r.2.2 = R) ∧ (∀ (x1 x2 x3 : Int) (h : Hp) (r : Int × Hp), h.2 = R → g_X12_layFar n 3 [x1, x2, x3] h = some r → g_X12_layFar_u n 3 [x1, x2, x3] h = some r ∧ r.2.2 = R) ∧ (∀ (x1 x2 x3 x4 : Int) (h : Hp) (r : Int × Hp), h.2 = R → g_X12_layFar n 4 [x1, x2, x3, x4] h = some r → g_X12_layFar_u n 4 [x1, x2, x3, x4] h = some r ∧ r.2.2 = R) ∧ (∀ (x1 x2 x3 x4 x5 : Int) (h : Hp) (r : Int × Hp), h.2 = R → g_X12_layFar n 5 [x1, x2, x3, x4, x5] h = some r → g_X12_layFar_u n 5 [x1, x2, x3, x4, x5] h = some r ∧ r.2.2 = R) ∧ (∀ (x1 x2 x3 x4 x5 : Int) (h : Hp) (r : Int × Hp), h.2 = R → g_X12_layFar n 6 [x1, x2, x3, x4, x5] h = some r → g_X12_layFar_u n 6 [x1, x2, x3, x4, x5] h = some r ∧ r.2.2 = R) ∧ (∀ (x1 x2 x3 x4 : Int) (h : Hp) (r : Int × Hp), h.2 = R → g_X12_layFar n 7 [x1, x2, x3, x4] h = some r → g_X12_layFar_u n 7 [x1, x2, x3, x4] h = some r ∧ r.2.2 = R) ∧ (∀ (x1 : Int) (h : Hp) (r : Int × Hp), h.2 = R → g_X12_layFar n 8 [x1] h = some r → g_X12_layFar_u n 8 [x1] h = some r ∧ r.2.2 = R)
  | 0 => ⟨fun _ _ _ hF => no_e hF, fun _ _ _ _ hF => no_e hF, fun _ _ _ _ hF => no_e hF, fun _ _ _ _ _ _ hF => no_e hF, fun _ _ _ _ _ _ _ hF => no_e hF, fun _ _ _ _ _ _ _ _ hF => no_e hF, fun _ _ _ _ _ _ _ _ hF => no_e hF, fun _ _ _ _ _ _ _ hF => no_e hF, fun _ _ _ _ hF => no_e hF⟩
  | n + 1 => by
    obtain ⟨i0, i1, i2, i3, i4, i5, i6, i7, i8⟩ := si_X12_layFar (R := R)  f0 f1 f2 n
    refine ⟨?_, ?_, ?_, ?_, ?_, ?_, ?_, ?_, ?_⟩
    · intro h r hR hF
      replace hF : b_X12_layFar_0 (g_X12_layFar n)  h = some r := hF
      show b_X12_layFar_u_0 (g_X12_layFar_u n)  h = some r ∧ r.2.2 = R
      unfold b_X12_layFar_0 at hF
      unfold b_X12_layFar_u_0
      exact i1 _ _ _ hR hF
    · intro x1 h r hR hF
      replace hF : b_X12_layFar_1 (g_X12_layFar n) x1 h = some r := hF
      show b_X12_layFar_u_1 (g_X12_layFar_u n) x1 h = some r ∧ r.2.2 = R
      unfold b_X12_layFar_1 at hF
      unfold b_X12_layFar_u_1
      refine sl_ck (by show h.2.1 12 0 38 = _; rw [hR]; exact f0) ?_
      rcases sl_if hF with ⟨q1, hF⟩ | ⟨q1, hF⟩
      · refine sl_t q1 ?_
        exact i2 _ _ _ hR hF
      · refine sl_f q1 ?_
        refine sl_ck (by show h.2.1 12 0 38 = _; rw [hR]; exact f0) ?_
        obtain ⟨q2, hF⟩ := ck_e hF
        refine sl_ck q2 ?_
        replace hF := lt_x hF
        refine sl_lt ?_
        obtain ⟨q3, hF⟩ := ck_e hF
        refine sl_ck q3 ?_
        exact i1 _ _ _ hR hF
    · intro x1 h r hR hF
      replace hF : b_X12_layFar_2 (g_X12_layFar n) x1 h = some r := hF
      show b_X12_layFar_u_2 (g_X12_layFar_u n) x1 h = some r ∧ r.2.2 = R
      unfold b_X12_layFar_2 at hF
      unfold b_X12_layFar_u_2
      obtain ⟨v1, hh1, e1, hF⟩ := bd_e hF
      obtain ⟨s1, hR1⟩ := sm_X12_cells f2 hR e1
      refine sl_bd s1 ?_
      rcases sl_if hF with ⟨q2, hF⟩ | ⟨q2, hF⟩
      · refine sl_t q2 ?_
        exact ⟨hF, by cases hF; exact hR1⟩
      · refine sl_f q2 ?_
        refine sl_ck (by show hh1.2.1 12 0 4 = _; rw [hR1]; exact f1) ?_
        obtain ⟨q3, hF⟩ := ck_e hF
        refine sl_ck q3 ?_
        rcases sl_if hF with ⟨q4, hF⟩ | ⟨q4, hF⟩
        · refine sl_t q4 ?_
          refine sl_ck (by show hh1.2.1 12 0 38 = _; rw [hR1]; exact f0) ?_
          obtain ⟨q5, hF⟩ := ck_e hF
          refine sl_ck q5 ?_
          obtain ⟨q6, hF⟩ := ck_e hF
          refine sl_ck q6 ?_
          obtain ⟨q7, hF⟩ := ck_e hF
          refine sl_ck q7 ?_
          replace hF := lt_x hF
          refine sl_lt ?_
          exact i3 _ _ _ _ _ hR1 hF
        · refine sl_f q4 ?_
          exact i8 _ _ _ hR1 hF
    · intro x1 x2 x3 h r hR hF
      replace hF : b_X12_layFar_3 (g_X12_layFar n) x1 x2 x3 h = some r := hF
      show b_X12_layFar_u_3 (g_X12_layFar_u n) x1 x2 x3 h = some r ∧ r.2.2 = R
      unfold b_X12_layFar_3 at hF
      unfold b_X12_layFar_u_3
      rcases sl_if hF with ⟨q1, hF⟩ | ⟨q1, hF⟩
      · refine sl_t q1 ?_
        exact i8 _ _ _ hR hF
      · refine sl_f q1 ?_
        exact i4 _ _ _ _ _ _ hR hF
    · intro x1 x2 x3 x4 h r hR hF
      replace hF : b_X12_layFar_4 (g_X12_layFar n) x1 x2 x3 x4 h = some r := hF
      show b_X12_layFar_u_4 (g_X12_layFar_u n) x1 x2 x3 x4 h = some r ∧ r.2.2 = R
      unfold b_X12_layFar_4 at hF
      unfold b_X12_layFar_u_4
      obtain ⟨v1, hh1, e1, hF⟩ := bd_e hF
      obtain ⟨s1, hR1⟩ := sm_X12_cells f2 hR e1
      refine sl_bd s1 ?_
      rcases sl_if hF with ⟨q2, hF⟩ | ⟨q2, hF⟩
      · refine sl_t q2 ?_
        obtain ⟨q3, hF⟩ := ck_e hF
        refine sl_ck q3 ?_
        exact i3 _ _ _ _ _ hR1 hF
      · refine sl_f q2 ?_
        refine sl_ck (by show hh1.2.1 12 0 38 = _; rw [hR1]; exact f0) ?_
        obtain ⟨q4, hF⟩ := ck_e hF
        refine sl_ck q4 ?_
        obtain ⟨q5, hF⟩ := ck_e hF
        refine sl_ck q5 ?_
        obtain ⟨q6, hF⟩ := ck_e hF
        refine sl_ck q6 ?_
        rcases sl_if hF with ⟨q7, hF⟩ | ⟨q7, hF⟩
        · refine sl_t q7 ?_
          exact i5 _ _ _ _ _ _ _ hR1 hF
        · refine sl_f q7 ?_
          exact i7 _ _ _ _ _ _ hR1 hF
    · intro x1 x2 x3 x4 x5 h r hR hF
      replace hF : b_X12_layFar_5 (g_X12_layFar n) x1 x2 x3 x4 x5 h = some r := hF
      show b_X12_layFar_u_5 (g_X12_layFar_u n) x1 x2 x3 x4 x5 h = some r ∧ r.2.2 = R
      unfold b_X12_layFar_5 at hF
      unfold b_X12_layFar_u_5
      rcases sl_if hF with ⟨q1, hF⟩ | ⟨q1, hF⟩
      · refine sl_t q1 ?_
        exact i7 _ _ _ _ _ _ hR hF
      · refine sl_f q1 ?_
        obtain ⟨v2, hh2, e2, hF⟩ := bd_e hF
        obtain ⟨s2, hR2⟩ := sm_X12_leads f2 hR e2
        refine sl_bd s2 ?_
        rcases sl_if hF with ⟨q3, hF⟩ | ⟨q3, hF⟩
        · refine sl_t q3 ?_
          exact i6 _ _ _ _ _ _ _ hR2 hF
        · refine sl_f q3 ?_
          refine sl_ck (by show hh2.2.1 12 0 4 = _; rw [hR2]; exact f1) ?_
          obtain ⟨q4, hF⟩ := ck_e hF
          refine sl_ck q4 ?_
          rcases sl_if hF with ⟨q5, hF⟩ | ⟨q5, hF⟩
          · refine sl_t q5 ?_
            refine sl_ck (by show hh2.2.1 12 0 38 = _; rw [hR2]; exact f0) ?_
            obtain ⟨q6, hF⟩ := ck_e hF
            refine sl_ck q6 ?_
            obtain ⟨q7, hF⟩ := ck_e hF
            refine sl_ck q7 ?_
            obtain ⟨q8, hF⟩ := ck_e hF
            refine sl_ck q8 ?_
            obtain ⟨q9, hF⟩ := ck_e hF
            refine sl_ck q9 ?_
            rcases sl_if hF with ⟨q10, hF⟩ | ⟨q10, hF⟩
            · refine sl_t q10 ?_
              refine sl_ck (by show hh2.2.1 12 0 38 = _; rw [hR2]; exact f0) ?_
              obtain ⟨q11, hF⟩ := ck_e hF
              refine sl_ck q11 ?_
              obtain ⟨q12, hF⟩ := ck_e hF
              refine sl_ck q12 ?_
              obtain ⟨q13, hF⟩ := ck_e hF
              refine sl_ck q13 ?_
              obtain ⟨q14, hF⟩ := ck_e hF
              refine sl_ck q14 ?_
              replace hF := lt_x hF
              refine sl_lt ?_
              exact i6 _ _ _ _ _ _ _ hR2 hF
            · refine sl_f q10 ?_
              exact i6 _ _ _ _ _ _ _ hR2 hF
          · refine sl_f q5 ?_
            exact i6 _ _ _ _ _ _ _ hR2 hF
    · intro x1 x2 x3 x4 x5 h r hR hF
      replace hF : b_X12_layFar_6 (g_X12_layFar n) x1 x2 x3 x4 x5 h = some r := hF
      show b_X12_layFar_u_6 (g_X12_layFar_u n) x1 x2 x3 x4 x5 h = some r ∧ r.2.2 = R
      unfold b_X12_layFar_6 at hF
      unfold b_X12_layFar_u_6
      obtain ⟨q1, hF⟩ := ck_e hF
      refine sl_ck q1 ?_
      exact i5 _ _ _ _ _ _ _ hR hF
    · intro x1 x2 x3 x4 h r hR hF
      replace hF : b_X12_layFar_7 (g_X12_layFar n) x1 x2 x3 x4 h = some r := hF
      show b_X12_layFar_u_7 (g_X12_layFar_u n) x1 x2 x3 x4 h = some r ∧ r.2.2 = R
      unfold b_X12_layFar_7 at hF
      unfold b_X12_layFar_u_7
      obtain ⟨q1, hF⟩ := ck_e hF
      refine sl_ck q1 ?_
      exact i4 _ _ _ _ _ _ hR hF
    · intro x1 h r hR hF
      replace hF : b_X12_layFar_8 (g_X12_layFar n) x1 h = some r := hF
      show b_X12_layFar_u_8 (g_X12_layFar_u n) x1 h = some r ∧ r.2.2 = R
      unfold b_X12_layFar_8 at hF
      unfold b_X12_layFar_u_8
      obtain ⟨q1, hF⟩ := ck_e hF
      refine sl_ck q1 ?_
      exact i2 _ _ _ hR hF
theorem sm_X12_layFar {R : Rf} (f0 : R.1 12 0 38 = some (83, 0)) (f1 : R.1 12 0 4 = some (62, 0)) (f2 : R.1 12 0 3 = some (61, 0)) {h : Hp} {r : Int × Hp} (hR : h.2 = R) (hF : f_X12_layFar  h = some r) : f_X12_layFar_u  h = some r ∧ r.2.2 = R := (si_X12_layFar f0 f1 f2 FU).1 h r hR hF
set_option maxHeartbeats 2000000 in
theorem si_X12_begins {R : Rf} (f0 : R.1 12 0 39 = some (84, 0)) (f1 : R.1 12 0 40 = some (85, 0)) (f2 : R.1 12 0 3 = some (61, 0)) (f3 : R.1 12 0 41 = some (86, 0)) (f4 : R.1 12 0 42 = some (87, 0)) (f5 : R.1 12 0 43 = some (88, 0)) (f6 : R.1 12 0 44 = some (89, 0)) (f7 : R.1 12 0 45 = some (90, 0)) (f8 : R.1 12 0 46 = some (91, 0)) (f9 : R.1 12 0 47 = some (92, 0)) : ∀ n : Nat, (∀ (x1 : Int) (h : Hp) (r : Int × Hp), h.2 = R → g_X12_begins n 0 [x1] h = some r → g_X12_begins_u n 0 [x1] h = some r ∧ r.2.2 = R) ∧ (∀ (x1 y0 y1 : Int) (h : Hp) (r : Int × Hp), h.2 = R → g_X12_begins n 1 [x1, y0, y1] h = some r → g_X12_begins_u n 1 [x1, y0, y1] h = some r ∧ r.2.2 = R) ∧ (∀ (x1 x2 : Int) (h : Hp) (r : Int × Hp), h.2 = R → g_X12_begins n 2 [x1, x2] h = some r → g_X12_begins_u n 2 [x1, x2] h = some r ∧ r.2.2 = R)
  | 0 => ⟨fun _ _ _ _ hF => no_e hF, fun _ _ _ _ _ _ hF => no_e hF, fun _ _ _ _ _ hF => no_e hF⟩
  | n + 1 => by
    obtain ⟨i0, i1, i2⟩ := si_X12_begins (R := R)  f0 f1 f2 f3 f4 f5 f6 f7 f8 f9 n
    refine ⟨?_, ?_, ?_⟩
    · intro x1 h r hR hF
      replace hF : b_X12_begins_0 (g_X12_begins n) x1 h = some r := hF
      show b_X12_begins_u_0 (g_X12_begins_u n) x1 h = some r ∧ r.2.2 = R
      unfold b_X12_begins_0 at hF
      unfold b_X12_begins_u_0
      refine sl_ck (by show h.2.1 12 0 39 = _; rw [hR]; exact f0) ?_
      obtain ⟨q1, hF⟩ := ck_e hF
      refine sl_ck q1 ?_
      replace hF := lt_x hF
      refine sl_lt ?_
      refine sl_ck (by show h.2.1 12 0 40 = _; rw [hR]; exact f1) ?_
      refine sl_ck (by show h.2.1 12 0 3 = _; rw [hR]; exact f2) ?_
      obtain ⟨q2, hF⟩ := ck_e hF
      refine sl_ck q2 ?_
      obtain ⟨q3, hF⟩ := ck_e hF
      refine sl_ck q3 ?_
      replace hF := lt_x hF
      refine sl_lt ?_
      refine sl_ck (by show h.2.1 12 0 41 = _; rw [hR]; exact f3) ?_
      refine sl_ck (by show h.2.1 12 0 3 = _; rw [hR]; exact f2) ?_
      obtain ⟨q4, hF⟩ := ck_e hF
      refine sl_ck q4 ?_
      obtain ⟨q5, hF⟩ := ck_e hF
      refine sl_ck q5 ?_
      replace hF := lt_x hF
      refine sl_lt ?_
      refine sl_ck (by show h.2.1 12 0 42 = _; rw [hR]; exact f4) ?_
      refine sl_ck (by show h.2.1 12 0 3 = _; rw [hR]; exact f2) ?_
      obtain ⟨q6, hF⟩ := ck_e hF
      refine sl_ck q6 ?_
      obtain ⟨q7, hF⟩ := ck_e hF
      refine sl_ck q7 ?_
      replace hF := lt_x hF
      refine sl_lt ?_
      refine sl_ck (by show h.2.1 12 0 43 = _; rw [hR]; exact f5) ?_
      refine sl_ck (by show h.2.1 12 0 3 = _; rw [hR]; exact f2) ?_
      obtain ⟨q8, hF⟩ := ck_e hF
      refine sl_ck q8 ?_
      refine sl_ck (by show h.2.1 12 0 3 = _; rw [hR]; exact f2) ?_
      obtain ⟨q9, hF⟩ := ck_e hF
      refine sl_ck q9 ?_
      rcases sl_if hF with ⟨q10, hF⟩ | ⟨q10, hF⟩
      · refine sl_t q10 ?_
        exact i1 _ _ _ _ _ hR hF
      · refine sl_f q10 ?_
        exact i1 _ _ _ _ _ hR hF
    · intro x1 y0 y1 h r hR hF
      replace hF : b_X12_begins_1 (g_X12_begins n) x1 y0 y1 h = some r := hF
      show b_X12_begins_u_1 (g_X12_begins_u n) x1 y0 y1 h = some r ∧ r.2.2 = R
      unfold b_X12_begins_1 at hF
      unfold b_X12_begins_u_1
      obtain ⟨q1, hF⟩ := ck_e hF
      refine sl_ck q1 ?_
      replace hF := lt_x hF
      refine sl_lt ?_
      refine sl_ck (by show h.2.1 12 0 44 = _; rw [hR]; exact f6) ?_
      obtain ⟨q2, hF⟩ := ck_e hF
      refine sl_ck q2 ?_
      replace hF := lt_x hF
      refine sl_lt ?_
      refine sl_ck (by show h.2.1 12 0 45 = _; rw [hR]; exact f7) ?_
      obtain ⟨q3, hF⟩ := ck_e hF
      refine sl_ck q3 ?_
      replace hF := lt_x hF
      refine sl_lt ?_
      exact i2 _ _ _ _ hR hF
    · intro x1 x2 h r hR hF
      replace hF : b_X12_begins_2 (g_X12_begins n) x1 x2 h = some r := hF
      show b_X12_begins_u_2 (g_X12_begins_u n) x1 x2 h = some r ∧ r.2.2 = R
      unfold b_X12_begins_2 at hF
      unfold b_X12_begins_u_2
      rcases sl_if hF with ⟨q1, hF⟩ | ⟨q1, hF⟩
      · refine sl_t q1 ?_
        exact ⟨hF, by cases hF; exact hR⟩
      · refine sl_f q1 ?_
        refine sl_ck (by show h.2.1 12 0 46 = _; rw [hR]; exact f8) ?_
        obtain ⟨q2, hF⟩ := ck_e hF
        refine sl_ck q2 ?_
        obtain ⟨q3, hF⟩ := ck_e hF
        refine sl_ck q3 ?_
        obtain ⟨q4, hF⟩ := ck_e hF
        refine sl_ck q4 ?_
        replace hF := lt_x hF
        refine sl_lt ?_
        refine sl_ck (by show h.2.1 12 0 47 = _; rw [hR]; exact f9) ?_
        obtain ⟨q5, hF⟩ := ck_e hF
        refine sl_ck q5 ?_
        obtain ⟨q6, hF⟩ := ck_e hF
        refine sl_ck q6 ?_
        obtain ⟨q7, hF⟩ := ck_e hF
        refine sl_ck q7 ?_
        replace hF := lt_x hF
        refine sl_lt ?_
        obtain ⟨q8, hF⟩ := ck_e hF
        refine sl_ck q8 ?_
        exact i2 _ _ _ _ hR hF
theorem sm_X12_begins {R : Rf} {x1 : Int} (f0 : R.1 12 0 39 = some (84, 0)) (f1 : R.1 12 0 40 = some (85, 0)) (f2 : R.1 12 0 3 = some (61, 0)) (f3 : R.1 12 0 41 = some (86, 0)) (f4 : R.1 12 0 42 = some (87, 0)) (f5 : R.1 12 0 43 = some (88, 0)) (f6 : R.1 12 0 44 = some (89, 0)) (f7 : R.1 12 0 45 = some (90, 0)) (f8 : R.1 12 0 46 = some (91, 0)) (f9 : R.1 12 0 47 = some (92, 0)) {h : Hp} {r : Int × Hp} (hR : h.2 = R) (hF : f_X12_begins x1 h = some r) : f_X12_begins_u x1 h = some r ∧ r.2.2 = R := (si_X12_begins f0 f1 f2 f3 f4 f5 f6 f7 f8 f9 FU).1 x1 h r hR hF
