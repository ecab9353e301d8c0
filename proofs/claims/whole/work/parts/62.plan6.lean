/-! PLAN, 6: the class, pieces -/
theorem sk_1 : ∀ x : Nat, x < 32 → ∀ r : Nat, r < 32 → band (x : Int) (bxor (r : Int) (-1)) ≠ 0 → 0 ≤ band (x : Int) (r : Int) ∧ band (x : Int) (r : Int) < (x : Int) := by decide +kernel
theorem sk_2 : ∀ a : Nat, a < 5 → ∀ y : Nat, y < 32 → 0 ≤ bor (y : Int) (bshl 1 (a : Int)) ∧ bor (y : Int) (bshl 1 (a : Int)) < 32 := by decide +kernel
theorem sk_3 : ∀ m : Nat, m < 6 → ∀ x : Nat, x < 32 → (∀ k : Nat, k < 9 → bit (x : Int) (k : Int) = 1 → k < m) → x < 2 ^ m := by decide +kernel
theorem sk_0 : ∀ y : Nat, y < 32 → bor (y : Int) 0 = (y : Int) := by decide +kernel
/-- who eats, if fed -/
def HuQ (C V : Ch) (r : Int) : Prop := ∀ i : Nat, i < 9 → (bit r (i : Int) = 1 ↔ ((i : Int) < C 20 0 ∧ abP C V (-1) (-1) (i : Int) ∧ 0 < poF C V (-1) (i : Int)))
def OpW (x : Int) : Nat → Int → Int → Prop := fun r _ j => (r = 2 ∧ j = 10) ∨ (r = 33 ∧ x * 90 ≤ j ∧ j < x * 90 + 90)
def bC (h : Hp) (B : Option Pc) : Prop := match B with
  | none => gI h 6 0 5 = -1
  | some b => gI h 6 0 5 = b.2.1 ∧ 0 ≤ b.2.1 ∧ gI h 6 0 4 = b.1 ∧ ∀ i, 0 ≤ i → i < b.2.1 → gI h 45 0 i = b.2.2 i
def TaW : Nat → Int → Int → Prop := fun r _ j => r = 45 ∨ (r = 6 ∧ (j = 4 ∨ j = 5))
theorem bC_eq {h h2 : Hp} {B : Option Pc} (e1 : gI h2 6 0 5 = gI h 6 0 5) (e2 : gI h2 6 0 4 = gI h 6 0 4) (e3 : ∀ i, gI h2 45 0 i = gI h 45 0 i) (q : bC h B) : bC h2 B := by
  cases B with
  | none => exact e1.trans q
  | some b => exact ⟨e1.trans q.1, q.2.1, e2.trans q.2.2.1, fun i i1 i2 => (e3 i).trans (q.2.2.2 i i1 i2)⟩
theorem isV_cp {C V : Ch} {h h2 : Hp} {u v : Int} (w : CW C) (e : ∀ k, 0 ≤ k → k < 8 → gI h2 10 v k = gI h 10 u k) (e2 : ∀ k, 0 ≤ k → k < 9 → gI h2 57 v k = gI h 57 u k) (q : isV C h u V) : isV C h2 v V := by
  obtain ⟨a0, a1, a2, a5, a6, a7, a8⟩ := q
  have ez := sz_r w
  exact ⟨(e 0 (by omega) (by omega)).trans a0, (e 1 (by omega) (by omega)).trans a1, (e 2 (by omega) (by omega)).trans a2, (e 5 (by omega) (by omega)).trans a5, fun i i1 i2 => by rw [e 6 (by omega) (by omega)]; exact a6 i i1 i2, (e 7 (by omega) (by omega)).trans a7, fun i i1 i2 => (e2 i i1 (by omega)).trans (a8 i i1 i2)⟩
section
variable {h : Hp} {c v x : Int} {C V : Ch}
theorem p_X2_usePage (k1 : 0 ≤ x) (k2 : x < 3) : f_X2_usePage x h = some (0, sI h 2 0 10 (x * 90)) := by
  refine ok_eq.mp (fuv_X2_usePage (fun n hn => ?_))
  refine s_X2_usePage_0 (by omega) ?_
  unfold b_X2_usePage_0
  exact ok_f (by omega) (ok_f (by omega) (ok_ck (by omega) (ok_lt (ok_some ⟨rfl, rfl⟩))))
theorem p_X2_noPage : f_X2_usePage (-1) h = some (0, sI h 2 0 10 (-1)) := by
  refine ok_eq.mp (fuv_X2_usePage (fun n hn => ?_))
  refine s_X2_usePage_0 (by omega) ?_
  unfold b_X2_usePage_0
  refine ok_t (by omega) ?_
  refine s_X2_usePage_1 (by omega) ?_
  unfold b_X2_usePage_1
  exact ok_lt (ok_some ⟨rfl, rfl⟩)
theorem p_X2_openPage (k1 : 0 ≤ x) (k2 : x < 3) : ok (f_X2_openPage x h) (fun _ h' => Fr (OpW x) h h' ∧ gI h' 2 0 10 = x * 90 ∧ ∀ j, x * 90 ≤ j → j < x * 90 + 90 → gI h' 33 0 j = -2) := by
  have key : ∀ (d n : Nat) (h4 : Hp) (y : Int), (x * 90 + 90 - y).toNat = d → x * 90 ≤ y → y ≤ x * 90 + 90 → d + 1 ≤ n → Fr (OpW x) h h4 → gI h4 2 0 10 = x * 90 → (∀ j, x * 90 ≤ j → j < y → gI h4 33 0 j = -2) → ok (g_X2_openPage n 1 [y] h4) (fun _ h' => Fr (OpW x) h h' ∧ gI h' 2 0 10 = x * 90 ∧ ∀ j, x * 90 ≤ j → j < x * 90 + 90 → gI h' 33 0 j = -2) := by
    intro d
    induction d with
    | zero =>
      intro n h4 y hd y1 y2 hn hF h1 h2
      refine s_X2_openPage_1 (by omega) ?_
      unfold b_X2_openPage_1
      rw [h1]
      exact ok_f (by omega) (ok_ck (by omega) (ok_t (by omega) (ok_some ⟨hF, h1, fun j j1 j2 => h2 j j1 (by omega)⟩)))
    | succ d ih =>
      intro n h4 y hd y1 y2 hn hF h1 h2
      refine s_X2_openPage_1 (by omega) ?_
      unfold b_X2_openPage_1
      rw [h1]
      refine ok_f (by omega) (ok_ck (by omega) (ok_f (by omega) (ok_ck (by omega) (ok_lt (ok_ck (by omega) (ih _ _ _ (by omega) (by omega) (by omega) (by omega) (fr_sI hF (by unfold OpW; omega)) ?_ (fun j j1 j2 => ?_)))))))
      · rw [gI_nr (by decide)]; exact h1
      · by_cases e : j = y
        · rw [e, gI_eq]
        · rw [gI_nk (by omega)]; exact h2 j j1 (by omega)
  refine fuv_X2_openPage (fun n hn => ?_)
  refine s_X2_openPage_0 (by omega) ?_
  unfold b_X2_openPage_0
  refine ok_be (p_X2_usePage k1 k2) (ok_lt ?_)
  have e : gI (sI h 2 0 10 (x * 90)) 2 0 10 = x * 90 := gI_eq
  have m : max 0 (gI (sI h 2 0 10 (x * 90)) 2 0 10) = x * 90 := by rw [e]; omega
  rw [m]
  exact key 90 _ _ _ (by omega) (by omega) (by omega) (by omega) (fr_sI fr_rf (by unfold OpW; omega)) e (fun j j1 j2 => by omega)
theorem p_X2_hungry (hx : CX h c C) (hv : isV C h v V) (t1 : gI h 2 0 1 = -1) : ok (f_X2_hungry v h) (fun r h' => h' = h ∧ 0 ≤ r ∧ r < 32 ∧ HuQ C V r) := by
  have w := hx.2.2
  have mo := cw_M w
  have key : ∀ (d n : Nat) (y a : Nat), 5 - a = d → a ≤ 5 → (a : Int) ≤ C 20 0 → y < 32 → 3 * d + 3 ≤ n → (∀ i : Nat, i < 9 → (bit (y : Int) (i : Int) = 1 ↔ (i < a ∧ abP C V (-1) (-1) (i : Int) ∧ 0 < poF C V (-1) (i : Int)))) → ok (g_X2_hungry n 1 [v, (y : Int), (a : Int)] h) (fun r h' => h' = h ∧ 0 ≤ r ∧ r < 32 ∧ HuQ C V r) := by
    intro d
    induction d with
    | zero =>
      intro n y a hd a5 aM hy hn hb
      refine s_X2_hungry_1 (by omega) ?_
      unfold b_X2_hungry_1
      refine ok_rf hx.1 (ok_t (by rw [ic_20 hx.2.1]; omega) (ok_some ⟨rfl, by omega, by omega, fun i hi => ?_⟩))
      rw [hb i hi]
      exact and_congr_left' (by omega)
    | succ d ih =>
      intro n y a hd a5 aM hy hn hb
      refine s_X2_hungry_1 (by omega) ?_
      unfold b_X2_hungry_1
      refine ok_rf hx.1 ?_
      rw [ic_20 hx.2.1]
      refine ok_if (fun z => ok_some ⟨rfl, by omega, by omega, fun i hi => ?_⟩) (fun z => ok_f (by omega) ?_)
      · rw [hb i hi]
        exact and_congr_left' (by omega)
      have two : ∀ n2 : Nat, 3 * d + 5 ≤ n2 → ¬ (abP C V (-1) (-1) (a : Int) ∧ 0 < poF C V (-1) (a : Int)) → ok (g_X2_hungry n2 2 [v, (a : Int), (y : Int)] h) (fun r h' => h' = h ∧ 0 ≤ r ∧ r < 32 ∧ HuQ C V r) := by
        intro n2 hn2 no
        refine s_X2_hungry_2 (by omega) ?_
        unfold b_X2_hungry_2
        refine s_X2_hungry_3 (by omega) ?_
        unfold b_X2_hungry_3
        refine ok_lt (ok_ck (by omega) ?_)
        rw [sk_0 y hy, show (a : Int) + 1 = ((a + 1 : Nat) : Int) by omega]
        refine ih _ y (a + 1) (by omega) (by omega) (by omega) hy (by omega) (fun i hi => ?_)
        rw [hb i hi]
        refine ⟨fun u => ⟨by omega, u.2⟩, fun u => ⟨?_, u.2⟩⟩
        have ne : i ≠ a := fun e => no (by rw [← e]; exact u.2)
        have := u.1
        omega
      refine ok_be (p_X2_isAboard (ta := -1) hx hv t1 (fun u => by omega) (by omega) (by unfold sz; omega)) (ok_if (fun u => two _ (by omega) (fun q => b2i_0.mp u q.1)) (fun u => ?_))
      replace u := b2i_n.mp u
      refine ok_be (p_X2_portion hx hv (by omega) (by unfold sz; omega)) ?_
      rw [t1]
      refine ok_if (fun u2 => two _ (by omega) (fun q => by have := q.2; omega)) (fun u2 => ?_)
      refine s_X2_hungry_3 (by omega) ?_
      unfold b_X2_hungry_3
      refine ok_lt (ok_ck (by omega) ?_)
      have r := sk_2 a (by omega) y hy
      obtain ⟨y2, e2⟩ : ∃ y2 : Nat, bor (y : Int) (bshl 1 (a : Int)) = (y2 : Int) := ⟨(bor (y : Int) (bshl 1 (a : Int))).toNat, by omega⟩
      have bb : ∀ i : Nat, i < 9 → bit (y2 : Int) (i : Int) = if (i : Int) = (a : Int) then 1 else bit (y : Int) (i : Int) := fun i hi => by rw [← e2]; exact bit_or1 (by omega) (by omega) (by omega) (by omega)
      rw [e2] at r ⊢
      rw [show (a : Int) + 1 = ((a + 1 : Nat) : Int) by omega]
      refine ih _ y2 (a + 1) (by omega) (by omega) (by omega) (by omega) (by omega) (fun i hi => ?_)
      rw [bb i hi]
      by_cases e : (i : Int) = (a : Int)
      · rw [if_pos e]
        exact ⟨fun _ => ⟨by omega, by rw [e]; exact ⟨u, by omega⟩⟩, fun _ => rfl⟩
      · rw [if_neg e, hb i hi]
        exact ⟨fun t => ⟨by omega, t.2⟩, fun t => ⟨by omega, t.2⟩⟩
  refine fuv_X2_hungry (fun n hn => ?_)
  refine s_X2_hungry_0 (by omega) ?_
  unfold b_X2_hungry_0
  refine key 5 _ 0 0 (by omega) (by omega) (by omega) (by omega) (by omega) (fun i hi => ?_)
  have z : bit ((0 : Nat) : Int) (i : Int) = 0 := (show ∀ i : Nat, i < 9 → bit ((0 : Nat) : Int) (i : Int) = 0 by decide +kernel) i hi
  rw [z]
  exact ⟨fun u => by omega, fun u => by have := u.1; omega⟩
theorem p_X6_isTooFar {m : Int} (hx : CX h c C) (hv : isV C h v V) (vw : VW C V) : f_X6_isTooFar v m h = some (b2i (wtC C (V 1 0) ∧ m < C 35 (V 1 0)), h) := by
  have w := hx.2.2
  have e1 := iv_1 hv
  refine ok_eq.mp (fuv_X6_isTooFar (fun n hn => ?_))
  refine s_X6_isTooFar_0 (by omega) ?_
  unfold b_X6_isTooFar_0
  refine ok_rf hx.1 (ok_be (p9_isWater hx.2.1 w) ?_)
  rw [e1]
  refine ok_if (fun u => ok_some ⟨(b2i_0.mpr (fun t => b2i_0.mp u t.1)).symm, rfl⟩) (fun u => ok_be p_X9_fromBahia ?_)
  replace u := b2i_n.mp u
  have c6 := ce64 w u.1
  rw [if_pos c6, ic_35 hx.2.1 _ c6.1 c6.2]
  refine ok_if (fun y => ok_some ⟨(b2i_0.mpr (fun t => by have := t.2; omega)).symm, rfl⟩) (fun y => ok_some ⟨?_, rfl⟩)
  have : b2i (wtC C (V 1 0) ∧ m < C 35 (V 1 0)) = 1 := if_pos ⟨u, by omega⟩
  exact this.symm
theorem p_X6_isWorse {s m : Int} {B : Option Pc} (hm : 0 ≤ m) (q : bC h B) : ok (f_X6_isWorse s m h) (fun r h' => h' = h ∧ (r = 0 ↔ ¬ leQ B s m)) := by
  have one : ∀ n : Nat, 0 < n → leQ B s m → ok (g_X6_isWorse n 1 [] h) (fun r h' => h' = h ∧ (r = 0 ↔ ¬ leQ B s m)) := by
    intro n hn y
    refine s_X6_isWorse_1 hn ?_
    unfold b_X6_isWorse_1
    exact ok_some ⟨rfl, fun t => by omega, fun t => absurd y t⟩
  have no : ¬ leQ B s m → ok (some ((0 : Int), h)) (fun r h' => h' = h ∧ (r = 0 ↔ ¬ leQ B s m)) := fun y => ok_some ⟨rfl, fun _ => y, fun _ => rfl⟩
  refine fuv_X6_isWorse (fun n hn => ?_)
  refine s_X6_isWorse_0 (by omega) ?_
  unfold b_X6_isWorse_0
  cases B with
  | none => exact ok_t q (no (fun t => t))
  | some b =>
    obtain ⟨b1, b2, b3, _⟩ := q
    have lq : leQ (some b) s m ↔ (b.1 < s ∨ (s = b.1 ∧ b.2.1 ≤ m)) := Iff.rfl
    rw [b1, b3]
    refine ok_f (by omega) (ok_if (fun y => one _ (by omega) (lq.mpr (Or.inl y))) (fun y => ok_if (fun y2 => ok_if (fun y3 => no (fun t => ?_)) (fun y3 => one _ (by omega) (lq.mpr (Or.inr ⟨y2, by omega⟩)))) (fun y2 => no (fun t => ?_))))
    · have := lq.mp t; omega
    · have := lq.mp t; omega
theorem p_X6_take {s m : Int} {p : Int → Int} (m1 : 0 ≤ m) (m2 : m ≤ 3) (hp : ∀ i, 0 ≤ i → i < m → gI h 44 0 i = p i) : ok (f_X6_take s m h) (fun _ h' => Fr TaW h h' ∧ bC h' (some (s, m, p))) := by
  have key : ∀ (d n : Nat) (h4 : Hp) (y : Int), (3 - y).toNat = d → 0 ≤ y → y ≤ 3 → d + 1 ≤ n → Fr TaW h h4 → gI h4 6 0 4 = s → gI h4 6 0 5 = m → (∀ i, 0 ≤ i → i < y → gI h4 45 0 i = gI h 44 0 i) → ok (g_X6_take n 1 [y] h4) (fun _ h' => Fr TaW h h' ∧ bC h' (some (s, m, p))) := by
    intro d
    induction d with
    | zero =>
      intro n h4 y hd y1 y2 hn hF h1 h2 h3
      refine s_X6_take_1 (by omega) ?_
      unfold b_X6_take_1
      exact ok_t (by omega) (ok_some ⟨hF, h2, m1, h1, fun i i1 i2 => (h3 i i1 (by have : i < m := i2; omega)).trans (hp i i1 i2)⟩)
    | succ d ih =>
      intro n h4 y hd y1 y2 hn hF h1 h2 h3
      refine s_X6_take_1 (by omega) ?_
      unfold b_X6_take_1
      have f4 : gI h4 44 0 y = gI h 44 0 y := hF.1 44 0 y (by unfold TaW; omega)
      refine ok_f (by omega) (ok_ck (by omega) (ok_ck (by omega) (ok_lt (ok_ck (by omega) (ih _ _ _ (by omega) (by omega) (by omega) (by omega) (fr_sI hF (by unfold TaW; omega)) ?_ ?_ (fun i i1 i2 => ?_))))))
      · rw [gI_nr (by decide)]; exact h1
      · rw [gI_nr (by decide)]; exact h2
      · by_cases e : i = y
        · rw [e, gI_eq, f4]
        · rw [gI_nk (by omega)]; exact h3 i i1 (by omega)
  refine fuv_X6_take (fun n hn => ?_)
  refine s_X6_take_0 (by omega) ?_
  unfold b_X6_take_0
  refine ok_lt (ok_lt (key 3 _ _ _ (by omega) (by omega) (by omega) (by omega) (fr_sI (fr_sI fr_rf (by unfold TaW; omega)) (by unfold TaW; omega)) ?_ ?_ (fun i i1 i2 => by omega)))
  · rw [gI_nk (by decide), gI_eq]
  · rw [gI_eq]
/-- sets of the class's search -/
theorem set_in {x : Nat} {r : Int} (w : CW C) (hx : x < 32) (q : HuQ C V r) (z : band (x : Int) (bxor r (-1)) = 0) : x < 2 ^ (C 20 0).toNat := by
  have mo := cw_M w
  refine sk_3 _ (by omega) x hx (fun k hk b => ?_)
  have := ((q k hk).mp ((sub_e (by omega) (by omega)).mp z k hk b)).1
  omega
theorem set_out {x : Nat} {r : Int} (w : CW C) (vw : VW C V) (hx : x < 32) (r1 : 0 ≤ r) (r2 : r < 32) (q : HuQ C V r) (z : ¬ band (x : Int) (bxor r (-1)) = 0) : ∃ t : Nat, t < x ∧ goQ C V x = goQ C V t ∧ eaQ C V x = eaQ C V t := by
  have mo := cw_M w
  have er : r = ((r.toNat : Nat) : Int) := by omega
  have a := sk_1 x hx r.toNat (by omega) (by rw [← er]; exact z)
  rw [← er] at a
  have et : band (x : Int) r = ((band (x : Int) r).toNat : Int) := by omega
  refine ⟨(band (x : Int) r).toNat, by omega, go_c w vw (fun i i1 i2 ab po => ?_)⟩
  have ei : i = ((i.toNat : Nat) : Int) := by omega
  have hr : bit r i = 1 := by
    rw [ei]
    refine (q i.toNat (by omega)).mpr ?_
    rw [← ei]
    exact ⟨i2, ab, po⟩
  rw [← et]
  rw [bit_tb i1 (by omega)] at hr
  rw [bit_tb i1 (by omega), bit_tb i1 (by omega), tb_and]
  cases p : tb r i with
  | true => rw [Bool.and_true]
  | false => rw [p] at hr; simp at hr
end
