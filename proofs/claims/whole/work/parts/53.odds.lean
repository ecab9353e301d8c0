/-! ODDS -/
/-- what a set weighs, of its first n -/
def wgF (C : Ch) (m : Int) : Nat → Int
  | 0 => 1
  | n + 1 => wgF C m n * (if bit m n = 1 then C 24 (C 20 0 + n) else 100 - C 24 (C 20 0 + n))
theorem wg_1 {C : Ch} {m : Int} (w : CW C) (n : Nat) (h : (n : Int) < C 21 0) : 1 ≤ (if bit m n = 1 then C 24 (C 20 0 + n) else 100 - C 24 (C 20 0 + n)) ∧ (if bit m n = 1 then C 24 (C 20 0 + n) else 100 - C 24 (C 20 0 + n)) ≤ 100 := by
  have ez := sz_r w
  have := cw_O w (C 20 0 + n) (by omega) (by omega)
  split <;> omega
theorem wgF_r {C : Ch} {m : Int} (w : CW C) : ∀ n : Nat, (n : Int) ≤ C 21 0 → 1 ≤ wgF C m n ∧ wgF C m n ≤ 100 ^ n
  | 0, _ => by simp [wgF]
  | n + 1, h => by
    have a := wgF_r (m := m) w n (by omega)
    have b := wg_1 (m := m) w n (by omega)
    unfold wgF
    refine ⟨?_, ?_⟩
    · have := Int.mul_le_mul a.1 b.1 (by decide) (by omega)
      omega
    · rw [Int.pow_succ]
      exact Int.mul_le_mul a.2 b.2 (by omega) (by omega)
theorem wgF_b {C : Ch} {m : Int} (w : CW C) (n : Nat) (h : (n : Int) ≤ C 21 0) : 1 ≤ wgF C m n ∧ wgF C m n ≤ 100000000 := by
  have cM := cw_M w
  have a := wgF_r (m := m) w n h
  have e : n = 0 ∨ n = 1 ∨ n = 2 ∨ n = 3 ∨ n = 4 := by omega
  refine ⟨a.1, Int.le_trans a.2 ?_⟩
  rcases e with e | e | e | e | e <;> rw [e] <;> decide
abbrev wgC (C : Ch) (m : Int) : Int := wgF C m (C 21 0).toNat
/-- all, and those with x, of the first n sets that fit -/
def suA (C : Ch) (r : Int) : Nat → Int
  | 0 => 0
  | n + 1 => suA C r n + if bit r n = 1 then wgC C n else 0
def suW (C : Ch) (r x : Int) : Nat → Int
  | 0 => 0
  | n + 1 => suW C r x n + if bit r n = 1 ∧ bit n x = 1 then wgC C n else 0
theorem su_r {C : Ch} {r x : Int} (w : CW C) : ∀ n : Nat, n ≤ 16 → 0 ≤ suW C r x n ∧ suW C r x n ≤ suA C r n ∧ suA C r n ≤ 100000000 * n
  | 0, _ => by simp [suA, suW]
  | n + 1, h => by
    have cM := cw_M w
    have a := su_r (r := r) (x := x) w n (by omega)
    have b := wgF_b (m := n) w (C 21 0).toNat (by omega)
    have b1 : 1 ≤ wgC C n ∧ wgC C n ≤ 100000000 := b
    unfold suA suW
    by_cases y : bit r n = 1
    · rw [if_pos y]
      by_cases y2 : bit (n : Int) x = 1
      · rw [if_pos ⟨y, y2⟩]; omega
      · rw [if_neg (fun u => y2 u.2)]; omega
    · rw [if_neg y, if_neg (fun u => y u.1)]; omega
theorem suA_p {C : Ch} {r : Int} (w : CW C) : ∀ n : Nat, n ≤ 16 → (suA C r n = 0 ↔ ∀ m, 0 ≤ m → m < (n : Int) → bit r m = 0)
  | 0, _ => by
    constructor
    · intro _ m m1 m2; omega
    · intro _; rfl
  | n + 1, h => by
    have cM := cw_M w
    have a := suA_p (r := r) w n (by omega)
    have s := su_r (r := r) (x := 0) w n (by omega)
    have b := wgF_b (m := n) w (C 21 0).toNat (by omega)
    have b1 : 1 ≤ wgC C n ∧ wgC C n ≤ 100000000 := b
    have br := bit01 (x := r) (i := (n : Int))
    unfold suA
    constructor
    · intro e m m1 m2
      by_cases y : bit r n = 1
      · rw [if_pos y] at e; omega
      · rw [if_neg y] at e
        by_cases u : m = (n : Int)
        · rw [u]; omega
        · exact (a.mp (by omega)) m m1 (by omega)
    · intro e
      have y := e n (by omega) (by omega)
      rw [if_neg (by omega), a.mpr (fun m m1 m2 => e m m1 (by omega))]; omega
/-! the greatest common part -/
def eu : Nat → Int → Int → Int
  | 0, a, _ => a
  | n + 1, a, b => if b = 0 then a else eu n b (a % b)
def en : Nat → Int → Int → Prop
  | 0, _, b => b = 0
  | n + 1, a, b => b = 0 ∨ en n b (a % b)
theorem en_of : ∀ (k : Nat) (a b : Int), 0 ≤ a → 0 ≤ b → b < 2 ^ k → en (2 * k) a b
  | 0, a, b, _, b1, b2 => by
    have b2 : b < 1 := b2
    show b = 0; omega
  | k + 1, a, b, a1, b1, b2 => by
    show en (2 * k + 1 + 1) a b
    by_cases y : b = 0
    · exact Or.inl y
    · refine Or.inr ?_
      have m1 := Int.emod_nonneg a y
      have m2 := Int.emod_lt_of_pos a (show 0 < b by omega)
      by_cases y2 : a % b = 0
      · exact Or.inl y2
      · refine Or.inr (en_of k _ _ m1 (Int.emod_nonneg b y2) ?_)
        have m3 := Int.emod_lt_of_pos b (show 0 < a % b by omega)
        have m4 := Int.mul_ediv_add_emod b (a % b)
        have m5 : 1 ≤ b / (a % b) := (Int.le_ediv_iff_mul_le (by omega)).mpr (by omega)
        have m6 : (a % b) * 1 ≤ (a % b) * (b / (a % b)) := Int.mul_le_mul_of_nonneg_left m5 (by omega)
        rw [Int.pow_succ] at b2
        omega
theorem eu_p : ∀ (k : Nat) (a b : Int), en k a b → 0 ≤ a → 0 ≤ b → 0 < a + b → 0 < eu k a b
  | 0, a, b, e, _, _, p => by
    have e : b = 0 := e
    show 0 < a; omega
  | k + 1, a, b, e, a1, b1, p => by
    show 0 < if b = 0 then a else eu k b (a % b)
    by_cases y : b = 0
    · rw [if_pos y]; omega
    · rw [if_neg y]
      have m1 := Int.emod_nonneg a y
      exact eu_p k b (a % b) (e.resolve_left y) b1 m1 (by omega)
section
variable {h : Hp} {c : Int} {C : Ch}
theorem p_X11_part {a b x : Int} (a1 : 0 ≤ a) (b1 : 0 < b) (b2 : b < 2147483648) : f_X11_part a b x h = some ((if x = 0 then a else b) / eu 64 a b, h) := by
  have e64 : en 64 a b := en_of 32 a b a1 (by omega) (by omega)
  have gp := eu_p 64 a b e64 a1 (by omega) (by omega)
  have three : ∀ (n : Nat) (y : Int), 2 ≤ n → 0 ≤ y → y = (if x = 0 then a else b) → ok (g_X11_part n 3 [eu 64 a b, y] h) (fun r h' => r = (if x = 0 then a else b) / eu 64 a b ∧ h' = h) := by
    intro n y hn y1 y2
    refine s_X11_part_3 (by omega) ?_
    unfold b_X11_part_3
    exact ok_f (by omega) (ok_ck ⟨y1, gp⟩ (ok_some ⟨by rw [y2], rfl⟩))
  have two : ∀ (n : Nat) (g : Int), 4 ≤ n → g = eu 64 a b → ok (g_X11_part n 2 [a, b, x, g] h) (fun r h' => r = (if x = 0 then a else b) / eu 64 a b ∧ h' = h) := by
    intro n g hn hg
    subst hg
    refine s_X11_part_2 (by omega) ?_
    unfold b_X11_part_2
    exact ok_if (fun y => three _ _ (by omega) a1 (by rw [if_pos y])) (fun y => three _ _ (by omega) (by omega) (by rw [if_neg y]))
  have key : ∀ (k n : Nat) (p q j : Int), j = 64 - (k : Int) → k ≤ 64 → k + 6 ≤ n → 0 ≤ p → 0 ≤ q → eu k p q = eu 64 a b → ok (g_X11_part n 1 [a, b, x, p, q, j] h) (fun r h' => r = (if x = 0 then a else b) / eu 64 a b ∧ h' = h) := by
    intro k
    induction k with
    | zero =>
      intro n p q j hj hk hn p1 q1 he
      refine s_X11_part_1 (by omega) ?_
      unfold b_X11_part_1
      exact ok_t (by omega) (two _ _ (by omega) he)
    | succ k ih =>
      intro n p q j hj hk hn p1 q1 he
      have he : (if q = 0 then p else eu k q (p % q)) = eu 64 a b := he
      refine s_X11_part_1 (by omega) ?_
      unfold b_X11_part_1
      refine ok_f (by omega) (ok_if (fun y => two _ _ (by omega) ?_) (fun y => ok_ck (by omega) (ok_lt (ok_ck (by omega) (ih _ _ _ _ (by omega) (by omega) (by omega) q1 (Int.emod_nonneg p y) ?_)))))
      · rw [if_pos y] at he; exact he
      · rw [if_neg y] at he; exact he
  refine ok_eq.mp (fuv_X11_part (fun n hn => ?_))
  refine s_X11_part_0 (by omega) ?_
  unfold b_X11_part_0
  exact key 64 _ _ _ _ (by omega) (by omega) (by omega) a1 (by omega) rfl
theorem p_X12_common {a b : Int} (a1 : 0 ≤ a) (b1 : 0 < b) (b2 : b < 2147483648) : f_X12_common a b h = some (eu 64 a b, h) := by
  have e64 : en 64 a b := en_of 32 a b a1 (by omega) (by omega)
  have key : ∀ (k n : Nat) (p q : Int), k + 2 ≤ n → 0 ≤ p → 0 ≤ q → en k p q → eu k p q = eu 64 a b → ok (g_X12_common n 1 [p, q] h) (fun r h' => r = eu 64 a b ∧ h' = h) := by
    intro k
    induction k with
    | zero =>
      intro n p q hn p1 q1 hq he
      refine s_X12_common_1 (by omega) ?_
      unfold b_X12_common_1
      exact ok_t hq (ok_some ⟨he, rfl⟩)
    | succ k ih =>
      intro n p q hn p1 q1 hq he
      have he : (if q = 0 then p else eu k q (p % q)) = eu 64 a b := he
      refine s_X12_common_1 (by omega) ?_
      unfold b_X12_common_1
      refine ok_if (fun y => ok_some ⟨?_, rfl⟩) (fun y => ok_ck (by omega) (ok_lt (ih _ _ _ (by omega) q1 (Int.emod_nonneg p y) (hq.resolve_left y) ?_)))
      · rw [if_pos y] at he; exact he
      · rw [if_neg y] at he; exact he
  refine ok_eq.mp (fuv_X12_common (fun n hn => ?_))
  refine s_X12_common_0 (by omega) ?_
  unfold b_X12_common_0
  exact key 64 _ _ _ (by omega) a1 (by omega) e64 rfl
theorem p_X0_weight {m : Int} (q : isC h c C) (w : CW C) (m1 : 0 ≤ m) : f_X0_weight c m h = some (wgC C m, h) := by
  have ez := sz_r w
  have e3 := ic_20 q
  have e4 := ic_21 q
  have key : ∀ (d n : Nat) (p x : Int) (a : Nat), (C 21 0).toNat - a = d → (a : Int) ≤ C 21 0 → x = (a : Int) → 3 * d + 3 ≤ n → p = wgF C m a → ok (g_X0_weight n 1 [c, m, p, x] h) (fun r h' => r = wgC C m ∧ h' = h) := by
    intro d
    induction d with
    | zero =>
      intro n p x a hd ha hx hn hp
      subst hx
      have ea : a = (C 21 0).toNat := by omega
      refine s_X0_weight_1 (by omega) ?_
      unfold b_X0_weight_1
      exact ok_t (by omega) (ok_some ⟨by rw [hp, ea], rfl⟩)
    | succ d ih =>
      intro n p x a hd ha hx hn hp
      subst hx
      have pb := wgF_b (m := m) w a (by omega)
      have pb2 := wgF_b (m := m) w (a + 1) (by omega)
      have g1 := wg_1 (m := m) w a (by omega)
      have es : wgF C m (a + 1) = wgF C m a * (if bit m a = 1 then C 24 (C 20 0 + a) else 100 - C 24 (C 20 0 + a)) := rfl
      obtain ⟨mm, hmm, -, -, n2, -⟩ := ic_22 q (C 20 0 + a) (by omega) (by omega)
      have co := cw_O w (C 20 0 + a) (by omega) (by omega)
      have two : ∀ (n' : Nat) (y : Int), 3 * d + 5 ≤ n' → y = (if bit m a = 1 then C 24 (C 20 0 + a) else 100 - C 24 (C 20 0 + a)) → ok (g_X0_weight n' 2 [c, m, (a : Int), y, p] h) (fun r h' => r = wgC C m ∧ h' = h) := by
        intro n' y y1 y2
        have ep : p * y = wgF C m (a + 1) := by rw [es, hp, y2]
        refine s_X0_weight_2 (by omega) ?_
        unfold b_X0_weight_2
        rw [ep]
        exact ok_ck (by omega) (ok_lt (ok_ck (by omega) (ih _ _ _ (a + 1) (by omega) (by omega) (by omega) (by omega) rfl)))
      refine s_X0_weight_1 (by omega) ?_
      unfold b_X0_weight_1
      rw [e3, e4]
      refine ok_f (by omega) (ok_ck (by omega) (ok_f (by omega) (ok_ck (by omega) (ok_ck (by omega) (ok_rf (j := mm) hmm (ok_lt ?_))))))
      rw [n2]
      refine ok_if (fun y => two _ _ (by omega) ?_) (fun y => ok_ck (by omega) (two _ _ (by omega) ?_))
      · rw [if_pos (show bit m a = 1 from y)]
      · rw [if_neg (show ¬ bit m a = 1 from y)]
  refine ok_eq.mp (fuv_X0_weight (fun n hn => ?_))
  refine s_X0_weight_0 (by omega) ?_
  unfold b_X0_weight_0
  exact key _ _ _ _ 0 rfl (by omega) (by omega) (by omega) rfl
end
set_option maxHeartbeats 4000000 in
theorem agr_odds {x y : Int} : Agr (f_X11_odds x y) (f_X12_odds x y) := by
  intro h c σ w q
  have wC := sw_C w
  have cM := cw_M wC
  have ez := sz_r wC
  have p16 := pw16 wC
  have e21 := ic_21 q.1.2.2.2.2.1
  by_cases z : (0 ≤ x ∧ x < sC σ 21 0) ∧ (y = 0 ∨ y = 1)
  · obtain ⟨r, h1, e1, e2, e3, e4⟩ := p_fitting w q
    have gc := e3.1.1
    have qc := e3.1.2.2.2.2.1
    have e21b := ic_21 qc
    obtain ⟨P, hP⟩ : ∃ P : Nat, (P : Int) = bshl 1 (sC σ 21 0) := ⟨(bshl 1 (sC σ 21 0)).toNat, by omega⟩
    have sr := su_r (r := r) (x := x) wC P (by omega)
    have sp := suA_p (r := r) wC P (by omega)
    have hz : suA (sC σ) r P = 0 ↔ r = 0 := by
      rw [sp]
      constructor
      · intro u
        refine bits_u e2.1 e2.2.1 (Int.le_refl 0) (by decide) (fun m m1 m2 => ⟨fun t => ?_, fun t => ?_⟩)
        · have := ((e2.2.2 m m1 m2).mp t).1
          have := u m m1 (by omega)
          omega
        · rw [bit0 m1 (by omega)] at t; omega
      · intro u m m1 m2
        rw [u]; exact bit0 m1 (by omega)
    have key : ∀ (d n : Nat) (a b m : Int) (k : Nat), P - k = d → k ≤ P → m = (k : Int) → 5 * d + 5 ≤ n → a = suW (sC σ) r x k → b = suA (sC σ) r k → ¬ r = 0 → ok (g_X11_odds n 2 [x, y, r, a, b, m] h1) (fun s h' => s = (if y = 0 then suW (sC σ) r x P else suA (sC σ) r P) / eu 64 (suW (sC σ) r x P) (suA (sC σ) r P) ∧ h' = h1) := by
      intro d
      induction d with
      | zero =>
        intro n a b m k hd hk hm hn ha hb hr
        subst hm
        have ek : k = P := by omega
        subst ek
        have : ¬ suA (sC σ) r k = 0 := fun u => hr (hz.mp u)
        refine s_X11_odds_2 (by omega) ?_
        unfold b_X11_odds_2
        refine ok_rf (j := c) gc ?_
        rw [e21b, ha, hb]
        exact ok_t (by omega) (ok_be (p_X11_part (by omega) (by omega) (by omega)) (ok_some ⟨rfl, rfl⟩))
      | succ d ih =>
        intro n a b m k hd hk hm hn ha hb hr
        subst hm
        have s1 := su_r (r := r) (x := x) wC k (by omega)
        have wb := wgF_b (m := k) wC (sC σ 21 0).toNat (by omega)
        have wb : 1 ≤ wgC (sC σ) k ∧ wgC (sC σ) k ≤ 100000000 := wb
        have ea : suA (sC σ) r (k + 1) = suA (sC σ) r k + if bit r k = 1 then wgC (sC σ) k else 0 := rfl
        have ew : suW (sC σ) r x (k + 1) = suW (sC σ) r x k + if bit r k = 1 ∧ bit k x = 1 then wgC (sC σ) k else 0 := rfl
        have four : ∀ (m' : Nat) (a' b' : Int), 5 * d + 6 ≤ m' → a' = suW (sC σ) r x (k + 1) → b' = suA (sC σ) r (k + 1) → ok (g_X11_odds m' 4 [x, y, r, a', b', (k : Int)] h1) (fun s h' => s = (if y = 0 then suW (sC σ) r x P else suA (sC σ) r P) / eu 64 (suW (sC σ) r x P) (suA (sC σ) r P) ∧ h' = h1) := by
          intro m' a' b' y1 y2 y3
          refine s_X11_odds_4 (by omega) ?_
          unfold b_X11_odds_4
          exact ok_ck (by omega) (ih _ _ _ _ (k + 1) (by omega) (by omega) (by omega) (by omega) y2 y3 hr)
        have three : ∀ (m' : Nat) (b' y0 : Int), 5 * d + 7 ≤ m' → a + y0 = suW (sC σ) r x (k + 1) → 0 ≤ y0 → y0 ≤ 100000000 → b' = suA (sC σ) r (k + 1) → ok (g_X11_odds m' 3 [x, y, r, b', (k : Int), y0, a] h1) (fun s h' => s = (if y = 0 then suW (sC σ) r x P else suA (sC σ) r P) / eu 64 (suW (sC σ) r x P) (suA (sC σ) r P) ∧ h' = h1) := by
          intro m' b' y0 y1 y2 y3 y4 y5
          refine s_X11_odds_3 (by omega) ?_
          unfold b_X11_odds_3
          exact ok_ck (by omega) (ok_lt (four _ _ _ (by omega) y2 y5))
        refine s_X11_odds_2 (by omega) ?_
        unfold b_X11_odds_2
        refine ok_rf (j := c) gc ?_
        rw [e21b]
        refine ok_f (by omega) (ok_if (fun u => ok_rf (j := c) gc (ok_be (p_X0_weight qc wC (by omega)) (ok_ck (by omega) (ok_lt (ok_if (fun v => three _ _ _ (by omega) ?_ (by omega) (by omega) ?_) (fun v => three _ _ _ (by omega) ?_ (by omega) (by omega) ?_)))))) (fun u => four _ _ _ (by omega) ?_ ?_))
        · rw [ew, if_pos ⟨u, v⟩, ha]
        · rw [ea, if_pos (show bit r k = 1 from u), hb]
        · rw [ew, if_neg (fun t => v t.2), ha]
        · rw [ea, if_pos (show bit r k = 1 from u), hb]
        · rw [ew, if_neg (fun t => u t.1), ha]; omega
        · rw [ea, if_neg (show ¬ bit r k = 1 from u), hb]; omega
    have one : ∀ n : Nat, 1000 ≤ n → ok (g_X11_odds n 1 [x, y] h) (fun s h' => s = (if r = 0 then y else (if y = 0 then suW (sC σ) r x P else suA (sC σ) r P) / eu 64 (suW (sC σ) r x P) (suA (sC σ) r P)) ∧ h' = h1) := by
      intro n hn
      refine s_X11_odds_1 (by omega) ?_
      unfold b_X11_odds_1
      refine ok_be e1 (ok_if (fun u => ok_some ⟨by rw [if_pos u], rfl⟩) (fun u => ?_))
      rw [if_neg u]
      exact key P _ _ _ _ 0 (by omega) (by omega) (by omega) (by omega) rfl rfl u
    refine ⟨if r = 0 then y else (if y = 0 then suW (sC σ) r x P else suA (sC σ) r P) / eu 64 (suW (sC σ) r x P) (suA (sC σ) r P), σ, w, ?_, fun h2 q2 => ?_⟩
    · refine ok_mono (P := fun s h' => s = (if r = 0 then y else (if y = 0 then suW (sC σ) r x P else suA (sC σ) r P) / eu 64 (suW (sC σ) r x P) (suA (sC σ) r P)) ∧ h' = h1) ?_ (fun s h' k => ⟨k.1, by rw [k.2]; exact ⟨c, e3⟩, by rw [k.2]; exact e4⟩)
      refine fuv_X11_odds (fun n hn => ?_)
      refine s_X11_odds_0 (by omega) ?_
      unfold b_X11_odds_0
      refine ok_f (by omega) (ok_rf (j := c) q.1.1 ?_)
      rw [e21]
      refine ok_f (by omega) ?_
      rcases z.2 with u | u
      · exact ok_t u (one _ (by omega))
      · exact ok_f (by omega) (ok_t u (one _ (by omega)))
    · have q3 := IR_0 w q2
      refine fuv_X12_odds (fun n hn => ?_)
      refine s_X12_odds_0 (by omega) ?_
      unfold b_X12_odds_0
      refine ok_lt (ok_be (p_X12_isMay q3.1) (ok_f (fun u => b2i_0.mp u z.1) (ok_f (by omega) (ok_t (by omega) (ok_bq (p_X12_fits w q3) ?_)))))
      intro r2 h5 ⟨u1, u2, u3⟩
      have er : r2 = r := isFit_u u1 e2
      subst er
      have e13 := ir_13 u2.1
      have k2 : ∀ (d n : Nat) (a b m : Int) (k : Nat), P - k = d → k ≤ P → m = (k : Int) → 30 * d + 30 ≤ n → a = suW (sC σ) r2 x k → b = suA (sC σ) r2 k → ok (g_X12_odds n 1 [x, y, r2, b, a, m] h5) (fun s h' => s = (if r2 = 0 then y else (if y = 0 then suW (sC σ) r2 x P else suA (sC σ) r2 P) / eu 64 (suW (sC σ) r2 x P) (suA (sC σ) r2 P)) ∧ h' = h5) := by
        intro d
        induction d with
        | zero =>
          intro n a b m k hd hk hm hn ha hb
          subst hm
          have ek : k = P := by omega
          subst ek
          refine s_X12_odds_1 (by omega) ?_
          unfold b_X12_odds_1
          rw [e13, ha, hb]
          refine ok_ck (by decide) (ok_t (by omega) (ok_if (fun u => ok_some ⟨by rw [if_pos (hz.mp u)], rfl⟩) (fun u => ok_be (p_X12_common (by omega) (by omega) (by omega)) ?_)))
          have gp := eu_p 64 _ _ (en_of 32 (suW (sC σ) r2 x k) (suA (sC σ) r2 k) (by omega) (by omega) (by omega)) (by omega) (by omega) (by omega)
          have nr : ¬ r2 = 0 := fun v => u (hz.mpr v)
          exact ok_if (fun v => ok_ck ⟨by omega, gp⟩ (ok_some ⟨by rw [if_neg nr, if_pos v], rfl⟩)) (fun v => ok_ck ⟨by omega, gp⟩ (ok_some ⟨by rw [if_neg nr, if_neg v], rfl⟩))
        | succ d ih =>
          intro n a b m k hd hk hm hn ha hb
          subst hm
          have s1 := su_r (r := r2) (x := x) wC k (by omega)
          have wb := wgF_b (m := k) wC (sC σ 21 0).toNat (by omega)
          have wb : 1 ≤ wgC (sC σ) k ∧ wgC (sC σ) k ≤ 100000000 := wb
          have ea : suA (sC σ) r2 (k + 1) = suA (sC σ) r2 k + if bit r2 k = 1 then wgC (sC σ) k else 0 := rfl
          have ew : suW (sC σ) r2 x (k + 1) = suW (sC σ) r2 x k + if bit r2 k = 1 ∧ bit k x = 1 then wgC (sC σ) k else 0 := rfl
          have five : ∀ (m' : Nat) (a' b' : Int), 30 * d + 31 ≤ m' → a' = suW (sC σ) r2 x (k + 1) → b' = suA (sC σ) r2 (k + 1) → ok (g_X12_odds m' 5 [x, y, r2, b', a', (k : Int)] h5) (fun s h' => s = (if r2 = 0 then y else (if y = 0 then suW (sC σ) r2 x P else suA (sC σ) r2 P) / eu 64 (suW (sC σ) r2 x P) (suA (sC σ) r2 P)) ∧ h' = h5) := by
            intro m' a' b' y1 y2 y3
            refine s_X12_odds_5 (by omega) ?_
            unfold b_X12_odds_5
            exact ok_ck (by omega) (ih _ _ _ _ (k + 1) (by omega) (by omega) (by omega) (by omega) y2 y3)
          have four : ∀ (m' : Nat) (b' y0 : Int), 30 * d + 32 ≤ m' → a + y0 = suW (sC σ) r2 x (k + 1) → 0 ≤ y0 → y0 ≤ 100000000 → b' = suA (sC σ) r2 (k + 1) → ok (g_X12_odds m' 4 [x, y, r2, b', (k : Int), y0, a] h5) (fun s h' => s = (if r2 = 0 then y else (if y = 0 then suW (sC σ) r2 x P else suA (sC σ) r2 P) / eu 64 (suW (sC σ) r2 x P) (suA (sC σ) r2 P)) ∧ h' = h5) := by
            intro m' b' y0 y1 y2 y3 y4 y5
            refine s_X12_odds_4 (by omega) ?_
            unfold b_X12_odds_4
            exact ok_ck (by omega) (ok_lt (five _ _ _ (by omega) y2 y5))
          have inn : bit r2 k = 1 → ∀ (e n : Nat) (p i : Int) (t : Nat), (sC σ 21 0).toNat - t = e → (t : Int) ≤ sC σ 21 0 → i = (t : Int) → 30 * d + 40 + 3 * e ≤ n → p = wgF (sC σ) k t → ok (g_X12_odds n 2 [x, y, r2, b, a, (k : Int), p, i] h5) (fun s h' => s = (if r2 = 0 then y else (if y = 0 then suW (sC σ) r2 x P else suA (sC σ) r2 P) / eu 64 (suW (sC σ) r2 x P) (suA (sC σ) r2 P)) ∧ h' = h5) := by
            intro hb1 e
            induction e with
            | zero =>
              intro n p i t he ht hi hn hp
              subst hi
              have et : t = (sC σ 21 0).toNat := by omega
              rw [et] at hp
              have hp : p = wgC (sC σ) k := hp
              refine s_X12_odds_2 (by omega) ?_
              unfold b_X12_odds_2
              rw [e13]
              refine ok_ck (by decide) (ok_t (by omega) (ok_ck (by omega) (ok_lt (ok_if (fun v => four _ _ _ (by omega) ?_ (by omega) (by omega) ?_) (fun v => four _ _ _ (by omega) ?_ (by omega) (by omega) ?_)))))
              · rw [ew, if_pos ⟨hb1, v⟩, ha, hp]
              · rw [ea, if_pos hb1, hb, hp]
              · rw [ew, if_neg (fun t => v t.2), ha]
              · rw [ea, if_pos hb1, hb, hp]
            | succ e ihe =>
              intro n p i t he ht hi hn hp
              subst hi
              have pb := wgF_b (m := k) wC t (by omega)
              have pb2 := wgF_b (m := k) wC (t + 1) (by omega)
              have es : wgF (sC σ) k (t + 1) = wgF (sC σ) k t * (if bit k t = 1 then sC σ 24 (sC σ 20 0 + t) else 100 - sC σ 24 (sC σ 20 0 + t)) := rfl
              have co := cw_O wC (sC σ 20 0 + t) (by omega) (by omega)
              have oo := ir_o u2.1 (sC σ 20 0 + t) (by omega) (by omega)
              have esl : sl (sC σ) (sC σ 20 0 + t) = 5 + t := by unfold sl; rw [if_neg (by omega)]; omega
              rw [esl] at oo
              have three : ∀ (n' : Nat) (y0 : Int), 30 * d + 42 + 3 * e ≤ n' → y0 = (if bit k t = 1 then sC σ 24 (sC σ 20 0 + t) else 100 - sC σ 24 (sC σ 20 0 + t)) → ok (g_X12_odds n' 3 [x, y, r2, b, a, (k : Int), (t : Int), y0, p] h5) (fun s h' => s = (if r2 = 0 then y else (if y = 0 then suW (sC σ) r2 x P else suA (sC σ) r2 P) / eu 64 (suW (sC σ) r2 x P) (suA (sC σ) r2 P)) ∧ h' = h5) := by
                intro n' y0 y1 y2
                have ep : p * y0 = wgF (sC σ) k (t + 1) := by rw [es, hp, y2]
                refine s_X12_odds_3 (by omega) ?_
                unfold b_X12_odds_3
                rw [ep]
                exact ok_ck (by omega) (ok_lt (ok_ck (by omega) (ihe _ _ _ (t + 1) (by omega) (by omega) (by omega) (by omega) rfl)))
              refine s_X12_odds_2 (by omega) ?_
              unfold b_X12_odds_2
              rw [e13, oo]
              refine ok_ck (by decide) (ok_f (by omega) (ok_if (fun v => ok_ck (by omega) (ok_ck (by omega) (three _ _ (by omega) ?_))) (fun v => ok_ck (by omega) (ok_ck (by omega) (ok_ck (by omega) (three _ _ (by omega) ?_))))))
              · rw [if_pos (show bit (k : Int) t = 1 from v)]
              · rw [if_neg (show ¬ bit (k : Int) t = 1 from v)]
          have br := bit01 (x := r2) (i := (k : Int))
          refine s_X12_odds_1 (by omega) ?_
          unfold b_X12_odds_1
          rw [e13]
          refine ok_ck (by decide) (ok_f (by omega) (ok_if (fun u => five _ _ _ (by omega) ?_ ?_) (fun u => inn ?_ _ _ _ _ 0 rfl (by omega) (by omega) (by omega) rfl)))
          · have u : bit r2 k = 0 := u
            rw [ew, if_neg (fun t => by have := t.1; omega), ha]; omega
          · have u : bit r2 k = 0 := u
            rw [ea, if_neg (by omega), hb]; omega
          · have u : ¬ bit r2 k = 0 := u
            omega
      refine ok_mono (k2 P _ _ _ _ 0 (by omega) (by omega) (by omega) (by omega) rfl rfl) ?_
      intro s h' ⟨v1, v2⟩
      subst v2
      exact ⟨v1, u2, fr_0 u3⟩
  · refine ⟨-1, σ, w, ok_rc q ?_, fun h2 q2 => ok_rr w q2 ?_⟩
    · refine ok_eq.mp (fuv_X11_odds (fun n hn => ?_))
      refine s_X11_odds_0 (by omega) ?_
      unfold b_X11_odds_0
      refine ok_if (fun u => ok_some ⟨rfl, rfl⟩) (fun u => ok_rf (j := c) q.1.1 ?_)
      rw [e21]
      exact ok_if (fun u2 => ok_some ⟨rfl, rfl⟩) (fun u2 => ok_f (by omega) (ok_f (by omega) (ok_some ⟨rfl, rfl⟩)))
    · have q3 := IR_0 w q2
      refine ok_eq.mp (fuv_X12_odds (fun n hn => ?_))
      refine s_X12_odds_0 (by omega) ?_
      unfold b_X12_odds_0
      refine ok_lt (ok_be (p_X12_isMay q3.1) (ok_if (fun u => ok_some ⟨rfl, rfl⟩) (fun u => ok_if (fun u2 => ok_some ⟨rfl, rfl⟩) (fun u2 => ok_f (fun v => z ⟨b2i_n.mp u, by omega⟩) (ok_some ⟨rfl, rfl⟩)))))
