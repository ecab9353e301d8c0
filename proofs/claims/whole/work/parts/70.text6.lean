/-! TEXT, 6: at token t -/
section
variable {b : Int → Int} {n : Nat}
theorem kyS_w {p : Nat → Bool} : ∀ (f k : Nat), kyS p f k = -1 ∨ (0 ≤ kyS p f k ∧ kyS p f k < (k : Int) + f) := fun f k => by
  have := kyS_r (p := p) f k
  omega
/-- what a token's value can be -/
theorem tokJ_v {j : Nat} (hj : j ≤ n) : ((tokJ b n j).1 = 1 → 0 ≤ (tokJ b n j).2.1 ∧ (tokJ b n j).2.1 < 1073741824) ∧ ((tokJ b n j).1 = 2 → 0 ≤ (tokJ b n j).2.1 ∧ (tokJ b n j).2.1 < 27) ∧ ((tokJ b n j).1 = 3 → 0 ≤ (tokJ b n j).2.1 ∧ (tokJ b n j).2.1 ≤ 1000000) ∧ ((tokJ b n j).1 = 4 → 5 ≤ (tokJ b n j).2.1 ∧ (tokJ b n j).2.1 ≤ 17) := by
  unfold tokJ
  by_cases h1 : n ≤ j
  · rw [if_pos h1]
    refine ⟨fun t => ?_, fun t => ?_, fun t => ?_, fun t => ?_⟩ <;> exact absurd t (by dsimp only; decide)
  · rw [if_neg h1]
    by_cases h2 : isLe (byt b n j) = true
    · rw [if_pos h2]
      have a := run_n (P := isLe) (b := b) hj
      have al : ∀ i : Nat, i < run isLe b n j - j → 97 ≤ b ((j + i : Nat) : Int) ∧ b ((j + i : Nat) : Int) ≤ 122 := by
        intro i hi
        have := run_all (P := isLe) (b := b) (n := n) (i := j) (k := j + i) (by omega) (by omega)
        rw [isLe_i, byt_in (by omega)] at this
        exact this
      have p := pkN_r al 6
      have e6 : (32 : Int) ^ 6 = 1073741824 := by decide
      have k := kyS_w (p := isKy b j (run isLe b n j - j)) 27 0
      unfold tokW
      split
      · refine ⟨fun t => ?_, fun t => ?_, fun t => ?_, fun t => ?_⟩ <;> exact absurd t (by dsimp only; decide)
      · split
        · refine ⟨fun _ => ⟨p.1, by show pkN b j _ 6 < 1073741824; omega⟩, fun t => ?_, fun t => ?_, fun t => ?_⟩ <;> exact absurd t (by dsimp only; decide)
        · rename_i z
          refine ⟨fun t => absurd t (by dsimp only; decide), fun _ => ?_, fun t => absurd t (by dsimp only; decide), fun t => absurd t (by dsimp only; decide)⟩
          show 0 ≤ keyF b j (run isLe b n j - j) ∧ keyF b j (run isLe b n j - j) < 27
          unfold keyF at z ⊢
          omega
    · rw [if_neg h2]
      by_cases h3 : isDg (byt b n j) = true
      · rw [if_pos h3]
        have a := run_n (P := isDg) (b := b) hj
        have al : ∀ i : Nat, i < run isDg b n j - j → 48 ≤ b ((j + i : Nat) : Int) ∧ b ((j + i : Nat) : Int) ≤ 57 := by
          intro i hi
          have := run_all (P := isDg) (b := b) (n := n) (i := j) (k := j + i) (by omega) (by omega)
          rw [isDg_i, byt_in (by omega)] at this
          exact this
        have nr := nu_r (b := b) (j := j) _ al
        unfold tokN
        exact ⟨fun t => absurd t (by dsimp only; decide), fun t => absurd t (by dsimp only; decide), fun _ => ⟨nr.1, nr.2.1⟩, fun t => absurd t (by dsimp only; decide)⟩
      · rw [if_neg h3]
        unfold tokS
        split
        · refine ⟨fun t => ?_, fun t => ?_, fun t => ?_, fun t => ?_⟩ <;> exact absurd t (by dsimp only; decide)
        · rename_i z
          exact ⟨fun t => absurd t (by dsimp only; decide), fun t => absurd t (by dsimp only; decide), fun t => absurd t (by dsimp only; decide), fun _ => sgV_r z⟩
theorem tk_v (t : Nat) : (tkK b n t = 1 → 0 ≤ tkV b n t ∧ tkV b n t < 1073741824) ∧ (tkK b n t = 2 → 0 ≤ tkV b n t ∧ tkV b n t < 27) ∧ (tkK b n t = 3 → 0 ≤ tkV b n t ∧ tkV b n t ≤ 1000000) ∧ (tkK b n t = 4 → 5 ≤ tkV b n t ∧ tkV b n t ≤ 17) := tokJ_v (run_n (P := isBl) (b := b) (pos_n (b := b) (n := n) t))
theorem tk_k (t : Nat) : 0 ≤ tkK b n t ∧ tkK b n t ≤ 5 := (tok_r (b := b) (pos_n (b := b) (n := n) t)).2.2.2.2.2
end
/-- which word of the language token t is, and which sign; -1: none -/
def kyT (b : Int → Int) (n t : Nat) : Int := if tkK b n t = 2 then tkV b n t else -1
def sgT (b : Int → Int) (n t : Nat) : Int := if tkK b n t = 4 then tkV b n t else if 17 ≤ kyT b n t ∧ kyT b n t ≤ 19 then kyT b n t - 15 else -1
/-- a number from lo to hi at token t, or the fault -/
def numF (b : Int → Int) (n : Nat) (lo hi : Int) (t : Nat) : Except (Int × Int) Int := if tkK b n t = 3 then (if lo ≤ tkV b n t ∧ tkV b n t ≤ hi then .ok (tkV b n t) else .error (2, (tkP b n t : Int))) else .error (1, (tkP b n t : Int))
/-! the class -/
def scA (h : Hp) (b : Int → Int) (n s : Nat) : Prop := 1 ≤ s ∧ s ≤ 801 ∧ gI h 8 0 9 = (s : Int) ∧ tksC h b n s ∧ tkK b n (s - 1) = 0 ∧ ∀ t : Nat, t + 1 < s → tkK b n t ≠ 0
def rdT (h : Hp) (b : Int → Int) (n s t : Nat) : Prop := gI h 7 0 5 = ((min t (s - 1) : Nat) : Int) ∧ gI h 7 0 6 = tkK b n t ∧ gI h 7 0 7 = (tkP b n t : Int) ∧ (tkK b n t ≠ 0 → tkK b n t ≠ 5 → gI h 7 0 8 = tkV b n t) ∧ gI h 7 0 9 = kyT b n t ∧ gI h 7 0 10 = sgT b n t
def rdC (h : Hp) (b : Int → Int) (n s t : Nat) : Prop := scA h b n s ∧ rdT h b n s t
def AdW : Nat → Int → Int → Prop := fun r _ k => r = 7 ∧ 5 ≤ k ∧ k ≤ 10
def RnW : Nat → Int → Int → Prop := fun r _ k => r = 7 ∧ ((3 ≤ k ∧ k ≤ 12))
def FaW : Nat → Int → Int → Prop := fun r _ k => r = 7 ∧ (k = 3 ∨ k = 4)
section
variable {h : Hp} {b : Int → Int} {n s t : Nat}
theorem scA_fr {h2 : Hp} {W : Nat → Int → Int → Prop} (f : Fr W h h2) (d : ∀ (r : Nat) (k : Int), (r = 8 ∧ k = 9) ∨ (48 ≤ r ∧ r ≤ 50) → ¬ W r 0 k) (q : scA h b n s) : scA h2 b n s := ⟨q.1, q.2.1, (f.1 8 0 9 (d 8 9 (by omega))).trans q.2.2.1, tksC_e (fun r k r1 r2 _ => f.1 r 0 k (d r k (by omega))) q.2.2.2.1, q.2.2.2.2⟩
theorem rdT_fr {h2 : Hp} {W : Nat → Int → Int → Prop} (f : Fr W h h2) (d : ∀ k : Int, 5 ≤ k → k ≤ 10 → ¬ W 7 0 k) (q : rdT h b n s t) : rdT h2 b n s t := ⟨(f.1 7 0 5 (d 5 (by omega) (by omega))).trans q.1, (f.1 7 0 6 (d 6 (by omega) (by omega))).trans q.2.1, (f.1 7 0 7 (d 7 (by omega) (by omega))).trans q.2.2.1, fun z1 z2 => (f.1 7 0 8 (d 8 (by omega) (by omega))).trans (q.2.2.2.1 z1 z2), (f.1 7 0 9 (d 9 (by omega) (by omega))).trans q.2.2.2.2.1, (f.1 7 0 10 (d 10 (by omega) (by omega))).trans q.2.2.2.2.2⟩
theorem rdC_fr {h2 : Hp} {W : Nat → Int → Int → Prop} (f : Fr W h h2) (d : ∀ (r : Nat) (k : Int), (r = 8 ∧ k = 9) ∨ (48 ≤ r ∧ r ≤ 50) ∨ (r = 7 ∧ 5 ≤ k ∧ k ≤ 10) → ¬ W r 0 k) (q : rdC h b n s t) : rdC h2 b n s t := ⟨scA_fr f (fun r k z => d r k (by omega)) q.1, rdT_fr f (fun k k1 k2 => d 7 k (by omega)) q.2⟩
/-- the tokens in the class's rows, the end for ever -/
theorem sc_at (q : scA h b n s) (t : Nat) : gI h 48 0 ((min t (s - 1) : Nat) : Int) = tkK b n t ∧ gI h 50 0 ((min t (s - 1) : Nat) : Int) = (tkP b n t : Int) ∧ (tkK b n t ≠ 0 → tkK b n t ≠ 5 → gI h 49 0 ((min t (s - 1) : Nat) : Int) = tkV b n t) := by
  by_cases y : t < s
  · rw [Nat.min_eq_left (by omega)]
    exact q.2.2.2.1 t y
  · have s1 := q.1
    have e := pos_end q.2.2.2.2.1 (t - (s - 1))
    rw [show s - 1 + (t - (s - 1)) = t by omega] at e
    have e0 := (pos_end q.2.2.2.2.1 0).2.1
    have u := q.2.2.2.1 (s - 1) (by omega)
    rw [Nat.min_eq_right (by omega)]
    refine ⟨?_, ?_, fun z => absurd e.1 z⟩
    · rw [u.1, q.2.2.2.2.1, e.1]
    · rw [u.2.1, e.2.1]
      have : tkP b n (s - 1) = n := e0
      rw [this]
theorem p_X7_advance' {a : Int} (q : scA h b n s) (ea : gI h 7 0 5 = a) (ha : max 0 (min (a + 1) ((s : Int) - 1)) = ((min t (s - 1) : Nat) : Int)) (a1 : -1 ≤ a) (a2 : a ≤ 801) : ok (f_X7_advance h) (fun _ h' => Fr AdW h h' ∧ rdC h' b n s t) := by
  have s1 := q.1
  have s2 := q.2.1
  obtain ⟨x1, x2, x3⟩ := sc_at q t
  obtain ⟨v1, v2, v3, v4⟩ := tk_v (b := b) (n := n) t
  refine fuv_X7_advance (fun m hm => ?_)
  refine s_X7_advance_0 (by omega) ?_
  unfold b_X7_advance_0
  rw [ea, q.2.2.1, ha]
  generalize hi : ((min t (s - 1) : Nat) : Int) = i at x1 x2 x3
  have ir : 0 ≤ i ∧ i ≤ 800 := by omega
  refine ok_ck (by omega) (ok_ck (by omega) (ok_lt ?_))
  rw [gI_eq, gI_nr (show (48 : Nat) ≠ 7 by decide), x1]
  refine ok_t ir.2 (ok_ck (by omega) (ok_lt ?_))
  rw [gI_nk (show (5 : Int) ≠ 6 by decide), gI_eq, gI_nr (show (50 : Nat) ≠ 7 by decide), gI_nr (show (50 : Nat) ≠ 7 by decide), x2]
  refine ok_ck (by omega) (ok_lt ?_)
  rw [gI_nk (show (5 : Int) ≠ 7 by decide), gI_nk (show (5 : Int) ≠ 6 by decide), gI_eq, gI_nr (show (49 : Nat) ≠ 7 by decide), gI_nr (show (49 : Nat) ≠ 7 by decide), gI_nr (show (49 : Nat) ≠ 7 by decide)]
  refine ok_ck (by omega) (ok_lt ?_)
  have F : Fr AdW h (sI (sI (sI (sI h 7 0 5 i) 7 0 6 (tkK b n t)) 7 0 7 (tkP b n t : Int)) 7 0 8 (gI h 49 0 i)) := fr_sI (fr_sI (fr_sI (fr_sI fr_rf (by unfold AdW; omega)) (by unfold AdW; omega)) (by unfold AdW; omega)) (by unfold AdW; omega)
  have g5 : gI (sI (sI (sI (sI h 7 0 5 i) 7 0 6 (tkK b n t)) 7 0 7 (tkP b n t : Int)) 7 0 8 (gI h 49 0 i)) 7 0 5 = i := by rw [gI_nk (by decide), gI_nk (by decide), gI_nk (by decide), gI_eq]
  have g6 : gI (sI (sI (sI (sI h 7 0 5 i) 7 0 6 (tkK b n t)) 7 0 7 (tkP b n t : Int)) 7 0 8 (gI h 49 0 i)) 7 0 6 = tkK b n t := by rw [gI_nk (by decide), gI_nk (by decide), gI_eq]
  have g7 : gI (sI (sI (sI (sI h 7 0 5 i) 7 0 6 (tkK b n t)) 7 0 7 (tkP b n t : Int)) 7 0 8 (gI h 49 0 i)) 7 0 7 = (tkP b n t : Int) := by rw [gI_nk (by decide), gI_eq]
  have g8 : gI (sI (sI (sI (sI h 7 0 5 i) 7 0 6 (tkK b n t)) 7 0 7 (tkP b n t : Int)) 7 0 8 (gI h 49 0 i)) 7 0 8 = gI h 49 0 i := gI_eq
  generalize sI (sI (sI (sI h 7 0 5 i) 7 0 6 (tkK b n t)) 7 0 7 (tkP b n t : Int)) 7 0 8 (gI h 49 0 i) = h4 at F g5 g6 g7 g8
  have two : ∀ (m2 : Nat) (h5 : Hp), 0 < m2 → Fr AdW h h5 → gI h5 7 0 5 = i → gI h5 7 0 6 = tkK b n t → gI h5 7 0 7 = (tkP b n t : Int) → gI h5 7 0 8 = gI h 49 0 i → gI h5 7 0 9 = kyT b n t → ok (g_X7_advance m2 2 [if tkK b n t = 4 then tkV b n t else -1] h5) (fun _ h' => Fr AdW h h' ∧ rdC h' b n s t) := by
    intro m2 h5 hm2 f5 c5 c6 c7 c8 c9
    have kr : kyT b n t = -1 ∨ (0 ≤ kyT b n t ∧ kyT b n t < 27) := by
      unfold kyT
      split
      · rename_i z; have := v2 z; omega
      · omega
    refine s_X7_advance_2 hm2 ?_
    unfold b_X7_advance_2
    refine ok_lt ?_
    rw [gI_nk (show (9 : Int) ≠ 10 by decide), c9]
    have fin : ∀ (h6 : Hp), Fr AdW h h6 → gI h6 7 0 5 = i → gI h6 7 0 6 = tkK b n t → gI h6 7 0 7 = (tkP b n t : Int) → gI h6 7 0 8 = gI h 49 0 i → gI h6 7 0 9 = kyT b n t → gI h6 7 0 10 = sgT b n t → ok (some ((0 : Int), h6)) (fun _ h' => Fr AdW h h' ∧ rdC h' b n s t) := by
      intro h6 f6 d5 d6 d7 d8 d9 d10
      exact ok_some ⟨f6, scA_fr f6 (by intro r k; unfold AdW; omega) q, by rw [d5, hi], d6, d7, fun z1 z2 => by rw [d8]; exact x3 z1 z2, d9, d10⟩
    have sn : ¬ (17 ≤ kyT b n t ∧ kyT b n t ≤ 19) → (if tkK b n t = 4 then tkV b n t else -1) = sgT b n t := by
      intro z
      unfold sgT
      by_cases y : tkK b n t = 4
      · rw [if_pos y, if_pos y]
      · rw [if_neg y, if_neg y, if_neg z]
    have F6 : Fr AdW h (sI h5 7 0 10 (if tkK b n t = 4 then tkV b n t else -1)) := fr_sI f5 (by unfold AdW; omega)
    have nw : ¬ (17 ≤ kyT b n t ∧ kyT b n t ≤ 19) → ok (some ((0 : Int), sI h5 7 0 10 (if tkK b n t = 4 then tkV b n t else -1))) (fun _ h' => Fr AdW h h' ∧ rdC h' b n s t) := by
      intro z
      refine fin _ F6 ?_ ?_ ?_ ?_ ?_ ?_
      · rw [gI_nk (by decide)]; exact c5
      · rw [gI_nk (by decide)]; exact c6
      · rw [gI_nk (by decide)]; exact c7
      · rw [gI_nk (by decide)]; exact c8
      · rw [gI_nk (by decide)]; exact c9
      · rw [gI_eq]; exact sn z
    refine ok_if (fun u => nw (by omega)) (fun u => ok_if (fun u2 => nw (by omega)) (fun u2 => ok_ck (by omega) (ok_ck (by omega) (ok_lt ?_))))
    refine fin _ (fr_sI F6 (by unfold AdW; omega)) ?_ ?_ ?_ ?_ ?_ ?_
    · rw [gI_nk (by decide), gI_nk (by decide)]; exact c5
    · rw [gI_nk (by decide), gI_nk (by decide)]; exact c6
    · rw [gI_nk (by decide), gI_nk (by decide)]; exact c7
    · rw [gI_nk (by decide), gI_nk (by decide)]; exact c8
    · rw [gI_nk (by decide), gI_nk (by decide)]; exact c9
    · rw [gI_eq]
      have k2 : tkK b n t = 2 := by
        by_cases y : tkK b n t = 2
        · exact y
        · have : kyT b n t = -1 := if_neg y
          omega
      unfold sgT
      rw [if_neg (by omega), if_pos (by omega)]
      omega
  have one : ∀ (m1 : Nat), 2 ≤ m1 → ok (g_X7_advance m1 1 [kyT b n t] h4) (fun _ h' => Fr AdW h h' ∧ rdC h' b n s t) := by
    intro m1 hm1
    refine s_X7_advance_1 (by omega) ?_
    unfold b_X7_advance_1
    refine ok_lt ?_
    rw [gI_nk (show (6 : Int) ≠ 9 by decide), gI_nk (show (8 : Int) ≠ 9 by decide), g6, g8]
    have T := two (m1 - 1) (sI h4 7 0 9 (kyT b n t)) (by omega) (fr_sI F (by unfold AdW; omega)) (by rw [gI_nk (by decide)]; exact g5) (by rw [gI_nk (by decide)]; exact g6) (by rw [gI_nk (by decide)]; exact g7) (by rw [gI_nk (by decide)]; exact g8) gI_eq
    refine ok_if (fun u => ?_) (fun u => ?_)
    · rw [if_pos u] at T
      rw [x3 (by omega) (by omega)]
      exact T
    · rw [if_neg u] at T; exact T
  rw [g6, g8]
  have O := one (m - 1) (by omega)
  unfold kyT at O
  refine ok_if (fun u => ?_) (fun u => ?_)
  · rw [if_pos u] at O
    rw [x3 (by omega) (by omega)]
    exact O
  · rw [if_neg u] at O; exact O
theorem p_X7_advance (q : rdC h b n s t) : ok (f_X7_advance h) (fun _ h' => Fr AdW h h' ∧ rdC h' b n s (t + 1)) := by
  have s1 := q.1.1
  have s2 := q.1.2.1
  exact p_X7_advance' q.1 q.2.1 (by omega) (by omega) (by omega)
theorem p_X7_wrong {x y : Int} : f_X7_wrong x y h = some (0, sI (sI h 7 0 3 x) 7 0 4 y) := by
  refine ok_eq.mp (fuv_X7_wrong (fun m hm => ?_))
  refine s_X7_wrong_0 (by omega) ?_
  unfold b_X7_wrong_0
  exact ok_lt (ok_lt (ok_some ⟨rfl, rfl⟩))
/-- what a step of the class's reading ends with: a fault -/
def flC (h h' : Hp) (e : Int × Int) : Prop := Fr FaW h h' ∧ gI h' 7 0 3 = e.1 ∧ gI h' 7 0 4 = e.2
theorem fl_w {x y : Int} : flC h (sI (sI h 7 0 3 x) 7 0 4 y) (x, y) := ⟨fr_sI (fr_sI fr_rf (by unfold FaW; omega)) (by unfold FaW; omega), by rw [gI_nk (by decide), gI_eq], gI_eq⟩
theorem p_X7_readNumber {lo hi : Int} (q : rdC h b n s t) : ok (f_X7_readNumber lo hi h) (fun r h' => match numF b n lo hi t with
    | .error e => r = 0 ∧ flC h h' e
    | .ok v => r = 1 ∧ Fr RnW h h' ∧ rdC h' b n s (t + 1) ∧ gI h' 7 0 11 = v ∧ gI h' 7 0 12 = (tkP b n t : Int) ∧ gI h' 7 0 3 = gI h 7 0 3 ∧ gI h' 7 0 4 = gI h 7 0 4) := by
  obtain ⟨q1, q5, q6, q7, q8, q9, q10⟩ := q
  have q := (⟨q1, q5, q6, q7, q8, q9, q10⟩ : rdC h b n s t)
  refine fuv_X7_readNumber (fun m hm => ?_)
  refine s_X7_readNumber_0 (by omega) ?_
  unfold b_X7_readNumber_0
  rw [q6, q7]
  by_cases k3 : tkK b n t = 3
  · have e8 : gI h 7 0 8 = tkV b n t := q8 (by omega) (by omega)
    rw [e8]
    have bad : ¬ (lo ≤ tkV b n t ∧ tkV b n t ≤ hi) → ok (g_X7_readNumber (m - 1) 1 [] h) (fun r h' => match numF b n lo hi t with
    | .error e => r = 0 ∧ flC h h' e
    | .ok v => r = 1 ∧ Fr RnW h h' ∧ rdC h' b n s (t + 1) ∧ gI h' 7 0 11 = v ∧ gI h' 7 0 12 = (tkP b n t : Int) ∧ gI h' 7 0 3 = gI h 7 0 3 ∧ gI h' 7 0 4 = gI h 7 0 4) := by
      intro z
      have eN : numF b n lo hi t = .error (2, (tkP b n t : Int)) := by unfold numF; rw [if_pos k3, if_neg z]
      rw [eN]
      refine s_X7_readNumber_1 (by omega) ?_
      unfold b_X7_readNumber_1
      rw [q7]
      exact ok_be p_X7_wrong (ok_ck (by decide) (ok_some ⟨rfl, fl_w⟩))
    refine ok_t k3 (ok_if (fun u => bad (by omega)) (fun u => ok_if (fun u2 => ok_lt ?_) (fun u2 => bad (by omega))))
    have eN : numF b n lo hi t = .ok (tkV b n t) := by unfold numF; rw [if_pos k3, if_pos ⟨by omega, u2⟩]
    rw [eN, gI_nk (show (7 : Int) ≠ 11 by decide), q7]
    refine ok_lt ?_
    have F : Fr (fun r _ k => r = 7 ∧ (k = 11 ∨ k = 12)) h (sI (sI h 7 0 11 (tkV b n t)) 7 0 12 (tkP b n t : Int)) := fr_sI (fr_sI fr_rf (by omega)) (by omega)
    refine ok_bq (p_X7_advance (rdC_fr F (by intro r k; omega) q)) ?_
    intro _ h4 ⟨f4, r4⟩
    refine ok_some ⟨rfl, fr_tr (fr_mo F (by intro r i k; unfold RnW; omega)) (fr_mo f4 (by intro r i k; unfold AdW RnW; omega)), r4, ?_, ?_, ?_, ?_⟩
    · rw [f4.1 7 0 11 (by unfold AdW; omega), gI_nk (by decide), gI_eq]
    · rw [f4.1 7 0 12 (by unfold AdW; omega), gI_eq]
    · rw [f4.1 7 0 3 (by unfold AdW; omega), F.1 7 0 3 (by omega)]
    · rw [f4.1 7 0 4 (by unfold AdW; omega), F.1 7 0 4 (by omega)]
  · have eN : numF b n lo hi t = .error (1, (tkP b n t : Int)) := by unfold numF; rw [if_neg k3]
    rw [eN]
    exact ok_f k3 (ok_be p_X7_wrong (ok_ck (by decide) (ok_some ⟨rfl, fl_w⟩)))
end
/-! the reference -/
def rdR (h : Hp) (b : Int → Int) (n t : Nat) : Prop := rxC h b n ∧ gI h 12 0 28 = (pos b n (t + 1) : Int) ∧ (-1 ≤ gI h 12 0 31 ∧ gI h 12 0 31 < 1073741824) ∧ tkR h (tok b n (pos b n t))
def flR (h h' : Hp) (e : Int × Int) : Prop := Fr (fun r _ k => r = 12 ∧ (k = 32 ∨ k = 33)) h h' ∧ gI h' 12 0 32 = e.1 ∧ gI h' 12 0 33 = e.2
section
variable {h : Hp} {b : Int → Int} {n t : Nat}
theorem rdR_fr {h2 : Hp} {W : Nat → Int → Int → Prop} (f : Fr W h h2) (d : ∀ (r : Nat) (k : Int), (r = 12 ∧ 27 ≤ k ∧ k ≤ 31) ∨ r = 60 → ¬ W r 0 k) (q : rdR h b n t) : rdR h2 b n t := by
  obtain ⟨q1, q2, qv, q3, q4, q5, q6, q7⟩ := q
  have e : ∀ k : Int, 28 ≤ k → k ≤ 31 → gI h2 12 0 k = gI h 12 0 k := fun k k1 k2 => f.1 12 0 k (d 12 k (by omega))
  refine ⟨rxC_fr f (fun r k z => d r k (by omega)) q1, (e 28 (by omega) (by omega)).trans q2, by rw [e 31 (by omega) (by omega)]; exact qv, (e 29 (by omega) (by omega)).trans q3, (e 30 (by omega) (by omega)).trans q4, ?_, ?_, ?_⟩
  · rw [e 31 (by omega) (by omega)]; exact q5
  · rw [e 31 (by omega) (by omega)]; exact q6
  · rw [e 31 (by omega) (by omega)]; exact q7
theorem p_token_t (q : rdR h b n t) : ok (f_X12_token h) (fun _ h' => Fr ToW h h' ∧ rdR h' b n (t + 1)) := by
  obtain ⟨v, h', eo, f, e, r⟩ := p_X12_token q.1 q.2.1 (pos_n _)
  refine ⟨v, h', eo, f, rxC_fr f (by intro r k; unfold ToW; omega) q.1, e, ?_, r⟩
  by_cases z : (tok b n (pos b n (t + 1))).1 = 0
  · obtain ⟨v2, h2, eo2, e2⟩ := p_token_end q.1 q.2.1 (pos_n _) z
    rw [eo] at eo2
    injection eo2 with eo3
    injection eo3 with eo4 eo5
    rw [eo5, e2]; exact q.2.2.1
  · exact r.2.2.2.2.2 z
theorem p_X12_goOn (q : rdR h b n t) (f0 : gI h 12 0 32 = 0) : ok (f_X12_goOn h) (fun _ h' => Fr ToW h h' ∧ rdR h' b n (t + 1)) := by
  refine fuv_X12_goOn (fun m hm => ?_)
  refine s_X12_goOn_0 (by omega) ?_
  unfold b_X12_goOn_0
  refine ok_t f0 (ok_bq (p_token_t q) ?_)
  intro _ h' z
  exact ok_some z
theorem p_goOn_f (f0 : gI h 12 0 32 ≠ 0) : f_X12_goOn h = some (0, h) := by
  refine ok_eq.mp (fuv_X12_goOn (fun m hm => ?_))
  refine s_X12_goOn_0 (by omega) ?_
  unfold b_X12_goOn_0
  exact ok_f f0 (ok_some ⟨rfl, rfl⟩)
theorem p_X12_wrong {x : Int} (q : rdR h b n t) (f0 : gI h 12 0 32 = 0) : ok (f_X12_wrong x h) (fun _ h' => flR h h' (x, (tkP b n t : Int))) := by
  have e9 := q.2.2.2.1
  refine fuv_X12_wrong (fun m hm => ?_)
  refine s_X12_wrong_0 (by omega) ?_
  unfold b_X12_wrong_0
  refine ok_t f0 (ok_lt ?_)
  rw [gI_nk (show (29 : Int) ≠ 32 by decide), e9]
  exact ok_lt (ok_some ⟨fr_sI (fr_sI fr_rf (by omega)) (by omega), by rw [gI_nk (by decide), gI_eq], gI_eq⟩)
theorem p_wrong_f {x : Int} (f0 : gI h 12 0 32 ≠ 0) : f_X12_wrong x h = some (0, h) := by
  refine ok_eq.mp (fuv_X12_wrong (fun m hm => ?_))
  refine s_X12_wrong_0 (by omega) ?_
  unfold b_X12_wrong_0
  exact ok_f f0 (ok_some ⟨rfl, rfl⟩)
theorem p_hand_f {lo hi : Int} (f0 : gI h 12 0 32 ≠ 0) : f_X12_numeralAtHand lo hi h = some (lo, h) := by
  refine ok_eq.mp (fuv_X12_numeralAtHand (fun m hm => ?_))
  refine s_X12_numeralAtHand_0 (by omega) ?_
  unfold b_X12_numeralAtHand_0
  exact ok_f f0 (ok_some ⟨rfl, rfl⟩)
theorem p_numeral_f {lo hi : Int} (f0 : gI h 12 0 32 ≠ 0) : f_X12_numeral lo hi h = some (lo, h) := by
  refine ok_eq.mp (fuv_X12_numeral (fun m hm => ?_))
  refine s_X12_numeral_0 (by omega) ?_
  unfold b_X12_numeral_0
  exact ok_be (p_hand_f f0) (ok_be (p_goOn_f f0) (ok_some ⟨rfl, rfl⟩))
theorem rK_r {k : Int} (k1 : 0 ≤ k) (k2 : k ≤ 5) : (rK k = 2 ↔ k = 3) ∧ (rK k = 0 ↔ k = 2) ∧ (rK k = 1 ↔ k = 1) ∧ (rK k = 3 ↔ k = 4) ∧ (rK k = 4 ↔ k = 0) := by
  unfold rK
  repeat' split
  all_goals omega
/-- at hand: nothing is passed over -/
theorem p_X12_hand {lo hi : Int} (q : rdR h b n t) (f0 : gI h 12 0 32 = 0) (h9 : hi ≤ 99999) : ok (f_X12_numeralAtHand lo hi h) (fun r h' => match numF b n lo hi t with
    | .error e => r = lo ∧ flR h h' e ∧ e.1 ≠ 0
    | .ok v => r = v ∧ h' = h) := by
  obtain ⟨q1, q2, qv, q3, q4, q5, q6, q7⟩ := q
  have q := (⟨q1, q2, qv, q3, q4, q5, q6, q7⟩ : rdR h b n t)
  have kk := tk_k (b := b) (n := n) t
  have rk := rK_r kk.1 kk.2
  have q4' : gI h 12 0 30 = rK (tkK b n t) := q4
  have two : ∀ (m : Nat) (h2 : Hp) (k : Int), 0 < m → k ≠ 0 → flR h h2 (k, (tkP b n t : Int)) → ok (g_X12_numeralAtHand m 2 [lo] h2) (fun r h' => r = lo ∧ flR h h' (k, (tkP b n t : Int)) ∧ k ≠ 0) := by
    intro m h2 k hm hk f
    refine s_X12_numeralAtHand_2 hm ?_
    unfold b_X12_numeralAtHand_2
    exact ok_f (by rw [f.2.1]; exact hk) (ok_some ⟨rfl, f, hk⟩)
  refine fuv_X12_numeralAtHand (fun m hm => ?_)
  refine s_X12_numeralAtHand_0 (by omega) ?_
  unfold b_X12_numeralAtHand_0
  rw [q4']
  refine ok_t f0 ?_
  by_cases k3 : tkK b n t = 3
  · have v : (tkV b n t ≤ 99999 → gI h 12 0 31 = tkV b n t) ∧ (99999 < tkV b n t → 99999 < gI h 12 0 31) := q6 k3
    have bad : ¬ (lo ≤ tkV b n t ∧ tkV b n t ≤ hi) → ok (g_X12_numeralAtHand (m - 1) 1 [lo] h) (fun r h' => match numF b n lo hi t with
    | .error e => r = lo ∧ flR h h' e ∧ e.1 ≠ 0
    | .ok v => r = v ∧ h' = h) := by
      intro z
      have eN : numF b n lo hi t = .error (2, (tkP b n t : Int)) := by unfold numF; rw [if_pos k3, if_neg z]
      rw [eN]
      refine s_X12_numeralAtHand_1 (by omega) ?_
      unfold b_X12_numeralAtHand_1
      refine ok_bq (p_X12_wrong (x := 2) q f0) ?_
      intro _ h2 f
      exact two _ h2 2 (by omega) (by decide) f
    refine ok_t (rk.1.mpr k3) (ok_if (fun u => bad (by omega)) (fun u => ok_if (fun u2 => ?_) (fun u2 => bad (by omega))))
    have ev : gI h 12 0 31 = tkV b n t := v.1 (by omega)
    have eN : numF b n lo hi t = .ok (tkV b n t) := by unfold numF; rw [if_pos k3, if_pos ⟨by omega, by omega⟩]
    rw [eN]
    refine s_X12_numeralAtHand_2 (by omega) ?_
    unfold b_X12_numeralAtHand_2
    exact ok_t f0 (ok_some ⟨ev, rfl⟩)
  · have eN : numF b n lo hi t = .error (1, (tkP b n t : Int)) := by unfold numF; rw [if_neg k3]
    rw [eN]
    refine ok_f (fun z => k3 (rk.1.mp z)) (ok_bq (p_X12_wrong (x := 1) q f0) ?_)
    intro _ h2 f
    exact two _ h2 1 (by omega) (by decide) f
theorem p_X12_numeral {lo hi : Int} (q : rdR h b n t) (f0 : gI h 12 0 32 = 0) (h9 : hi ≤ 99999) : ok (f_X12_numeral lo hi h) (fun r h' => match numF b n lo hi t with
    | .error e => r = lo ∧ flR h h' e ∧ e.1 ≠ 0
    | .ok v => r = v ∧ Fr ToW h h' ∧ rdR h' b n (t + 1)) := by
  refine fuv_X12_numeral (fun m hm => ?_)
  refine s_X12_numeral_0 (by omega) ?_
  unfold b_X12_numeral_0
  refine ok_bq (p_X12_hand q f0 h9) ?_
  intro r h2 z
  cases eN : numF b n lo hi t with
  | error e =>
    rw [eN] at z
    obtain ⟨z1, z2, z3⟩ := z
    exact ok_be (p_goOn_f (by rw [z2.2.1]; exact z3)) (ok_some ⟨z1, z2, z3⟩)
  | ok v =>
    rw [eN] at z
    obtain ⟨z1, z2⟩ := z
    rw [z2]
    refine ok_bq (p_X12_goOn q f0) ?_
    intro _ h4 z4
    exact ok_some ⟨z1, z4⟩
theorem p_isWord_f {x : Int} (f0 : gI h 12 0 32 ≠ 0) : f_X12_isWord x h = some (0, h) := by
  refine ok_eq.mp (fuv_X12_isWord (fun m hm => ?_))
  refine s_X12_isWord_0 (by omega) ?_
  unfold b_X12_isWord_0
  exact ok_f f0 (ok_some ⟨rfl, rfl⟩)
theorem p_isSign_f {x : Int} (f0 : gI h 12 0 32 ≠ 0) : f_X12_isSign x h = some (0, h) := by
  refine ok_eq.mp (fuv_X12_isSign (fun m hm => ?_))
  refine s_X12_isSign_0 (by omega) ?_
  unfold b_X12_isSign_0
  exact ok_f f0 (ok_some ⟨rfl, rfl⟩)
theorem p_X12_isWord {x : Int} (q : rdR h b n t) (f0 : gI h 12 0 32 = 0) (x0 : 0 ≤ x) : f_X12_isWord x h = some (b2i (kyT b n t = x), h) := by
  obtain ⟨q1, q2, qv, q3, q4, q5, q6, q7⟩ := q
  have kk := tk_k (b := b) (n := n) t
  have rk := rK_r kk.1 kk.2
  have q4' : gI h 12 0 30 = rK (tkK b n t) := q4
  refine ok_eq.mp (fuv_X12_isWord (fun m hm => ?_))
  refine s_X12_isWord_0 (by omega) ?_
  unfold b_X12_isWord_0
  rw [q4']
  refine ok_t f0 ?_
  by_cases k2 : tkK b n t = 2
  · have e : gI h 12 0 31 = tkV b n t := q5 (Or.inr k2)
    have ek : kyT b n t = tkV b n t := if_pos k2
    rw [e, ek]
    exact ok_t (rk.2.1.mpr k2) (ok_if (fun u => ok_some ⟨(if_pos u : b2i (tkV b n t = x) = 1).symm, rfl⟩) (fun u => ok_some ⟨(b2i_0.mpr u).symm, rfl⟩))
  · have ek : kyT b n t = -1 := if_neg k2
    rw [ek]
    exact ok_f (fun z => k2 (rk.2.1.mp z)) (ok_some ⟨(b2i_0.mpr (by omega)).symm, rfl⟩)
theorem sgr_i : ∀ v : Nat, v < 18 → ∀ w : Nat, w < 18 → 5 ≤ v → 5 ≤ w → (sgr (v : Int) = sgr (w : Int) ↔ v = w) := by decide +kernel
theorem p_X12_isSign {x v : Int} (q : rdR h b n t) (f0 : gI h 12 0 32 = 0) (v1 : 5 ≤ v) (v2 : v < 18) (ex : x = sgr v) : f_X12_isSign x h = some (b2i (tkK b n t = 4 ∧ tkV b n t = v), h) := by
  obtain ⟨q1, q2, qv, q3, q4, q5, q6, q7⟩ := q
  have kk := tk_k (b := b) (n := n) t
  have rk := rK_r kk.1 kk.2
  have q4' : gI h 12 0 30 = rK (tkK b n t) := q4
  refine ok_eq.mp (fuv_X12_isSign (fun m hm => ?_))
  refine s_X12_isSign_0 (by omega) ?_
  unfold b_X12_isSign_0
  rw [q4']
  refine ok_t f0 ?_
  by_cases k4 : tkK b n t = 4
  · have e : gI h 12 0 31 = sgr (tkV b n t) := q7.1 k4
    have r4 := (tk_v (b := b) (n := n) t).2.2.2 k4
    have i := sgr_i (tkV b n t).toNat (by omega) v.toNat (by omega) (by omega) (by omega)
    rw [show (((tkV b n t).toNat : Nat) : Int) = tkV b n t by omega, show ((v.toNat : Nat) : Int) = v by omega] at i
    rw [e, ex]
    refine ok_t (rk.2.2.2.1.mpr k4) (ok_if (fun u => ok_some ⟨(if_pos ⟨k4, by have := i.mp u; omega⟩ : b2i (tkK b n t = 4 ∧ tkV b n t = v) = 1).symm, rfl⟩) (fun u => ok_some ⟨(b2i_0.mpr (fun z => u (by rw [z.2]))).symm, rfl⟩))
  · exact ok_f (fun z => k4 (rk.2.2.2.1.mp z)) (ok_some ⟨(b2i_0.mpr (fun z => k4 z.1)).symm, rfl⟩)
end
