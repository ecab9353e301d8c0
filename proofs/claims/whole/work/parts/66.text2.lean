/-! TEXT, 2: the class's scanner, pieces -/
def sxC (h : Hp) (b : Int → Int) (n : Nat) : Prop := gI h 8 0 2 = (n : Int) ∧ n ≤ 800 ∧ (∀ k : Nat, k < n → gI h 58 0 (k : Int) = sb (b (k : Int)) ∧ 0 ≤ b (k : Int) ∧ b (k : Int) < 256) ∧ ∀ k : Nat, k < 27 → gI h 47 0 (k : Int) = keyV k
def TnW : Nat → Int → Int → Prop := fun r _ k => r = 8 ∧ (k = 3 ∨ k = 4 ∨ k = 5)
theorem sb_c {x : Int} (x1 : 0 ≤ x) (x2 : x < 256) : (sb x = x ∧ x < 128) ∨ (sb x < 0 ∧ 128 ≤ x) := by
  unfold sb
  split <;> omega
theorem byt_in {b : Int → Int} {n i : Nat} (h : i < n) : byt b n i = b (i : Int) := if_pos h
theorem byt_out {b : Int → Int} {n i : Nat} (h : n ≤ i) : byt b n i = -1 := if_neg (by omega)
section
variable {h : Hp} {b : Int → Int} {n j : Nat}
theorem sxC_fr {h2 : Hp} {W : Nat → Int → Int → Prop} (f : Fr W h h2) (d : ∀ (r : Nat) (k : Int), (r = 8 ∧ k = 2) ∨ r = 58 ∨ r = 47 → ¬ W r 0 k) (q : sxC h b n) : sxC h2 b n := ⟨(f.1 8 0 2 (d 8 2 (by omega))).trans q.1, q.2.1, fun k hk => ⟨(f.1 58 0 k (d 58 k (by omega))).trans (q.2.2.1 k hk).1, (q.2.2.1 k hk).2⟩, fun k hk => (f.1 47 0 k (d 47 k (by omega))).trans (q.2.2.2 k hk)⟩
theorem p_X8_isDigit {x : Int} : f_X8_isDigit x h = some (b2i (48 ≤ x ∧ x ≤ 57), h) := by
  refine ok_eq.mp (fuv_X8_isDigit (fun m hm => ?_))
  refine s_X8_isDigit_0 (by omega) ?_
  unfold b_X8_isDigit_0
  exact ok_if (fun u => ok_some ⟨(b2i_0.mpr (by omega)).symm, rfl⟩) (fun u => ok_if (fun u2 => ok_some ⟨(b2i_0.mpr (by omega)).symm, rfl⟩) (fun u2 => ok_some ⟨(if_pos (by omega) : b2i (48 ≤ x ∧ x ≤ 57) = 1).symm, rfl⟩))
theorem p_X8_isLetter {x : Int} : f_X8_isLetter x h = some (b2i (97 ≤ x ∧ x ≤ 122), h) := by
  refine ok_eq.mp (fuv_X8_isLetter (fun m hm => ?_))
  refine s_X8_isLetter_0 (by omega) ?_
  unfold b_X8_isLetter_0
  exact ok_if (fun u => ok_some ⟨(b2i_0.mpr (by omega)).symm, rfl⟩) (fun u => ok_if (fun u2 => ok_some ⟨(b2i_0.mpr (by omega)).symm, rfl⟩) (fun u2 => ok_some ⟨(if_pos (by omega) : b2i (97 ≤ x ∧ x ≤ 122) = 1).symm, rfl⟩))
set_option maxHeartbeats 4000000 in
theorem p_X8_scanNumber (q : sxC h b n) (e3 : gI h 8 0 3 = (j : Int)) (jn : j ≤ n) (e5 : gI h 8 0 5 = 0) : ok (f_X8_scanNumber h) (fun _ h' => Fr TnW h h' ∧ gI h' 8 0 3 = (run isDg b n j : Int) ∧ gI h' 8 0 4 = 3 ∧ gI h' 8 0 5 = nuC b j (run isDg b n j - j)) := by
  have n8 := q.2.1
  have key : ∀ (d m : Nat) (h1 : Hp) (i : Nat), n - i = d → j ≤ i → i ≤ n → d + 1 ≤ m → Fr TnW h h1 → gI h1 8 0 3 = (i : Int) → gI h1 8 0 4 = 3 → gI h1 8 0 5 = nuC b j (i - j) → (∀ k : Nat, k < i - j → 48 ≤ b ((j + k : Nat) : Int) ∧ b ((j + k : Nat) : Int) ≤ 57) → run isDg b n j = run isDg b n i → ok (g_X8_scanNumber m 1 [] h1) (fun _ h' => Fr TnW h h' ∧ gI h' 8 0 3 = (run isDg b n j : Int) ∧ gI h' 8 0 4 = 3 ∧ gI h' 8 0 5 = nuC b j (run isDg b n j - j)) := by
    intro d
    induction d with
    | zero =>
      intro m h1 i hd i1 i2 hm f a3 a4 a5 al er
      have q1 := sxC_fr f (by intro r k; unfold TnW; omega) q
      refine s_X8_scanNumber_1 (by omega) ?_
      unfold b_X8_scanNumber_1
      rw [q1.1, a3]
      have e : run isDg b n i = i := run_f (by rw [isDg_i, byt_out (by omega)]; omega)
      exact ok_t (by omega) (ok_some ⟨f, by rw [er, e]; exact a3, a4, by rw [er, e]; exact a5⟩)
    | succ d ih =>
      intro m h1 i hd i1 i2 hm f a3 a4 a5 al er
      have q1 := sxC_fr f (by intro r k; unfold TnW; omega) q
      have lt : i < n := by omega
      obtain ⟨y1, y2, y3⟩ := q1.2.2.1 i lt
      have sc := sb_c y2 y3
      refine s_X8_scanNumber_1 (by omega) ?_
      unfold b_X8_scanNumber_1
      rw [q1.1, a3, y1]
      refine ok_f (by omega) (ok_ck (by omega) (ok_be p_X8_isDigit (ok_if (fun u => ?_) (fun u => ?_))))
      · have e : run isDg b n i = i := run_f (by rw [isDg_i, byt_in lt]; have := b2i_0.mp u; omega)
        exact ok_some ⟨f, by rw [er, e]; exact a3, a4, by rw [er, e]; exact a5⟩
      · replace u := b2i_n.mp u
        have bi : sb (b (i : Int)) = b (i : Int) := by omega
        have nr := nu_r (b := b) (j := j) (i - j) al
        have ej : j + (i - j) = i := by omega
        rw [a3, a5, y1, bi]
        rw [bi] at u
        refine ok_ck (by omega) (ok_ck (by omega) (ok_ck (by omega) (ok_ck (by omega) (ok_lt ?_))))
        rw [gI_nk (show (3 : Int) ≠ 5 by decide), a3]
        refine ok_ck (by omega) (ok_lt ?_)
        rw [show (i : Int) + 1 = ((i + 1 : Nat) : Int) by omega]
        refine ih _ _ (i + 1) (by omega) (by omega) (by omega) (by omega) (fr_sI (fr_sI f (by unfold TnW; omega)) (by unfold TnW; omega)) gI_eq ?_ ?_ (fun k hk => ?_) ?_
        · rw [gI_nk (by decide), gI_nk (by decide)]; exact a4
        · rw [gI_nk (by decide), gI_eq, show i + 1 - j = (i - j) + 1 by omega]
          show _ = min 1000000 (nuC b j (i - j) * 10 + b ((j + (i - j) : Nat) : Int) - 48)
          rw [ej]
        · by_cases y : k = i - j
          · rw [y, ej]; exact u
          · exact al k (by omega)
        · rw [er]; exact run_t lt (by rw [isDg_i, byt_in lt]; exact u)
  refine fuv_X8_scanNumber (fun m hm => ?_)
  refine s_X8_scanNumber_0 (by omega) ?_
  unfold b_X8_scanNumber_0
  refine ok_lt (key (n - j) _ _ j rfl (Nat.le_refl _) jn (by omega) (fr_sI fr_rf (by unfold TnW; omega)) ?_ gI_eq ?_ (fun k hk => by omega) rfl)
  · rw [gI_nk (by decide)]; exact e3
  · rw [gI_nk (by decide), Nat.sub_self]; exact e5
theorem pkN_pad (b : Int → Int) (j l : Nat) : ∀ d : Nat, pkN b j l (l + d) = pkN b j l l * 2 ^ (5 * d)
  | 0 => by
    show pkN b j l l = pkN b j l l * 2 ^ (5 * 0)
    rw [Nat.mul_zero, Int.pow_zero, Int.mul_one]
  | d + 1 => by
    have ih := pkN_pad b j l d
    show 32 * pkN b j l (l + d) + dgt b j l (l + d) = _
    have z : dgt b j l (l + d) = 0 := if_neg (by omega)
    rw [z, ih, show 5 * (d + 1) = 5 * d + 5 by omega, Int.pow_add, show (2 : Int) ^ 5 = 32 by decide, Int.add_zero, Int.mul_comm 32, Int.mul_assoc]
set_option maxHeartbeats 4000000 in
theorem p_X8_scanWord (q : sxC h b n) (e3 : gI h 8 0 3 = (j : Int)) (jn : j ≤ n) (e5 : gI h 8 0 5 = 0) (j0 : j < run isLe b n j) : ok (f_X8_scanWord h) (fun _ h' => Fr TnW h h' ∧ gI h' 8 0 3 = (run isLe b n j : Int) ∧ gI h' 8 0 4 = (tokW b n j).1 ∧ ((tokW b n j).1 ≠ 5 → gI h' 8 0 5 = (tokW b n j).2.1)) := by
  have n8 := q.2.1
  obtain ⟨l, hl⟩ : ∃ l, run isLe b n j - j = l := ⟨_, rfl⟩
  have rn := run_n (P := isLe) (b := b) jn
  have al : ∀ i : Nat, i < l → 97 ≤ b ((j + i : Nat) : Int) ∧ b ((j + i : Nat) : Int) ≤ 122 := by
    intro i hi
    have := run_all (P := isLe) (b := b) (n := n) (i := j) (k := j + i) (by omega) (by omega)
    rw [isLe_i, byt_in (by omega)] at this
    exact this
  -- the search of keys
  have four : ∀ (d m k : Nat) (h1 : Hp), l ≤ 6 → 27 - k = d → k ≤ 27 → 2 * d + 2 ≤ m → Fr TnW h h1 → gI h1 8 0 3 = (run isLe b n j : Int) → gI h1 8 0 4 = 1 → gI h1 8 0 5 = pkN b j l 6 → keyF b j l = kyS (isKy b j l) (27 - k) k → ok (g_X8_scanWord m 4 [(k : Int)] h1) (fun _ h' => Fr TnW h h' ∧ gI h' 8 0 3 = (run isLe b n j : Int) ∧ gI h' 8 0 4 = (tokW b n j).1 ∧ ((tokW b n j).1 ≠ 5 → gI h' 8 0 5 = (tokW b n j).2.1)) := by
    intro d
    induction d with
    | zero =>
      intro m k h1 l6 hd k2 hm f a3 a4 a5 ek
      refine s_X8_scanWord_4 (by omega) ?_
      unfold b_X8_scanWord_4
      have ek2 : keyF b j l = -1 := by rw [ek, hd]; rfl
      have et : tokW b n j = (1, pkN b j l 6, j, run isLe b n j) := by
        unfold tokW
        rw [hl, if_neg (by omega), if_pos ek2]
      refine ok_t (by omega) (ok_some ⟨f, a3, ?_, fun _ => ?_⟩)
      · rw [et]; exact a4
      · rw [et]; exact a5
    | succ d ih =>
      intro m k h1 l6 hd k2 hm f a3 a4 a5 ek
      have q1 := sxC_fr f (by intro r k; unfold TnW; omega) q
      have ek2 : keyF b j l = if isKy b j l k = true then (k : Int) else kyS (isKy b j l) (27 - (k + 1)) (k + 1) := by
        rw [ek, show 27 - k = (27 - (k + 1)) + 1 by omega]; rfl
      refine s_X8_scanWord_4 (by omega) ?_
      unfold b_X8_scanWord_4
      rw [a4, a5, q1.2.2.2 k (by omega)]
      refine ok_f (by omega) (ok_t rfl (ok_ck (by omega) (ok_if (fun u => ?_) (fun u => ?_))))
      · have ek3 : keyF b j l = (k : Int) := by rw [ek2]; exact if_pos (decide_eq_true u.symm)
        have et : tokW b n j = (2, (k : Int), j, run isLe b n j) := by
          unfold tokW
          rw [hl, if_neg (by omega), ek3, if_neg (by omega)]
        refine ok_lt (ok_lt ?_)
        refine s_X8_scanWord_5 (by omega) ?_
        unfold b_X8_scanWord_5
        refine ok_ck (by omega) ?_
        refine s_X8_scanWord_4 (by omega) ?_
        unfold b_X8_scanWord_4
        have g4 : gI (sI (sI h1 8 0 4 2) 8 0 5 (k : Int)) 8 0 4 = 2 := by rw [gI_nk (by decide), gI_eq]
        have F : Fr TnW h (sI (sI h1 8 0 4 2) 8 0 5 (k : Int)) := fr_sI (fr_sI f (by unfold TnW; omega)) (by unfold TnW; omega)
        have R : ok (some ((0 : Int), sI (sI h1 8 0 4 2) 8 0 5 (k : Int))) (fun _ h' => Fr TnW h h' ∧ gI h' 8 0 3 = (run isLe b n j : Int) ∧ gI h' 8 0 4 = (tokW b n j).1 ∧ ((tokW b n j).1 ≠ 5 → gI h' 8 0 5 = (tokW b n j).2.1)) := by
          refine ok_some ⟨F, ?_, ?_, fun _ => ?_⟩
          · rw [gI_nk (by decide), gI_nk (by decide)]; exact a3
          · rw [et]; exact g4
          · rw [et]; exact gI_eq
        refine ok_if (fun _ => R) (fun _ => ok_f (by rw [g4]; decide) R)
      · have ek3 : keyF b j l = kyS (isKy b j l) (27 - (k + 1)) (k + 1) := by
          rw [ek2]; exact if_neg (fun t => u (of_decide_eq_true t).symm)
        refine s_X8_scanWord_5 (by omega) ?_
        unfold b_X8_scanWord_5
        refine ok_ck (by omega) ?_
        rw [show (k : Int) + 1 = ((k + 1 : Nat) : Int) by omega]
        exact ih _ (k + 1) h1 l6 (by omega) (by omega) (by omega) f a3 a4 a5 ek3
  have three : ∀ (m : Nat) (h1 : Hp), 100 ≤ m → Fr TnW h h1 → gI h1 8 0 3 = (run isLe b n j : Int) → gI h1 8 0 5 = pkN b j l (min l 6) → ok (g_X8_scanWord m 3 [(l : Int)] h1) (fun _ h' => Fr TnW h h' ∧ gI h' 8 0 3 = (run isLe b n j : Int) ∧ gI h' 8 0 4 = (tokW b n j).1 ∧ ((tokW b n j).1 ≠ 5 → gI h' 8 0 5 = (tokW b n j).2.1)) := by
    intro m h1 hm f a3 a5
    refine s_X8_scanWord_3 (by omega) ?_
    unfold b_X8_scanWord_3
    refine ok_if (fun u => ok_ck (by omega) (ok_ck (by omega) (ok_lt (ok_lt ?_)))) (fun u => ok_lt (ok_some ⟨fr_sI f (by unfold TnW; omega), ?_, ?_, fun z => ?_⟩))
    · refine four 27 _ 0 _ (by omega) (by omega) (by omega) (by omega) (fr_sI (fr_sI f (by unfold TnW; omega)) (by unfold TnW; omega)) ?_ gI_eq ?_ rfl
      · rw [gI_nk (by decide), gI_nk (by decide)]; exact a3
      · rw [gI_nk (by decide), gI_eq, a5, Nat.min_eq_left (by omega)]
        have p := pkN_r al l
        have r6 := pkN_r al 6
        have pd := pkN_pad b j l (6 - l)
        rw [show l + (6 - l) = 6 by omega] at pd
        have e1 : pkN b j l l = ((pkN b j l l).toNat : Int) := by omega
        have e2 : 5 * (6 - (l : Int)) = ((5 * (6 - l) : Nat) : Int) := by omega
        have e3 : (((pkN b j l l).toNat * 2 ^ (5 * (6 - l)) : Nat) : Int) = pkN b j l 6 := by
          rw [pd, Int.natCast_mul, Int.natCast_pow, ← e1]; rfl
        have c6 : pkN b j l 6 < 1073741824 := by
          have : (32 : Int) ^ 6 = 1073741824 := by decide
          omega
        rw [e1, e2, bsh_n (by omega) (by omega)]
        exact e3
    · rw [gI_nk (by decide)]; exact a3
    · have et : tokW b n j = (5, 0, j, run isLe b n j) := by
        unfold tokW
        rw [hl, if_pos (by omega)]
      rw [et]; exact gI_eq
    · have et : tokW b n j = (5, 0, j, run isLe b n j) := by
        unfold tokW
        rw [hl, if_pos (by omega)]
      rw [et] at z; exact absurd rfl z
  have one : ∀ (d m : Nat) (h1 : Hp) (i : Nat), l - i = d → i ≤ l → 2 * d + 200 ≤ m → Fr TnW h h1 → gI h1 8 0 3 = ((j + i : Nat) : Int) → gI h1 8 0 5 = pkN b j l (min i 6) → ok (g_X8_scanWord m 1 [(i : Int)] h1) (fun _ h' => Fr TnW h h' ∧ gI h' 8 0 3 = (run isLe b n j : Int) ∧ gI h' 8 0 4 = (tokW b n j).1 ∧ ((tokW b n j).1 ≠ 5 → gI h' 8 0 5 = (tokW b n j).2.1)) := by
    intro d
    induction d with
    | zero =>
      intro m h1 i hd i1 hm f a3 a5
      have q1 := sxC_fr f (by intro r k; unfold TnW; omega) q
      have ei : i = l := by omega
      have er : j + i = run isLe b n j := by omega
      rw [er] at a3
      rw [ei] at a5
      refine s_X8_scanWord_1 (by omega) ?_
      unfold b_X8_scanWord_1
      rw [q1.1, a3, ei]
      refine ok_if (fun u => three _ h1 (by omega) f a3 a5) (fun u => ?_)
      obtain ⟨y1, y2, y3⟩ := q1.2.2.1 (run isLe b n j) (by omega)
      rw [y1]
      refine ok_ck (by omega) (ok_be p_X8_isLetter (ok_t ?_ (three _ h1 (by omega) f a3 a5)))
      refine b2i_0.mpr (fun z => ?_)
      have sc := sb_c y2 y3
      have nl : ¬ isLe (byt b n (run isLe b n j)) = true := run_end (by decide)
      exact nl (by rw [isLe_i, byt_in (by omega)]; omega)
    | succ d ih =>
      intro m h1 i hd i1 hm f a3 a5
      have q1 := sxC_fr f (by intro r k; unfold TnW; omega) q
      obtain ⟨y1, y2, y3⟩ := q1.2.2.1 (j + i) (by omega)
      have ai := al i (by omega)
      have bi : sb (b ((j + i : Nat) : Int)) = b ((j + i : Nat) : Int) := by
        have sc := sb_c y2 y3
        omega
      have two : ∀ (m2 : Nat) (y : Int), 2 * d + 201 ≤ m2 → y = pkN b j l (min (i + 1) 6) → ok (g_X8_scanWord m2 2 [(i : Int), y] h1) (fun _ h' => Fr TnW h h' ∧ gI h' 8 0 3 = (run isLe b n j : Int) ∧ gI h' 8 0 4 = (tokW b n j).1 ∧ ((tokW b n j).1 ≠ 5 → gI h' 8 0 5 = (tokW b n j).2.1)) := by
        intro m2 y hm2 ey
        refine s_X8_scanWord_2 (by omega) ?_
        unfold b_X8_scanWord_2
        refine ok_lt ?_
        rw [gI_nk (show (3 : Int) ≠ 5 by decide), a3]
        refine ok_ck (by omega) (ok_ck (by omega) (ok_lt ?_))
        rw [show (i : Int) + 1 = ((i + 1 : Nat) : Int) by omega]
        refine ih _ _ (i + 1) (by omega) (by omega) (by omega) (fr_sI (fr_sI f (by unfold TnW; omega)) (by unfold TnW; omega)) ?_ ?_
        · rw [gI_eq]; omega
        · rw [gI_nk (by decide), gI_eq]; exact ey
      refine s_X8_scanWord_1 (by omega) ?_
      unfold b_X8_scanWord_1
      rw [q1.1, a3, y1, bi]
      refine ok_f (by omega) (ok_ck (by omega) (ok_be p_X8_isLetter (ok_f (fun u => b2i_0.mp u ai) (ok_if (fun u => ?_) (fun u => ?_)))))
      · rw [a5]
        exact two _ _ (by omega) (by rw [Nat.min_eq_right (by omega), Nat.min_eq_right (by omega)])
      · rw [a3, y1, bi, a5]
        have p := pkN_r al (min i 6)
        have i5 : min i 6 ≤ 5 := by omega
        have p5 : pkN b j l (min i 6) < 33554432 := by
          have : (32 : Int) ^ (min i 6) ≤ 33554432 := (by decide : ∀ m : Nat, m < 6 → (32 : Int) ^ m ≤ 33554432) _ (by omega)
          omega
        refine ok_ck (by omega) (ok_ck (by omega) (ok_ck (by omega) (two _ _ (by omega) ?_)))
        rw [bor_i p.1 (by omega) (by omega) (by omega), Nat.min_eq_left (by omega), Nat.min_eq_left (by omega)]
        show _ = 32 * pkN b j l i + dgt b j l i
        unfold dgt
        rw [if_pos (by omega)]
        omega
  refine fuv_X8_scanWord (fun m hm => ?_)
  refine s_X8_scanWord_0 (by omega) ?_
  unfold b_X8_scanWord_0
  exact one l _ h 0 (by omega) (by omega) (by omega) fr_rf e3 e5
end
