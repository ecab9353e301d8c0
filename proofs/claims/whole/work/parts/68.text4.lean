/-! TEXT, 4: the reference's token -/
def rxC (h : Hp) (b : Int → Int) (n : Nat) : Prop := gI h 12 0 27 = (n : Int) ∧ n ≤ 800 ∧ ∀ k : Nat, k < n → gI h 60 0 (k : Int) = b (k : Int) ∧ 0 ≤ b (k : Int) ∧ b (k : Int) < 256
def ToW : Nat → Int → Int → Prop := fun r _ k => r = 12 ∧ 28 ≤ k ∧ k ≤ 31
def rK (k : Int) : Int := if k = 0 then 4 else if k = 1 then 1 else if k = 2 then 0 else if k = 3 then 2 else if k = 4 then 3 else 5
def sgr (v : Int) : Int := if v = 15 then 40 else if v = 16 then 41 else if v = 17 then 59 else sgk v
def tkR (h : Hp) (T : Tk) : Prop := gI h 12 0 29 = (T.2.2.1 : Int) ∧ gI h 12 0 30 = rK T.1 ∧ (T.1 = 1 ∨ T.1 = 2 → gI h 12 0 31 = T.2.1) ∧ (T.1 = 3 → (T.2.1 ≤ 99999 → gI h 12 0 31 = T.2.1) ∧ (99999 < T.2.1 → 99999 < gI h 12 0 31)) ∧ (T.1 = 4 → gI h 12 0 31 = sgr T.2.1) ∧ (T.1 ≠ 0 → -1 ≤ gI h 12 0 31 ∧ gI h 12 0 31 < 1073741824)
theorem sgV_n {c d : Int} (z : ¬ c = 40 ∧ ¬ c = 41 ∧ ¬ c = 42 ∧ ¬ c = 43 ∧ ¬ c = 45 ∧ ¬ c = 47 ∧ ¬ c = 59 ∧ ¬ c = 60 ∧ ¬ c = 61 ∧ ¬ c = 62) : sgV c d = -1 := by
  obtain ⟨a, b, c2, d2, e, f, g, i, j, k⟩ := z
  unfold sgV
  rw [if_neg a, if_neg b, if_neg c2, if_neg d2, if_neg e, if_neg f, if_neg g, if_neg i, if_neg j, if_neg k]
theorem tb_255 : ∀ x : Nat, x < 138 → 0 ≤ xTb.getD x 0 ∧ xTb.getD x 0 < 128 ∧ band (xTb.getD x 0) 255 = xTb.getD x 0 := by decide +kernel
section
variable {h : Hp} {b : Int → Int} {n j : Nat}
theorem rxC_fr {h2 : Hp} {W : Nat → Int → Int → Prop} (f : Fr W h h2) (d : ∀ (r : Nat) (k : Int), (r = 12 ∧ k = 27) ∨ r = 60 → ¬ W r 0 k) (q : rxC h b n) : rxC h2 b n := ⟨(f.1 12 0 27 (d 12 27 (by omega))).trans q.1, q.2.1, fun k hk => ⟨(f.1 60 0 k (d 60 k (by omega))).trans (q.2.2 k hk).1, (q.2.2 k hk).2⟩⟩
theorem p_J0_length : f_J0_length_8abf5 h = some (138, h) := by
  have c : f_J0_coder_7d493 h = some (0, h) := by
    refine ok_eq.mp (fuv_J0_coder_7d493 (fun m hm => ?_))
    refine s_J0_coder_7d493_0 (by omega) ?_
    unfold b_J0_coder_7d493_0
    exact ok_ck (by decide) (ok_some ⟨rfl, rfl⟩)
  refine ok_eq.mp (fuv_J0_length_8abf5 (fun m hm => ?_))
  refine s_J0_length_8abf5_0 (by omega) ?_
  unfold b_J0_length_8abf5_0
  exact ok_be c (ok_some ⟨by decide +kernel, rfl⟩)
theorem p_charAt {x : Nat} (hx : x < 138) : f_J0_charAt_5068e (x : Int) h = some (xTb.getD x 0, h) := by
  have t := tb_255 x hx
  have l : f_J0_isLatin1_aae02 h = some (1, h) := by
    refine ok_eq.mp (fuv_J0_isLatin1_aae02 (fun m hm => ?_))
    refine s_J0_isLatin1_aae02_0 (by omega) ?_
    unfold b_J0_isLatin1_aae02_0
    exact ok_some ⟨rfl, rfl⟩
  have k : f_J0_checkIndex_df160 (x : Int) 138 h = some (0, h) := by
    unfold f_J0_checkIndex_df160
    exact ck_p (by omega)
  have c : f_J1_charAt_3b067 (x : Int) h = some (xTb.getD x 0, h) := by
    refine ok_eq.mp (fuv_J1_charAt_3b067 (fun m hm => ?_))
    refine s_J1_charAt_3b067_0 (by omega) ?_
    unfold b_J1_charAt_3b067_0
    refine ok_be k ?_
    rw [show ((x : Int)).toNat = x by omega, t.2.2]
    exact ok_ck (by omega) (ok_ck (by omega) (ok_ck (by omega) (ok_some ⟨rfl, rfl⟩)))
  refine ok_eq.mp (fuv_J0_charAt_5068e (fun m hm => ?_))
  refine s_J0_charAt_5068e_0 (by omega) ?_
  unfold b_J0_charAt_5068e_0
  exact ok_be l (ok_f (by decide) (ok_be c (ok_ck (by omega) (ok_some ⟨rfl, rfl⟩))))
theorem p_X12_here {i : Nat} (q : rxC h b n) (e : gI h 12 0 28 = (i : Int)) : f_X12_here h = some (byt b n i, h) := by
  have n8 := q.2.1
  refine ok_eq.mp (fuv_X12_here (fun m hm => ?_))
  refine s_X12_here_0 (by omega) ?_
  unfold b_X12_here_0
  rw [q.1, e]
  refine ok_if (fun u => ok_some ⟨(byt_out (by omega)).symm, rfl⟩) (fun u => ok_ck (by omega) (ok_some ⟨?_, rfl⟩))
  rw [byt_in (by omega)]
  exact (q.2.2 i (by omega)).1
theorem p_X12_isSmall {x : Int} : f_X12_isSmall x h = some (b2i (97 ≤ x ∧ x ≤ 122), h) := by
  refine ok_eq.mp (fuv_X12_isSmall (fun m hm => ?_))
  refine s_X12_isSmall_0 (by omega) ?_
  unfold b_X12_isSmall_0
  exact ok_if (fun u => ok_some ⟨(b2i_0.mpr (by omega)).symm, rfl⟩) (fun u => ok_if (fun u2 => ok_some ⟨(b2i_0.mpr (by omega)).symm, rfl⟩) (fun u2 => ok_some ⟨(if_pos (by omega) : b2i (97 ≤ x ∧ x ≤ 122) = 1).symm, rfl⟩))
theorem p_X12_isDigit {x : Int} : f_X12_isDigit x h = some (b2i (48 ≤ x ∧ x ≤ 57), h) := by
  refine ok_eq.mp (fuv_X12_isDigit (fun m hm => ?_))
  refine s_X12_isDigit_0 (by omega) ?_
  unfold b_X12_isDigit_0
  exact ok_if (fun u => ok_some ⟨(b2i_0.mpr (by omega)).symm, rfl⟩) (fun u => ok_if (fun u2 => ok_some ⟨(b2i_0.mpr (by omega)).symm, rfl⟩) (fun u2 => ok_some ⟨(if_pos (by omega) : b2i (48 ≤ x ∧ x ≤ 57) = 1).symm, rfl⟩))
/-- word k of the table stands at place j, l bytes long -/
def wdM (b : Int → Int) (j l k : Nat) : Prop := l = lenK.getD k 0 ∧ ∀ i : Nat, i < l → b ((j + i : Nat) : Int) = xTb.getD (offK.getD k 0 + i) 0
theorem off_0 : offK.getD 0 0 = 0 := rfl
theorem off_k : ∀ k : Nat, k < 27 → offK.getD k 138 = offK.getD k 0 := by decide +kernel
theorem off_27 : offK.getD 27 138 = 138 := rfl
set_option maxHeartbeats 4000000 in
theorem p_X12_word {l : Nat} (q : rxC h b n) (e8 : gI h 12 0 28 = ((j + l : Nat) : Int)) (e9 : gI h 12 0 29 = (j : Int)) (jl : j + l ≤ n) : ok (f_X12_word h) (fun r h' => h' = h ∧ ((r = -1 ∧ ∀ k : Nat, k < 27 → ¬ wdM b j l k) ∨ ∃ k : Nat, k < 27 ∧ r = (k : Int) ∧ wdM b j l k ∧ ∀ k2 : Nat, k2 < k → ¬ wdM b j l k2)) := by
  have n8 := q.2.1
  have key : ∀ (d m k : Nat), 27 - k = d → k ≤ 27 → 30 * d + 2 ≤ m → (∀ k2 : Nat, k2 < k → ¬ wdM b j l k2) → ok (g_X12_word m 1 [(k : Int), (offK.getD k 138 : Int)] h) (fun r h' => h' = h ∧ ((r = -1 ∧ ∀ k : Nat, k < 27 → ¬ wdM b j l k) ∨ ∃ k : Nat, k < 27 ∧ r = (k : Int) ∧ wdM b j l k ∧ ∀ k2 : Nat, k2 < k → ¬ wdM b j l k2)) := by
    intro d
    induction d with
    | zero =>
      intro m k hd k2 hm no
      have e : k = 27 := by omega
      subst e
      refine s_X12_word_1 (by omega) ?_
      unfold b_X12_word_1
      exact ok_be p_J0_length (ok_t (by rw [off_27]; decide) (ok_some ⟨rfl, Or.inl ⟨rfl, no⟩⟩))
    | succ d ih =>
      intro m k hd k2 hm no
      have k27 : k < 27 := by omega
      obtain ⟨t1, t2, t3, t4, t5, t6⟩ := key_t k k27
      rw [off_k k k27]
      generalize hO : offK.getD k 0 = o at t3 t4 t5 t6
      generalize hN : lenK.getD k 0 = N at t1 t2 t3 t4 t5 t6
      have four : ∀ (d4 m4 i : Nat), N - i = d4 → i ≤ N → d4 + 30 * d + 3 ≤ m4 → ¬ wdM b j l k → ok (g_X12_word m4 4 [(k : Int), ((o + i : Nat) : Int)] h) (fun r h' => h' = h ∧ ((r = -1 ∧ ∀ k : Nat, k < 27 → ¬ wdM b j l k) ∨ ∃ k : Nat, k < 27 ∧ r = (k : Int) ∧ wdM b j l k ∧ ∀ k2 : Nat, k2 < k → ¬ wdM b j l k2)) := by
        intro d4
        induction d4 with
        | zero =>
          intro m4 i hd4 i2 hm4 nk
          have ei : i = N := by omega
          rw [ei]
          refine s_X12_word_4 (by omega) ?_
          unfold b_X12_word_4
          refine ok_be (p_charAt (by omega)) (ok_t t4 (ok_ck (by omega) (ok_ck (by omega) ?_)))
          rw [show (k : Int) + 1 = ((k + 1 : Nat) : Int) by omega, show ((o + N : Nat) : Int) + 1 = ((offK.getD (k + 1) 138 : Nat) : Int) by rw [t6]; omega]
          refine ih _ (k + 1) (by omega) (by omega) (by omega) (fun k3 hk3 => ?_)
          by_cases y : k3 = k
          · rw [y]; exact nk
          · exact no k3 (by omega)
        | succ d4 ih4 =>
          intro m4 i hd4 i2 hm4 nk
          have v := t5 i (by omega)
          refine s_X12_word_4 (by omega) ?_
          unfold b_X12_word_4
          refine ok_be (p_charAt (by omega)) (ok_f (by omega) (ok_ck (by omega) ?_))
          rw [show ((o + i : Nat) : Int) + 1 = ((o + (i + 1) : Nat) : Int) by omega]
          exact ih4 _ (i + 1) (by omega) (by omega) (by omega) nk
      clear ih
      have three : ∀ (m3 i : Nat), 30 * d + 20 ≤ m3 → i ≤ N → i ≤ l → (∀ i2 : Nat, i2 < i → b ((j + i2 : Nat) : Int) = xTb.getD (o + i2) 0) → (i = N ∨ i = l ∨ b ((j + i : Nat) : Int) ≠ xTb.getD (o + i) 0) → ok (g_X12_word m3 3 [(k : Int), (o : Int), (i : Int)] h) (fun r h' => h' = h ∧ ((r = -1 ∧ ∀ k : Nat, k < 27 → ¬ wdM b j l k) ∨ ∃ k : Nat, k < 27 ∧ r = (k : Int) ∧ wdM b j l k ∧ ∀ k2 : Nat, k2 < k → ¬ wdM b j l k2)) := by
        intro m3 i hm3 i1 i2 al en
        have goF : ¬ wdM b j l k → ok (g_X12_word (m3 - 1) 4 [(k : Int), (o : Int)] h) (fun r h' => h' = h ∧ ((r = -1 ∧ ∀ k : Nat, k < 27 → ¬ wdM b j l k) ∨ ∃ k : Nat, k < 27 ∧ r = (k : Int) ∧ wdM b j l k ∧ ∀ k2 : Nat, k2 < k → ¬ wdM b j l k2)) := fun nk => four N _ 0 rfl (Nat.zero_le _) (by omega) nk
        refine s_X12_word_3 (by omega) ?_
        unfold b_X12_word_3
        rw [show (o : Int) + (i : Int) = ((o + i : Nat) : Int) by omega]
        refine ok_ck (by omega) (ok_be (p_charAt (by omega)) (ok_if (fun u => ?_) (fun u => goF ?_)))
        · have iN : i = N := by
            by_cases y : i = N
            · exact y
            · have := t5 i (by omega); omega
          rw [e8, e9]
          refine ok_ck (by omega) ?_
          refine ok_if (fun u2 => ok_some ⟨rfl, Or.inr ⟨k, k27, rfl, ⟨by rw [hN]; omega, fun i3 hi3 => ?_⟩, no⟩⟩) (fun u2 => goF (fun z => ?_))
          · rw [hO]; exact al i3 (by omega)
          · have := z.1
            rw [hN] at this
            omega
        · intro z
          have z1 := z.1
          rw [hN] at z1
          rcases en with y | y | y
          · rw [y] at u; exact u t4
          · rw [y, z1] at u; exact u t4
          · by_cases y2 : i < l
            · have := z.2 i y2
              rw [hO] at this
              exact y this
            · have : i = N := by omega
              rw [this] at u; exact u t4
      clear four
      have two : ∀ (d2 m2 i : Nat), N - i = d2 → i ≤ N → i ≤ l → d2 + 30 * d + 21 ≤ m2 → (∀ i2 : Nat, i2 < i → b ((j + i2 : Nat) : Int) = xTb.getD (o + i2) 0) → ok (g_X12_word m2 2 [(k : Int), (o : Int), (i : Int)] h) (fun r h' => h' = h ∧ ((r = -1 ∧ ∀ k : Nat, k < 27 → ¬ wdM b j l k) ∨ ∃ k : Nat, k < 27 ∧ r = (k : Int) ∧ wdM b j l k ∧ ∀ k2 : Nat, k2 < k → ¬ wdM b j l k2)) := by
        intro d2
        induction d2 with
        | zero =>
          intro m2 i hd2 i1 i2 hm2 al
          refine s_X12_word_2 (by omega) ?_
          unfold b_X12_word_2
          rw [show (o : Int) + (i : Int) = ((o + i : Nat) : Int) by omega]
          exact ok_ck (by omega) (ok_be (p_charAt (by omega)) (ok_t (by rw [show i = N by omega]; exact t4) (three _ i (by omega) i1 i2 al (Or.inl (by omega)))))
        | succ d2 ih2 =>
          intro m2 i hd2 i1 i2 hm2 al
          have v := t5 i (by omega)
          refine s_X12_word_2 (by omega) ?_
          unfold b_X12_word_2
          rw [show (o : Int) + (i : Int) = ((o + i : Nat) : Int) by omega]
          refine ok_ck (by omega) (ok_be (p_charAt (by omega)) (ok_f (by omega) ?_))
          rw [e8, e9, show (j : Int) + (i : Int) = ((j + i : Nat) : Int) by omega]
          refine ok_ck (by omega) (ok_if (fun u => three _ i (by omega) i1 i2 al (Or.inr (Or.inl (by omega)))) (fun u => ?_))
          rw [(q.2.2 (j + i) (by omega)).1]
          refine ok_ck (by omega) (ok_ck (by omega) (ok_ck (by omega) (ok_be (p_charAt (by omega)) (ok_if (fun u2 => ok_ck (by omega) ?_) (fun u2 => three _ i (by omega) i1 i2 al (Or.inr (Or.inr u2)))))))
          rw [show (i : Int) + 1 = ((i + 1 : Nat) : Int) by omega]
          refine ih2 _ (i + 1) (by omega) (by omega) (by omega) (by omega) (fun i3 hi3 => ?_)
          by_cases y : i3 = i
          · rw [y]; exact u2
          · exact al i3 (by omega)
      refine s_X12_word_1 (by omega) ?_
      unfold b_X12_word_1
      exact ok_be p_J0_length (ok_f (by omega) (two N _ 0 rfl (Nat.zero_le _) (Nat.zero_le _) (by omega) (fun i2 hi2 => by omega)))
  refine fuv_X12_word (fun m hm => ?_)
  refine s_X12_word_0 (by omega) ?_
  unfold b_X12_word_0
  exact key 27 _ 0 rfl (by decide) (by omega) (fun k2 hk2 => by omega)
theorem kyS_n {p : Nat → Bool} : ∀ (f k : Nat), (∀ i : Nat, k ≤ i → i < k + f → ¬ p i = true) → kyS p f k = -1
  | 0, _, _ => rfl
  | f + 1, k, q => by
    show (if p k = true then (k : Int) else kyS p f (k + 1)) = -1
    rw [if_neg (q k (by omega) (by omega))]
    exact kyS_n f (k + 1) (fun i i1 i2 => q i (by omega) (by omega))
theorem kyS_s {p : Nat → Bool} {c : Nat} (pc : p c = true) : ∀ (f k : Nat), k ≤ c → c < k + f → (∀ i : Nat, k ≤ i → i < c → ¬ p i = true) → kyS p f k = (c : Int)
  | 0, _, a, b, _ => by omega
  | f + 1, k, a, b, q => by
    show (if p k = true then (k : Int) else kyS p f (k + 1)) = (c : Int)
    by_cases y : k = c
    · rw [y, if_pos pc]
    · rw [if_neg (q k (by omega) (by omega))]
      exact kyS_s pc f (k + 1) (by omega) (by omega) (fun i i1 i2 => q i (by omega) i2)
set_option maxHeartbeats 4000000 in
theorem p_X12_name {l : Nat} (q : rxC h b n) (e8 : gI h 12 0 28 = ((j + l : Nat) : Int)) (e9 : gI h 12 0 29 = (j : Int)) (jl : j + l ≤ n) (al : ∀ i : Nat, i < l → 97 ≤ b ((j + i : Nat) : Int) ∧ b ((j + i : Nat) : Int) ≤ 122) : ok (f_X12_name h) (fun _ h' => Fr (fun r _ k => r = 12 ∧ k = 31) h h' ∧ gI h' 12 0 31 = pkN b j l 6) := by
  have n8 := q.2.1
  have key : ∀ (d m : Nat) (h1 : Hp) (k : Nat), 6 - k = d → k ≤ 6 → 2 * d + 1 ≤ m → Fr (fun r _ k => r = 12 ∧ k = 31) h h1 → gI h1 12 0 31 = pkN b j l k → ok (g_X12_name m 1 [(k : Int)] h1) (fun _ h' => Fr (fun r _ k => r = 12 ∧ k = 31) h h' ∧ gI h' 12 0 31 = pkN b j l 6) := by
    intro d
    induction d with
    | zero =>
      intro m h1 k hd k2 hm f a
      have e : k = 6 := by omega
      rw [e] at a
      refine s_X12_name_1 (by omega) ?_
      unfold b_X12_name_1
      exact ok_t (by omega) (ok_some ⟨f, a⟩)
    | succ d ih =>
      intro m h1 k hd k2 hm f a
      have p := pkN_r al k
      have p5 : pkN b j l k < 33554432 := by
        have : (32 : Int) ^ k ≤ 33554432 := (by decide : ∀ m : Nat, m < 6 → (32 : Int) ^ m ≤ 33554432) _ (by omega)
        omega
      have g8 : gI h1 12 0 28 = ((j + l : Nat) : Int) := (f.1 12 0 28 (by omega)).trans e8
      have g9 : gI h1 12 0 29 = (j : Int) := (f.1 12 0 29 (by omega)).trans e9
      have dr := dgt_r al k
      have two : ∀ m2 : Nat, 2 * d + 2 ≤ m2 → ok (g_X12_name m2 2 [(k : Int), dgt b j l k, bshl (pkN b j l k) 5] h1) (fun _ h' => Fr (fun r _ k => r = 12 ∧ k = 31) h h' ∧ gI h' 12 0 31 = pkN b j l 6) := by
        intro m2 hm2
        refine s_X12_name_2 (by omega) ?_
        unfold b_X12_name_2
        rw [bor_i p.1 (by omega) dr.1 dr.2.1]
        refine ok_lt (ok_ck (by omega) ?_)
        rw [show (k : Int) + 1 = ((k + 1 : Nat) : Int) by omega]
        exact ih _ _ (k + 1) (by omega) (by omega) (by omega) (fr_sI f (by omega)) gI_eq
      refine s_X12_name_1 (by omega) ?_
      unfold b_X12_name_1
      rw [g8, g9, a, show (j : Int) + (k : Int) = ((j + k : Nat) : Int) by omega]
      refine ok_f (by omega) (ok_ck (by omega) (ok_if (fun u => ?_) (fun u => ?_)))
      · have z : dgt b j l k = 0 := if_neg (by omega)
        have := two (m - 1) (by omega)
        rw [z] at this
        exact this
      · have v := al k (by omega)
        have w := q.2.2 (j + k) (by omega)
        have e : gI h1 60 0 ((j + k : Nat) : Int) = b ((j + k : Nat) : Int) := (f.1 60 0 _ (by omega)).trans w.1
        have z : dgt b j l k = b ((j + k : Nat) : Int) - 97 + 1 := by
          unfold dgt
          rw [if_pos (by omega)]
          omega
        have := two (m - 1) (by omega)
        rw [z] at this
        rw [e]
        exact ok_ck (by omega) (ok_ck (by omega) (ok_ck (by omega) (ok_ck (by omega) this)))
  refine fuv_X12_name (fun m hm => ?_)
  refine s_X12_name_0 (by omega) ?_
  unfold b_X12_name_0
  exact ok_lt (key 6 _ _ 0 rfl (by omega) (by omega) (fr_sI fr_rf (by omega)) gI_eq)
end
