/-! TEXT, 5: the reference's token -/
theorem sgV_s {c d : Int} (z : c = 40 ∨ c = 41 ∨ c = 42 ∨ c = 43 ∨ c = 45 ∨ c = 47 ∨ c = 59 ∨ c = 60 ∨ c = 61 ∨ c = 62) : sgV c d ≠ -1 := by
  rcases z with z | z | z | z | z | z | z | z | z | z <;> subst z <;> unfold sgV <;> simp <;> (repeat' split) <;> decide
theorem sg_1 {c d : Int} (n1 : c ≠ 60) (n2 : c ≠ 62) (s : sgV c d ≠ -1) : sgr (sgV c d) = c ∧ sgL c d = 1 := by
  have l : sgL c d = 1 := by unfold sgL; rw [if_neg n1, if_neg n2]
  refine ⟨?_, l⟩
  by_cases z : c = 40 ∨ c = 41 ∨ c = 42 ∨ c = 43 ∨ c = 45 ∨ c = 47 ∨ c = 59 ∨ c = 61
  · rcases z with z | z | z | z | z | z | z | z <;> subst z <;> simp [sgV, sgr, sgk]
  · exact absurd (sgV_n (by omega)) s
theorem sgV_r {c d : Int} (z : sgV c d ≠ -1) : 5 ≤ sgV c d ∧ sgV c d ≤ 17 := by
  by_cases y : c = 40 ∨ c = 41 ∨ c = 42 ∨ c = 43 ∨ c = 45 ∨ c = 47 ∨ c = 59 ∨ c = 60 ∨ c = 61 ∨ c = 62
  · rcases y with y | y | y | y | y | y | y | y | y | y <;> subst y <;> unfold sgV <;> simp <;> (repeat' split) <;> decide
  · exact absurd (sgV_n (by omega)) z
theorem sgr_t : ∀ v : Nat, v < 18 → 5 ≤ v → -1 ≤ sgr (v : Int) ∧ sgr (v : Int) < 1073741824 := by decide
theorem sgr_b {c d : Int} (z : sgV c d ≠ -1) : -1 ≤ sgr (sgV c d) ∧ sgr (sgV c d) < 1073741824 := by
  have r := sgV_r z
  have t := sgr_t (sgV c d).toNat (by omega) (by omega)
  rw [show (((sgV c d).toNat : Nat) : Int) = sgV c d by omega] at t
  exact t
section
variable {h : Hp} {b : Int → Int} {n j : Nat}
set_option maxHeartbeats 4000000 in
theorem p_X12_sign (q : rxC h b n) (e8 : gI h 12 0 28 = (j : Int)) (e9 : gI h 12 0 29 = (j : Int)) (jn : j < n) : ok (f_X12_sign (byt b n j) h) (fun _ h' => Fr ToW h h' ∧ gI h' 12 0 28 = ((tokS b n j).2.2.2 : Int) ∧ tkR h' (tokS b n j)) := by
  have n8 := q.2.1
  have bj : byt b n j = b (j : Int) := byt_in jn
  have br := (q.2.2 j jn).2
  rw [← bj] at br
  obtain ⟨c, hc⟩ : ∃ c, byt b n j = c := ⟨_, rfl⟩
  obtain ⟨d, hd⟩ : ∃ d, byt b n (j + 1) = d := ⟨_, rfl⟩
  rw [hc] at br ⊢
  refine fuv_X12_sign (fun m hm => ?_)
  refine s_X12_sign_0 (by omega) ?_
  unfold b_X12_sign_0
  rw [e8]
  refine ok_ck (by omega) (ok_lt ?_)
  have F1 : Fr ToW h (sI h 12 0 28 ((j : Int) + 1)) := fr_sI fr_rf (by unfold ToW; omega)
  have a8 : gI (sI h 12 0 28 ((j : Int) + 1)) 12 0 28 = ((j + 1 : Nat) : Int) := by rw [gI_eq]; omega
  have a9 : gI (sI h 12 0 28 ((j : Int) + 1)) 12 0 29 = (j : Int) := by rw [gI_nk (by decide)]; exact e9
  generalize sI h 12 0 28 ((j : Int) + 1) = h1 at F1 a8 a9
  have five : ∀ (m5 : Nat) (h5 : Hp) (y v : Int), 0 < m5 → Fr ToW h h5 → gI h5 12 0 28 = ((j + 1 : Nat) : Int) → gI h5 12 0 29 = (j : Int) → gI h5 12 0 30 = y → gI h5 12 0 31 = v → ((y = 3 ∧ sgV c d ≠ -1 ∧ sgr (sgV c d) = v ∧ ((v < 256 ∧ sgL c d = 1) ∨ (256 ≤ v ∧ sgL c d = 2))) ∨ (y = 5 ∧ sgV c d = -1 ∧ v < 256 ∧ 0 ≤ v)) → ok (g_X12_sign m5 5 [] h5) (fun _ h' => Fr ToW h h' ∧ gI h' 12 0 28 = ((tokS b n j).2.2.2 : Int) ∧ tkR h' (tokS b n j)) := by
    intro m5 h5 y v hm5 f g8 g9 g30 g31 z
    refine s_X12_sign_5 hm5 ?_
    unfold b_X12_sign_5
    rw [g31, g8]
    rcases z with ⟨z1, z2, z3, z4⟩ | ⟨z1, z2, z3, z5⟩
    · have et : tokS b n j = (4, sgV c d, j, j + sgL c d) := by
        unfold tokS
        rw [hc, hd, if_neg z2]
      rw [et]
      refine ok_if (fun u => ok_some ⟨f, ?_, g9, ?_, fun t => ?_, fun t => ?_, fun _ => ?_, fun _ => ?_⟩) (fun u => ok_ck (by omega) (ok_lt (ok_some ⟨fr_sI f (by unfold ToW; omega), ?_, ?_, ?_, fun t => ?_, fun t => ?_, fun _ => ?_, fun _ => ?_⟩)))
      · show gI h5 12 0 28 = ((j + sgL c d : Nat) : Int)
        rw [g8]; omega
      · rw [g30]; exact z1
      · exfalso; have : (4 : Int) = 1 ∨ (4 : Int) = 2 := t; omega
      · exfalso; have : (4 : Int) = 3 := t; omega
      · rw [g31]; exact z3.symm
      · rw [g31, ← z3]; exact sgr_b z2
      · show _ = ((j + sgL c d : Nat) : Int)
        rw [gI_eq]; omega
      · rw [gI_nk (by decide)]; exact g9
      · rw [gI_nk (by decide), g30]; exact z1
      · exfalso; have : (4 : Int) = 1 ∨ (4 : Int) = 2 := t; omega
      · exfalso; have : (4 : Int) = 3 := t; omega
      · rw [gI_nk (by decide), g31]; exact z3.symm
      · rw [gI_nk (by decide), g31, ← z3]; exact sgr_b z2
    · have et : tokS b n j = (5, 0, j, j + 1) := by
        unfold tokS
        rw [hc, hd, if_pos z2]
      rw [et]
      refine ok_t z3 (ok_some ⟨f, g8, g9, ?_, fun t => ?_, fun t => ?_, fun t => ?_, fun _ => ?_⟩)
      · rw [g30]; exact z1
      · exfalso; have : (5 : Int) = 1 ∨ (5 : Int) = 2 := t; omega
      · exfalso; have : (5 : Int) = 3 := t; omega
      · exfalso; have : (5 : Int) = 4 := t; omega
      · rw [g31]; omega
  have two : ∀ (m2 : Nat) (y : Int), 10 ≤ m2 → ((y = 3 ∧ sgV c d ≠ -1) ∨ (y = 5 ∧ sgV c d = -1)) → ok (g_X12_sign m2 2 [c, y] h1) (fun _ h' => Fr ToW h h' ∧ gI h' 12 0 28 = ((tokS b n j).2.2.2 : Int) ∧ tkR h' (tokS b n j)) := by
    intro m2 y hm2 z
    refine s_X12_sign_2 (by omega) ?_
    unfold b_X12_sign_2
    refine ok_lt (ok_lt ?_)
    have F2 : Fr ToW h (sI (sI h1 12 0 30 y) 12 0 31 c) := fr_sI (fr_sI F1 (by unfold ToW; omega)) (by unfold ToW; omega)
    have q2 : rxC (sI (sI h1 12 0 30 y) 12 0 31 c) b n := rxC_fr F2 (by intro r k; unfold ToW; omega) q
    have g8 : gI (sI (sI h1 12 0 30 y) 12 0 31 c) 12 0 28 = ((j + 1 : Nat) : Int) := by rw [gI_nk (by decide), gI_nk (by decide)]; exact a8
    have g9 : gI (sI (sI h1 12 0 30 y) 12 0 31 c) 12 0 29 = (j : Int) := by rw [gI_nk (by decide), gI_nk (by decide)]; exact a9
    have g30 : gI (sI (sI h1 12 0 30 y) 12 0 31 c) 12 0 30 = y := by rw [gI_nk (by decide), gI_eq]
    have g31 : gI (sI (sI h1 12 0 30 y) 12 0 31 c) 12 0 31 = c := gI_eq
    generalize sI (sI h1 12 0 30 y) 12 0 31 c = h2 at F2 q2 g8 g9 g30 g31
    have four : ∀ (m4 : Nat) (h4 : Hp) (v : Int), 5 ≤ m4 → c ≠ 62 → Fr ToW h h4 → gI h4 12 0 28 = ((j + 1 : Nat) : Int) → gI h4 12 0 29 = (j : Int) → gI h4 12 0 30 = y → gI h4 12 0 31 = v → ((y = 3 ∧ sgV c d ≠ -1 ∧ sgr (sgV c d) = v ∧ ((v < 256 ∧ sgL c d = 1) ∨ (256 ≤ v ∧ sgL c d = 2))) ∨ (y = 5 ∧ sgV c d = -1 ∧ v < 256 ∧ 0 ≤ v)) → ok (g_X12_sign m4 4 [c] h4) (fun _ h' => Fr ToW h h' ∧ gI h' 12 0 28 = ((tokS b n j).2.2.2 : Int) ∧ tkR h' (tokS b n j)) := by
      intro m4 h4 v hm4 nc f k8 k9 k30 k31 z
      refine s_X12_sign_4 (by omega) ?_
      unfold b_X12_sign_4
      exact ok_f nc (five _ h4 y v (by omega) f k8 k9 k30 k31 z)
    by_cases c60 : c = 60
    · have y3 : y = 3 := by
        rcases z with z | z
        · exact z.1
        · exact absurd z.2 (sgV_s (by omega))
      refine ok_t c60 (ok_be (p_X12_here q2 g8) ?_)
      rw [hd]
      refine ok_if (fun u => ok_lt ?_) (fun u => ?_)
      · have F3 : Fr ToW h (sI h2 12 0 31 256) := fr_sI F2 (by unfold ToW; omega)
        have q3 := rxC_fr F3 (by intro r k; unfold ToW; omega) q
        have k8 : gI (sI h2 12 0 31 256) 12 0 28 = ((j + 1 : Nat) : Int) := by rw [gI_nk (by decide)]; exact g8
        refine s_X12_sign_3 (by omega) ?_
        unfold b_X12_sign_3
        refine ok_t c60 (ok_be (p_X12_here q3 k8) ?_)
        rw [hd]
        refine ok_f (by omega) (four _ _ 256 (by omega) (by omega) F3 k8 ?_ ?_ gI_eq (Or.inl ⟨y3, sgV_s (by omega), ?_, Or.inr ⟨by decide, ?_⟩⟩))
        · rw [gI_nk (by decide)]; exact g9
        · rw [gI_nk (by decide)]; exact g30
        · rw [c60, u]; simp [sgV, sgr, sgk]
        · rw [c60, u]; simp [sgL]
      · refine s_X12_sign_3 (by omega) ?_
        unfold b_X12_sign_3
        refine ok_t c60 (ok_be (p_X12_here q2 g8) ?_)
        rw [hd]
        refine ok_if (fun u2 => ok_lt ?_) (fun u2 => ?_)
        · refine four _ (sI h2 12 0 31 257) 257 (by omega) (by omega) (fr_sI F2 (by unfold ToW; omega)) ?_ ?_ ?_ gI_eq (Or.inl ⟨y3, sgV_s (by omega), ?_, Or.inr ⟨by decide, ?_⟩⟩)
          · rw [gI_nk (by decide)]; exact g8
          · rw [gI_nk (by decide)]; exact g9
          · rw [gI_nk (by decide)]; exact g30
          · rw [c60, u2]; simp [sgV, sgr, sgk]
          · rw [c60, u2]; simp [sgL]
        · refine four _ h2 60 (by omega) (by omega) F2 g8 g9 g30 (by rw [g31]; exact c60) (Or.inl ⟨y3, sgV_s (by omega), ?_, Or.inl ⟨by decide, ?_⟩⟩)
          · rw [c60]; simp [sgV, sgr, sgk, u, u2]
          · rw [c60]; simp [sgL, u, u2]
    · refine ok_f c60 ?_
      refine s_X12_sign_3 (by omega) ?_
      unfold b_X12_sign_3
      refine ok_f c60 ?_
      by_cases c62 : c = 62
      · have y3 : y = 3 := by
          rcases z with z | z
          · exact z.1
          · exact absurd z.2 (sgV_s (by omega))
        refine s_X12_sign_4 (by omega) ?_
        unfold b_X12_sign_4
        refine ok_t c62 (ok_be (p_X12_here q2 g8) ?_)
        rw [hd]
        refine ok_if (fun u => ok_lt ?_) (fun u => ?_)
        · refine five _ (sI h2 12 0 31 258) y 258 (by omega) (fr_sI F2 (by unfold ToW; omega)) ?_ ?_ ?_ gI_eq (Or.inl ⟨y3, sgV_s (by omega), ?_, Or.inr ⟨by decide, ?_⟩⟩)
          · rw [gI_nk (by decide)]; exact g8
          · rw [gI_nk (by decide)]; exact g9
          · rw [gI_nk (by decide)]; exact g30
          · rw [c62, u]; simp [sgV, sgr, sgk]
          · rw [c62, u]; simp [sgL]
        · refine five _ h2 y 62 (by omega) F2 g8 g9 g30 (by rw [g31]; exact c62) (Or.inl ⟨y3, sgV_s (by omega), ?_, Or.inl ⟨by decide, ?_⟩⟩)
          · rw [c62]; simp [sgV, sgr, sgk, u]
          · rw [c62]; simp [sgL, u]
      · refine four _ h2 c (by omega) c62 F2 g8 g9 g30 g31 ?_
        rcases z with z | z
        · have s := sg_1 c60 c62 z.2
          exact Or.inl ⟨z.1, z.2, s.1, Or.inl ⟨by omega, s.2⟩⟩
        · exact Or.inr ⟨z.1, z.2, by omega, by omega⟩
  have one : ∀ m1 : Nat, 11 ≤ m1 → sgV c d ≠ -1 → ok (g_X12_sign m1 1 [c] h1) (fun _ h' => Fr ToW h h' ∧ gI h' 12 0 28 = ((tokS b n j).2.2.2 : Int) ∧ tkR h' (tokS b n j)) := by
    intro m1 hm1 z
    refine s_X12_sign_1 (by omega) ?_
    unfold b_X12_sign_1
    exact two _ 3 (by omega) (Or.inl ⟨rfl, z⟩)
  exact ok_if (fun u0 => one _ (by omega) (sgV_s (by omega))) (fun u0 => ok_if (fun u1 => one _ (by omega) (sgV_s (by omega))) (fun u1 => ok_if (fun u2 => one _ (by omega) (sgV_s (by omega))) (fun u2 => ok_if (fun u3 => one _ (by omega) (sgV_s (by omega))) (fun u3 => ok_if (fun u4 => one _ (by omega) (sgV_s (by omega))) (fun u4 => ok_if (fun u5 => one _ (by omega) (sgV_s (by omega))) (fun u5 => ok_if (fun u6 => one _ (by omega) (sgV_s (by omega))) (fun u6 => ok_if (fun u7 => one _ (by omega) (sgV_s (by omega))) (fun u7 => ok_if (fun u8 => one _ (by omega) (sgV_s (by omega))) (fun u8 => ok_if (fun u9 => one _ (by omega) (sgV_s (by omega))) (fun u9 => two _ 5 (by omega) (Or.inr ⟨rfl, sgV_n ⟨u1, u2, u5, u3, u4, u6, u0, u7, u8, u9⟩⟩)))))))))))
set_option maxHeartbeats 4000000 in
theorem p_X12_token {i0 : Nat} (q : rxC h b n) (e8 : gI h 12 0 28 = (i0 : Int)) (i0n : i0 ≤ n) : ok (f_X12_token h) (fun _ h' => Fr ToW h h' ∧ gI h' 12 0 28 = ((tok b n i0).2.2.2 : Int) ∧ tkR h' (tok b n i0)) := by
  have n8 := q.2.1
  have rn := run_n (P := isBl) (b := b) i0n
  obtain ⟨J, hJ⟩ : ∃ J, run isBl b n i0 = J := ⟨_, rfl⟩
  rw [hJ] at rn
  have eT : tok b n i0 = tokJ b n J := by rw [← hJ]; rfl
  rw [eT]
  have word : ∀ (m : Nat) (h1 : Hp), 2000 ≤ m → J < n → isLe (byt b n J) = true → Fr ToW h h1 → gI h1 12 0 28 = (J : Int) → gI h1 12 0 29 = (J : Int) → ok (g_X12_token m 2 [] h1) (fun _ h' => Fr ToW h h' ∧ gI h' 12 0 28 = ((tokJ b n J).2.2.2 : Int) ∧ tkR h' (tokJ b n J)) := by
    intro m h1 hm jn il f a8 a9
    have et : tokJ b n J = tokW b n J := by
      unfold tokJ
      rw [if_neg (by omega), if_pos il]
    have rl := run_n (P := isLe) (b := b) rn
    have j0 : J < run isLe b n J := by rw [run_t jn il]; exact run_ge
    obtain ⟨e, he⟩ : ∃ e, run isLe b n J = e := ⟨_, rfl⟩
    rw [he] at rl j0
    have al : ∀ i : Nat, i < e - J → 97 ≤ b ((J + i : Nat) : Int) ∧ b ((J + i : Nat) : Int) ≤ 122 := by
      intro i hi
      have := run_all (P := isLe) (b := b) (n := n) (i := J) (k := J + i) (by omega) (by omega)
      rw [isLe_i, byt_in (by omega)] at this
      exact this
    have three : ∀ (m3 : Nat) (h3 : Hp) (y v : Int), 3 ≤ m3 → Fr ToW h h3 → gI h3 12 0 28 = (e : Int) → gI h3 12 0 29 = (J : Int) → gI h3 12 0 31 = v → ((y = 0 ∧ 0 ≤ v ∧ e - J ≤ 6 ∧ keyF b J (e - J) = v) ∨ (y = 1 ∧ e - J ≤ 6 ∧ keyF b J (e - J) = -1) ∨ (y = 5 ∧ 6 < e - J ∧ v = -1)) → ok (g_X12_token m3 3 [y] h3) (fun _ h' => Fr ToW h h' ∧ gI h' 12 0 28 = ((tokJ b n J).2.2.2 : Int) ∧ tkR h' (tokJ b n J)) := by
      intro m3 h3 y v hm3 f3 c8 c9 c31 z
      refine s_X12_token_3 (by omega) ?_
      unfold b_X12_token_3
      refine ok_lt ?_
      rw [gI_eq]
      have F4 : Fr ToW h (sI h3 12 0 30 y) := fr_sI f3 (by unfold ToW; omega)
      have d8 : gI (sI h3 12 0 30 y) 12 0 28 = (e : Int) := by rw [gI_nk (by decide)]; exact c8
      have d9 : gI (sI h3 12 0 30 y) 12 0 29 = (J : Int) := by rw [gI_nk (by decide)]; exact c9
      have d30 : gI (sI h3 12 0 30 y) 12 0 30 = y := gI_eq
      have d31 : gI (sI h3 12 0 30 y) 12 0 31 = v := by rw [gI_nk (by decide)]; exact c31
      generalize sI h3 12 0 30 y = h4 at F4 d8 d9 d30 d31
      rcases z with ⟨z1, z2, z3, z4⟩ | ⟨z1, z2, z3⟩ | ⟨z1, z2, z5⟩
      · have e2 : tokJ b n J = (2, v, J, e) := by
          rw [et]; unfold tokW
          rw [he, z4, if_neg (by omega), if_neg (by omega)]
        rw [e2]
        refine ok_f (by omega) (ok_some ⟨F4, d8, d9, by rw [d30]; exact z1, fun _ => d31, fun t => ?_, fun t => ?_, fun _ => ?_⟩)
        · exfalso; have : (2 : Int) = 3 := t; omega
        · exfalso; have : (2 : Int) = 4 := t; omega
        · have := kyS_r (p := isKy b J (e - J)) 27 0
          unfold keyF at z4
          rw [d31]; omega
      · have e2 : tokJ b n J = (1, pkN b J (e - J) 6, J, e) := by
          rw [et]; unfold tokW
          rw [he, z3, if_neg (by omega), if_pos rfl]
        rw [e2]
        have q4 := rxC_fr F4 (by intro r k; unfold ToW; omega) q
        refine ok_t z1 (ok_bq (p_X12_name (l := e - J) q4 (by rw [d8]; omega) d9 (by omega) al) ?_)
        intro _ h5 ⟨f5, g5⟩
        refine ok_some ⟨fr_tr F4 (fr_mo f5 (by intro r i k; unfold ToW; omega)), (f5.1 12 0 28 (by omega)).trans d8, (f5.1 12 0 29 (by omega)).trans d9, ?_, fun _ => g5, fun t => ?_, fun t => ?_, fun _ => ?_⟩
        · rw [f5.1 12 0 30 (by omega), d30]; exact z1
        · exfalso; have : (1 : Int) = 3 := t; omega
        · exfalso; have : (1 : Int) = 4 := t; omega
        · have p6 := pkN_r al 6
          have e6 : (32 : Int) ^ 6 = 1073741824 := by decide
          rw [g5]; omega
      · have e2 : tokJ b n J = (5, 0, J, e) := by
          rw [et]; unfold tokW
          rw [he, if_pos z2]
        rw [e2]
        refine ok_f (by omega) (ok_some ⟨F4, d8, d9, by rw [d30]; exact z1, fun t => ?_, fun t => ?_, fun t => ?_, fun _ => ?_⟩)
        · exfalso; have : (5 : Int) = 1 ∨ (5 : Int) = 2 := t; omega
        · exfalso; have : (5 : Int) = 3 := t; omega
        · exfalso; have : (5 : Int) = 4 := t; omega
        · rw [d31]; omega
    have two : ∀ (d m2 : Nat) (h2 : Hp) (i : Nat), e - i = d → J ≤ i → i ≤ e → d + 1000 ≤ m2 → Fr ToW h h2 → gI h2 12 0 28 = (i : Int) → gI h2 12 0 29 = (J : Int) → ok (g_X12_token m2 2 [] h2) (fun _ h' => Fr ToW h h' ∧ gI h' 12 0 28 = ((tokJ b n J).2.2.2 : Int) ∧ tkR h' (tokJ b n J)) := by
      intro d
      induction d with
      | zero =>
        intro m2 h2 i hd i1 i2 hm2 f2 c8 c9
        have ei : i = e := by omega
        rw [ei] at c8
        have q2 := rxC_fr f2 (by intro r k; unfold ToW; omega) q
        have nl : ¬ isLe (byt b n e) = true := by rw [← he]; exact run_end (by decide)
        refine s_X12_token_2 (by omega) ?_
        unfold b_X12_token_2
        refine ok_be (p_X12_here q2 c8) (ok_be p_X12_isSmall (ok_t (b2i_0.mpr (fun t => nl (isLe_i.mpr t))) ?_))
        refine ok_bq (p_X12_word (l := e - J) q2 (by rw [c8]; omega) c9 (by omega)) ?_
        intro r h3 ⟨e3, z⟩
        rw [e3]
        refine ok_lt ?_
        rw [gI_eq, gI_nk (show (28 : Int) ≠ 31 by decide), gI_nk (show (29 : Int) ≠ 31 by decide), c8, c9]
        have F3 : Fr ToW h (sI h2 12 0 31 r) := fr_sI f2 (by unfold ToW; omega)
        have k8 : gI (sI h2 12 0 31 r) 12 0 28 = (e : Int) := by rw [gI_nk (by decide)]; exact c8
        have k9 : gI (sI h2 12 0 31 r) 12 0 29 = (J : Int) := by rw [gI_nk (by decide)]; exact c9
        have mk : e - J ≤ 6 → ∀ k : Nat, k < 27 → (isKy b J (e - J) k = true ↔ wdM b J (e - J) k) := fun l6 k hk => by
          unfold isKy
          rw [decide_eq_true_iff]
          exact key_m hk al l6
        rcases z with ⟨z1, z2⟩ | ⟨k, kk, z1, z2, z3⟩
        · refine ok_t z1 (ok_ck (by omega) (ok_if (fun u => three _ _ 1 r (by omega) F3 k8 k9 gI_eq (Or.inr (Or.inl ⟨rfl, by omega, ?_⟩))) (fun u => three _ _ 5 r (by omega) F3 k8 k9 gI_eq (Or.inr (Or.inr ⟨rfl, by omega, z1⟩)))))
          exact kyS_n 27 0 (fun i a c t => z2 i (by omega) ((mk (by omega) i (by omega)).mp t))
        · have l6 : e - J ≤ 6 := by rw [z2.1]; exact (key_t k kk).1
          refine ok_f (by omega) (three _ _ 0 r (by omega) F3 k8 k9 gI_eq (Or.inl ⟨rfl, by omega, l6, ?_⟩))
          rw [z1]
          exact kyS_s ((mk l6 k kk).mpr z2) 27 0 (Nat.zero_le _) (by omega) (fun i a c t => z3 i c ((mk l6 i (by omega)).mp t))
      | succ d ih =>
        intro m2 h2 i hd i1 i2 hm2 f2 c8 c9
        have q2 := rxC_fr f2 (by intro r k; unfold ToW; omega) q
        have li := run_all (P := isLe) (b := b) (n := n) (i := J) (k := i) i1 (by omega)
        refine s_X12_token_2 (by omega) ?_
        unfold b_X12_token_2
        refine ok_be (p_X12_here q2 c8) (ok_be p_X12_isSmall (ok_f (fun t => b2i_0.mp t (isLe_i.mp li)) ?_))
        rw [c8]
        refine ok_ck (by omega) (ok_lt (ih _ _ (i + 1) (by omega) (by omega) (by omega) (by omega) (fr_sI f2 (by unfold ToW; omega)) ?_ ?_))
        · rw [gI_eq]; omega
        · rw [gI_nk (by decide)]; exact c9
    exact two (e - J) m h1 J rfl (Nat.le_refl _) (by omega) (by omega) f a8 a9
  have numb : ∀ (m : Nat) (h1 : Hp), 2000 ≤ m → J < n → ¬ isLe (byt b n J) = true → isDg (byt b n J) = true → Fr ToW h h1 → gI h1 12 0 28 = (J : Int) → gI h1 12 0 29 = (J : Int) → gI h1 12 0 30 = 2 → gI h1 12 0 31 = 0 → ok (g_X12_token m 4 [] h1) (fun _ h' => Fr ToW h h' ∧ gI h' 12 0 28 = ((tokJ b n J).2.2.2 : Int) ∧ tkR h' (tokJ b n J)) := by
    intro m h1 hm jn nl id f a8 a9 a30 a31
    have et : tokJ b n J = tokN b n J := by
      unfold tokJ
      rw [if_neg (by omega), if_neg nl, if_pos id]
    have rl := run_n (P := isDg) (b := b) rn
    have j0 := run_ge (P := isDg) (b := b) (n := n) (i := J)
    obtain ⟨e, he⟩ : ∃ e, run isDg b n J = e := ⟨_, rfl⟩
    rw [he] at rl j0
    have al : ∀ i : Nat, i < e - J → 48 ≤ b ((J + i : Nat) : Int) ∧ b ((J + i : Nat) : Int) ≤ 57 := by
      intro i hi
      have := run_all (P := isDg) (b := b) (n := n) (i := J) (k := J + i) (by omega) (by omega)
      rw [isDg_i, byt_in (by omega)] at this
      exact this
    have four : ∀ (d m2 : Nat) (h2 : Hp) (i : Nat), e - i = d → J ≤ i → i ≤ e → 2 * d + 10 ≤ m2 → Fr ToW h h2 → gI h2 12 0 28 = (i : Int) → gI h2 12 0 29 = (J : Int) → gI h2 12 0 30 = 2 → gI h2 12 0 31 = nuR b J (i - J) → ok (g_X12_token m2 4 [] h2) (fun _ h' => Fr ToW h h' ∧ gI h' 12 0 28 = ((tokJ b n J).2.2.2 : Int) ∧ tkR h' (tokJ b n J)) := by
      intro d
      induction d with
      | zero =>
        intro m2 h2 i hd i1 i2 hm2 f2 c8 c9 c30 c31
        have ei : i = e := by omega
        rw [ei] at c8 c31
        have q2 := rxC_fr f2 (by intro r k; unfold ToW; omega) q
        have nd : ¬ isDg (byt b n e) = true := by rw [← he]; exact run_end (by decide)
        have e2 : tokJ b n J = (3, nuC b J (e - J), J, e) := by
          rw [et]; unfold tokN
          rw [he]
        have nr := nu_r (b := b) (j := J) (e - J) al
        rw [e2]
        refine s_X12_token_4 (by omega) ?_
        unfold b_X12_token_4
        refine ok_be (p_X12_here q2 c8) (ok_be p_X12_isDigit (ok_t (b2i_0.mpr (fun t => nd (isDg_i.mpr t))) (ok_some ⟨f2, c8, c9, by rw [c30]; rfl, fun t => ?_, fun _ => ⟨fun t => ?_, fun t => ?_⟩, fun t => ?_, fun _ => ?_⟩)))
        · exfalso; have : (3 : Int) = 1 ∨ (3 : Int) = 2 := t; omega
        · rw [c31]; exact nr.2.2.2.1 t
        · rw [c31]; exact nr.2.2.2.2 t
        · exfalso; have : (3 : Int) = 4 := t; omega
        · have n0 : 0 ≤ nuR b J (e - J) := by
            by_cases y : nuC b J (e - J) ≤ 99999
            · have := nr.2.2.2.1 y; omega
            · have := nr.2.2.2.2 (by omega); omega
          rw [c31]; omega
      | succ d ih =>
        intro m2 h2 i hd i1 i2 hm2 f2 c8 c9 c30 c31
        have q2 := rxC_fr f2 (by intro r k; unfold ToW; omega) q
        have di := run_all (P := isDg) (b := b) (n := n) (i := J) (k := i) i1 (by omega)
        have bi : byt b n i = b (i : Int) := byt_in (by omega)
        have nr := nu_r (b := b) (j := J) (i - J) (fun k hk => al k (by omega))
        have dg := al (i - J) (by omega)
        rw [show J + (i - J) = i by omega] at dg
        have nx : ∀ (m5 : Nat) (y : Int), 2 * d + 11 ≤ m5 → y = nuR b J (i + 1 - J) → ok (g_X12_token m5 5 [y] h2) (fun _ h' => Fr ToW h h' ∧ gI h' 12 0 28 = ((tokJ b n J).2.2.2 : Int) ∧ tkR h' (tokJ b n J)) := by
          intro m5 y hm5 ey
          refine s_X12_token_5 (by omega) ?_
          unfold b_X12_token_5
          refine ok_lt ?_
          rw [gI_nk (show (28 : Int) ≠ 31 by decide), c8]
          refine ok_ck (by omega) (ok_lt (ih _ _ (i + 1) (by omega) (by omega) (by omega) (by omega) (fr_sI (fr_sI f2 (by unfold ToW; omega)) (by unfold ToW; omega)) ?_ ?_ ?_ ?_))
          · rw [gI_eq]; omega
          · rw [gI_nk (by decide), gI_nk (by decide)]; exact c9
          · rw [gI_nk (by decide), gI_nk (by decide)]; exact c30
          · rw [gI_nk (by decide), gI_eq]; exact ey
        have es : nuR b J (i + 1 - J) = if nuR b J (i - J) ≤ 99999 then 10 * nuR b J (i - J) + b (i : Int) - 48 else nuR b J (i - J) := by
          rw [show i + 1 - J = (i - J) + 1 by omega]
          show (if nuR b J (i - J) ≤ 99999 then 10 * nuR b J (i - J) + b ((J + (i - J) : Nat) : Int) - 48 else nuR b J (i - J)) = _
          rw [show J + (i - J) = i by omega]
        refine s_X12_token_4 (by omega) ?_
        unfold b_X12_token_4
        refine ok_be (p_X12_here q2 c8) (ok_be p_X12_isDigit (ok_f (fun t => b2i_0.mp t (isDg_i.mp di)) ?_))
        rw [c31]
        have n0 : 0 ≤ nuR b J (i - J) := by
          by_cases y : nuC b J (i - J) ≤ 99999
          · have := nr.2.2.2.1 y; omega
          · have := nr.2.2.2.2 (by omega); omega
        refine ok_if (fun u => ok_ck (by omega) (ok_be (p_X12_here q2 c8) ?_)) (fun u => nx _ _ (by omega) (by rw [es, if_neg u]))
        rw [bi]
        exact ok_ck (by omega) (ok_ck (by omega) (nx _ _ (by omega) (by rw [es, if_pos u])))
    exact four (e - J) m h1 J rfl (Nat.le_refl _) j0 (by omega) f a8 a9 a30 (by rw [Nat.sub_self]; exact a31)
  have key : ∀ (d m : Nat) (h1 : Hp) (i : Nat), n - i = d → i ≤ n → 2 * d + 3000 ≤ m → Fr ToW h h1 → gI h1 12 0 28 = (i : Int) → run isBl b n i = J → ok (g_X12_token m 0 [] h1) (fun _ h' => Fr ToW h h' ∧ gI h' 12 0 28 = ((tokJ b n J).2.2.2 : Int) ∧ tkR h' (tokJ b n J)) := by
    intro d
    induction d with
    | zero =>
      intro m h1 i hd i2 hm f a8 er
      have ei : i = n := by omega
      have e : run isBl b n i = i := run_f (by rw [isBl_i, byt_out (by omega)]; omega)
      have eJ : J = i := by rw [← er]; exact e
      have q1 := rxC_fr f (by intro r k; unfold ToW; omega) q
      have bo : byt b n i = -1 := byt_out (by omega)
      refine s_X12_token_0 (by omega) ?_
      unfold b_X12_token_0
      refine ok_be (p_X12_here q1 a8) (ok_f (by omega) (ok_be (p_X12_here q1 a8) (ok_f (by omega) (ok_lt ?_))))
      rw [a8]
      have k8 : gI (sI h1 12 0 29 (i : Int)) 12 0 28 = (i : Int) := by rw [gI_nk (by decide)]; exact a8
      have q2 : rxC (sI h1 12 0 29 (i : Int)) b n := rxC_fr (W := ToW) (fr_sI fr_rf (by unfold ToW; omega)) (by intro r k; unfold ToW; omega) q1
      have e2 : tokJ b n J = (0, 0, J, J) := by
        unfold tokJ
        rw [if_pos (by omega)]
      rw [e2, eJ]
      refine ok_be (p_X12_here q2 k8) (ok_t bo (ok_lt (ok_some ⟨fr_sI (fr_sI f (by unfold ToW; omega)) (by unfold ToW; omega), ?_, ?_, gI_eq, fun t => ?_, fun t => ?_, fun t => ?_, fun t => absurd rfl t⟩)))
      · rw [gI_nk (by decide)]; exact k8
      · rw [gI_nk (by decide), gI_eq]
      · exfalso; have : (0 : Int) = 1 ∨ (0 : Int) = 2 := t; omega
      · exfalso; have : (0 : Int) = 3 := t; omega
      · exfalso; have : (0 : Int) = 4 := t; omega
    | succ d ih =>
      intro m h1 i hd i2 hm f a8 er
      have lt : i < n := by omega
      have q1 := rxC_fr f (by intro r k; unfold ToW; omega) q
      have bi : byt b n i = b (i : Int) := byt_in lt
      have br := (q.2.2 i lt).2
      have one : ∀ m1 : Nat, 2 * d + 3001 ≤ m1 → isBl (byt b n i) = true → ok (g_X12_token m1 1 [] h1) (fun _ h' => Fr ToW h h' ∧ gI h' 12 0 28 = ((tokJ b n J).2.2.2 : Int) ∧ tkR h' (tokJ b n J)) := by
        intro m1 hm1 bl
        refine s_X12_token_1 (by omega) ?_
        unfold b_X12_token_1
        rw [a8]
        refine ok_ck (by omega) (ok_lt (ih _ _ (i + 1) (by omega) (by omega) (by omega) (fr_sI f (by unfold ToW; omega)) ?_ ?_))
        · rw [gI_eq]; omega
        · rw [← er]; exact (run_t lt bl).symm
      refine s_X12_token_0 (by omega) ?_
      unfold b_X12_token_0
      refine ok_be (p_X12_here q1 a8) (ok_if (fun u => one _ (by omega) (isBl_i.mpr (Or.inl u))) (fun u => ok_be (p_X12_here q1 a8) (ok_if (fun u2 => one _ (by omega) (isBl_i.mpr (Or.inr u2))) (fun u2 => ok_lt ?_))))
      have e : run isBl b n i = i := run_f (by rw [isBl_i]; omega)
      have eJ : J = i := by rw [← er]; exact e
      rw [a8]
      have F2 : Fr ToW h (sI h1 12 0 29 (i : Int)) := fr_sI f (by unfold ToW; omega)
      have k8 : gI (sI h1 12 0 29 (i : Int)) 12 0 28 = (J : Int) := by rw [gI_nk (by decide), eJ]; exact a8
      have k9 : gI (sI h1 12 0 29 (i : Int)) 12 0 29 = (J : Int) := by rw [gI_eq, eJ]
      generalize sI h1 12 0 29 (i : Int) = h2 at F2 k8 k9
      rw [← eJ] at bi lt br
      have q2 := rxC_fr F2 (by intro r k; unfold ToW; omega) q
      refine ok_be (p_X12_here q2 k8) (ok_f (by rw [bi]; omega) (ok_be p_X12_isSmall (ok_if (fun v => ?_) (fun v => ?_))))
      · have nl : ¬ isLe (byt b n J) = true := fun t => b2i_0.mp v (isLe_i.mp t)
        refine ok_be p_X12_isDigit (ok_if (fun v2 => ?_) (fun v2 => ok_lt (ok_lt ?_)))
        · have nd : ¬ isDg (byt b n J) = true := fun t => b2i_0.mp v2 (isDg_i.mp t)
          have et : tokJ b n J = tokS b n J := by
            unfold tokJ
            rw [if_neg (by omega), if_neg nl, if_neg nd]
          refine ok_bq (p_X12_sign q2 k8 k9 lt) ?_
          intro _ h3 ⟨f3, g8, g⟩
          rw [et]
          exact ok_some ⟨fr_tr F2 f3, g8, g⟩
        · refine numb _ _ (by omega) lt nl (isDg_i.mpr (b2i_n.mp v2)) (fr_sI (fr_sI F2 (by unfold ToW; omega)) (by unfold ToW; omega)) ?_ ?_ ?_ gI_eq
          · rw [gI_nk (by decide), gI_nk (by decide)]; exact k8
          · rw [gI_nk (by decide), gI_nk (by decide)]; exact k9
          · rw [gI_nk (by decide), gI_eq]
      · exact word _ _ (by omega) lt (isLe_i.mpr (b2i_n.mp v)) F2 k8 k9
  refine fuv_X12_token (fun m hm => ?_)
  exact key (n - i0) _ h i0 rfl i0n (by omega) fr_rf e8 hJ
/-- at the end the value stays -/
theorem p_token_end {i0 : Nat} (q : rxC h b n) (e8 : gI h 12 0 28 = (i0 : Int)) (i0n : i0 ≤ n) (z : (tok b n i0).1 = 0) : ok (f_X12_token h) (fun _ h' => gI h' 12 0 31 = gI h 12 0 31) := by
  have n8 := q.2.1
  have rn := run_n (P := isBl) (b := b) i0n
  obtain ⟨J, hJ⟩ : ∃ J, run isBl b n i0 = J := ⟨_, rfl⟩
  rw [hJ] at rn
  have nJ : n ≤ J := by
    have eT : tok b n i0 = tokJ b n J := by rw [← hJ]; rfl
    rw [eT] at z
    exact (tokJ_r (b := b) rn).2.2.2.2.1.mp z
  have key : ∀ (d m : Nat) (h1 : Hp) (i : Nat), n - i = d → i ≤ n → 2 * d + 10 ≤ m → Fr ToW h h1 → gI h1 12 0 31 = gI h 12 0 31 → gI h1 12 0 28 = (i : Int) → run isBl b n i = J → ok (g_X12_token m 0 [] h1) (fun _ h' => gI h' 12 0 31 = gI h 12 0 31) := by
    intro d
    induction d with
    | zero =>
      intro m h1 i hd i2 hm f a31 a8 er
      have q1 := rxC_fr f (by intro r k; unfold ToW; omega) q
      have bo : byt b n i = -1 := byt_out (by omega)
      refine s_X12_token_0 (by omega) ?_
      unfold b_X12_token_0
      refine ok_be (p_X12_here q1 a8) (ok_f (by omega) (ok_be (p_X12_here q1 a8) (ok_f (by omega) (ok_lt ?_))))
      rw [a8]
      have k8 : gI (sI h1 12 0 29 (i : Int)) 12 0 28 = (i : Int) := by rw [gI_nk (by decide)]; exact a8
      have q2 : rxC (sI h1 12 0 29 (i : Int)) b n := rxC_fr (W := ToW) (fr_sI fr_rf (by unfold ToW; omega)) (by intro r k; unfold ToW; omega) q1
      refine ok_be (p_X12_here q2 k8) (ok_t bo (ok_lt (ok_some ?_)))
      rw [gI_nk (by decide), gI_nk (by decide)]; exact a31
    | succ d ih =>
      intro m h1 i hd i2 hm f a31 a8 er
      have lt : i < n := by omega
      have q1 := rxC_fr f (by intro r k; unfold ToW; omega) q
      have bl : isBl (byt b n i) = true := by
        by_cases y : isBl (byt b n i) = true
        · exact y
        · have := run_f (P := isBl) (b := b) (n := n) (i := i) y
          omega
      have one : ∀ m1 : Nat, 2 * d + 11 ≤ m1 → ok (g_X12_token m1 1 [] h1) (fun _ h' => gI h' 12 0 31 = gI h 12 0 31) := by
        intro m1 hm1
        refine s_X12_token_1 (by omega) ?_
        unfold b_X12_token_1
        rw [a8]
        refine ok_ck (by omega) (ok_lt (ih _ _ (i + 1) (by omega) (by omega) (by omega) (fr_sI f (by unfold ToW; omega)) ?_ ?_ ?_))
        · rw [gI_nk (by decide)]; exact a31
        · rw [gI_eq]; omega
        · rw [← er]; exact (run_t lt bl).symm
      refine s_X12_token_0 (by omega) ?_
      unfold b_X12_token_0
      refine ok_be (p_X12_here q1 a8) (ok_if (fun u => one _ (by omega)) (fun u => ok_be (p_X12_here q1 a8) (ok_t ?_ (one _ (by omega)))))
      have := isBl_i.mp bl
      omega
  refine fuv_X12_token (fun m hm => ?_)
  exact key (n - i0) _ h i0 rfl i0n (by omega) fr_rf rfl e8 hJ
end
