/-! TEXT, 3: the class's scanner -/
section
variable {h : Hp} {b : Int → Int} {n j : Nat}
theorem p_X8_follows {i : Nat} {c : Int} (q : sxC h b n) (e3 : gI h 8 0 3 = (i : Int)) (i8 : i ≤ 801) (c1 : 0 ≤ c) (c2 : c < 128) : ok (f_X8_follows c h) (fun r h' => Fr TnW h h' ∧ (r = 0 ↔ ¬ byt b n i = c) ∧ gI h' 8 0 3 = (if byt b n i = c then ((i + 1 : Nat) : Int) else (i : Int)) ∧ gI h' 8 0 4 = gI h 8 0 4) := by
  have n8 := q.2.1
  have one : ∀ m : Nat, 3 ≤ m → ¬ byt b n i = c → ok (g_X8_follows m 1 [] h) (fun r h' => Fr TnW h h' ∧ (r = 0 ↔ ¬ byt b n i = c) ∧ gI h' 8 0 3 = (if byt b n i = c then ((i + 1 : Nat) : Int) else (i : Int)) ∧ gI h' 8 0 4 = gI h 8 0 4) := by
    intro m hm ne
    refine s_X8_follows_1 (by omega) ?_
    unfold b_X8_follows_1
    refine s_X8_follows_2 (by omega) ?_
    unfold b_X8_follows_2
    rw [e3]
    refine ok_t rfl (ok_ck (by omega) (ok_lt (ok_ck (by decide) (ok_some ⟨fr_sI fr_rf (by unfold TnW; omega), ⟨fun _ => ne, fun _ => rfl⟩, ?_, gI_nk (by decide)⟩))))
    rw [gI_eq, if_neg ne]; omega
  refine fuv_X8_follows (fun m hm => ?_)
  refine s_X8_follows_0 (by omega) ?_
  unfold b_X8_follows_0
  rw [q.1, e3]
  refine ok_if (fun u => one _ (by omega) (by rw [byt_out (by omega)]; omega)) (fun u => ?_)
  obtain ⟨y1, y2, y3⟩ := q.2.2.1 i (by omega)
  have sc := sb_c y2 y3
  rw [y1]
  refine ok_ck (by omega) (ok_if (fun u2 => ?_) (fun u2 => one _ (by omega) (by rw [byt_in (by omega)]; omega)))
  have e : byt b n i = c := by rw [byt_in (by omega)]; omega
  refine s_X8_follows_2 (by omega) ?_
  unfold b_X8_follows_2
  rw [e3]
  refine ok_f (by decide) (ok_ck (by omega) (ok_lt (ok_ck (by decide) (ok_some ⟨fr_sI fr_rf (by unfold TnW; omega), ⟨fun z => absurd z (by decide), fun z => absurd e z⟩, ?_, gI_nk (by decide)⟩))))
  rw [gI_eq, if_pos e]; omega
set_option maxHeartbeats 4000000 in
theorem p_X8_scanSign (q : sxC h b n) (e3 : gI h 8 0 3 = (j : Int)) (jn : j < n) : ok (f_X8_scanSign (sb (b (j : Int))) h) (fun _ h' => Fr TnW h h' ∧ gI h' 8 0 3 = ((tokS b n j).2.2.2 : Int) ∧ gI h' 8 0 4 = (tokS b n j).1 ∧ ((tokS b n j).1 ≠ 5 → gI h' 8 0 5 = (tokS b n j).2.1)) := by
  have n8 := q.2.1
  obtain ⟨y1, y2, y3⟩ := q.2.2.1 j jn
  have sc := sb_c y2 y3
  have hb : byt b n j = b (j : Int) := byt_in jn
  refine fuv_X8_scanSign (fun m hm => ?_)
  refine s_X8_scanSign_0 (by omega) ?_
  unfold b_X8_scanSign_0
  refine ok_lt ?_
  rw [gI_nk (show (3 : Int) ≠ 4 by decide), e3]
  refine ok_ck (by omega) (ok_lt ?_)
  have F2 : Fr TnW h (sI (sI h 8 0 4 4) 8 0 3 ((j : Int) + 1)) := fr_sI (fr_sI fr_rf (by unfold TnW; omega)) (by unfold TnW; omega)
  have a3 : gI (sI (sI h 8 0 4 4) 8 0 3 ((j : Int) + 1)) 8 0 3 = ((j + 1 : Nat) : Int) := by rw [gI_eq]; omega
  have a4 : gI (sI (sI h 8 0 4 4) 8 0 3 ((j : Int) + 1)) 8 0 4 = 4 := by rw [gI_nk (by decide), gI_eq]
  generalize sI (sI h 8 0 4 4) 8 0 3 ((j : Int) + 1) = h2 at F2 a3 a4
  have q2 := sxC_fr F2 (by intro r k; unfold TnW; omega) q
  have cc : ∀ x : Int, 0 ≤ x ∧ x < 128 → sb (b (j : Int)) = x → byt b n j = x := by intro x x1 x2; rw [hb]; omega
  have fin : ∀ (v : Int) (h3 : Hp) (l : Nat), sgV (byt b n j) (byt b n (j + 1)) = v → v ≠ -1 → sgL (byt b n j) (byt b n (j + 1)) = l → Fr TnW h h3 → gI h3 8 0 3 = ((j + l : Nat) : Int) → gI h3 8 0 4 = 4 → ok (some ((0 : Int), sI h3 8 0 5 v)) (fun _ h' => Fr TnW h h' ∧ gI h' 8 0 3 = ((tokS b n j).2.2.2 : Int) ∧ gI h' 8 0 4 = (tokS b n j).1 ∧ ((tokS b n j).1 ≠ 5 → gI h' 8 0 5 = (tokS b n j).2.1)) := by
    intro v h3 l s1 s2 s3 f g3 g4
    have et : tokS b n j = (4, v, j, j + l) := by
      unfold tokS
      rw [s1, s3, if_neg s2]
    refine ok_some ⟨fr_sI f (by unfold TnW; omega), ?_, ?_, fun _ => ?_⟩
    · rw [et, gI_nk (by decide)]; exact g3
    · rw [et, gI_nk (by decide)]; exact g4
    · rw [et, gI_eq]
  have leaf : ∀ v : Int, sgV (byt b n j) (byt b n (j + 1)) = v → v ≠ -1 → sgL (byt b n j) (byt b n (j + 1)) = 1 → ok (lt (sI h2 8 0 5 v) fun h3 => some ((0 : Int), h3)) (fun _ h' => Fr TnW h h' ∧ gI h' 8 0 3 = ((tokS b n j).2.2.2 : Int) ∧ gI h' 8 0 4 = (tokS b n j).1 ∧ ((tokS b n j).1 ≠ 5 → gI h' 8 0 5 = (tokS b n j).2.1)) := fun v s1 s2 s3 => ok_lt (fin v h2 1 s1 s2 s3 F2 a3 a4)
  have r1 : ∀ (m : Nat) (v : Int) (h3 : Hp) (l : Nat), 0 < m → sgV (byt b n j) (byt b n (j + 1)) = v → v ≠ -1 → sgL (byt b n j) (byt b n (j + 1)) = l → Fr TnW h h3 → gI h3 8 0 3 = ((j + l : Nat) : Int) → gI h3 8 0 4 = 4 → ok (g_X8_scanSign m 1 [v] h3) (fun _ h' => Fr TnW h h' ∧ gI h' 8 0 3 = ((tokS b n j).2.2.2 : Int) ∧ gI h' 8 0 4 = (tokS b n j).1 ∧ ((tokS b n j).1 ≠ 5 → gI h' 8 0 5 = (tokS b n j).2.1)) := by
    intro m v h3 l hm s1 s2 s3 f g3 g4
    refine s_X8_scanSign_1 hm ?_
    unfold b_X8_scanSign_1
    exact ok_lt (fin v h3 l s1 s2 s3 f g3 g4)
  have r2 : ∀ (m : Nat) (v : Int) (h3 : Hp) (l : Nat), 0 < m → sgV (byt b n j) (byt b n (j + 1)) = v → v ≠ -1 → sgL (byt b n j) (byt b n (j + 1)) = l → Fr TnW h h3 → gI h3 8 0 3 = ((j + l : Nat) : Int) → gI h3 8 0 4 = 4 → ok (g_X8_scanSign m 2 [v] h3) (fun _ h' => Fr TnW h h' ∧ gI h' 8 0 3 = ((tokS b n j).2.2.2 : Int) ∧ gI h' 8 0 4 = (tokS b n j).1 ∧ ((tokS b n j).1 ≠ 5 → gI h' 8 0 5 = (tokS b n j).2.1)) := by
    intro m v h3 l hm s1 s2 s3 f g3 g4
    refine s_X8_scanSign_2 hm ?_
    unfold b_X8_scanSign_2
    exact ok_lt (fin v h3 l s1 s2 s3 f g3 g4)
  have bad : (byt b n j ≠ 40 ∧ byt b n j ≠ 41 ∧ byt b n j ≠ 42 ∧ byt b n j ≠ 43 ∧ byt b n j ≠ 45 ∧ byt b n j ≠ 47 ∧ byt b n j ≠ 59 ∧ byt b n j ≠ 60 ∧ byt b n j ≠ 61 ∧ byt b n j ≠ 62) → tokS b n j = (5, 0, j, j + 1) := by
    intro z
    have e : sgV (byt b n j) (byt b n (j + 1)) = -1 := by
      unfold sgV
      rw [if_neg (by omega), if_neg (by omega), if_neg (by omega), if_neg (by omega), if_neg (by omega), if_neg (by omega), if_neg (by omega), if_neg (by omega), if_neg (by omega), if_neg (by omega)]
    unfold tokS
    rw [if_pos e]
  have c60 : byt b n j = 60 → ok (bd (f_X8_follows 61 h2) fun v10 h11 => if v10 = 0 then (bd (f_X8_follows 62 h11) fun v12 h13 => if v12 = 0 then g_X8_scanSign (m - 1) 1 [5] h13 else g_X8_scanSign (m - 1) 1 [8] h13) else g_X8_scanSign (m - 1) 1 [6] h11) (fun _ h' => Fr TnW h h' ∧ gI h' 8 0 3 = ((tokS b n j).2.2.2 : Int) ∧ gI h' 8 0 4 = (tokS b n j).1 ∧ ((tokS b n j).1 ≠ 5 → gI h' 8 0 5 = (tokS b n j).2.1)) := by
    intro e
    refine ok_bq (p_X8_follows (c := 61) q2 a3 (by omega) (by decide) (by decide)) ?_
    intro v h3 ⟨f3, w1, w2, w3⟩
    have F3 := fr_tr F2 f3
    have q3 := sxC_fr F3 (by intro r k; unfold TnW; omega) q
    refine ok_if (fun u => ?_) (fun u => ?_)
    · have ne := w1.mp u
      rw [if_neg ne] at w2
      refine ok_bq (p_X8_follows (c := 62) q3 w2 (by omega) (by decide) (by decide)) ?_
      intro v4 h4 ⟨f4, x1, x2, x3⟩
      have F4 := fr_tr F3 f4
      refine ok_if (fun u4 => ?_) (fun u4 => ?_)
      · have ne4 := x1.mp u4
        rw [if_neg ne4] at x2
        exact r1 _ 5 h4 1 (by omega) (by rw [e]; unfold sgV; simp [ne, ne4]) (by decide) (by rw [e]; unfold sgL; simp [ne, ne4]) F4 x2 (by rw [x3, w3]; exact a4)
      · have ye : byt b n (j + 1) = 62 := Classical.byContradiction (fun t => u4 (x1.mpr t))
        rw [if_pos ye] at x2
        exact r1 _ 8 h4 2 (by omega) (by rw [e, ye]; unfold sgV; simp) (by decide) (by rw [e, ye]; unfold sgL; simp) F4 x2 (by rw [x3, w3]; exact a4)
    · have ye : byt b n (j + 1) = 61 := Classical.byContradiction (fun t => u (w1.mpr t))
      rw [if_pos ye] at w2
      exact r1 _ 6 h3 2 (by omega) (by rw [e, ye]; unfold sgV; simp) (by decide) (by rw [e, ye]; unfold sgL; simp) F3 w2 (by rw [w3]; exact a4)
  have c62 : byt b n j = 62 → ok (bd (f_X8_follows 61 h2) fun v15 h16 => if v15 = 0 then g_X8_scanSign (m - 1) 2 [10] h16 else g_X8_scanSign (m - 1) 2 [9] h16) (fun _ h' => Fr TnW h h' ∧ gI h' 8 0 3 = ((tokS b n j).2.2.2 : Int) ∧ gI h' 8 0 4 = (tokS b n j).1 ∧ ((tokS b n j).1 ≠ 5 → gI h' 8 0 5 = (tokS b n j).2.1)) := by
    intro e
    refine ok_bq (p_X8_follows (c := 61) q2 a3 (by omega) (by decide) (by decide)) ?_
    intro v h3 ⟨f3, w1, w2, w3⟩
    have F3 := fr_tr F2 f3
    refine ok_if (fun u => ?_) (fun u => ?_)
    · have ne := w1.mp u
      rw [if_neg ne] at w2
      exact r2 _ 10 h3 1 (by omega) (by rw [e]; unfold sgV; simp [ne]) (by decide) (by rw [e]; unfold sgL; simp [ne]) F3 w2 (by rw [w3]; exact a4)
    · have ye : byt b n (j + 1) = 61 := Classical.byContradiction (fun t => u (w1.mpr t))
      rw [if_pos ye] at w2
      exact r2 _ 9 h3 2 (by omega) (by rw [e, ye]; unfold sgV; simp) (by decide) (by rw [e, ye]; unfold sgL; simp) F3 w2 (by rw [w3]; exact a4)
  refine ok_if (fun u0 => leaf 15 (by rw [cc 40 (by omega) u0]; unfold sgV; simp) (by decide) (by rw [cc 40 (by omega) u0]; unfold sgL; simp)) (fun u0 => ok_if (fun u1 => leaf 16 (by rw [cc 41 (by omega) u1]; unfold sgV; simp) (by decide) (by rw [cc 41 (by omega) u1]; unfold sgL; simp)) (fun u1 => ok_if (fun u2 => leaf 13 (by rw [cc 42 (by omega) u2]; unfold sgV; simp) (by decide) (by rw [cc 42 (by omega) u2]; unfold sgL; simp)) (fun u2 => ok_if (fun u3 => leaf 11 (by rw [cc 43 (by omega) u3]; unfold sgV; simp) (by decide) (by rw [cc 43 (by omega) u3]; unfold sgL; simp)) (fun u3 => ok_if (fun u4 => leaf 12 (by rw [cc 45 (by omega) u4]; unfold sgV; simp) (by decide) (by rw [cc 45 (by omega) u4]; unfold sgL; simp)) (fun u4 => ok_if (fun u5 => leaf 14 (by rw [cc 47 (by omega) u5]; unfold sgV; simp) (by decide) (by rw [cc 47 (by omega) u5]; unfold sgL; simp)) (fun u5 => ok_if (fun u6 => leaf 17 (by rw [cc 59 (by omega) u6]; unfold sgV; simp) (by decide) (by rw [cc 59 (by omega) u6]; unfold sgL; simp)) (fun u6 => ok_if (fun u7 => c60 (cc 60 (by omega) u7)) (fun u7 => ok_if (fun u8 => leaf 7 (by rw [cc 61 (by omega) u8]; unfold sgV; simp) (by decide) (by rw [cc 61 (by omega) u8]; unfold sgL; simp)) (fun u8 => ok_if (fun u9 => c62 (cc 62 (by omega) u9)) (fun u9 => ok_lt (ok_some ⟨fr_sI F2 (by unfold TnW; omega), ?_, ?_, fun z => ?_⟩)))))))))))
  · rw [bad (by omega), gI_nk (by decide)]; exact a3
  · rw [bad (by omega), gI_eq]
  · rw [bad (by omega)] at z; exact absurd rfl z
/-- where a chart of tokens lies -/
def ScnW : Nat → Int → Int → Prop := fun r _ k => (r = 8 ∧ (k = 2 ∨ k = 3 ∨ k = 4 ∨ k = 5 ∨ k = 9)) ∨ (48 ≤ r ∧ r ≤ 50)
def tksC (h : Hp) (b : Int → Int) (n s : Nat) : Prop := ∀ t : Nat, t < s → gI h 48 0 (t : Int) = tkK b n t ∧ gI h 50 0 (t : Int) = (tkP b n t : Int) ∧ (tkK b n t ≠ 0 → tkK b n t ≠ 5 → gI h 49 0 (t : Int) = tkV b n t)
theorem tn_sc : ∀ (r : Nat) (i k : Int), TnW r i k → ScnW r i k := by intro r i k; unfold TnW ScnW; omega
theorem tksC_e {h2 : Hp} {s : Nat} (e : ∀ (r : Nat) (t : Nat), 48 ≤ r → r ≤ 50 → t < s → gI h2 r 0 (t : Int) = gI h r 0 (t : Int)) (q : tksC h b n s) : tksC h2 b n s := fun t ht => by
  rw [e 48 t (by omega) (by omega) ht, e 49 t (by omega) (by omega) ht, e 50 t (by omega) (by omega) ht]
  exact q t ht
set_option maxHeartbeats 8000000 in
theorem p_X8_scan (n8 : n ≤ 800) (hb : ∀ k : Nat, k < n → gI h 58 0 (k : Int) = sb (b (k : Int)) ∧ 0 ≤ b (k : Int) ∧ b (k : Int) < 256) (hk : ∀ k : Nat, k < 27 → gI h 47 0 (k : Int) = keyV k) : ok (f_X8_scan (n : Int) h) (fun _ h' => Fr ScnW h h' ∧ ∃ s : Nat, 1 ≤ s ∧ s ≤ 801 ∧ gI h' 8 0 9 = (s : Int) ∧ tksC h' b n s ∧ tkK b n (s - 1) = 0 ∧ ∀ t : Nat, t + 1 < s → tkK b n t ≠ 0) := by
  have key : ∀ (d m : Nat) (h1 : Hp) (s : Nat), 801 - s = d → 2 * (n - pos b n s) + 5 * d + 10 ≤ m → Fr ScnW h h1 → sxC h1 b n → gI h1 8 0 9 = (s : Int) → gI h1 8 0 3 = (pos b n s : Int) → gI h1 8 0 4 ≠ 0 → tksC h1 b n s → (∀ t : Nat, t < s → tkK b n t ≠ 0) → ok (g_X8_scan m 1 [] h1) (fun _ h' => Fr ScnW h h' ∧ ∃ s : Nat, 1 ≤ s ∧ s ≤ 801 ∧ gI h' 8 0 9 = (s : Int) ∧ tksC h' b n s ∧ tkK b n (s - 1) = 0 ∧ ∀ t : Nat, t + 1 < s → tkK b n t ≠ 0) := by
    intro d
    induction d with
    | zero =>
      intro m h1 s hd hm f q a9 a3 a4 tk nz
      have := pos_t s nz
      have := pos_n (b := b) (n := n) s
      omega
    | succ d ih =>
      intro m h1 s hd hm f q a9 a3 a4 tk nz
      have pn := pos_n (b := b) (n := n) s
      have rg := run_ge (P := isBl) (b := b) (n := n) (i := pos b n s)
      have rn := run_n (P := isBl) (b := b) pn
      obtain ⟨J, hJ⟩ : ∃ J, run isBl b n (pos b n s) = J := ⟨_, rfl⟩
      rw [hJ] at rg rn
      have eT : tok b n (pos b n s) = tokJ b n J := by rw [← hJ]; rfl
      have tr := tokJ_r (b := b) rn
      have nx : pos b n (s + 1) = (tokJ b n J).2.2.2 := by rw [← eT]; rfl
      have s8 : s ≤ 800 := by have := pos_t s nz; omega
      have five : ∀ (m5 : Nat) (h5 : Hp), 2 * (n - (tokJ b n J).2.2.2) + 5 * d + 12 ≤ m5 → Fr ScnW h h5 → sxC h5 b n → gI h5 8 0 9 = (s : Int) → gI h5 8 0 3 = ((tokJ b n J).2.2.2 : Int) → gI h5 8 0 4 = (tokJ b n J).1 → ((tokJ b n J).1 ≠ 0 → (tokJ b n J).1 ≠ 5 → gI h5 8 0 5 = (tokJ b n J).2.1) → gI h5 50 0 (s : Int) = (J : Int) → tksC h5 b n s → ok (g_X8_scan m5 5 [] h5) (fun _ h' => Fr ScnW h h' ∧ ∃ s : Nat, 1 ≤ s ∧ s ≤ 801 ∧ gI h' 8 0 9 = (s : Int) ∧ tksC h' b n s ∧ tkK b n (s - 1) = 0 ∧ ∀ t : Nat, t + 1 < s → tkK b n t ≠ 0) := by
        intro m5 h5 hm5 f5 q5 c9 c3 c4 c5 c50 tk5
        refine s_X8_scan_5 (by omega) ?_
        unfold b_X8_scan_5
        rw [c9, c4]
        refine ok_ck (by omega) (ok_lt ?_)
        rw [gI_nr (show (8 : Nat) ≠ 48 by decide), gI_nr (show (8 : Nat) ≠ 48 by decide), c9]
        refine ok_ck (by omega) (ok_lt ?_)
        rw [gI_nr (show (8 : Nat) ≠ 49 by decide), gI_nr (show (8 : Nat) ≠ 48 by decide), c9]
        refine ok_ck (by omega) (ok_lt ?_)
        rw [show (s : Int) + 1 = ((s + 1 : Nat) : Int) by omega]
        have F6 : Fr ScnW h (sI (sI (sI h5 48 0 (s : Int) (tokJ b n J).1) 49 0 (s : Int) (gI h5 8 0 5)) 8 0 9 ((s + 1 : Nat) : Int)) := fr_sI (fr_sI (fr_sI f5 (by unfold ScnW; omega)) (by unfold ScnW; omega)) (by unfold ScnW; omega)
        have q6 : sxC (sI (sI (sI h5 48 0 (s : Int) (tokJ b n J).1) 49 0 (s : Int) (gI h5 8 0 5)) 8 0 9 ((s + 1 : Nat) : Int)) b n := sxC_fr (W := fun r _ k => r = 48 ∨ r = 49 ∨ (r = 8 ∧ k = 9)) (fr_sI (fr_sI (fr_sI fr_rf (by omega)) (by omega)) (by omega)) (by intro r k z; omega) q5
        have d9 : gI (sI (sI (sI h5 48 0 (s : Int) (tokJ b n J).1) 49 0 (s : Int) (gI h5 8 0 5)) 8 0 9 ((s + 1 : Nat) : Int)) 8 0 9 = ((s + 1 : Nat) : Int) := gI_eq
        have d3 : gI (sI (sI (sI h5 48 0 (s : Int) (tokJ b n J).1) 49 0 (s : Int) (gI h5 8 0 5)) 8 0 9 ((s + 1 : Nat) : Int)) 8 0 3 = (pos b n (s + 1) : Int) := by rw [gI_nk (by decide), gI_nr (by decide), gI_nr (by decide), nx]; exact c3
        have d4 : gI (sI (sI (sI h5 48 0 (s : Int) (tokJ b n J).1) 49 0 (s : Int) (gI h5 8 0 5)) 8 0 9 ((s + 1 : Nat) : Int)) 8 0 4 = (tokJ b n J).1 := by rw [gI_nk (by decide), gI_nr (by decide), gI_nr (by decide)]; exact c4
        have tk6 : tksC (sI (sI (sI h5 48 0 (s : Int) (tokJ b n J).1) 49 0 (s : Int) (gI h5 8 0 5)) 8 0 9 ((s + 1 : Nat) : Int)) b n (s + 1) := by
          intro t ht
          by_cases y : t = s
          · subst y
            show _ = (tok b n (pos b n t)).1 ∧ _ = ((tok b n (pos b n t)).2.2.1 : Int) ∧ ((tok b n (pos b n t)).1 ≠ 0 → (tok b n (pos b n t)).1 ≠ 5 → _ = (tok b n (pos b n t)).2.1)
            rw [eT, gI_nr (show (48 : Nat) ≠ 8 by decide), gI_nr (show (48 : Nat) ≠ 49 by decide), gI_eq, gI_nr (show (50 : Nat) ≠ 8 by decide), gI_nr (show (50 : Nat) ≠ 49 by decide), gI_nr (show (50 : Nat) ≠ 48 by decide), gI_nr (show (49 : Nat) ≠ 8 by decide), gI_eq]
            exact ⟨rfl, by rw [c50, tr.1], fun z1 z2 => c5 z1 z2⟩
          · rw [gI_nr (show (48 : Nat) ≠ 8 by decide), gI_nr (show (48 : Nat) ≠ 49 by decide), gI_nk (by omega), gI_nr (show (50 : Nat) ≠ 8 by decide), gI_nr (show (50 : Nat) ≠ 49 by decide), gI_nr (show (50 : Nat) ≠ 48 by decide), gI_nr (show (49 : Nat) ≠ 8 by decide), gI_nk (by omega), gI_nr (show (49 : Nat) ≠ 48 by decide)]
            exact tk5 t (by omega)
        generalize sI (sI (sI h5 48 0 (s : Int) (tokJ b n J).1) 49 0 (s : Int) (gI h5 8 0 5)) 8 0 9 ((s + 1 : Nat) : Int) = h6 at F6 q6 d9 d3 d4 tk6
        by_cases z : (tokJ b n J).1 = 0
        · refine s_X8_scan_1 (by omega) ?_
          unfold b_X8_scan_1
          have fin : ok (some ((0 : Int), h6)) (fun _ h' => Fr ScnW h h' ∧ ∃ s : Nat, 1 ≤ s ∧ s ≤ 801 ∧ gI h' 8 0 9 = (s : Int) ∧ tksC h' b n s ∧ tkK b n (s - 1) = 0 ∧ ∀ t : Nat, t + 1 < s → tkK b n t ≠ 0) := by
            refine ok_some ⟨F6, s + 1, by omega, by omega, d9, tk6, ?_, fun t ht => nz t (by omega)⟩
            show (tok b n (pos b n (s + 1 - 1))).1 = 0
            rw [Nat.add_sub_cancel, eT]; exact z
          exact ok_if (fun _ => fin) (fun _ => ok_t (by rw [d4]; exact z) fin)
        · refine ih _ h6 (s + 1) (by omega) (by rw [nx]; omega) F6 q6 d9 d3 (by rw [d4]; exact z) tk6 (fun t ht => ?_)
          by_cases y : t = s
          · subst y
            show (tok b n (pos b n t)).1 ≠ 0
            rw [eT]; exact z
          · exact nz t (by omega)
      clear ih
      have four : ∀ (m4 : Nat) (h4 : Hp), 2 * (n - J) + 5 * d + 13 ≤ m4 → Fr ScnW h h4 → sxC h4 b n → gI h4 8 0 9 = (s : Int) → gI h4 8 0 3 = (J : Int) → tksC h4 b n s → ok (g_X8_scan m4 4 [] h4) (fun _ h' => Fr ScnW h h' ∧ ∃ s : Nat, 1 ≤ s ∧ s ≤ 801 ∧ gI h' 8 0 9 = (s : Int) ∧ tksC h' b n s ∧ tkK b n (s - 1) = 0 ∧ ∀ t : Nat, t + 1 < s → tkK b n t ≠ 0) := by
        intro m4 h4 hm4 f4 q4 c9 c3 tk4
        refine s_X8_scan_4 (by omega) ?_
        unfold b_X8_scan_4
        rw [c9, c3]
        refine ok_ck (by omega) (ok_lt (ok_lt ?_))
        have G : Fr (fun r _ k => (r = 50 ∧ k = (s : Int)) ∨ (r = 8 ∧ k = 5)) h4 (sI (sI h4 50 0 (s : Int) (J : Int)) 8 0 5 0) := fr_sI (fr_sI fr_rf (by omega)) (by omega)
        have F5 : Fr ScnW h (sI (sI h4 50 0 (s : Int) (J : Int)) 8 0 5 0) := fr_tr f4 (fr_mo G (by intro r i k; unfold ScnW; omega))
        have q5 : sxC (sI (sI h4 50 0 (s : Int) (J : Int)) 8 0 5 0) b n := sxC_fr G (by intro r k z; omega) q4
        have d9 : gI (sI (sI h4 50 0 (s : Int) (J : Int)) 8 0 5 0) 8 0 9 = (s : Int) := by rw [gI_nk (by decide), gI_nr (by decide)]; exact c9
        have d3 : gI (sI (sI h4 50 0 (s : Int) (J : Int)) 8 0 5 0) 8 0 3 = (J : Int) := by rw [gI_nk (by decide), gI_nr (by decide)]; exact c3
        have d5 : gI (sI (sI h4 50 0 (s : Int) (J : Int)) 8 0 5 0) 8 0 5 = 0 := gI_eq
        have d50 : gI (sI (sI h4 50 0 (s : Int) (J : Int)) 8 0 5 0) 50 0 (s : Int) = (J : Int) := by rw [gI_nr (by decide), gI_eq]
        have tk5 : tksC (sI (sI h4 50 0 (s : Int) (J : Int)) 8 0 5 0) b n s := tksC_e (fun r t r1 r2 ht => G.1 r 0 t (by omega)) tk4
        generalize sI (sI h4 50 0 (s : Int) (J : Int)) 8 0 5 0 = h5 at F5 q5 d9 d3 d5 d50 tk5
        clear G
        rw [d3, q5.1]
        refine ok_if (fun u => ?_) (fun u => ?_)
        · have jn : J < n := by omega
          obtain ⟨y1, y2, y3⟩ := q5.2.2.1 J jn
          have sc := sb_c y2 y3
          have bj : byt b n J = b (J : Int) := byt_in jn
          rw [y1]
          have go : ∀ (m6 : Nat) (h6 : Hp), 2 * (n - (tokJ b n J).2.2.2) + 5 * d + 12 ≤ m6 → Fr TnW h5 h6 → gI h6 8 0 3 = ((tokJ b n J).2.2.2 : Int) → gI h6 8 0 4 = (tokJ b n J).1 → ((tokJ b n J).1 ≠ 5 → gI h6 8 0 5 = (tokJ b n J).2.1) → ok (g_X8_scan m6 5 [] h6) (fun _ h' => Fr ScnW h h' ∧ ∃ s : Nat, 1 ≤ s ∧ s ≤ 801 ∧ gI h' 8 0 9 = (s : Int) ∧ tksC h' b n s ∧ tkK b n (s - 1) = 0 ∧ ∀ t : Nat, t + 1 < s → tkK b n t ≠ 0) := by
            intro m6 h6 hm6 f6 g3 g4 g5
            exact five m6 h6 hm6 (fr_tr F5 (fr_mo f6 tn_sc)) (sxC_fr f6 (by intro r k; unfold TnW; omega) q5) ((f6.1 8 0 9 (by unfold TnW; omega)).trans d9) g3 g4 (fun _ z => g5 z) ((f6.1 50 0 s (by unfold TnW; omega)).trans d50) (tksC_e (fun r t r1 r2 ht => f6.1 r 0 t (by unfold TnW; omega)) tk5)
          refine ok_ck (by omega) (ok_be p_X8_isLetter (ok_if (fun v => ?_) (fun v => ?_)))
          · replace v := b2i_0.mp v
            have nl : ¬ isLe (byt b n J) = true := by rw [isLe_i, bj]; omega
            rw [d3, y1]
            refine ok_ck (by omega) (ok_be p_X8_isDigit (ok_if (fun v2 => ?_) (fun v2 => ?_)))
            · replace v2 := b2i_0.mp v2
              have nd : ¬ isDg (byt b n J) = true := by rw [isDg_i, bj]; omega
              have et : tokJ b n J = tokS b n J := by
                unfold tokJ
                rw [if_neg (by omega), if_neg nl, if_neg nd]
              rw [d3, y1]
              refine ok_ck (by omega) (ok_bq (p_X8_scanSign q5 d3 jn) ?_)
              intro _ h6 ⟨f6, g3, g4, g5⟩
              rw [← et] at g3 g4 g5
              exact go _ h6 (by omega) f6 g3 g4 g5
            · replace v2 := b2i_n.mp v2
              have id : isDg (byt b n J) = true := by rw [isDg_i, bj]; omega
              have et : tokJ b n J = tokN b n J := by
                unfold tokJ
                rw [if_neg (by omega), if_neg nl, if_pos id]
              refine ok_bq (p_X8_scanNumber q5 d3 rn d5) ?_
              intro _ h6 ⟨f6, g3, g4, g5⟩
              refine go _ h6 (by omega) f6 ?_ ?_ (fun _ => ?_)
              · rw [et]; exact g3
              · rw [et]; exact g4
              · rw [et]; exact g5
          · replace v := b2i_n.mp v
            have il : isLe (byt b n J) = true := by rw [isLe_i, bj]; omega
            have et : tokJ b n J = tokW b n J := by
              unfold tokJ
              rw [if_neg (by omega), if_pos il]
            have e4 : (tokW b n J).2.2.2 = run isLe b n J := by
              unfold tokW
              split
              · rfl
              · split <;> rfl
            refine ok_bq (p_X8_scanWord q5 d3 rn d5 (by rw [run_t jn il]; exact run_ge)) ?_
            intro _ h6 ⟨f6, g3, g4, g5⟩
            refine go _ h6 (by omega) f6 ?_ ?_ ?_
            · rw [et, e4]; exact g3
            · rw [et]; exact g4
            · rw [et]; exact g5
        · have et : tokJ b n J = (0, 0, J, J) := by
            unfold tokJ
            rw [if_pos (by omega)]
          refine ok_lt (five _ (sI h5 8 0 4 0) (by rw [et]; show 2 * (n - J) + 5 * d + 12 ≤ _; omega) (fr_sI F5 (by unfold ScnW; omega)) (sxC_fr (W := TnW) (fr_sI fr_rf (by unfold TnW; omega)) (by intro r k; unfold TnW; omega) q5) ?_ ?_ ?_ (fun z => ?_) ?_ (tksC_e (fun r t r1 r2 ht => gI_nr (by omega)) tk5))
          · rw [gI_nk (by decide)]; exact d9
          · rw [gI_nk (by decide), et]; exact d3
          · rw [et]; exact gI_eq
          · rw [et] at z; exact absurd rfl z
          · rw [gI_nr (by decide)]; exact d50
      clear five
      have two : ∀ (d2 m2 : Nat) (h2 : Hp) (i : Nat), n - i = d2 → i ≤ n → 2 * d2 + 5 * d + 14 ≤ m2 → run isBl b n i = J → Fr ScnW h h2 → sxC h2 b n → gI h2 8 0 9 = (s : Int) → gI h2 8 0 3 = (i : Int) → tksC h2 b n s → ok (g_X8_scan m2 2 [] h2) (fun _ h' => Fr ScnW h h' ∧ ∃ s : Nat, 1 ≤ s ∧ s ≤ 801 ∧ gI h' 8 0 9 = (s : Int) ∧ tksC h' b n s ∧ tkK b n (s - 1) = 0 ∧ ∀ t : Nat, t + 1 < s → tkK b n t ≠ 0) := by
        intro d2
        induction d2 with
        | zero =>
          intro m2 h2 i hd2 i2 hm2 er f2 q2 c9 c3 tk2
          have e : run isBl b n i = i := run_f (by rw [isBl_i, byt_out (by omega)]; omega)
          rw [e] at er
          subst er
          refine s_X8_scan_2 (by omega) ?_
          unfold b_X8_scan_2
          rw [q2.1, c3]
          exact ok_t (by omega) (four _ h2 (by omega) f2 q2 c9 c3 tk2)
        | succ d2 ih2 =>
          intro m2 h2 i hd2 i2 hm2 er f2 q2 c9 c3 tk2
          have lt : i < n := by omega
          obtain ⟨y1, y2, y3⟩ := q2.2.2.1 i lt
          have sc := sb_c y2 y3
          have bi : byt b n i = b (i : Int) := byt_in lt
          have three : ∀ m3 : Nat, 2 * d2 + 5 * d + 15 ≤ m3 → (b (i : Int) = 10 ∨ b (i : Int) = 32) → ok (g_X8_scan m3 3 [] h2) (fun _ h' => Fr ScnW h h' ∧ ∃ s : Nat, 1 ≤ s ∧ s ≤ 801 ∧ gI h' 8 0 9 = (s : Int) ∧ tksC h' b n s ∧ tkK b n (s - 1) = 0 ∧ ∀ t : Nat, t + 1 < s → tkK b n t ≠ 0) := by
            intro m3 hm3 bl
            refine s_X8_scan_3 (by omega) ?_
            unfold b_X8_scan_3
            rw [c3]
            refine ok_ck (by omega) (ok_lt (ih2 _ _ (i + 1) (by omega) (by omega) (by omega) ?_ (fr_sI f2 (by unfold ScnW; omega)) (sxC_fr (W := TnW) (fr_sI fr_rf (by unfold TnW; omega)) (by intro r k; unfold TnW; omega) q2) ?_ ?_ (tksC_e (fun r t r1 r2 ht => gI_nr (by omega)) tk2)))
            · rw [← er]; exact (run_t lt (by rw [isBl_i, bi]; exact bl)).symm
            · rw [gI_nk (by decide)]; exact c9
            · rw [gI_eq]; omega
          refine s_X8_scan_2 (by omega) ?_
          unfold b_X8_scan_2
          rw [q2.1, c3, y1]
          refine ok_f (by omega) (ok_ck (by omega) (ok_if (fun u => three _ (by omega) (by omega)) (fun u => ok_ck (by omega) (ok_if (fun u2 => three _ (by omega) (by omega)) (fun u2 => ?_)))))
          have e : run isBl b n i = i := run_f (by rw [isBl_i, bi]; omega)
          rw [e] at er
          subst er
          exact four _ h2 (by omega) f2 q2 c9 c3 tk2
      refine s_X8_scan_1 (by omega) ?_
      unfold b_X8_scan_1
      rw [a9]
      exact ok_f (by omega) (ok_f a4 (two (n - pos b n s) _ h1 (pos b n s) rfl pn (by omega) hJ f q a9 a3 tk))
  refine fuv_X8_scan (fun m hm => ?_)
  refine s_X8_scan_0 (by omega) ?_
  unfold b_X8_scan_0
  rw [show max 0 (min (n : Int) 800) = (n : Int) by omega]
  refine ok_lt (ok_lt (ok_lt (ok_lt (key 801 _ _ 0 rfl (by omega) (fr_sI (fr_sI (fr_sI (fr_sI fr_rf (by unfold ScnW; omega)) (by unfold ScnW; omega)) (by unfold ScnW; omega)) (by unfold ScnW; omega)) ⟨?_, n8, fun k hk => ?_, fun k hk2 => ?_⟩ ?_ ?_ ?_ (fun t ht => by omega) (fun t ht => by omega)))))
  · rw [gI_nk (by decide), gI_nk (by decide), gI_nk (by decide), gI_eq]
  · rw [gI_nr (by decide), gI_nr (by decide), gI_nr (by decide), gI_nr (by decide)]; exact hb k hk
  · rw [gI_nr (by decide), gI_nr (by decide), gI_nr (by decide), gI_nr (by decide)]; exact hk k hk2
  · rw [gI_nk (by decide), gI_eq]; rfl
  · rw [gI_nk (by decide), gI_nk (by decide), gI_eq]; rfl
  · rw [gI_eq]; decide
end
