/-! TEXT, 28: the reference's line, whole -/
section
variable {h h0 h1 : Hp} {b : Int → Int} {n t : Nat} {D : Dr} {w pl : Int}
theorem bo_0 (a : dW D 0 ≠ 1) (c : ¬ (dW D 1 = 1 ∨ dW D 2 = 1 ∨ dW D 3 = 1 ∨ dW D 4 = 1)) : bodF b n D 0 (t + 1) (tkP b n t : Int) = exM (exB (numF b n 1 8 (t + 1)) fun x => exB (numF b n 1 8 (t + 1 + 1)) fun y => .ok (tdF (dW D) 0, ud (ud (dS D) 0 0 x) 1 0 y, t + 1 + 2)) (pkS D) := by
  unfold bodF
  rw [if_pos rfl]
  unfold seaF onF
  rw [if_neg a]
  show exM (if dW D 1 = 1 ∨ dW D 2 = 1 ∨ dW D 3 = 1 ∨ dW D 4 = 1 then _ else _) _ = _
  rw [if_neg c]
theorem bo_1 (a : dS D 5 0 < 20) : bodF b n D 1 (t + 1) (tkP b n t : Int) = exM (exB (celF b n (dS D) (t + 1)) fun c => if dS D 2 c = 1 then .error (3, (tkP b n (t + 1 + 1) : Int)) else @ite _ (onL (dW D) (dS D) (dI D) c) (Classical.propDecidable _) (.error (5, (tkP b n (t + 1 + 1) : Int))) (.ok (tdF (dW D) 1, ud (ud (dS D) 2 c 1) 5 0 (dS D 5 0 + 1), t + 1 + 2))) (pkS D) := by
  unfold bodF
  rw [if_neg (by decide), if_pos rfl]
  unfold lanF
  rw [if_neg (by omega)]
theorem bo_2 (a : dW D 2 ≠ 1) : bodF b n D 2 (t + 1) (tkP b n t : Int) = exM (exB (watF b n (dS D) (t + 1)) fun c => .ok (tdF (dW D) 2, ud (dS D) 3 0 c, t + 1 + 2)) (pkS D) := by
  unfold bodF
  rw [if_neg (by decide), if_neg (by decide), if_pos rfl]
  unfold shiF onF
  rw [if_neg a]
  rfl
theorem bo_3 (a : dW D 3 ≠ 1) : bodF b n D 3 (t + 1) (tkP b n t : Int) = exM (exB (watF b n (dS D) (t + 1)) fun c => .ok (tdF (dW D) 3, ud (dS D) 4 0 c, t + 1 + 2)) (pkS D) := by
  unfold bodF
  rw [if_neg (by decide), if_neg (by decide), if_neg (by decide), if_pos rfl]
  unfold shiF onF
  rw [if_neg a]
  rfl
theorem bo_4 (a : dI D 0 0 < 3) : bodF b n D 4 (t + 1) (tkP b n t : Int) = exM (if tkK b n (t + 1) ≠ 1 then .error (1, (tkP b n (t + 1) : Int)) else @ite _ (nmP (dI D 1) (dI D 0 0) (tkV b n (t + 1))) (Classical.propDecidable _) (.error (3, (tkP b n (t + 1) : Int))) (exB (watF b n (dS D) (t + 1 + 1)) fun c => exB (numF b n 0 9 (t + 1 + 3)) fun x => exB (numF b n 1 9 (t + 1 + 4)) fun y => .ok (tdF (dW D) 4, ud (ud (ud (ud (ud (dI D) 1 (dI D 0 0) (tkV b n (t + 1))) 2 (dI D 0 0) c) 3 (dI D 0 0) x) 4 (dI D 0 0) y) 0 0 (dI D 0 0 + 1), t + 1 + 5))) (pkI D) := by
  unfold bodF
  rw [if_neg (by decide), if_neg (by decide), if_neg (by decide), if_neg (by decide), if_pos rfl]
  unfold islF
  rw [if_neg (by omega)]
theorem bo_5 (a : dW D 5 ≠ 1) : bodF b n D 5 (t + 1) (tkP b n t : Int) = exM (exB (wdF b n 9 0 (dN D) (t + 1)) fun r => .ok (tdF (dW D) 5, r.1, r.2)) (pkWn D) := by
  unfold bodF
  rw [if_neg (by decide), if_neg (by decide), if_neg (by decide), if_neg (by decide), if_neg (by decide), if_pos rfl]
  unfold winF onF
  rw [if_neg a]
  rfl
theorem bo_6 (a : dG D 0 0 < 4) : bodF b n D 6 (t + 1) (tkP b n t : Int) = exM (exB (numF b n 0 59 (t + 1)) fun x => exB (numF b n 0 3 (t + 1 + 1)) fun y => exB (numF b n 1 99 (t + 1 + 2)) fun z => .ok (ud (ud (ud (ud (dG D) 1 (dG D 0 0) x) 2 (dG D 0 0) y) 3 (dG D 0 0) z) 0 0 (dG D 0 0 + 1), t + 1 + 3)) (pkG D) := by
  unfold bodF
  rw [if_neg (by decide), if_neg (by decide), if_neg (by decide), if_neg (by decide), if_neg (by decide), if_neg (by decide), if_pos rfl]
  unfold galF
  rw [if_neg (by omega)]
theorem bo_7 (a : dW D 7 ≠ 1) : bodF b n D 7 (t + 1) (tkP b n t : Int) = exM (exB (numF b n 0 99 (t + 1)) fun x => exB (numF b n 1 99 (t + 1 + 1)) fun y => .ok (tdF (dW D) 7, ud (ud (dT D) 0 0 x) 1 0 y, t + 1 + 2)) (pkT D) := by
  unfold bodF
  rw [if_neg (by decide), if_neg (by decide), if_neg (by decide), if_neg (by decide), if_neg (by decide), if_neg (by decide), if_neg (by decide), if_pos rfl]
  unfold stmF onF
  rw [if_neg a]
  rfl
theorem bo_8 (a : dW D 8 ≠ 1) : bodF b n D 8 (t + 1) (tkP b n t : Int) = exM (exB (numF b n 0 9999 (t + 1)) fun x => .ok (tdF (dW D) 8, ud (dT D) 2 0 x, t + 1 + 1)) (pkT D) := by
  unfold bodF
  rw [if_neg (by decide), if_neg (by decide), if_neg (by decide), if_neg (by decide), if_neg (by decide), if_neg (by decide), if_neg (by decide), if_neg (by decide), if_pos rfl]
  unfold stoF onF
  rw [if_neg a]
  rfl
theorem bo_9 (a : dW D 9 ≠ 1) : bodF b n D 9 (t + 1) (tkP b n t : Int) = exM (exB (numF b n 0 99999 (t + 1)) fun x => .ok (tdF (dW D) 9, ud (dT D) 3 0 x, t + 1 + 1)) (pkT D) := by
  unfold bodF
  rw [if_neg (by decide), if_neg (by decide), if_neg (by decide), if_neg (by decide), if_neg (by decide), if_neg (by decide), if_neg (by decide), if_neg (by decide), if_neg (by decide), if_pos rfl]
  unfold stoF onF
  rw [if_neg a]
  rfl
theorem bo_10 (a : dM D 0 0 < 5) : bodF b n D 10 (t + 1) (tkP b n t : Int) = exM (if tkK b n (t + 1) ≠ 1 then .error (1, (tkP b n (t + 1) : Int)) else @ite _ (crP (dM D) (tkV b n (t + 1))) (Classical.propDecidable _) (.error (3, (tkP b n (t + 1) : Int))) (exB (numF b n 0 9 (t + 1 + 1)) fun p => exB (if false = true then oddF b n (t + 1 + 2) else .ok (0, t + 1 + 2)) fun od => exB (rsF b n 5 (fun _ => 0) (mR (tkV b n (t + 1)) p od.1) od.2) fun r => exB (runE b n 801 (dO D) [] r.2 true (dK D) 0) fun q => .ok (MU false (dM D) (ur (ur r.1 8 ((dO D).length : Int)) 9 (q.1.length : Int)), q.1, q.2.2, q.2.1))) (pkM D) := by
  unfold bodF
  rw [if_neg (by decide), if_neg (by decide), if_neg (by decide), if_neg (by decide), if_neg (by decide), if_neg (by decide), if_neg (by decide), if_neg (by decide), if_neg (by decide), if_neg (by decide), if_pos rfl]
  unfold mouF
  rw [if_neg (show ¬ (if false = true then 4 ≤ dM D 1 0 else 5 ≤ dM D 0 0) by show ¬ 5 ≤ dM D 0 0; omega)]
theorem bo_11 (a : dM D 1 0 < 4) : bodF b n D 11 (t + 1) (tkP b n t : Int) = exM (if tkK b n (t + 1) ≠ 1 then .error (1, (tkP b n (t + 1) : Int)) else @ite _ (crP (dM D) (tkV b n (t + 1))) (Classical.propDecidable _) (.error (3, (tkP b n (t + 1) : Int))) (exB (numF b n 0 9 (t + 1 + 1)) fun p => exB (if true = true then oddF b n (t + 1 + 2) else .ok (0, t + 1 + 2)) fun od => exB (rsF b n 5 (fun _ => 0) (mR (tkV b n (t + 1)) p od.1) od.2) fun r => exB (runE b n 801 (dO D) [] r.2 true (dK D) 0) fun q => .ok (MU true (dM D) (ur (ur r.1 8 ((dO D).length : Int)) 9 (q.1.length : Int)), q.1, q.2.2, q.2.1))) (pkM D) := by
  unfold bodF
  rw [if_neg (by decide), if_neg (by decide), if_neg (by decide), if_neg (by decide), if_neg (by decide), if_neg (by decide), if_neg (by decide), if_neg (by decide), if_neg (by decide), if_neg (by decide), if_neg (by decide), if_pos rfl]
  unfold mouF
  rw [if_neg (show ¬ (if true = true then 4 ≤ dM D 1 0 else 5 ≤ dM D 0 0) by show ¬ 4 ≤ dM D 1 0; omega)]
theorem bf_1 (a : dS D 5 0 = 20) : bodF b n D 1 t pl = .error (2, pl) := by
  unfold bodF
  rw [if_neg (by decide), if_pos rfl]
  unfold lanF
  rw [if_pos (by omega)]
  rfl
theorem bf_4 (a : dI D 0 0 = 3) : bodF b n D 4 t pl = .error (2, pl) := by
  unfold bodF
  rw [if_neg (by decide), if_neg (by decide), if_neg (by decide), if_neg (by decide), if_pos rfl]
  unfold islF
  rw [if_pos (by omega)]
  rfl
theorem bf_6 (a : dG D 0 0 = 4) : bodF b n D 6 t pl = .error (2, pl) := by
  unfold bodF
  rw [if_neg (by decide), if_neg (by decide), if_neg (by decide), if_neg (by decide), if_neg (by decide), if_neg (by decide), if_pos rfl]
  unfold galF
  rw [if_pos (by omega)]
  rfl
theorem bf_10 (a : dM D 0 0 = 5) : bodF b n D 10 t pl = .error (2, pl) := by
  unfold bodF
  rw [if_neg (by decide), if_neg (by decide), if_neg (by decide), if_neg (by decide), if_neg (by decide), if_neg (by decide), if_neg (by decide), if_neg (by decide), if_neg (by decide), if_neg (by decide), if_pos rfl]
  unfold mouF
  rw [if_pos (show (if false = true then 4 ≤ dM D 1 0 else 5 ≤ dM D 0 0) by show 5 ≤ dM D 0 0; omega)]
  rfl
theorem bf_11 (a : dM D 1 0 = 4) : bodF b n D 11 t pl = .error (2, pl) := by
  unfold bodF
  rw [if_neg (by decide), if_neg (by decide), if_neg (by decide), if_neg (by decide), if_neg (by decide), if_neg (by decide), if_neg (by decide), if_neg (by decide), if_neg (by decide), if_neg (by decide), if_neg (by decide), if_pos rfl]
  unfold mouF
  rw [if_pos (show (if true = true then 4 ≤ dM D 1 0 else 5 ≤ dM D 0 0) by show 4 ≤ dM D 1 0; omega)]
  rfl
theorem bt_0 (a : dW D 0 = 1) : bodF b n D 0 t pl = .error (3, pl) := by
  unfold bodF
  rw [if_pos rfl]
  unfold seaF onF
  rw [if_pos a]
  rfl
theorem bt_2 (a : dW D 2 = 1) : bodF b n D 2 t pl = .error (3, pl) := by
  unfold bodF
  rw [if_neg (by decide), if_neg (by decide), if_pos rfl]
  unfold shiF onF
  rw [if_pos a]
  rfl
theorem bt_3 (a : dW D 3 = 1) : bodF b n D 3 t pl = .error (3, pl) := by
  unfold bodF
  rw [if_neg (by decide), if_neg (by decide), if_neg (by decide), if_pos rfl]
  unfold shiF onF
  rw [if_pos a]
  rfl
theorem bt_5 (a : dW D 5 = 1) : bodF b n D 5 t pl = .error (3, pl) := by
  unfold bodF
  rw [if_neg (by decide), if_neg (by decide), if_neg (by decide), if_neg (by decide), if_neg (by decide), if_pos rfl]
  unfold winF onF
  rw [if_pos a]
  rfl
theorem bt_7 (a : dW D 7 = 1) : bodF b n D 7 t pl = .error (3, pl) := by
  unfold bodF
  rw [if_neg (by decide), if_neg (by decide), if_neg (by decide), if_neg (by decide), if_neg (by decide), if_neg (by decide), if_neg (by decide), if_pos rfl]
  unfold stmF onF
  rw [if_pos a]
  rfl
theorem bt_8 (a : dW D 8 = 1) : bodF b n D 8 t pl = .error (3, pl) := by
  unfold bodF
  rw [if_neg (by decide), if_neg (by decide), if_neg (by decide), if_neg (by decide), if_neg (by decide), if_neg (by decide), if_neg (by decide), if_neg (by decide), if_pos rfl]
  unfold stoF onF
  rw [if_pos a]
  rfl
theorem bt_9 (a : dW D 9 = 1) : bodF b n D 9 t pl = .error (3, pl) := by
  unfold bodF
  rw [if_neg (by decide), if_neg (by decide), if_neg (by decide), if_neg (by decide), if_neg (by decide), if_neg (by decide), if_neg (by decide), if_neg (by decide), if_neg (by decide), if_pos rfl]
  unfold stoF onF
  rw [if_pos a]
  rfl
theorem bs_0 (a : dW D 0 ≠ 1) (c : dW D 1 = 1 ∨ dW D 2 = 1 ∨ dW D 3 = 1 ∨ dW D 4 = 1) : bodF b n D 0 t pl = .error (4, pl) := by
  unfold bodF
  rw [if_pos rfl]
  unfold seaF onF
  rw [if_neg a]
  show exM (if dW D 1 = 1 ∨ dW D 2 = 1 ∨ dW D 3 = 1 ∨ dW D 4 = 1 then _ else _) _ = _
  rw [if_pos c]
  rfl
theorem bn_x (a : w < 0 ∨ 11 < w) : bodF b n D w t pl = .error (1, pl) := by
  unfold bodF
  rw [if_neg (by omega), if_neg (by omega), if_neg (by omega), if_neg (by omega), if_neg (by omega), if_neg (by omega), if_neg (by omega), if_neg (by omega), if_neg (by omega), if_neg (by omega), if_neg (by omega), if_neg (by omega)]
theorem r_line (L : 0 ≤ gI h 12 0 26 ∧ gI h 12 0 26 ≤ 1000) (w0 : dw0 D) (q : dR h b n D t) : ok (f_X12_line h) (fun _ h' => endX (lnF b n D t) (baR h h') (goL b n h h')) := by
  have kk := tk_k (b := b) (n := n) t
  have rk := rK_r kk.1 kk.2
  have q30 : gI h 12 0 30 = rK (tkK b n t) := q.1.1.2.2.2.2.1
  refine fuv_X12_line (fun g hg => ?_)
  refine s_X12_line_0 (by omega) ?_
  unfold b_X12_line_0 lnF
  rw [q30]
  obtain ⟨w, ew⟩ : ∃ w, kyT b n t = w := ⟨_, rfl⟩
  have one : ∀ g1 : Nat, 0 < g1 → (w < 0 ∨ 11 < w) → ok (g_X12_line g1 1 [] h) (fun _ h' => endX (exB (bodF b n D w (t + 1) (tkP b n t : Int)) (enF b n)) (baR h h') (goL b n h h')) := by
    intro g1 hg1 z
    rw [bn_x z]
    refine s_X12_line_1 hg1 ?_
    unfold b_X12_line_1
    refine wR fr_rf q.1 (by decide) ?_
    intro _ h2 f2
    exact ok_some (eX_e f2.1)
  rw [ew]
  by_cases k2 : tkK b n t = 2
  · have e31 : gI h 12 0 31 = tkV b n t := q.1.1.2.2.2.2.2.1 (Or.inr k2)
    have ek : kyT b n t = tkV b n t := if_pos k2
    have rv := (tk_v (b := b) (n := n) t).2.1 k2
    rw [← ek, ew] at e31 rv
    rw [e31]
    refine ok_t (rk.2.1.mpr k2) (ok_if (fun w11 => ok_lt ?_) (fun w11 => one _ (by omega) (by omega)))
    -- behind the tests
    have err : ∀ (g1 : Nat) (x : Int) (h2 : Hp), 0 < g1 → ftR h h2 (x, (tkP b n t : Int)) → bodF b n D w (t + 1) (tkP b n t : Int) = .error (x, (tkP b n t : Int)) → ok (g_X12_line g1 4 [w] h2) (fun _ h' => endX (exB (bodF b n D w (t + 1) (tkP b n t : Int)) (enF b n)) (baR h h') (goL b n h h')) := by
      intro g1 x h2 hg1 f2 e
      rw [e]
      exact r4_f hg1 f2
    have two : ∀ g1 : Nat, 20 ≤ g1 → ¬ fuP D w → (onP w → dW D w ≠ 1) → ok (g_X12_line g1 2 [w] h) (fun _ h' => endX (exB (bodF b n D w (t + 1) (tkP b n t : Int)) (enF b n)) (baR h h') (goL b n h h')) := by
      intro g1 hg1 nf no
      refine s_X12_line_2 (by omega) ?_
      unfold b_X12_line_2
      unfold fuP at nf
      have wi := w0.2.1
      have wg := w0.2.2.1
      have wm := w0.2.2.2.1
      have ws := w0.1.2.2
      refine ok_if (fun e0 => ?_) (fun e0 => ?_)
      · subst e0
        have a := no (Or.inl rfl)
        have i1 := p12_isTold (w := 1) q.2.2.2.2.2.2.2.2.2.2.1 (by decide) (by decide) (by decide)
        have i2 := p12_isTold (w := 2) q.2.2.2.2.2.2.2.2.2.2.1 (by decide) (by decide) (by decide)
        have i3 := p12_isTold (w := 3) q.2.2.2.2.2.2.2.2.2.2.1 (by decide) (by decide) (by decide)
        have i4 := p12_isTold (w := 4) q.2.2.2.2.2.2.2.2.2.2.1 (by decide) (by decide) (by decide)
        have three : ∀ g2 : Nat, 2 ≤ g2 → (dW D 1 = 1 ∨ dW D 2 = 1 ∨ dW D 3 = 1 ∨ dW D 4 = 1) → ok (g_X12_line g2 3 [0] h) (fun _ h' => endX (exB (bodF b n D 0 (t + 1) (tkP b n t : Int)) (enF b n)) (baR h h') (goL b n h h')) := by
          intro g2 hg2 c
          refine s_X12_line_3 (by omega) ?_
          unfold b_X12_line_3
          refine wR fr_rf q.1 (by decide) ?_
          intro _ h2 f2
          exact err _ 4 h2 (by omega) f2 (bs_0 a c)
        refine ok_be i1 (ok_if (fun u1 => ok_be i2 (ok_if (fun u2 => ok_be i3 (ok_if (fun u3 => ok_be i4 (ok_if (fun u4 => ?_) (fun u4 => three _ (by omega) (Or.inr (Or.inr (Or.inr (b2i_n.mp u4))))))) (fun u3 => three _ (by omega) (Or.inr (Or.inr (Or.inl (b2i_n.mp u3))))))) (fun u2 => three _ (by omega) (Or.inr (Or.inl (b2i_n.mp u2)))))) (fun u1 => three _ (by omega) (Or.inl (b2i_n.mp u1))))
        have c : ¬ (dW D 1 = 1 ∨ dW D 2 = 1 ∨ dW D 3 = 1 ∨ dW D 4 = 1) := fun z => by
          rcases z with y | y | y | y
          · exact b2i_0.mp u1 y
          · exact b2i_0.mp u2 y
          · exact b2i_0.mp u3 y
          · exact b2i_0.mp u4 y
        rw [bo_0 a c]
        exact rw_0 (by omega) L w0 q
      · have cs : w = 1 ∨ w = 2 ∨ w = 3 ∨ w = 4 ∨ w = 5 ∨ w = 6 ∨ w = 7 ∨ w = 8 ∨ w = 9 ∨ w = 10 ∨ w = 11 := by omega
        rcases cs with e | e | e | e | e | e | e | e | e | e | e
        · subst e
          have a : dS D 5 0 < 20 := by omega
          rw [bo_1 a]
          exact rw_1 (by omega) L w0 a q
        · subst e
          rw [bo_2 (no (by unfold onP; omega))]
          exact rw_2 (by omega) L w0 q
        · subst e
          rw [bo_3 (no (by unfold onP; omega))]
          exact rw_3 (by omega) L w0 q
        · subst e
          have a : dI D 0 0 < 3 := by omega
          rw [bo_4 a]
          exact rw_4 (by omega) L w0 a q
        · subst e
          rw [bo_5 (no (by unfold onP; omega))]
          exact rw_5 (by omega) L w0 q
        · subst e
          have a : dG D 0 0 < 4 := by omega
          rw [bo_6 a]
          exact rw_6 (by omega) L w0 a q
        · subst e
          rw [bo_7 (no (by unfold onP; omega))]
          exact rw_7 (by omega) L w0 q
        · subst e
          rw [bo_8 (no (by unfold onP; omega))]
          exact rw_8 (by omega) L w0 q
        · subst e
          rw [bo_9 (no (by unfold onP; omega))]
          exact rw_9 (by omega) L w0 q
        · subst e
          have a : dM D 0 0 < 5 := by omega
          rw [bo_10 a]
          exact rw_10 (by omega) L w0 a q
        · subst e
          have a : dM D 1 0 < 4 := by omega
          rw [bo_11 a]
          exact rw_11 (by omega) L w0 a q
    refine ok_bq (p_full (w := w) q) ?_
    intro v2 h3 ⟨e3, z⟩
    rw [e3]
    rcases z with ⟨z1, z2⟩ | ⟨z1, z2⟩
    · refine ok_t z1 (ok_bq (p_once (w := w)) ?_)
      intro v4 h5 ⟨e5, y⟩
      rw [e5]
      rcases y with ⟨y1, y2⟩ | ⟨y1, y2⟩
      · exact ok_t y1 (two _ (by omega) z2 (fun y => absurd y y2))
      · have y3 := y2
        unfold onP at y3
        refine ok_f y1 (ok_be (p12_isTold (w := w) q.2.2.2.2.2.2.2.2.2.2.1 (by omega) (by omega) (by omega)) (ok_if (fun u => two _ (by omega) z2 (fun _ => b2i_0.mp u)) (fun u => ?_)))
        have u := b2i_n.mp u
        refine wR fr_rf q.1 (by decide) ?_
        intro _ h2 f2
        refine err _ 3 h2 (by omega) f2 ?_
        have cs : w = 0 ∨ w = 2 ∨ w = 3 ∨ w = 5 ∨ w = 7 ∨ w = 8 ∨ w = 9 := by omega
        rcases cs with e | e | e | e | e | e | e <;> subst e
        · exact bt_0 u
        · exact bt_2 u
        · exact bt_3 u
        · exact bt_5 u
        · exact bt_7 u
        · exact bt_8 u
        · exact bt_9 u
    · refine ok_f z1 (wR fr_rf q.1 (by decide) ?_)
      intro _ h2 f2
      refine err _ 2 h2 (by omega) f2 ?_
      rcases z2 with ⟨e, a⟩ | ⟨e, a⟩ | ⟨e, a⟩ | ⟨e, a⟩ | ⟨e, a⟩ <;> subst e
      · exact bf_1 a
      · exact bf_4 a
      · exact bf_6 a
      · exact bf_10 a
      · exact bf_11 a
  · have ek : kyT b n t = -1 := if_neg k2
    exact ok_f (fun z => k2 (rk.2.1.mp z)) (one _ (by omega) (by omega))
end
