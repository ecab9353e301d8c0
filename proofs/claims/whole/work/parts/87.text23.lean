/-! TEXT, 23: the reference's lines: isle, wind -/
section
variable {h h0 h2 : Hp} {b : Int → Int} {n t : Nat} {S I N G T M : Ch} {W W2 : Int → Int} {e : Int × Int}
set_option maxHeartbeats 1000000 in
theorem r_isle (F0 : Fr TxR h0 h) (q : rdE h b n t) (qs : drS h S) (ws : sW S) (qi : drI h I) (i0 : 0 ≤ I 0 0) (i3 : I 0 0 < 3) : ok (f_X12_isleLine (3 + I 0 0) h) (fun _ h' => endX (if tkK b n t ≠ 1 then .error (1, (tkP b n t : Int)) else @ite _ (nmP (I 1) (I 0 0) (tkV b n t)) (Classical.propDecidable _) (.error (3, (tkP b n t : Int))) (exB (watF b n S (t + 1)) fun w => exB (numF b n 0 9 (t + 3)) fun x => exB (numF b n 1 9 (t + 4)) fun y => .ok (W2, (ud (ud (ud (ud (ud I 1 (I 0 0) (tkV b n t)) 2 (I 0 0) w) 3 (I 0 0) x) 4 (I 0 0) y) 0 0 (I 0 0 + 1)), t + 5))) (baR h0 h') (fun a => Fr RIs h h' ∧ Fr TxR h0 h' ∧ rdE h' b n a.2.2 ∧ drI h' a.2.1 ∧ a.1 = W2)) := by
  have kk := tk_k (b := b) (n := n) t
  have rk := rK_r kk.1 kk.2
  have q30 : gI h 12 0 30 = rK (tkK b n t) := q.1.2.2.2.2.1
  have tw : ∀ r : Nat, 63 ≤ r → r ≤ 66 → TxR r 0 (3 + I 0 0) := by intro r r1 r2; unfold TxR; omega
  have fin : ∀ (e : Int × Int) (h5 : Hp), ftR h0 h5 e → ok (bd (f_X12_fresher 5 h5) fun v13 h14 => ck (-2147483648 ≤ v13 + 1 ∧ v13 + 1 < 2147483648) <| bd (f_X12_reads 5 (v13 + 1) h14) fun v15 h16 => some (0, h16)) (fun _ h' => baR h0 h' e) := by
    intro e h5 f
    have c := f.2 20 (by decide) (by decide)
    exact ok_be (p_fr (k := 20) (by decide) (by decide) (by decide)) (ok_ck (by omega) (ok_be (p_rd (k := 20) (by decide) (by decide) (by decide)) (ok_some (baR_w (by unfold TxR; omega) (by decide) f.1))))
  have one_f : ∀ (g : Nat) (h1 : Hp) (e : Int × Int), 0 < g → ftR h0 h1 e → ok (g_X12_isleLine g 1 [3 + I 0 0] h1) (fun _ h' => baR h0 h' e) := by
    intro g h1 e hg f
    refine s_X12_isleLine_1 hg ?_
    unfold b_X12_isleLine_1
    have f1 : ftR h0 (sI h1 63 0 (3 + I 0 0) (gI h1 12 0 31)) e := ftR_w (tw 63 (by decide) (by decide)) (by decide) (by decide) f
    refine ok_ck (by omega) (ok_lt ?_)
    generalize sI h1 63 0 (3 + I 0 0) (gI h1 12 0 31) = h3 at f1
    have f6 : ftR h0 (sI h3 64 0 (3 + I 0 0) 0) e := ftR_w (tw 64 (by decide) (by decide)) (by decide) (by decide) f1
    have f9 : ftR h0 (sI (sI h3 64 0 (3 + I 0 0) 0) 65 0 (3 + I 0 0) 0) e := ftR_w (tw 65 (by decide) (by decide)) (by decide) (by decide) f6
    exact goF f1 (ok_be (wat_f f1) (ok_ck (by omega) (ok_lt (nF f6 (ok_ck (by omega) (ok_lt (nF f9 (ok_ck (by omega) (ok_lt (fin e _ (ftR_w (tw 66 (by decide) (by decide)) (by decide) (by decide) f9)))))))))))
  refine fuv_X12_isleLine (fun m hm => ?_)
  refine s_X12_isleLine_0 (by omega) ?_
  unfold b_X12_isleLine_0
  rw [q30]
  by_cases k1 : tkK b n t = 1
  · have e31 : gI h 12 0 31 = tkV b n t := q.1.2.2.2.2.2.1 (Or.inl k1)
    rw [if_neg (fun y => y k1 : ¬ tkK b n t ≠ 1)]
    refine ok_t (rk.2.2.1.mpr k1) (ok_be (p_fr (k := 20) (by decide) (by decide) (by decide)) ?_)
    rw [qi.1, e31]
    refine ok_bq (p_X12_found_r63 (a := 3) (b := I 0 0) (by decide) i0 (by omega)) ?_
    intro r h4 ⟨e4, y⟩
    rw [e4]
    rcases y with ⟨y1, y2⟩ | ⟨y1, y2, y3, -⟩
    · have nn : ¬ nmP (I 1) (I 0 0) (tkV b n t) := fun ⟨k, k1, k2, k3⟩ => y2 k k1 k2 ((qi.2 k k1 k2).1.trans k3)
      refine ok_t y1 ?_
      rw [if_neg nn]
      refine s_X12_isleLine_1 (by omega) ?_
      unfold b_X12_isleLine_1
      rw [e31]
      have e1 : Fr (fun r _ k => r = 63 ∧ k = 3 + I 0 0) h (sI h 63 0 (3 + I 0 0) (tkV b n t)) := fr_sI fr_rf (by omega)
      refine ok_ck (by omega) (ok_lt (goR (fr_sI F0 (tw 63 (by decide) (by decide))) (rdE_v (by decide) q) ?_))
      intro _ h3 f3 G3 q3
      have E3 : Fr (fun r _ k => (r = 12 ∧ 28 ≤ k ∧ k ≤ 31) ∨ (r = 63 ∧ k = 3 + I 0 0)) h h3 := fr_tr (fr_mo e1 (by intro r i k; omega)) (fr_mo f3 (by intro r i k; unfold ToW; omega))
      refine ok_bq (r_wat G3 q3 (drS_e (fun k _ _ => E3.1 61 0 k (by omega)) (fun k _ => E3.1 62 0 k (by omega)) qs) ws) ?_
      intro v4 h5 z5
      cases eN : watF b n S (t + 1) with
      | error e =>
        rw [eN] at z5
        have f6 : ftR h0 (sI h5 64 0 (3 + I 0 0) v4) e := ftR_w (tw 64 (by decide) (by decide)) (by decide) (by decide) z5
        have f9 : ftR h0 (sI (sI h5 64 0 (3 + I 0 0) v4) 65 0 (3 + I 0 0) 0) e := ftR_w (tw 65 (by decide) (by decide)) (by decide) (by decide) f6
        exact ok_ck (by omega) (ok_lt (nF f6 (ok_ck (by omega) (ok_lt (nF f9 (ok_ck (by omega) (ok_lt (fin e _ (ftR_w (tw 66 (by decide) (by decide)) (by decide) (by decide) f9)))))))))
      | ok w =>
        rw [eN] at z5
        obtain ⟨z1, f5, G5, q5, cp, w6, -⟩ := z5
        rw [z1]
        show ok _ (fun _ h' => endX (exB (numF b n 0 9 (t + 3)) fun x => exB (numF b n 1 9 (t + 4)) fun y => .ok (W2, (ud (ud (ud (ud (ud I 1 (I 0 0) (tkV b n t)) 2 (I 0 0) w) 3 (I 0 0) x) 4 (I 0 0) y) 0 0 (I 0 0 + 1)), t + 5)) (baR h0 h') (fun a => Fr RIs h h' ∧ Fr TxR h0 h' ∧ rdE h' b n a.2.2 ∧ drI h' a.2.1 ∧ a.1 = W2))
        have e6 : Fr (fun r _ k => r = 64 ∧ k = 3 + I 0 0) h5 (sI h5 64 0 (3 + I 0 0) w) := fr_sI fr_rf (by omega)
        refine ok_ck (by omega) (ok_lt (nR (by decide) (fr_sI G5 (tw 64 (by decide) (by decide))) (rdE_v (by decide) q5) ?_ ?_))
        · intro x h8 ex f8 G8 q8 x1 x2
          rw [ex]
          have e9 : Fr (fun r _ k => r = 65 ∧ k = 3 + I 0 0) h8 (sI h8 65 0 (3 + I 0 0) x) := fr_sI fr_rf (by omega)
          refine ok_ck (by omega) (ok_lt (nR (by decide) (fr_sI G8 (tw 65 (by decide) (by decide))) (rdE_v (by decide) q8) ?_ ?_))
          · intro y h11 ey f11 G11 q11 y1 y2
            rw [ey]
            have e12 : Fr (fun r _ k => r = 66 ∧ k = 3 + I 0 0) h11 (sI h11 66 0 (3 + I 0 0) y) := fr_sI fr_rf (by omega)
            have F1 : Fr (fun r _ k => (r = 12 ∧ 28 ≤ k ∧ k ≤ 31) ∨ ((63 ≤ r ∧ r ≤ 66) ∧ k = 3 + I 0 0)) h (sI h11 66 0 (3 + I 0 0) y) := fr_tr (fr_mo E3 (by intro r i k; omega)) (fr_tr (fr_mo f5 (by intro r i k; unfold ToW; omega)) (fr_tr (fr_mo e6 (by intro r i k; omega)) (fr_tr (fr_mo f8 (by intro r i k; unfold ToW; omega)) (fr_tr (fr_mo e9 (by intro r i k; omega)) (fr_tr (fr_mo f11 (by intro r i k; unfold ToW; omega)) (fr_mo e12 (by intro r i k; omega)))))))
            have a63 : gI (sI h11 66 0 (3 + I 0 0) y) 63 0 (3 + I 0 0) = tkV b n t := by rw [gI_nr (by decide), f11.1 63 0 _ (by unfold ToW; omega), gI_nr (by decide), f8.1 63 0 _ (by unfold ToW; omega), gI_nr (by decide), f5.1 63 0 _ (by unfold ToW; omega), f3.1 63 0 _ (by unfold ToW; omega), gI_eq]
            have a64 : gI (sI h11 66 0 (3 + I 0 0) y) 64 0 (3 + I 0 0) = w := by rw [gI_nr (by decide), f11.1 64 0 _ (by unfold ToW; omega), gI_nr (by decide), f8.1 64 0 _ (by unfold ToW; omega), gI_eq]
            have a65 : gI (sI h11 66 0 (3 + I 0 0) y) 65 0 (3 + I 0 0) = x := by rw [gI_nr (by decide), f11.1 65 0 _ (by unfold ToW; omega), gI_eq]
            have a66 : gI (sI h11 66 0 (3 + I 0 0) y) 66 0 (3 + I 0 0) = y := gI_eq
            have G12 : Fr TxR h0 (sI h11 66 0 (3 + I 0 0) y) := fr_sI G11 (tw 66 (by decide) (by decide))
            have q12 : rdE (sI h11 66 0 (3 + I 0 0) y) b n (t + 5) := rdE_v (by decide) q11
            refine ok_ck (by omega) (ok_lt ?_)
            generalize sI h11 66 0 (3 + I 0 0) y = h12 at F1 a63 a64 a65 a66 G12 q12
            refine ok_be (p_fr (k := 20) (by decide) (by decide) (by decide)) ?_
            rw [F1.1 61 0 20 (by omega), qi.1]
            refine ok_ck (by omega) (ok_be (p_rd (k := 20) (by decide) (by decide) (by decide)) ?_)
            have e16 : Fr (fun r _ k => r = 61 ∧ k = 20) h12 (sI h12 61 0 20 (I 0 0 + 1)) := fr_sI fr_rf (by omega)
            refine ok_some (eX_o ⟨fr_tr (fr_mo F1 (by intro r i k; unfold RIs; omega)) (fr_mo e16 (by intro r i k; unfold RIs; omega)), fr_sI G12 (by unfold TxR; omega), rdE_w (by omega) (by omega) q12, ⟨gI_eq, fun k k1 k2 => ?_⟩, rfl⟩)
            have k2' : k < I 0 0 + 1 := k2
            have u1 : (ud (ud (ud (ud (ud I 1 (I 0 0) (tkV b n t)) 2 (I 0 0) w) 3 (I 0 0) x) 4 (I 0 0) y) 0 0 (I 0 0 + 1)) 1 k = if k = I 0 0 then tkV b n t else I 1 k := by simp [ud]
            have u2 : (ud (ud (ud (ud (ud I 1 (I 0 0) (tkV b n t)) 2 (I 0 0) w) 3 (I 0 0) x) 4 (I 0 0) y) 0 0 (I 0 0 + 1)) 2 k = if k = I 0 0 then w else I 2 k := by simp [ud]
            have u3 : (ud (ud (ud (ud (ud I 1 (I 0 0) (tkV b n t)) 2 (I 0 0) w) 3 (I 0 0) x) 4 (I 0 0) y) 0 0 (I 0 0 + 1)) 3 k = if k = I 0 0 then x else I 3 k := by simp [ud]
            have u4 : (ud (ud (ud (ud (ud I 1 (I 0 0) (tkV b n t)) 2 (I 0 0) w) 3 (I 0 0) x) 4 (I 0 0) y) 0 0 (I 0 0 + 1)) 4 k = if k = I 0 0 then y else I 4 k := by simp [ud]
            show _ = (ud (ud (ud (ud (ud I 1 (I 0 0) (tkV b n t)) 2 (I 0 0) w) 3 (I 0 0) x) 4 (I 0 0) y) 0 0 (I 0 0 + 1)) 1 k ∧ _ = (ud (ud (ud (ud (ud I 1 (I 0 0) (tkV b n t)) 2 (I 0 0) w) 3 (I 0 0) x) 4 (I 0 0) y) 0 0 (I 0 0 + 1)) 2 k ∧ _ = (ud (ud (ud (ud (ud I 1 (I 0 0) (tkV b n t)) 2 (I 0 0) w) 3 (I 0 0) x) 4 (I 0 0) y) 0 0 (I 0 0 + 1)) 3 k ∧ _ = (ud (ud (ud (ud (ud I 1 (I 0 0) (tkV b n t)) 2 (I 0 0) w) 3 (I 0 0) x) 4 (I 0 0) y) 0 0 (I 0 0 + 1)) 4 k
            rw [u1, u2, u3, u4, e16.1 63 0 _ (by omega), e16.1 64 0 _ (by omega), e16.1 65 0 _ (by omega), e16.1 66 0 _ (by omega)]
            by_cases kk : k = I 0 0
            · rw [if_pos kk, if_pos kk, if_pos kk, if_pos kk, kk]
              exact ⟨a63, a64, a65, a66⟩
            · rw [if_neg kk, if_neg kk, if_neg kk, if_neg kk, F1.1 63 0 _ (by omega), F1.1 64 0 _ (by omega), F1.1 65 0 _ (by omega), F1.1 66 0 _ (by omega)]
              exact qi.2 k k1 (by omega)
          · intro e h11 ey f11
            rw [ey]
            exact ok_ck (by omega) (ok_lt (fin e _ (ftR_w (tw 66 (by decide) (by decide)) (by decide) (by decide) f11)))
        · intro e h8 ex f8
          rw [ex]
          have f9 : ftR h0 (sI h8 65 0 (3 + I 0 0) 0) e := ftR_w (tw 65 (by decide) (by decide)) (by decide) (by decide) f8
          exact ok_ck (by omega) (ok_lt (nF f9 (ok_ck (by omega) (ok_lt (fin e _ (ftR_w (tw 66 (by decide) (by decide)) (by decide) (by decide) f9))))))
    · have nn : nmP (I 1) (I 0 0) (tkV b n t) := ⟨r, y1, y2, (qi.2 r y1 y2).1.symm.trans y3⟩
      refine ok_f (by omega) ?_
      rw [if_pos nn]
      refine wR F0 q (by decide) ?_
      intro _ h6 f6
      exact one_f _ h6 _ (by omega) f6
  · rw [if_pos (show tkK b n t ≠ 1 from k1)]
    refine ok_f (fun z => k1 (rk.2.2.1.mp z)) (wR F0 q (by decide) ?_)
    intro _ h6 f6
    exact one_f _ h6 _ (by omega) f6
theorem r_wd : ∀ (f k g : Nat) (N : Ch) (t : Nat) (h1 : Hp), f + k = 9 → k ≤ 8 → 3 * f + 1 ≤ g → (k ≠ 0 → tkK b n t = 3) → (∀ j, 0 ≤ j → j < (k : Int) → gI h1 67 0 (8 + j) = N 1 j) → rdE h1 b n t → Fr TxR h0 h1 → ok (g_X12_windLine g 1 [(k : Int)] h1) (fun _ h' => endX (wdF b n f k N t) (baR h0 h') (fun a => Fr RWi h1 h' ∧ Fr TxR h0 h' ∧ rdE h' b n a.2 ∧ drN h' a.1))
  | 0, k, g, N, t, h1, fk, k9, hg, kt, qn, q, F0 => by omega
  | f + 1, k, g, N, t, h1, fk, k9, hg, kt, qn, q, F0 => by
    have kk := tk_k (b := b) (n := n) t
    have rk := rK_r kk.1 kk.2
    have q30 : gI h1 12 0 30 = rK (tkK b n t) := q.1.2.2.2.2.1
    refine s_X12_windLine_1 (by omega) ?_
    unfold b_X12_windLine_1 wdF
    rw [q30]
    by_cases k8 : k = 8
    · have k3 : tkK b n t = 3 := kt (by omega)
      rw [if_pos (show k = 0 ∨ tkK b n t = 3 from Or.inr k3), if_pos k8]
      refine ok_t (rk.1.mpr k3) (ok_t (by omega) (wR F0 q (by decide) ?_))
      intro _ h2 f2
      refine s_X12_windLine_2 (by omega) ?_
      unfold b_X12_windLine_2
      exact nF f2 (ok_f (ba_0 f2.1) (ok_some (eX_e f2.1)))
    · have two : ok (g_X12_windLine (g - 1) 2 [(k : Int)] h1) (fun _ h' => endX (exB (numF b n 0 3 t) fun v => wdF b n f (k + 1) (ud (ud N 1 k v) 0 0 (k + 1)) (t + 1)) (baR h0 h') (fun a => Fr RWi h1 h' ∧ Fr TxR h0 h' ∧ rdE h' b n a.2 ∧ drN h' a.1)) := by
        refine s_X12_windLine_2 (by omega) ?_
        unfold b_X12_windLine_2
        refine nR (by decide) F0 q ?_ ?_
        · intro x h2 ex f2 G2 q2 x1 x2
          rw [ex]
          refine ok_t q2.2.1 (ok_ck (by omega) (ok_ck (by omega) (ok_lt (ok_ck (by omega) ?_))))
          have e3 : Fr (fun r _ j => r = 67 ∧ j = 8 + (k : Int)) h2 (sI h2 67 0 (8 + (k : Int)) x) := fr_sI fr_rf (by omega)
          have q3 : rdE (sI h2 67 0 (8 + (k : Int)) x) b n (t + 1) := rdE_v (by decide) q2
          have G3 : Fr TxR h0 (sI h2 67 0 (8 + (k : Int)) x) := fr_sI G2 (by unfold TxR; omega)
          have g3 : gI (sI h2 67 0 (8 + (k : Int)) x) 67 0 (8 + (k : Int)) = x := gI_eq
          generalize sI h2 67 0 (8 + (k : Int)) x = h3 at e3 q3 G3 g3
          have en : ∀ j, 0 ≤ j → j < ((k + 1 : Nat) : Int) → gI h3 67 0 (8 + j) = (ud (ud N 1 k x) 0 0 (k + 1)) 1 j := by
            intro j j1 j2
            have u1 : (ud (ud N 1 k x) 0 0 (k + 1)) 1 j = if j = (k : Int) then x else N 1 j := by simp [ud]
            rw [u1]
            by_cases jj : j = (k : Int)
            · rw [if_pos jj, jj]; exact g3
            · rw [if_neg jj, e3.1 67 0 _ (by omega), f2.1 67 0 _ (by unfold ToW; omega)]
              exact qn j j1 (by omega)
          have kk3 := tk_k (b := b) (n := n) (t + 1)
          have rk3 := rK_r kk3.1 kk3.2
          have q33 : gI h3 12 0 30 = rK (tkK b n (t + 1)) := q3.1.2.2.2.2.1
          rw [q33]
          show ok _ (fun _ h' => endX (wdF b n f (k + 1) (ud (ud N 1 k x) 0 0 (k + 1)) (t + 1)) (baR h0 h') (fun a => Fr RWi h1 h' ∧ Fr TxR h0 h' ∧ rdE h' b n a.2 ∧ drN h' a.1))
          have F3 : Fr RWi h1 h3 := fr_tr (fr_mo f2 (by intro r i k; unfold ToW RWi; omega)) (fr_mo e3 (by intro r i k; unfold RWi; omega))
          by_cases k3 : tkK b n (t + 1) = 3
          · refine ok_t (rk3.1.mpr k3) ?_
            have ih := r_wd f (k + 1) (g - 1 - 1) (ud (ud N 1 k x) 0 0 (k + 1)) (t + 1) h3 (by omega) (by omega) (by omega) (fun _ => k3) en q3 G3
            rw [show (((k + 1 : Nat)) : Int) = (k : Int) + 1 by omega] at ih
            refine ok_mono ih ?_
            intro r h' z
            exact eX_m z (fun e y => y) (fun a _ ⟨y2, y3⟩ => ⟨fr_tr F3 y2, y3⟩)
          · refine ok_f (fun z => k3 (rk3.1.mp z)) (ok_be (p_rd (k := 21) (by decide) (by decide) (by decide)) ?_)
            cases f with
            | zero => omega
            | succ f =>
              have ew : wdF b n (f + 1) (k + 1) (ud (ud N 1 k x) 0 0 (k + 1)) (t + 1) = .ok ((ud (ud N 1 k x) 0 0 (k + 1)), t + 1) := by
                unfold wdF
                rw [if_neg (by omega)]
              rw [ew]
              have e5 : Fr (fun r _ j => r = 61 ∧ j = 21) h3 (sI h3 61 0 21 ((k : Int) + 1)) := fr_sI fr_rf (by omega)
              have u0 : (ud (ud N 1 k x) 0 0 (k + 1)) 0 0 = (k : Int) + 1 := ud_eq
              exact ok_some (eX_o ⟨fr_tr F3 (fr_mo e5 (by intro r i k; unfold RWi; omega)), fr_sI G3 (by unfold TxR; omega), rdE_w (by omega) (by omega) q3, gI_eq.trans u0.symm, fun j j1 j2 => (e5.1 67 0 _ (by omega)).trans (en j j1 (by have j3 : j < (k : Int) + 1 := j2; omega))⟩)
        · intro e h2 ex f2
          rw [ex]
          exact ok_f (ba_0 f2.1) (ok_some (eX_e f2.1))
      have z : k = 0 ∨ tkK b n t = 3 := by
        by_cases y : k = 0
        · exact Or.inl y
        · exact Or.inr (kt y)
      have k8' : ¬ (k : Int) = 8 := by omega
      refine ok_if (fun u => ok_f k8' ?_) (fun u => ?_)
      · rw [if_pos z, if_neg k8]; exact two
      · rw [if_pos z, if_neg k8]; exact two
theorem r_wind (F0 : Fr TxR h0 h) (q : rdE h b n t) : ok (f_X12_windLine h) (fun _ h' => endX (wdF b n 9 0 N t) (baR h0 h') (fun a => Fr RWi h h' ∧ Fr TxR h0 h' ∧ rdE h' b n a.2 ∧ drN h' a.1)) := by
  refine fuv_X12_windLine (fun m hm => ?_)
  refine s_X12_windLine_0 (by omega) ?_
  unfold b_X12_windLine_0
  exact r_wd 9 0 (m - 1) N t h rfl (by omega) (by omega) (fun z => absurd rfl z) (fun j j1 j2 => absurd j2 (by omega)) q F0
end
