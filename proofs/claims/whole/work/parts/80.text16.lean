/-! TEXT, 16: the class's lines: isle, wind, end -/
section
variable {h h0 : Hp} {c pl : Int} {π : Int → Int} {b : Int → Int} {n s t : Nat} {S I N G T M : Ch} {W : Int → Int}
theorem aC (F0 : Fr (TxC c) h0 h) (q : rdF h b n s t) : ok (f_X7_advance h) (fun _ h' => Fr AdW h h' ∧ Fr (TxC c) h0 h' ∧ rdF h' b n s (t + 1)) := by
  refine ok_mono (p_X7_advance q.1) ?_
  intro _ h' ⟨f, r⟩
  exact ⟨f, fr_tr F0 (fr_mo f ad_tx), r, (f.1 7 0 3 (by unfold AdW; omega)).trans q.2.1, (f.1 7 0 4 (by unfold AdW; omega)).trans q.2.2⟩
theorem l_isle (rc : gR h 7 0 1 = some (0, c)) (qs : dcS h c S) (ws : sW S) (qi : dcI h c I) (i0 : 0 ≤ I 0 0) (i3 : I 0 0 ≤ 3) (qw : dcW h W) (q : rdF h b n s t) (F0 : Fr (TxC c) h0 h) : ok (f_X7_readIsle pl h) (fun r h' => endX (islF b n W S I t pl) (baC c h0 r h') (fun a => r = 1 ∧ Fr (IsW c) h h' ∧ Fr (TxC c) h0 h' ∧ rdF h' b n s a.2.2 ∧ dcW h' a.1 ∧ dcI h' c a.2.1)) := by
  have k6 : gI h 7 0 6 = tkK b n t := q.1.2.2.1
  have k7 : gI h 7 0 7 = (tkP b n t : Int) := q.1.2.2.2.1
  refine fuv_X7_readIsle (fun m hm => ?_)
  refine s_X7_readIsle_0 (by omega) ?_
  unfold b_X7_readIsle_0 islF
  refine ok_rf rc (ok_lt ?_)
  rw [qi.1]
  refine ok_f (by omega) ?_
  by_cases z3 : 3 ≤ I 0 0
  · rw [if_pos z3]
    refine ok_f (by omega) ?_
    refine s_X7_readIsle_1 (by omega) ?_
    unfold b_X7_readIsle_1
    exact wC F0
  · rw [if_neg z3, k6]
    refine ok_t (by omega) ?_
    by_cases k1 : tkK b n t = 1
    · have k8 : gI h 7 0 8 = tkV b n t := q.1.2.2.2.2.1 (by omega) (by omega)
      refine ok_t k1 ?_
      rw [k8, if_neg (fun y => y k1)]
      refine ok_bq (p_isleNm qi i0 i3) ?_
      intro r h4 ⟨e4, y⟩
      rw [e4]
      rcases y with ⟨y1, y2⟩ | ⟨y1, y2⟩
      · refine ok_t y1 ?_
        rw [if_neg y2, k8]
        refine ok_ck (by omega) (ok_lt ?_)
        have e5 : Fr (fun r i k => r = 51 ∧ i = c ∧ k = I 0 0) h (sI h 51 c (I 0 0) (tkV b n t)) := fr_sI fr_rf (by omega)
        refine ok_bq (aC (fr_sI F0 (by unfold TxC; omega)) (rdF_fr e5 (by intro r k; omega) q)) ?_
        intro _ h7 ⟨f7, G7, q7⟩
        have E7 : Fr (fun r i k => (r = 7 ∧ 3 ≤ k ∧ k ≤ 12) ∨ (i = c ∧ r = 51 ∧ k = I 0 0)) h h7 := fr_tr (fr_mo e5 (by intro r i k; omega)) (fr_mo f7 (by intro r i k; unfold AdW; omega))
        refine ok_bq (p_wat (by rw [fr_R E7]; exact rc) (dcS_e (fun k _ _ => E7.1 9 c k (by omega)) qs) ws q7 G7) ?_
        intro r9 h9 z9
        cases eN : watF b n S (t + 1) with
        | error e =>
          rw [eN] at z9
          exact ok_t z9.1 (ok_some (⟨rfl, z9.2⟩ : baC c h0 0 h9 e))
        | ok w =>
          rw [eN] at z9
          obtain ⟨z1, f9, G9, q9, g11, cp, x6, -⟩ := z9
          refine ok_f (by omega) (ok_ck (by omega) (ok_lt ?_))
          rw [g11]
          have e10 : Fr (fun r i k => r = 52 ∧ i = c ∧ k = I 0 0) h9 (sI h9 52 c (I 0 0) w) := fr_sI fr_rf (by omega)
          refine nC (fr_sI G9 (by unfold TxC; omega)) (rdF_fr e10 (by intro r k; omega) q9) ?_
          intro x h12 f12 G12 q12 l11 l12 x1 x2
          refine ok_ck (by omega) (ok_lt ?_)
          rw [l11]
          have e13 : Fr (fun r i k => r = 53 ∧ i = c ∧ k = I 0 0) h12 (sI h12 53 c (I 0 0) x) := fr_sI fr_rf (by omega)
          refine nC (fr_sI G12 (by unfold TxC; omega)) (rdF_fr e13 (by intro r k; omega) q12) ?_
          intro y h15 f15 G15 q15 o11 o12 y1 y2
          refine ok_ck (by omega) (ok_lt ?_)
          rw [o11]
          have e16 : Fr (fun r i k => r = 54 ∧ i = c ∧ k = I 0 0) h15 (sI h15 54 c (I 0 0) y) := fr_sI fr_rf (by omega)
          have a51 : gI (sI h15 54 c (I 0 0) y) 51 c (I 0 0) = tkV b n t := by rw [gI_nr (by decide), f15.1 51 c _ (by unfold RnW; omega), gI_nr (by decide), f12.1 51 c _ (by unfold RnW; omega), gI_nr (by decide), f9.1 51 c _ (by unfold RnW; omega), f7.1 51 c _ (by unfold AdW; omega), gI_eq]
          have a52 : gI (sI h15 54 c (I 0 0) y) 52 c (I 0 0) = w := by rw [gI_nr (by decide), f15.1 52 c _ (by unfold RnW; omega), gI_nr (by decide), f12.1 52 c _ (by unfold RnW; omega), gI_eq]
          have a53 : gI (sI h15 54 c (I 0 0) y) 53 c (I 0 0) = x := by rw [gI_nr (by decide), f15.1 53 c _ (by unfold RnW; omega), gI_eq]
          have a54 : gI (sI h15 54 c (I 0 0) y) 54 c (I 0 0) = y := gI_eq
          have F1 : Fr (fun r i k => (r = 7 ∧ 3 ≤ k ∧ k ≤ 12) ∨ (i = c ∧ (51 ≤ r ∧ r ≤ 54) ∧ k = I 0 0)) h (sI h15 54 c (I 0 0) y) := fr_tr (fr_mo E7 (by intro r i k; omega)) (fr_tr (fr_mo f9 (by intro r i k; unfold RnW; omega)) (fr_tr (fr_mo e10 (by intro r i k; omega)) (fr_tr (fr_mo f12 (by intro r i k; unfold RnW; omega)) (fr_tr (fr_mo e13 (by intro r i k; omega)) (fr_tr (fr_mo f15 (by intro r i k; unfold RnW; omega)) (fr_mo e16 (by intro r i k; omega)))))))
          have G16 : Fr (TxC c) h0 (sI h15 54 c (I 0 0) y) := fr_sI G15 (by unfold TxC; omega)
          have q16 := rdF_fr e16 (by intro r k; omega) q15
          generalize sI h15 54 c (I 0 0) y = h16 at a51 a52 a53 a54 F1 G16 q16
          refine ok_lt ?_
          rw [gI_nr (show (9 : Nat) ≠ 7 by decide), F1.1 9 c 6 (by omega), qi.1, F1.1 7 0 13 (by omega)]
          have e18 : Fr (fun r i k => (r = 7 ∧ k = 13) ∨ (r = 9 ∧ i = c ∧ k = 6)) h16 (sI (sI h16 7 0 13 (bor (gI h 7 0 13) 16)) 9 c 6 (I 0 0 + 1)) := fr_sI (fr_sI fr_rf (by omega)) (by omega)
          have g13 : gI (sI (sI h16 7 0 13 (bor (gI h 7 0 13) 16)) 9 c 6 (I 0 0 + 1)) 7 0 13 = bor (gI h 7 0 13) 16 := by rw [gI_nr (by decide), gI_eq]
          have g6 : gI (sI (sI h16 7 0 13 (bor (gI h 7 0 13) 16)) 9 c 6 (I 0 0 + 1)) 9 c 6 = I 0 0 + 1 := gI_eq
          refine ok_ck (by omega) (ok_lt (ok_some ?_))
          generalize sI (sI h16 7 0 13 (bor (gI h 7 0 13) 16)) 9 c 6 (I 0 0 + 1) = h18 at e18 g13 g6
          refine eX_o ⟨rfl, fr_tr (fr_mo F1 (by intro r i k; unfold IsW; omega)) (fr_mo e18 (by intro r i k; unfold IsW; omega)), fr_tr G16 (fr_mo e18 (by intro r i k; unfold TxC; omega)), rdF_fr e18 (by intro r k; omega) q16, ?_, g6, fun k k1 k2 => ?_⟩
          · unfold dcW
            rw [g13, show (16 : Int) = bshl 1 4 by decide +kernel]
            exact tdF_b qw (by decide) (by decide)
          · have k2' : k < I 0 0 + 1 := k2
            have u1 : (ud (ud (ud (ud (ud I 1 (I 0 0) (tkV b n t)) 2 (I 0 0) w) 3 (I 0 0) x) 4 (I 0 0) y) 0 0 (I 0 0 + 1)) 1 k = if k = I 0 0 then tkV b n t else I 1 k := by simp [ud]
            have u2 : (ud (ud (ud (ud (ud I 1 (I 0 0) (tkV b n t)) 2 (I 0 0) w) 3 (I 0 0) x) 4 (I 0 0) y) 0 0 (I 0 0 + 1)) 2 k = if k = I 0 0 then w else I 2 k := by simp [ud]
            have u3 : (ud (ud (ud (ud (ud I 1 (I 0 0) (tkV b n t)) 2 (I 0 0) w) 3 (I 0 0) x) 4 (I 0 0) y) 0 0 (I 0 0 + 1)) 3 k = if k = I 0 0 then x else I 3 k := by simp [ud]
            have u4 : (ud (ud (ud (ud (ud I 1 (I 0 0) (tkV b n t)) 2 (I 0 0) w) 3 (I 0 0) x) 4 (I 0 0) y) 0 0 (I 0 0 + 1)) 4 k = if k = I 0 0 then y else I 4 k := by simp [ud]
            show _ = (ud (ud (ud (ud (ud I 1 (I 0 0) (tkV b n t)) 2 (I 0 0) w) 3 (I 0 0) x) 4 (I 0 0) y) 0 0 (I 0 0 + 1)) 1 k ∧ _ = (ud (ud (ud (ud (ud I 1 (I 0 0) (tkV b n t)) 2 (I 0 0) w) 3 (I 0 0) x) 4 (I 0 0) y) 0 0 (I 0 0 + 1)) 2 k ∧ _ = (ud (ud (ud (ud (ud I 1 (I 0 0) (tkV b n t)) 2 (I 0 0) w) 3 (I 0 0) x) 4 (I 0 0) y) 0 0 (I 0 0 + 1)) 3 k ∧ _ = (ud (ud (ud (ud (ud I 1 (I 0 0) (tkV b n t)) 2 (I 0 0) w) 3 (I 0 0) x) 4 (I 0 0) y) 0 0 (I 0 0 + 1)) 4 k
            rw [u1, u2, u3, u4, e18.1 51 c k (by omega), e18.1 52 c k (by omega), e18.1 53 c k (by omega), e18.1 54 c k (by omega)]
            by_cases kk : k = I 0 0
            · rw [if_pos kk, if_pos kk, if_pos kk, if_pos kk, kk]
              exact ⟨a51, a52, a53, a54⟩
            · rw [if_neg kk, if_neg kk, if_neg kk, if_neg kk, F1.1 51 c k (by omega), F1.1 52 c k (by omega), F1.1 53 c k (by omega), F1.1 54 c k (by omega)]
              exact qi.2 k k1 (by omega)
      · refine ok_f y1 ?_
        rw [if_pos y2, k7]
        exact wC F0
    · refine ok_f k1 ?_
      rw [if_pos k1, k7]
      exact wC F0
theorem l_wd : ∀ (f k m : Nat) (N : Ch) (t : Nat) (h1 : Hp), f + k = 9 → k ≤ 8 → 3 * f + 1 ≤ m → gR h1 7 0 1 = some (0, c) → (k ≠ 0 → dcN h1 c N ∧ N 0 0 = (k : Int)) → rdF h1 b n s t → Fr (TxC c) h0 h1 → ok (g_X7_readWind m 1 [(k : Int)] h1) (fun r h' => endX (wdF b n f k N t) (baC c h0 r h') (fun a => r = 1 ∧ Fr (fun r i k => (r = 7 ∧ 3 ≤ k ∧ k ≤ 12) ∨ (i = c ∧ ((r = 0 ∧ k = 6) ∨ r = 21))) h1 h' ∧ Fr (TxC c) h0 h' ∧ rdF h' b n s a.2 ∧ dcN h' c a.1))
  | 0, k, m, N, t, h1, fk, k9, hm, rc, qn, q, F0 => by omega
  | f + 1, k, m, N, t, h1, fk, k9, hm, rc, qn, q, F0 => by
    have k6 : gI h1 7 0 6 = tkK b n t := q.1.2.2.1
    have k7 : gI h1 7 0 7 = (tkP b n t : Int) := q.1.2.2.2.1
    refine s_X7_readWind_1 (by omega) ?_
    unfold b_X7_readWind_1 wdF
    rw [k6]
    have two : (k = 0 ∨ tkK b n t = 3) → ok (g_X7_readWind (m - 1) 2 [(k : Int)] h1) (fun r h' => endX (if k = 0 ∨ tkK b n t = 3 then (if k = 8 then .error (2, (tkP b n t : Int)) else exB (numF b n 0 3 t) fun v => wdF b n f (k + 1) (ud (ud N 1 k v) 0 0 (k + 1)) (t + 1)) else .ok (N, t)) (baC c h0 r h') (fun a => r = 1 ∧ Fr (fun r i k => (r = 7 ∧ 3 ≤ k ∧ k ≤ 12) ∨ (i = c ∧ ((r = 0 ∧ k = 6) ∨ r = 21))) h1 h' ∧ Fr (TxC c) h0 h' ∧ rdF h' b n s a.2 ∧ dcN h' c a.1)) := by
      intro z
      rw [if_pos z]
      refine s_X7_readWind_2 (by omega) ?_
      unfold b_X7_readWind_2
      rw [k7]
      by_cases k8 : k = 8
      · rw [if_pos k8]
        exact ok_t (by omega) (wC F0)
      · rw [if_neg k8]
        refine ok_f (by omega) (nC F0 q ?_)
        intro x h4 f4 G4 q4 g11 g12 x1 x2
        refine ok_rf (by rw [fr_R f4]; exact rc) (ok_ck (by omega) (ok_lt ?_))
        rw [g11]
        have e6 : Fr (fun r i k2 => r = 21 ∧ i = c ∧ k2 = (k : Int)) h4 (sI h4 21 c (k : Int) x) := fr_sI fr_rf (by omega)
        refine ok_rf (by rw [fr_R e6, fr_R f4]; exact rc) (ok_ck (by omega) (ok_lt (ok_ck (by omega) ?_)))
        have e8 : Fr (fun r i k2 => (r = 21 ∧ i = c ∧ k2 = (k : Int)) ∨ (r = 0 ∧ i = c ∧ k2 = 6)) h4 (sI (sI h4 21 c (k : Int) x) 0 c 6 ((k : Int) + 1)) := fr_sI (fr_sI fr_rf (by omega)) (by omega)
        have g6 : gI (sI (sI h4 21 c (k : Int) x) 0 c 6 ((k : Int) + 1)) 0 c 6 = (k : Int) + 1 := gI_eq
        have g21 : gI (sI (sI h4 21 c (k : Int) x) 0 c 6 ((k : Int) + 1)) 21 c (k : Int) = x := by rw [gI_nr (by decide), gI_eq]
        generalize sI (sI h4 21 c (k : Int) x) 0 c 6 ((k : Int) + 1) = h8 at e8 g6 g21
        have u0 : (ud (ud N 1 k x) 0 0 (k + 1)) 0 0 = (k : Int) + 1 := ud_eq
        have dn : dcN h8 c (ud (ud N 1 k x) 0 0 (k + 1)) := ⟨g6.trans u0.symm, fun j j1 j2 => by
          rw [u0] at j2
          have u1 : (ud (ud N 1 k x) 0 0 (k + 1)) 1 j = if j = (k : Int) then x else N 1 j := by simp [ud]
          rw [u1]
          by_cases jj : j = (k : Int)
          · rw [if_pos jj, jj]; exact g21
          · rw [if_neg jj, e8.1 21 c j (by omega), f4.1 21 c j (by unfold RnW; omega)]
            have qq := qn (by omega)
            exact qq.1.2 j j1 (by omega)⟩
        have ih := l_wd f (k + 1) (m - 1 - 1) (ud (ud N 1 k x) 0 0 (k + 1)) (t + 1) h8 (by omega) (by omega) (by omega) (by rw [fr_R e8, fr_R f4]; exact rc) (fun _ => ⟨dn, by rw [u0]; omega⟩) (rdF_fr e8 (by intro r k; omega) q4) (fr_tr G4 (fr_mo e8 (by intro r i k; unfold TxC; omega)))
        rw [show (((k + 1 : Nat)) : Int) = (k : Int) + 1 by omega] at ih
        refine ok_mono ih ?_
        intro r h' z
        exact eX_m z (fun e y => y) (fun a _ ⟨y1, y2, y3, y4⟩ => ⟨y1, fr_tr (fr_mo f4 (by intro r i k; unfold RnW; omega)) (fr_tr (fr_mo e8 (by intro r i k; omega)) y2), y3, y4⟩)
    refine ok_f (by omega) (ok_if (fun u => two (Or.inl (by omega))) (fun u => ok_if (fun u2 => two (Or.inr u2)) (fun u2 => ?_)))
    have z : ¬ (k = 0 ∨ tkK b n t = 3) := by omega
    rw [if_neg z]
    exact ok_some (eX_o ⟨rfl, fr_rf, F0, q, (qn (by omega)).1⟩)
theorem l_wind (rc : gR h 7 0 1 = some (0, c)) (qw : dcW h W) (q : rdF h b n s t) (F0 : Fr (TxC c) h0 h) : ok (f_X7_readWind pl h) (fun r h' => endX (winF b n W N t pl) (baC c h0 r h') (fun a => r = 1 ∧ Fr (WnW c) h h' ∧ Fr (TxC c) h0 h' ∧ rdF h' b n s a.2.2 ∧ dcW h' a.1 ∧ dcN h' c a.2.1)) := by
  refine fuv_X7_readWind (fun m hm => ?_)
  refine s_X7_readWind_0 (by omega) ?_
  unfold b_X7_readWind_0 winF
  refine oC F0 q qw (by decide) (by decide) (by decide) ?_
  intro h2 f2 G2 q2 w2
  refine ok_mono (l_wd 9 0 (m - 1) N t h2 rfl (by omega) (by omega) (by rw [fr_R f2]; exact rc) (fun z => absurd rfl z) q2 G2) ?_
  intro r h' z
  refine eX_b (eX_m z (fun e y => y) (fun a _ ⟨y1, y2, y3, y4, y5⟩ => ?_))
  exact eX_o ⟨y1, fr_tr (fr_mo f2 (by intro r i k; unfold WnW; omega)) (fr_mo y2 (by intro r i k; unfold WnW; omega)), y3, y4, dcW_e (y2.1 7 0 13 (by omega)) w2, y5⟩
/-- the line's end -/
def endF (b : Int → Int) (n t : Nat) : Ex Nat := if sgT b n t = 17 then .ok (t + 1) else .error (1, (tkP b n t : Int))
theorem l_end (q : rdF h b n s t) (F0 : Fr (TxC c) h0 h) : ok (f_X7_endLine h) (fun r h' => endX (endF b n t) (baC c h0 r h') (fun a => r = 1 ∧ Fr AdW h h' ∧ Fr (TxC c) h0 h' ∧ rdF h' b n s a)) := by
  have k10 : gI h 7 0 10 = sgT b n t := q.1.2.2.2.2.2.2
  have k7 : gI h 7 0 7 = (tkP b n t : Int) := q.1.2.2.2.1
  refine fuv_X7_endLine (fun m hm => ?_)
  refine s_X7_endLine_0 (by omega) ?_
  unfold b_X7_endLine_0 endF
  rw [k10, k7]
  by_cases z : sgT b n t = 17
  · refine ok_t z ?_
    rw [if_pos z]
    refine ok_bq (aC F0 q) ?_
    intro _ h2 ⟨f2, G2, q2⟩
    exact ok_some (eX_o ⟨rfl, f2, G2, q2⟩)
  · refine ok_f z ?_
    rw [if_neg z]
    exact wC F0
end
