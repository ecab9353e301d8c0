/-! TEXT, 25: the reference's line of a mouth -/
section
variable {h h0 : Hp} {b : Int → Int} {n t k : Nat} {M : Ch} {x : Int} {o : List (Int × Int)}
theorem p_mouNm (qm : drM h M) (a5 : 0 ≤ M 0 0 ∧ M 0 0 ≤ 5 ∧ 0 ≤ M 1 0 ∧ M 1 0 ≤ 4) : ok (f_X12_mouthNamed x h) (fun r h' => h' = h ∧ ((r = -1 ∧ ¬ crP M x) ∨ (r ≠ -1 ∧ crP M x))) := by
  refine fuv_X12_mouthNamed (fun m hm => ?_)
  refine s_X12_mouthNamed_0 (by omega) ?_
  unfold b_X12_mouthNamed_0
  refine ok_be (p_fr (k := 27) (by decide) (by decide) (by decide)) ?_
  rw [qm.1]
  refine ok_bq (p_X12_found_r71 (a := 9) (b := M 0 0) (by decide) (by omega) (by omega)) ?_
  intro r h4 ⟨e4, z⟩
  rw [e4]
  rcases z with ⟨z1, z2⟩ | ⟨z1, z2, z3, -⟩
  · refine ok_t z1 (ok_be (p_fr (k := 28) (by decide) (by decide) (by decide)) ?_)
    rw [qm.2.1]
    refine ok_bq (p_X12_found_r71 (a := 14) (b := M 1 0) (by decide) (by omega) (by omega)) ?_
    intro r2 h6 ⟨e6, y⟩
    rw [e6]
    rcases y with ⟨y1, y2⟩ | ⟨y1, y2, y3, -⟩
    · refine ok_t y1 (ok_some ⟨rfl, Or.inl ⟨rfl, fun ⟨j, j1, j2⟩ => ?_⟩⟩)
      have dm := (qm.2.2 j j1).1
      rcases j1 with j1 | j1
      · exact z2 j j1.1 j1.2 (dm.trans j2)
      · refine y2 (j - 5) (by omega) (by omega) ?_
        show gI h 71 0 (14 + (j - 5)) = x
        rw [show 14 + (j - 5) = 9 + j by omega]
        exact dm.trans j2
    · have th : thM M (5 + r2) := Or.inr ⟨by omega, by omega⟩
      have dm := (qm.2.2 (5 + r2) th).1
      refine ok_f (by omega) (ok_ck (by omega) (ok_some ⟨rfl, Or.inr ⟨by omega, 5 + r2, th, ?_⟩⟩))
      rw [← dm, show 9 + (5 + r2) = 14 + r2 by omega]
      exact y3
  · have th : thM M r := Or.inl ⟨z1, z2⟩
    exact ok_f (by omega) (ok_some ⟨rfl, Or.inr ⟨by omega, r, th, (qm.2.2 r th).1.symm.trans z3⟩⟩)
theorem ew_tx : ∀ (r : Nat) (i k : Int), EwR r i k → TxR r i k := by intro r i k; unfold EwR TxR; omega
set_option maxHeartbeats 4000000 in
theorem r_mouth {y : Bool} (F0 : Fr TxR h0 h) (e26 : gI h 12 0 26 = gI h0 12 0 26) (q : rdE h b n t) (qm : drM h M) (a5 : 0 ≤ M 0 0 ∧ M 0 0 ≤ 5 ∧ 0 ≤ M 1 0 ∧ M 1 0 ≤ 4) (sl0 : 0 ≤ slM y M) (sl9 : slM y M < 9) (u : ouR h o) (e36 : gI h 12 0 36 = 0) (e37 : gI h 12 0 37 = (k : Int)) (e33 : gI h 12 0 33 = -1) (ol : o.length ≤ k) (k64 : k ≤ 64) : ok (f_X12_mouthLine (9 + slM y M) (yI y) h) (fun _ h' => endX (if tkK b n t ≠ 1 then .error (1, (tkP b n t : Int)) else @ite _ (crP M (tkV b n t)) (Classical.propDecidable _) (.error (3, (tkP b n t : Int))) (exB (numF b n 0 9 (t + 1)) fun p => exB (if y = true then oddF b n (t + 2) else .ok (0, t + 2)) fun od => exB (rsF b n 5 (fun _ => 0) (mR (tkV b n t) p od.1) od.2) fun r => exB (runE b n 801 o [] r.2 true k 0) fun q => .ok (MU y M (ur (ur r.1 8 (o.length : Int)) 9 (q.1.length : Int)), q.1, q.2.2, q.2.1))) (fun e => ftR h0 h' e ∨ (alR h0 b n h' e ∧ ∀ j, j = 27 ∨ j = 28 → gI h' 61 0 j ≤ 5)) (fun a => Fr (RMo (9 + slM y M)) h h' ∧ Fr TxR h0 h' ∧ rdE h' b n a.2.2.2 ∧ drm h' a.1 (slM y M) ∧ ouR h' a.2.1 ∧ gI h' 12 0 36 = 0 ∧ gI h' 12 0 37 = (a.2.2.1 : Int) ∧ gI h' 12 0 33 = -1)) := by
  have n8 : n ≤ 800 := q.1.1.2.1
  have kk := tk_k (b := b) (n := n) t
  have rk := rK_r kk.1 kk.2
  have q30 : gI h 12 0 30 = rK (tkK b n t) := q.1.2.2.2.2.1
  obtain ⟨x, ex⟩ : ∃ x, x = 9 + slM y M := ⟨_, rfl⟩
  have x1 : 9 ≤ x := by omega
  have x2 : x < 18 := by omega
  have seven : ∀ (g2 : Nat) (R : Nat → Int) (t2 : Nat) (h2 : Hp), 3 ≤ g2 → Fr (RsR x) h h2 → Fr TxR h0 h2 → drr h2 x R → rdE h2 b n t2 → t2 ≤ 800 → ok (g_X12_mouthLine g2 7 [x] h2) (fun _ h' => endX (exB (runE b n 801 o [] t2 true k 0) fun q => .ok (MU y M (ur (ur R 8 (o.length : Int)) 9 (q.1.length : Int)), q.1, q.2.2, q.2.1)) (fun e => ftR h0 h' e ∨ (alR h0 b n h' e ∧ ∀ j, j = 27 ∨ j = 28 → gI h' 61 0 j ≤ 5)) (fun a => Fr (RMo x) h h' ∧ Fr TxR h0 h' ∧ rdE h' b n a.2.2.2 ∧ drm h' a.1 (slM y M) ∧ ouR h' a.2.1 ∧ gI h' 12 0 36 = 0 ∧ gI h' 12 0 37 = (a.2.2.1 : Int) ∧ gI h' 12 0 33 = -1)) := by
    intro g2 R t2 h2 hg2 f2 G2 d2 q2 t8
    refine s_X12_mouthLine_7 (by omega) ?_
    unfold b_X12_mouthLine_7
    have e29 : gI h2 61 0 29 = (o.length : Int) := (f2.1 61 0 29 (by unfold RsR; omega)).trans u.1
    refine ok_be (p_fr (k := 29) (by decide) (by decide) (by decide)) ?_
    rw [e29]
    have e3 : Fr (fun r _ j => r = 79 ∧ j = x) h2 (sI h2 79 0 x (o.length : Int)) := fr_sI fr_rf (by omega)
    have G3 : Fr TxR h0 (sI h2 79 0 x (o.length : Int)) := fr_sI G2 (xtw x1 (by decide) (by decide))
    have q3 : rdE (sI h2 79 0 x (o.length : Int)) b n t2 := rdE_v (by decide) q2
    have g79 : gI (sI h2 79 0 x (o.length : Int)) 79 0 x = (o.length : Int) := gI_eq
    refine ok_ck (by omega) (ok_lt ?_)
    generalize sI h2 79 0 x (o.length : Int) = h3 at e3 G3 q3 g79
    have F3 : Fr (RsR x) h h3 := fr_tr f2 (fr_mo e3 (by intro r i k; unfold RsR; omega))
    have st : rfE h3 b n t2 o k 0 := ⟨q3.1, q3.2.1, ouR_e (F3.1 61 0 29 (by unfold RsR; omega)) (fun r j z => F3.1 r 0 j (by unfold RsR; omega)) u, (F3.1 12 0 36 (by unfold RsR; omega)).trans e36, (F3.1 12 0 37 (by unfold RsR; omega)).trans e37, (F3.1 12 0 33 (by unfold RsR; omega)).trans e33⟩
    refine ok_bq (p_X12_expression n8 t8 st ol k64) ?_
    intro _ h5 z5
    have cn : Fr EwR h3 h5 → cnH h5 := fun F5 j j1 j2 => by rw [F5.1 61 0 j (by unfold EwR; omega)]; exact q3.2.2 j j1 j2
    refine ok_be (p_fr (k := 29) (by decide) (by decide) (by decide)) (ok_ck (by omega) (ok_lt ?_))
    cases eE : runE b n 801 o [] t2 true k 0 with
    | error e =>
      rw [eE] at z5
      rcases z5 with ⟨F5, a1, a2, a3⟩ | ⟨t', k', o', F5, st5, ee, sg, ol'⟩
      · refine ok_some (eX_e (Or.inl (ftR_w (xtw x1 (by decide) (by decide)) (by decide) (by decide) ⟨⟨fr_tr G3 (fr_mo F5 ew_tx), a1, a2, a3.1, a3.2⟩, cn F5⟩)))
      · refine ok_some (eX_e (Or.inr ⟨⟨t', fr_sI (fr_tr G3 (fr_mo F5 ew_tx)) (xtw x1 (by decide) (by decide)), rdE_v (by decide) ⟨st5.1, st5.2.1, cn F5⟩, ee, sg, ?_⟩, fun j hj => ?_⟩))
        · rw [gI_nr (by decide), F5.1 12 0 26 (by unfold EwR; omega), F3.1 12 0 26 (by unfold RsR; omega)]
          exact e26
        · rw [gI_nr (by decide), F5.1 61 0 j (by unfold EwR; omega), F3.1 61 0 j (by unfold RsR; omega)]
          rcases hj with hj | hj
          · rw [hj, qm.1]; omega
          · rw [hj, qm.2.1]; omega
    | ok qq =>
      rw [eE] at z5
      obtain ⟨F5, st5, a1, a2, a3, a4, a5'⟩ := z5
      have e29' : gI h5 61 0 29 = (qq.1.length : Int) := st5.2.2.1.1
      rw [e29']
      have e8 : Fr (fun r _ j => r = 80 ∧ j = x) h5 (sI h5 80 0 x (qq.1.length : Int)) := fr_sI fr_rf (by omega)
      have d8 := drr_fr e8 (x := x) (by intro r r1 r2; omega) (drr_fr F5 (x := x) (by intro r r1 r2; unfold EwR; omega) (drr_fr e3 (x := x) (by intro r r1 r2; omega) d2))
      have g79' : gI (sI h5 80 0 x (qq.1.length : Int)) 79 0 x = (o.length : Int) := by rw [gI_nr (by decide), F5.1 79 0 x (by unfold EwR; omega)]; exact g79
      have g80 : gI (sI h5 80 0 x (qq.1.length : Int)) 80 0 x = (qq.1.length : Int) := gI_eq
      have q8 : rdE (sI h5 80 0 x (qq.1.length : Int)) b n qq.2.1 := rdE_v (by decide) ⟨st5.1, st5.2.1, cn F5⟩
      have G8 : Fr TxR h0 (sI h5 80 0 x (qq.1.length : Int)) := fr_sI (fr_tr G3 (fr_mo F5 ew_tx)) (xtw x1 (by decide) (by decide))
      generalize sI h5 80 0 x (qq.1.length : Int) = h8 at e8 d8 g79' g80 q8 G8
      refine ok_some (eX_o ⟨?_, G8, q8, ?_, ouR_e (e8.1 61 0 29 (by omega)) (fun r j z => e8.1 r 0 j (by omega)) st5.2.2.1, (e8.1 12 0 36 (by omega)).trans st5.2.2.2.1, (e8.1 12 0 37 (by omega)).trans st5.2.2.2.2.1, (e8.1 12 0 33 (by omega)).trans st5.2.2.2.2.2⟩)
      · exact fr_tr (fr_mo F3 (by intro r i k; unfold RsR RMo; omega)) (fr_tr (fr_mo F5 (by intro r i k; unfold EwR RMo; omega)) (fr_mo e8 (by intro r i k; unfold RMo; omega)))
      · have eM : ∀ f : Nat, MU y M (ur (ur R 8 (o.length : Int)) 9 (qq.1.length : Int)) (f + 2) (slM y M) = ur (ur R 8 (o.length : Int)) 9 (qq.1.length : Int) f := by
          intro f
          unfold MU
          rw [if_neg (by omega), if_neg (by omega), if_pos rfl, Nat.add_sub_cancel]
        obtain ⟨d81, d82, d83, d84, d85, d86, d87, d88⟩ := d8
        show drm h8 (MU y M (ur (ur R 8 (o.length : Int)) 9 (qq.1.length : Int))) (slM y M)
        unfold drm
        rw [← ex, eM 0, eM 1, eM 2, eM 3, eM 4, eM 5, eM 6, eM 7, eM 8, eM 9]
        exact ⟨d81, d82, d83, d84, d85, d86, d87, d88, g79', g80⟩
  have three : ∀ (g1 : Nat) (p0 od : Int) (t3 : Nat) (h3 : Hp), 40 ≤ g1 → gI h3 71 0 x = tkV b n t → gI h3 72 0 x = p0 → gI h3 78 0 x = od → rdE h3 b n t3 → t3 ≤ 800 → Fr (RsR x) h h3 → Fr TxR h0 h3 → ok (g_X12_mouthLine g1 3 [x] h3) (fun _ h' => endX (exB (rsF b n 5 (fun _ => 0) (mR (tkV b n t) p0 od) t3) fun r => exB (runE b n 801 o [] r.2 true k 0) fun q => .ok (MU y M (ur (ur r.1 8 (o.length : Int)) 9 (q.1.length : Int)), q.1, q.2.2, q.2.1)) (fun e => ftR h0 h' e ∨ (alR h0 b n h' e ∧ ∀ j, j = 27 ∨ j = 28 → gI h' 61 0 j ≤ 5)) (fun a => Fr (RMo x) h h' ∧ Fr TxR h0 h' ∧ rdE h' b n a.2.2.2 ∧ drm h' a.1 (slM y M) ∧ ouR h' a.2.1 ∧ gI h' 12 0 36 = 0 ∧ gI h' 12 0 37 = (a.2.2.1 : Int) ∧ gI h' 12 0 33 = -1)) := by
    intro g1 p0 od t3 h3 hg1 e71 e72 e78 q3 t8 f3 G3
    refine s_X12_mouthLine_3 (by omega) ?_
    unfold b_X12_mouthLine_3
    refine ok_ck (by omega) (ok_lt (ok_ck (by omega) (ok_lt (ok_ck (by omega) (ok_lt (ok_ck (by omega) (ok_lt (ok_ck (by omega) (ok_lt ?_)))))))))
    have hb : ∀ w : Int, 13 ≤ w → w ≤ 16 → bit 0 w = (fun _ : Int => (0 : Int)) w ∧ ((fun _ : Int => (0 : Int)) w = 0 ∨ (fun _ : Int => (0 : Int)) w = 1) := by
      intro w w1 w2
      have cs : w = 13 ∨ w = 14 ∨ w = 15 ∨ w = 16 := by omega
      refine ⟨?_, Or.inl rfl⟩
      rcases cs with e | e | e | e <;> rw [e] <;> decide +kernel
    have d5 : drr (sI (sI (sI (sI (sI h3 73 0 x 0) 74 0 x 59) 75 0 x 99) 76 0 x (-1)) 77 0 x 99) x (mR (tkV b n t) p0 od) := by
      refine ⟨?_, ?_, ?_, ?_, ?_, Or.inr rfl, ?_, ?_⟩
      · rw [gI_nr (by decide), gI_nr (by decide), gI_nr (by decide), gI_nr (by decide), gI_nr (by decide)]; exact e71
      · rw [gI_nr (by decide), gI_nr (by decide), gI_nr (by decide), gI_nr (by decide), gI_nr (by decide)]; exact e72
      · rw [gI_nr (by decide), gI_nr (by decide), gI_nr (by decide), gI_nr (by decide), gI_nr (by decide)]; exact e78
      · rw [gI_nr (by decide), gI_nr (by decide), gI_nr (by decide), gI_nr (by decide), gI_eq]; rfl
      · rw [gI_nr (by decide), gI_nr (by decide), gI_nr (by decide), gI_eq]; rfl
      · rw [gI_nr (by decide), gI_eq]; rfl
      · rw [gI_eq]; rfl
    refine r_rs (Q := fun F _ h' => endX (exB F (fun r => exB (runE b n 801 o [] r.2 true k 0) fun q => .ok (MU y M (ur (ur r.1 8 (o.length : Int)) 9 (q.1.length : Int)), q.1, q.2.2, q.2.1))) (fun e => ftR h0 h' e ∨ (alR h0 b n h' e ∧ ∀ j, j = 27 ∨ j = 28 → gI h' 61 0 j ≤ 5)) (fun a => Fr (RMo x) h h' ∧ Fr TxR h0 h' ∧ rdE h' b n a.2.2.2 ∧ drm h' a.1 (slM y M) ∧ ouR h' a.2.1 ∧ gI h' 12 0 36 = 0 ∧ gI h' 12 0 37 = (a.2.2.1 : Int) ∧ gI h' 12 0 33 = -1)) (hB := h) (h0 := h0) n8 x1 x2 (fun g2 R t2 h2 hg2 f2 G2 d2 q2 t8 => seven g2 R t2 h2 hg2 f2 G2 d2 q2 t8) (fun e v h' z => Or.inl z) 5 0 _ (fun _ => 0) 0 (mR (tkV b n t) p0 od) t3 _ rfl (by omega) rfl hb d5 (by show (59 : Int) ≤ 59; decide) (rdE_v (by decide) (rdE_v (by decide) (rdE_v (by decide) (rdE_v (by decide) (rdE_v (by decide) q3))))) t8 (rs_v (by decide) (by decide) (rs_v (by decide) (by decide) (rs_v (by decide) (by decide) (rs_v (by decide) (by decide) (rs_v (by decide) (by decide) f3))))) (fr_sI (fr_sI (fr_sI (fr_sI (fr_sI G3 (xtw x1 (by decide) (by decide))) (xtw x1 (by decide) (by decide))) (xtw x1 (by decide) (by decide))) (xtw x1 (by decide) (by decide))) (xtw x1 (by decide) (by decide)))
  rw [← ex]
  refine fuv_X12_mouthLine (fun g hg => ?_)
  refine s_X12_mouthLine_0 (by omega) ?_
  unfold b_X12_mouthLine_0
  rw [q30]
  have one_f : ∀ (g1 : Nat) (h1 : Hp) (e : Int × Int), 0 < g1 → ftR h0 h1 e → ok (g_X12_mouthLine g1 1 [x, yI y] h1) (fun _ h' => ftR h0 h' e) := by
    intro g1 h1 e hg1 f
    refine s_X12_mouthLine_1 hg1 ?_
    unfold b_X12_mouthLine_1
    exact ok_f (ba_0 f.1) (ok_some f)
  by_cases k1 : tkK b n t = 1
  · have e31 : gI h 12 0 31 = tkV b n t := q.1.2.2.2.2.2.1 (Or.inl k1)
    rw [if_neg (fun y => y k1 : ¬ tkK b n t ≠ 1), e31]
    refine ok_t (rk.2.2.1.mpr k1) (ok_bq (p_mouNm qm a5) ?_)
    intro r h2 ⟨e2, z⟩
    rw [e2]
    rcases z with ⟨z1, z2⟩ | ⟨z1, z2⟩
    · refine ok_t z1 ?_
      rw [if_neg z2]
      refine s_X12_mouthLine_1 (by omega) ?_
      unfold b_X12_mouthLine_1
      rw [e31]
      refine ok_t q.2.1 (ok_ck (by omega) (ok_lt (tR (fr_sI F0 (xtw x1 (by decide) (by decide))) (rdE_v (by decide) q) ?_)))
      intro _ h3 f3 G3 q3
      have F3 : Fr (RsR x) h h3 := fr_tr (rs_v (by decide) (by decide) fr_rf) (fr_mo f3 to_rs)
      have e71 : gI h3 71 0 x = tkV b n t := by rw [f3.1 71 0 x (by unfold ToW; omega), gI_eq]
      refine nR (by decide) G3 q3 ?_ ?_
      · intro p0 h5 ep f5 G5 q5 p1 p2
        rw [ep]
        have tt := t_le n8 (b := b) (t := t + 1) (by rw [(num_ok ep).1]; decide)
        refine ok_ck (by omega) (ok_lt (ok_ck (by omega) (ok_lt ?_)))
        have F7 : Fr (RsR x) h (sI (sI h5 72 0 x p0) 78 0 x 0) := rs_v (by decide) (by decide) (rs_v (by decide) (by decide) (fr_tr F3 (fr_mo f5 to_rs)))
        have G7 : Fr TxR h0 (sI (sI h5 72 0 x p0) 78 0 x 0) := fr_sI (fr_sI G5 (xtw x1 (by decide) (by decide))) (xtw x1 (by decide) (by decide))
        have q7 : rdE (sI (sI h5 72 0 x p0) 78 0 x 0) b n (t + 2) := rdE_v (by decide) (rdE_v (by decide) q5)
        have a71 : gI (sI (sI h5 72 0 x p0) 78 0 x 0) 71 0 x = tkV b n t := by rw [gI_nr (by decide), gI_nr (by decide), f5.1 71 0 x (by unfold ToW; omega)]; exact e71
        have a72 : gI (sI (sI h5 72 0 x p0) 78 0 x 0) 72 0 x = p0 := by rw [gI_nr (by decide), gI_eq]
        have a78 : gI (sI (sI h5 72 0 x p0) 78 0 x 0) 78 0 x = 0 := gI_eq
        generalize sI (sI h5 72 0 x p0) 78 0 x 0 = h7 at F7 G7 q7 a71 a72 a78
        cases y with
        | false => exact ok_t rfl (three _ p0 0 (t + 2) h7 (by omega) a71 a72 a78 q7 (by omega) F7 G7)
        | true =>
          refine ok_f (by decide) (ok_t q7.2.1 (ok_be (p_X12_isWord (x := 12) q7.1 q7.2.1 (by decide)) ?_))
          show ok _ (fun _ h' => endX (exB (oddF b n (t + 2)) (fun od => exB (rsF b n 5 (fun _ => 0) (mR (tkV b n t) p0 od.1) od.2) fun r => exB (runE b n 801 o [] r.2 true k 0) fun q => .ok (MU true M (ur (ur r.1 8 (o.length : Int)) 9 (q.1.length : Int)), q.1, q.2.2, q.2.1))) (fun e => ftR h0 h' e ∨ (alR h0 b n h' e ∧ ∀ j, j = 27 ∨ j = 28 → gI h' 61 0 j ≤ 5)) (fun a => Fr (RMo x) h h' ∧ Fr TxR h0 h' ∧ rdE h' b n a.2.2.2 ∧ drm h' a.1 (slM true M) ∧ ouR h' a.2.1 ∧ gI h' 12 0 36 = 0 ∧ gI h' 12 0 37 = (a.2.2.1 : Int) ∧ gI h' 12 0 33 = -1))
          unfold oddF
          refine ok_if (fun u => ?_) (fun u => ?_)
          · rw [if_neg (b2i_0.mp u)]
            refine wR G7 q7 (by decide) ?_
            intro _ h11 f11
            exact ok_mono (m2_f x1 x2 (by omega) f11) (fun v h' z => Or.inl z)
          · rw [if_pos (b2i_n.mp u)]
            refine s_X12_mouthLine_2 (by omega) ?_
            unfold b_X12_mouthLine_2
            refine goR G7 q7 ?_
            intro _ h9 f9 G9 q9
            refine nR (by decide) G9 q9 ?_ ?_
            · intro od h10 eo f10 G10 q10 o1 o2
              rw [show t + 2 + 1 = (t + 2) + 1 from rfl] at eo
              rw [eo]
              have tt2 := t_le n8 (b := b) (t := t + 2 + 1) (by rw [(num_ok eo).1]; decide)
              have b71 : gI (sI h10 78 0 x od) 71 0 x = tkV b n t := by rw [gI_nr (by decide), f10.1 71 0 x (by unfold ToW; omega), f9.1 71 0 x (by unfold ToW; omega)]; exact a71
              have b72 : gI (sI h10 78 0 x od) 72 0 x = p0 := by rw [gI_nr (by decide), f10.1 72 0 x (by unfold ToW; omega), f9.1 72 0 x (by unfold ToW; omega)]; exact a72
              exact ok_ck (by omega) (ok_lt (three _ p0 od (t + 2 + 2) _ (by omega) b71 b72 gI_eq (rdE_v (by decide) q10) (by omega) (rs_v (by decide) (by decide) (fr_tr (fr_tr F7 (fr_mo f9 to_rs)) (fr_mo f10 to_rs))) (fr_sI G10 (xtw x1 (by decide) (by decide)))))
            · intro e h10 eo f10
              rw [eo]
              exact ok_ck (by omega) (ok_lt (ok_mono (m3_f x1 x2 (by omega) (ftR_w (xtw x1 (by decide) (by decide)) (by decide) (by decide) f10)) (fun v h' z => Or.inl z)))
      · intro e h5 ep f5
        rw [ep]
        have f7 : ftR h0 (sI (sI h5 72 0 x 0) 78 0 x 0) e := ftR_w (xtw x1 (by decide) (by decide)) (by decide) (by decide) (ftR_w (xtw x1 (by decide) (by decide)) (by decide) (by decide) f5)
        refine ok_ck (by omega) (ok_lt (ok_ck (by omega) (ok_lt ?_)))
        exact ok_if (fun _ => ok_mono (m3_f x1 x2 (by omega) f7) (fun v h' z => Or.inl z)) (fun _ => ok_f (ba_0 f7.1) (ok_mono (m2_f x1 x2 (by omega) f7) (fun v h' z => Or.inl z)))
    · refine ok_f z1 ?_
      rw [if_pos z2]
      refine wR F0 q (by decide) ?_
      intro _ h4 f4
      exact ok_mono (one_f _ h4 _ (by omega) f4) (fun v h' z => Or.inl z)
  · rw [if_pos (show tkK b n t ≠ 1 from k1)]
    refine ok_f (fun z => k1 (rk.2.2.1.mp z)) (wR F0 q (by decide) ?_)
    intro _ h6 f6
    exact ok_mono (one_f _ h6 _ (by omega) f6) (fun v h' z => Or.inl z)
end
