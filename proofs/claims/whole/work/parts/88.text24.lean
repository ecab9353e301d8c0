/-! TEXT, 24: the reference's lines: mouths -/
def RsR (x : Int) : Nat → Int → Int → Prop := fun r _ k => (r = 12 ∧ 28 ≤ k ∧ k ≤ 31) ∨ (71 ≤ r ∧ r ≤ 80 ∧ k = x)
def RMo (x : Int) : Nat → Int → Int → Prop := fun r _ k => (r = 12 ∧ ((28 ≤ k ∧ k ≤ 33) ∨ k = 36 ∨ k = 37)) ∨ (r = 61 ∧ k = 29) ∨ (71 ≤ r ∧ r ≤ 80 ∧ k = x) ∨ ((r = 81 ∨ r = 82) ∧ 64 ≤ k)
def drr (h : Hp) (x : Int) (R : Nat → Int) : Prop := gI h 71 0 x = R 0 ∧ gI h 72 0 x = R 1 ∧ gI h 78 0 x = R 2 ∧ gI h 73 0 x = R 3 ∧ gI h 74 0 x = R 4 ∧ (gI h 75 0 x = R 5 ∨ R 6 = -1) ∧ gI h 76 0 x = R 6 ∧ gI h 77 0 x = R 7
/-- the reference's E ended without a fault, where a fault is due behind it -/
def alR (h0 : Hp) (b : Int → Int) (n : Nat) (h : Hp) (e : Int × Int) : Prop := ∃ t' : Nat, Fr TxR h0 h ∧ rdE h b n t' ∧ e = (1, (tkP b n t' : Int)) ∧ sgT b n t' ≠ 17 ∧ gI h 12 0 26 = gI h0 12 0 26
section
variable {h h0 hB h2 : Hp} {b : Int → Int} {n t k : Nat} {M : Ch} {e : Int × Int} {x : Int} {R : Nat → Int} {o : List (Int × Int)}
theorem drr_fr {W : Nat → Int → Int → Prop} (f : Fr W h h2) (d : ∀ r : Nat, 71 ≤ r → r ≤ 78 → ¬ W r 0 x) (q : drr h x R) : drr h2 x R := by
  unfold drr at q ⊢
  rw [f.1 71 0 x (d 71 (by decide) (by decide)), f.1 72 0 x (d 72 (by decide) (by decide)), f.1 73 0 x (d 73 (by decide) (by decide)), f.1 74 0 x (d 74 (by decide) (by decide)), f.1 75 0 x (d 75 (by decide) (by decide)), f.1 76 0 x (d 76 (by decide) (by decide)), f.1 77 0 x (d 77 (by decide) (by decide)), f.1 78 0 x (d 78 (by decide) (by decide))]
  exact q
theorem exp_f (f0 : gI h 12 0 32 ≠ 0) : f_X12_expression h = some (0, h) := ok_eq.mp (exv (fun g hg => ok_eq.mpr (gE0_f f0 (by omega))))
theorem xtw {r : Nat} (x1 : 9 ≤ x) (r1 : 71 ≤ r) (r2 : r ≤ 80) : TxR r 0 x := by unfold TxR; omega
theorem t_le (n8 : n ≤ 800) {t : Nat} (z : tkK b n t ≠ 0) : t + 1 ≤ 800 := by
  by_cases y : t + 1 ≤ 800
  · exact y
  · exact absurd (tk_end n8 (by omega)) z
/-! behind a fault -/
theorem m7_f {g : Nat} (x1 : 9 ≤ x) (x2 : x < 18) (hg : 0 < g) (f : ftR h0 h e) : ok (g_X12_mouthLine g 7 [x] h) (fun _ h' => ftR h0 h' e) := by
  refine s_X12_mouthLine_7 hg ?_
  unfold b_X12_mouthLine_7
  refine ok_be (p_fr (k := 29) (by decide) (by decide) (by decide)) (ok_ck (by omega) (ok_lt ?_))
  have f3 : ftR h0 (sI h 79 0 x (gI h 61 0 29)) e := ftR_w (xtw x1 (by decide) (by decide)) (by decide) (by decide) f
  exact ok_be (exp_f (ba_0 f3.1)) (ok_be (p_fr (k := 29) (by decide) (by decide) (by decide)) (ok_ck (by omega) (ok_lt (ok_some (ftR_w (xtw x1 (by decide) (by decide)) (by decide) (by decide) f3)))))
theorem m4_f {g : Nat} {v : Int} (x1 : 9 ≤ x) (x2 : x < 18) (hg : 2 ≤ g) (f : ftR h0 h e) : ok (g_X12_mouthLine g 4 [x, v] h) (fun _ h' => ftR h0 h' e) := by
  refine s_X12_mouthLine_4 (by omega) ?_
  unfold b_X12_mouthLine_4
  exact ok_f (ba_0 f.1) (m7_f x1 x2 (by omega) f)
theorem m6_f {g : Nat} {v : Int} (x1 : 9 ≤ x) (x2 : x < 18) (hg : 3 ≤ g) (f : ftR h0 h e) : ok (g_X12_mouthLine g 6 [x, v] h) (fun _ h' => ftR h0 h' e) := by
  refine s_X12_mouthLine_6 (by omega) ?_
  unfold b_X12_mouthLine_6
  exact m4_f x1 x2 (by omega) f
theorem m5_f {g : Nat} {v w : Int} (x1 : 9 ≤ x) (x2 : x < 18) (hg : 4 ≤ g) (f : ftR h0 h e) : ok (g_X12_mouthLine g 5 [x, v, w] h) (fun _ h' => ftR h0 h' e) := by
  refine s_X12_mouthLine_5 (by omega) ?_
  unfold b_X12_mouthLine_5
  have ft : ∀ {r : Nat} {v : Int} {h1 : Hp}, 71 ≤ r → r ≤ 80 → ftR h0 h1 e → ftR h0 (sI h1 r 0 x v) e := fun r1 r2 f1 => ftR_w (xtw x1 r1 r2) (by omega) (by omega) f1
  refine ok_lt (goF f (ok_if (fun _ => ok_ck (by omega) (nF f (ok_ck (by omega) (ok_lt (m6_f x1 x2 (by omega) (ft (by decide) (by decide) f)))))) (fun _ => ok_if (fun _ => ok_ck (by omega) (nF f (ok_ck (by omega) (ok_lt (m6_f x1 x2 (by omega) (ft (by decide) (by decide) f)))))) (fun _ => ok_if (fun _ => ?_) (fun _ => nF f (ok_ck (by omega) (ok_lt (m6_f x1 x2 (by omega) (ft (by decide) (by decide) f)))))))))
  have f1 : ftR h0 (sI h 75 0 x 0) e := ft (by decide) (by decide) f
  exact nF f (ok_ck (by omega) (ok_lt (ok_ck (by omega) (nF f1 (ok_ck (by omega) (ok_lt (m6_f x1 x2 (by omega) (ft (by decide) (by decide) f1))))))))
theorem m3_f {g : Nat} (x1 : 9 ≤ x) (x2 : x < 18) (hg : 3 ≤ g) (f : ftR h0 h e) : ok (g_X12_mouthLine g 3 [x] h) (fun _ h' => ftR h0 h' e) := by
  have ft : ∀ {r : Nat} {v : Int} {h1 : Hp}, 71 ≤ r → r ≤ 80 → ftR h0 h1 e → ftR h0 (sI h1 r 0 x v) e := fun r1 r2 f1 => ftR_w (xtw x1 r1 r2) (by omega) (by omega) f1
  refine s_X12_mouthLine_3 (by omega) ?_
  unfold b_X12_mouthLine_3
  exact ok_ck (by omega) (ok_lt (ok_ck (by omega) (ok_lt (ok_ck (by omega) (ok_lt (ok_ck (by omega) (ok_lt (ok_ck (by omega) (ok_lt (m4_f x1 x2 (by omega) (ft (by decide) (by decide) (ft (by decide) (by decide) (ft (by decide) (by decide) (ft (by decide) (by decide) (ft (by decide) (by decide) f)))))))))))))))
theorem m2_f {g : Nat} (x1 : 9 ≤ x) (x2 : x < 18) (hg : 4 ≤ g) (f : ftR h0 h e) : ok (g_X12_mouthLine g 2 [x] h) (fun _ h' => ftR h0 h' e) := by
  refine s_X12_mouthLine_2 (by omega) ?_
  unfold b_X12_mouthLine_2
  exact goF f (nF f (ok_ck (by omega) (ok_lt (m3_f x1 x2 (by omega) (ftR_w (xtw x1 (by decide) (by decide)) (by decide) (by decide) f)))))
/-! the rest of the words -/
theorem rs_v {r : Nat} {v : Int} {h1 : Hp} (r1 : 71 ≤ r) (r2 : r ≤ 80) (f : Fr (RsR x) hB h1) : Fr (RsR x) hB (sI h1 r 0 x v) := fr_sI f (by unfold RsR; omega)
theorem to_rs : ∀ (r : Nat) (i k : Int), ToW r i k → RsR x r i k := by intro r i k; unfold ToW RsR; omega
set_option maxHeartbeats 2000000 in
theorem r_rs {Q : Ex ((Nat → Int) × Nat) → Int → Hp → Prop} (n8 : n ≤ 800) (x1 : 9 ≤ x) (x2 : x < 18)
    (k7 : ∀ (g2 : Nat) (R : Nat → Int) (t : Nat) (h2 : Hp), 3 ≤ g2 → Fr (RsR x) hB h2 → Fr TxR h0 h2 → drr h2 x R → rdE h2 b n t → t ≤ 800 → ok (g_X12_mouthLine g2 7 [x] h2) (Q (.ok (R, t))))
    (kf : ∀ (e : Int × Int) (v : Int) (h' : Hp), ftR h0 h' e → Q (.error e) v h') : ∀ (f y g : Nat) (hd : Int → Int) (hv : Int) (R : Nat → Int) (t : Nat) (h1 : Hp), f + y = 5 → 3 * f + 4 ≤ g → hd 13 + hd 14 + hd 15 + hd 16 = (y : Int) → (∀ w, 13 ≤ w → w ≤ 16 → bit hv w = hd w ∧ (hd w = 0 ∨ hd w = 1)) → drr h1 x R → R 4 ≤ 59 → rdE h1 b n t → t ≤ 800 → Fr (RsR x) hB h1 → Fr TxR h0 h1 → ok (g_X12_mouthLine g 4 [x, hv] h1) (Q (rsF b n f hd R t))
  | 0, y, g, hd, hv, R, t, h1, fy, hg, sm, hb, qr, r4, q, t8, FB, F0 => by
    have a := (hb 13 (by decide) (by decide)).2
    have a2 := (hb 14 (by decide) (by decide)).2
    have a3 := (hb 15 (by decide) (by decide)).2
    have a4 := (hb 16 (by decide) (by decide)).2
    omega
  | f + 1, y, g, hd, hv, R, t, h1, fy, hg, sm, hb, qr, r4, q, t8, FB, F0 => by
    have kk := tk_k (b := b) (n := n) t
    have rk := rK_r kk.1 kk.2
    have q30 : gI h1 12 0 30 = rK (tkK b n t) := q.1.2.2.2.2.1
    refine s_X12_mouthLine_4 (by omega) ?_
    unfold b_X12_mouthLine_4 rsF
    rw [q30]
    refine ok_t q.2.1 ?_
    by_cases z : 13 ≤ kyT b n t ∧ kyT b n t ≤ 16
    · rw [if_pos z]
      have k2 : tkK b n t = 2 := by
        by_cases y : tkK b n t = 2
        · exact y
        · have : kyT b n t = -1 := if_neg y
          omega
      have e31 : gI h1 12 0 31 = tkV b n t := q.1.2.2.2.2.2.1 (Or.inr k2)
      have ek : kyT b n t = tkV b n t := if_pos k2
      obtain ⟨w, ew⟩ : ∃ w, kyT b n t = w := ⟨_, rfl⟩
      rw [← ek, ew] at e31
      rw [ew] at z
      rw [ew, e31]
      have hw := hb w z.1 z.2
      have eb : band (bshr hv w) 1 = hd w := hw.1
      refine ok_t (rk.2.1.mpr k2) (ok_f (by omega) (ok_f (by omega) (ok_lt ?_)))
      rw [eb]
      by_cases had : hd w = 1
      · refine ok_t had ?_
        rw [if_pos had]
        refine wR F0 q (by decide) ?_
        intro _ h2 f2
        exact ok_mono (m5_f x1 x2 (by omega) f2) (fun v h' z => kf _ v h' z)
      · refine ok_f had ?_
        rw [if_neg had]
        refine s_X12_mouthLine_5 (by omega) ?_
        unfold b_X12_mouthLine_5
        refine ok_lt (goR F0 q ?_)
        intro _ h3 f3 G3 q3
        have FB3 : Fr (RsR x) hB h3 := fr_tr FB (fr_mo f3 to_rs)
        have d3 := drr_fr f3 (x := x) (by intro r r1 r2; unfold ToW; omega) qr
        obtain ⟨d31, d32, d33, d34, d35, d36, d37, d38⟩ := d3
        have d3 : drr h3 x R := ⟨d31, d32, d33, d34, d35, d36, d37, d38⟩
        have six : ∀ (a : (Nat → Int) × Nat) (h5 : Hp), drr h5 x a.1 → a.1 4 ≤ 59 → rdE h5 b n a.2 → a.2 ≤ 800 → Fr (RsR x) hB h5 → Fr TxR h0 h5 → ok (g_X12_mouthLine (g - 1 - 1) 6 [x, bor hv (bshl 1 w)] h5) (Q (rsF b n f (tdF hd w) a.1 a.2)) := by
          intro a h5 da a4 qa ta fa Ga
          refine s_X12_mouthLine_6 (by omega) ?_
          unfold b_X12_mouthLine_6
          have cs : w = 13 ∨ w = 14 ∨ w = 15 ∨ w = 16 := by omega
          have sm' : tdF hd w 13 + tdF hd w 14 + tdF hd w 15 + tdF hd w 16 = ((y + 1 : Nat) : Int) := by
            have hz := hw.2
            unfold tdF
            rcases cs with e | e | e | e
            · rw [e] at had hz ⊢
              rw [if_pos rfl, if_neg (by decide), if_neg (by decide), if_neg (by decide)]; omega
            · rw [e] at had hz ⊢
              rw [if_neg (by decide), if_pos rfl, if_neg (by decide), if_neg (by decide)]; omega
            · rw [e] at had hz ⊢
              rw [if_neg (by decide), if_neg (by decide), if_pos rfl, if_neg (by decide)]; omega
            · rw [e] at had hz ⊢
              rw [if_neg (by decide), if_neg (by decide), if_neg (by decide), if_pos rfl]; omega
          have hb' : ∀ v, 13 ≤ v → v ≤ 16 → bit (bor hv (bshl 1 w)) v = tdF hd w v ∧ (tdF hd w v = 0 ∨ tdF hd w v = 1) := by
            intro v v1 v2
            have a := hb v v1 v2
            rw [bit_or1 (by omega) (by omega) (by omega) (by omega), a.1]
            refine ⟨rfl, ?_⟩
            unfold tdF
            split
            · exact Or.inr rfl
            · exact a.2
          exact r_rs n8 x1 x2 k7 kf f (y + 1) (g - 1 - 1 - 1) (tdF hd w) (bor hv (bshl 1 w)) a.1 a.2 h5 (by omega) (by omega) sm' hb' da a4 qa ta fa Ga
        have flt : ∀ (e : Int × Int) (h5 : Hp), ftR h0 h5 e → ok (g_X12_mouthLine (g - 1 - 1) 6 [x, bor hv (bshl 1 w)] h5) (Q (.error e)) := fun e h5 f5 => ok_mono (m6_f x1 x2 (by omega) f5) (fun v h' z => kf _ v h' z)
        have ft : ∀ {r : Nat} {v : Int} {h1 : Hp} {e : Int × Int}, 71 ≤ r → r ≤ 80 → ftR h0 h1 e → ftR h0 (sI h1 r 0 x v) e := fun r1 r2 f1 => ftR_w (xtw x1 r1 r2) (by omega) (by omega) f1
        unfold wrF
        refine ok_if (fun w13 => ?_) (fun w13 => ok_if (fun w14 => ?_) (fun w14 => ok_if (fun w15 => ?_) (fun w15 => ?_)))
        · rw [if_neg (by omega), if_neg (by omega), if_pos w13, d35]
          unfold froF
          refine ok_ck (by omega) (nR (by omega) G3 q3 ?_ ?_)
          · intro v h4 ev f4 G4 q4 v1 v2
            rw [ev]
            have tt := t_le n8 (b := b) (t := t + 1) (by rw [(num_ok ev).1]; decide)
            have d4 := drr_fr f4 (x := x) (by intro r r1 r2; unfold ToW; omega) d3
            obtain ⟨e1, e2, e3, e4, e5, e6, e7, e8⟩ := d4
            have ne : ∀ r : Nat, r ≠ 73 → gI (sI h4 73 0 x v) r 0 x = gI h4 r 0 x := fun r hr => gI_nr hr
            refine ok_ck (by omega) (ok_lt (six (ur R 3 v, t + 1 + 1) _ ⟨(ne 71 (by decide)).trans e1, (ne 72 (by decide)).trans e2, (ne 78 (by decide)).trans e3, gI_eq, (ne 74 (by decide)).trans e5, by rw [ne 75 (by decide)]; exact e6, (ne 76 (by decide)).trans e7, (ne 77 (by decide)).trans e8⟩ r4 (rdE_v (by decide) q4) (by show t + 1 + 1 ≤ 800; omega) (rs_v (by decide) (by decide) (fr_tr FB3 (fr_mo f4 to_rs))) (fr_sI G4 (xtw x1 (by decide) (by decide)))))
          · intro e h4 ev f4
            rw [ev]
            exact ok_ck (by omega) (ok_lt (flt e _ (ft (by decide) (by decide) f4)))
        · rw [if_neg (by omega), if_neg (by omega), if_neg w13, d34]
          unfold tilF
          refine ok_ck (by omega) (nR (by omega) G3 q3 ?_ ?_)
          · intro v h4 ev f4 G4 q4 v1 v2
            rw [ev]
            have tt := t_le n8 (b := b) (t := t + 1) (by rw [(num_ok ev).1]; decide)
            have d4 := drr_fr f4 (x := x) (by intro r r1 r2; unfold ToW; omega) d3
            obtain ⟨e1, e2, e3, e4, e5, e6, e7, e8⟩ := d4
            have ne : ∀ r : Nat, r ≠ 74 → gI (sI h4 74 0 x v) r 0 x = gI h4 r 0 x := fun r hr => gI_nr hr
            refine ok_ck (by omega) (ok_lt (six (ur R 4 v, t + 1 + 1) _ ⟨(ne 71 (by decide)).trans e1, (ne 72 (by decide)).trans e2, (ne 78 (by decide)).trans e3, (ne 73 (by decide)).trans e4, gI_eq, by rw [ne 75 (by decide)]; exact e6, (ne 76 (by decide)).trans e7, (ne 77 (by decide)).trans e8⟩ v2 (rdE_v (by decide) q4) (by show t + 1 + 1 ≤ 800; omega) (rs_v (by decide) (by decide) (fr_tr FB3 (fr_mo f4 to_rs))) (fr_sI G4 (xtw x1 (by decide) (by decide)))))
          · intro e h4 ev f4
            rw [ev]
            exact ok_ck (by omega) (ok_lt (flt e _ (ft (by decide) (by decide) f4)))
        · rw [if_pos w15]
          unfold sicF
          refine nR (by decide) G3 q3 ?_ ?_
          · intro v h4 ev f4 G4 q4 v1 v2
            rw [ev]
            have d4 := drr_fr f4 (x := x) (by intro r r1 r2; unfold ToW; omega) d3
            obtain ⟨e1, e2, e3, e4, e5, e6, e7, e8⟩ := d4
            show ok _ (Q (exB (exB (numF b n v 59 (t + 1 + 1)) fun y => Except.ok (ur (ur R 5 v) 6 y, t + 1 + 2)) fun r => rsF b n f (tdF hd w) r.1 r.2))
            refine ok_ck (by omega) (ok_lt (ok_ck (by omega) ?_))
            rw [gI_eq]
            refine nR (by decide) (fr_sI G4 (xtw x1 (by decide) (by decide))) (rdE_v (by decide) q4) ?_ ?_
            · intro u h5 eu f5 G5 q5 u1 u2
              rw [eu]
              have tt := t_le n8 (b := b) (t := t + 1 + 1) (by rw [(num_ok eu).1]; decide)
              have ne : ∀ r : Nat, r ≠ 75 → r ≠ 76 → r ≠ 12 → gI (sI h5 76 0 x u) r 0 x = gI h4 r 0 x := fun r hr hr2 hr3 => by rw [gI_nr hr2, f5.1 r 0 x (by unfold ToW; omega), gI_nr hr]
              have e75 : gI (sI h5 76 0 x u) 75 0 x = v := by rw [gI_nr (by decide), f5.1 75 0 x (by unfold ToW; omega), gI_eq]
              refine ok_ck (by omega) (ok_lt (six (ur (ur R 5 v) 6 u, t + 1 + 2) _ ⟨(ne 71 (by decide) (by decide) (by decide)).trans e1, (ne 72 (by decide) (by decide) (by decide)).trans e2, (ne 78 (by decide) (by decide) (by decide)).trans e3, (ne 73 (by decide) (by decide) (by decide)).trans e4, (ne 74 (by decide) (by decide) (by decide)).trans e5, Or.inl e75, gI_eq, (ne 77 (by decide) (by decide) (by decide)).trans e8⟩ r4 (rdE_v (by decide) q5) (by show t + 1 + 2 ≤ 800; omega) (rs_v (by decide) (by decide) (fr_tr (rs_v (by decide) (by decide) (fr_tr FB3 (fr_mo f4 to_rs))) (fr_mo f5 to_rs))) (fr_sI G5 (xtw x1 (by decide) (by decide)))))
            · intro e h5 eu f5
              rw [eu]
              exact ok_ck (by omega) (ok_lt (flt e _ (ft (by decide) (by decide) f5)))
          · intro e h4 ev f4
            rw [ev]
            have f5 : ftR h0 (sI h4 75 0 x 0) e := ft (by decide) (by decide) f4
            exact ok_ck (by omega) (ok_lt (ok_ck (by omega) (nF f5 (ok_ck (by omega) (ok_lt (flt e _ (ft (by decide) (by decide) f5)))))))
        · rw [if_neg w15, if_pos (by omega)]
          unfold losF
          refine nR (by decide) G3 q3 ?_ ?_
          · intro v h4 ev f4 G4 q4 v1 v2
            rw [ev]
            have tt := t_le n8 (b := b) (t := t + 1) (by rw [(num_ok ev).1]; decide)
            have d4 := drr_fr f4 (x := x) (by intro r r1 r2; unfold ToW; omega) d3
            obtain ⟨e1, e2, e3, e4, e5, e6, e7, e8⟩ := d4
            have ne : ∀ r : Nat, r ≠ 77 → gI (sI h4 77 0 x v) r 0 x = gI h4 r 0 x := fun r hr => gI_nr hr
            refine ok_ck (by omega) (ok_lt (six (ur R 7 v, t + 1 + 1) _ ⟨(ne 71 (by decide)).trans e1, (ne 72 (by decide)).trans e2, (ne 78 (by decide)).trans e3, (ne 73 (by decide)).trans e4, (ne 74 (by decide)).trans e5, by rw [ne 75 (by decide)]; exact e6, (ne 76 (by decide)).trans e7, gI_eq⟩ r4 (rdE_v (by decide) q4) (by show t + 1 + 1 ≤ 800; omega) (rs_v (by decide) (by decide) (fr_tr FB3 (fr_mo f4 to_rs))) (fr_sI G4 (xtw x1 (by decide) (by decide)))))
          · intro e h4 ev f4
            rw [ev]
            exact ok_ck (by omega) (ok_lt (flt e _ (ft (by decide) (by decide) f4)))
    · rw [if_neg z]
      have fin : ok (g_X12_mouthLine (g - 1) 7 [x] h1) (Q (.ok (R, t))) := k7 _ R t h1 (by omega) FB F0 qr q t8
      by_cases k2 : tkK b n t = 2
      · have e31 : gI h1 12 0 31 = tkV b n t := q.1.2.2.2.2.2.1 (Or.inr k2)
        have ek : kyT b n t = tkV b n t := if_pos k2
        rw [← ek] at e31
        rw [e31]
        exact ok_t (rk.2.1.mpr k2) (ok_if (fun _ => fin) (fun u => ok_if (fun _ => fin) (fun u2 => absurd ⟨by omega, by omega⟩ z)))
      · exact ok_f (fun y => k2 (rk.2.1.mp y)) fin
end
