/-! FEED -/
theorem w32_8 (z : Int) : w32 z % 256 = z % 256 := by
  have e : w32 z % 4294967296 = z % 4294967296 := by
    unfold w32
    rw [Int32.toInt_ofInt]
    exact Int.bmod_emod ..
  omega
theorem tobyte_e (z : Int) : tobyte z = if z % 256 < 128 then z % 256 else z % 256 - 256 := by
  have e := w32_8 z
  unfold w32 at e
  unfold tobyte
  rw [Int32.toInt_toInt8]
  show (if (Int32.ofInt z).toInt % 256 < (256 + 1) / 2 then (Int32.ofInt z).toInt % 256 else (Int32.ofInt z).toInt % 256 - 256) = _
  rw [e, show ((256 : Int) + 1) / 2 = 128 by decide]
theorem band8 (y : Int) : band y 255 = y % 256 := by
  unfold band
  show (BitVec.ofInt 32 y &&& BitVec.ofInt 32 255).toInt = _
  have e : (BitVec.ofInt 32 y &&& BitVec.ofInt 32 255).toNat = (y % 4294967296).toNat % 256 := by
    rw [BitVec.toNat_and, BitVec.toNat_ofInt, show (BitVec.ofInt 32 255).toNat = 2 ^ 8 - 1 by decide, Nat.and_two_pow_sub_one_eq_mod]
    rfl
  rw [BitVec.toInt_eq_toNat_of_lt (by rw [e]; omega), e]
  omega
theorem tobyte_sb (z : Int) : tobyte z = sb (band z 255) := by
  rw [tobyte_e, band8]; rfl
def byF (a b c d e j : Int) : Int := band (bshr (if j < 4 then a else if j < 8 then b else if j < 12 then c else if j < 16 then d else e) (24 - 8 * (j % 4))) 255
theorem byF_r {a b c d e j : Int} : 0 ≤ byF a b c d e j ∧ byF a b c d e j < 256 := by unfold byF; rw [band8]; omega
def feX (X : Ch) (a b c d e : Int) : Ch := fun f i => match f with
  | 29 => if X 30 0 ≤ i then byF a b c d e (i - X 30 0) else X 29 i
  | 30 => X 30 0 + 20
  | _ => X f i
def TpW (t : Int) : Nat → Int → Int → Prop := fun r i k => (r = 11 ∧ k = 1) ∨ (r = 58 ∧ t ≤ k ∧ k < t + 4)
theorem p_tape {h0 : Hp} {t v : Int} (e0 : gI h0 11 0 1 = t) (t1 : 0 ≤ t) (t2 : t + 4 ≤ 800) : ok (f_X11_tapeNumber v h0) (fun _ h' => Fr (TpW t) h0 h' ∧ gI h' 11 0 1 = t + 4 ∧ ∀ j, 0 ≤ j → j < 4 → gI h' 58 0 (t + j) = sb (band (bshr v (24 - 8 * j)) 255)) := by
  have key : ∀ (d n : Nat) (h : Hp) (x j : Int), (4 - j).toNat = d → 0 ≤ j → j ≤ 4 → x = 24 - 8 * j → d + 1 ≤ n → Fr (TpW t) h0 h → gI h 11 0 1 = t + j → (∀ i, 0 ≤ i → i < j → gI h 58 0 (t + i) = sb (band (bshr v (24 - 8 * i)) 255)) → ok (g_X11_tapeNumber n 1 [v, x] h) (fun _ h' => Fr (TpW t) h0 h' ∧ gI h' 11 0 1 = t + 4 ∧ ∀ j, 0 ≤ j → j < 4 → gI h' 58 0 (t + j) = sb (band (bshr v (24 - 8 * j)) 255)) := by
    intro d
    induction d with
    | zero =>
      intro n h x j hd j1 j2 hx hn hF e1 hj
      refine s_X11_tapeNumber_1 (by omega) ?_
      unfold b_X11_tapeNumber_1
      exact ok_t (by omega) (ok_some ⟨hF, by omega, fun i i1 i2 => hj i i1 (by omega)⟩)
    | succ d ih =>
      intro n h x j hd j1 j2 hx hn hF e1 hj
      refine s_X11_tapeNumber_1 (by omega) ?_
      unfold b_X11_tapeNumber_1
      rw [e1]
      have tb := tobyte_ok (bshr v x)
      refine ok_f (by omega) (ok_f (by omega) (ok_ck (by omega) (ok_ck tb (ok_lt ?_))))
      rw [gI_nr (show (11 : Nat) ≠ 58 by decide), e1]
      refine ok_ck (by omega) (ok_lt (ok_ck (by omega) (ih _ _ _ (j + 1) (by omega) (by omega) (by omega) (by omega) (by omega) (fr_sI (fr_sI hF (by unfold TpW; omega)) (by unfold TpW; omega)) (by rw [gI_eq]; omega) (fun i i1 i2 => ?_))))
      rw [gI_nr (by decide)]
      by_cases y : i = j
      · rw [y, gI_eq, hx, tobyte_sb]
      · rw [gI_nk (by omega)]; exact hj i i1 (by omega)
  refine fuv_X11_tapeNumber (fun n hn => ?_)
  refine s_X11_tapeNumber_0 (by omega) ?_
  unfold b_X11_tapeNumber_0
  exact key 4 _ _ _ 0 (by omega) (by omega) (by omega) (by omega) (by omega) fr_rf (by omega) (fun i i1 i2 => by omega)
set_option maxHeartbeats 4000000 in
theorem agr_feed {a b d e0 f : Int} : Agr (f_X11_feed a b d e0 f) (f_X12_feed a b d e0 f) := by
  intro h c σ w q
  have tt := sw_T w
  have e1 := q.2.2.2.2.2.2.2.2.1.1
  by_cases z : sX σ 30 0 ≤ 780
  · refine ⟨sX σ 30 0 + 20, stX σ (feX (sX σ) a b d e0 f), ?_, ?_, fun h2 q2 => ?_⟩
    · obtain ⟨w1, w2, w3, w4, w5, w6, w7, w8, w9⟩ := w
      refine ⟨w1, w2, w3, w4, w5, w6, w7, ?_, fun k k1 k2 => ?_⟩
      · show 0 ≤ sX σ 30 0 + 20 ∧ sX σ 30 0 + 20 ≤ 800; omega
      · have k2 : k < sX σ 30 0 + 20 := k2
        show 0 ≤ (if sX σ 30 0 ≤ k then byF a b d e0 f (k - sX σ 30 0) else sX σ 29 k) ∧ (if sX σ 30 0 ≤ k then byF a b d e0 f (k - sX σ 30 0) else sX σ 29 k) < 256
        split
        · exact byF_r
        · exact w9 k k1 (by omega)
    · refine fuv_X11_feed (fun n hn => ?_)
      refine s_X11_feed_0 (by omega) ?_
      unfold b_X11_feed_0
      rw [e1]
      refine ok_f (by omega) (ok_ck (by omega) (ok_t (by omega) (ok_bq (p_tape e1 (by omega) (by omega)) ?_)))
      intro _ h1 ⟨a1, a2, a3⟩
      refine ok_bq (p_tape a2 (by omega) (by omega)) ?_
      intro _ h2 ⟨b1, b2, b3⟩
      refine ok_bq (p_tape b2 (by omega) (by omega)) ?_
      intro _ h3 ⟨d1, d2, d3⟩
      refine ok_bq (p_tape d2 (by omega) (by omega)) ?_
      intro _ h4 ⟨f1, f2, f3⟩
      refine ok_bq (p_tape f2 (by omega) (by omega)) ?_
      intro _ H ⟨g1, g2, g3⟩
      have ee : ∀ (r : Nat) (i k : Int), ¬ ((r = 11 ∧ k = 1) ∨ (r = 58 ∧ sX σ 30 0 ≤ k)) → gI H r i k = gI h r i k := by
        intro r i k y
        rw [g1.1 r i k (by unfold TpW; omega), f1.1 r i k (by unfold TpW; omega), d1.1 r i k (by unfold TpW; omega), b1.1 r i k (by unfold TpW; omega), a1.1 r i k (by unfold TpW; omega)]
      have e2 : H.2 = h.2 := g1.2.trans (f1.2.trans (d1.2.trans (b1.2.trans a1.2)))
      refine ok_some ⟨by omega, ⟨c, ?_⟩, fun r i k y => ee r i k (by unfold ClW at y; omega)⟩
      obtain ⟨q1, q2, q3, q4, q5, q6, q7, q8, q9, q10, q11⟩ := q
      have byt : ∀ j, 0 ≤ j → j < 20 → gI H 58 0 (sX σ 30 0 + j) = sb (byF a b d e0 f j) := by
        intro j j1 j2
        unfold byF
        by_cases y1 : j < 4
        · rw [if_pos y1, show j % 4 = j by omega, ← a3 j j1 y1, g1.1 58 0 _ (by unfold TpW; omega), f1.1 58 0 _ (by unfold TpW; omega), d1.1 58 0 _ (by unfold TpW; omega), b1.1 58 0 _ (by unfold TpW; omega)]
        · rw [if_neg y1]
          by_cases y2 : j < 8
          · rw [if_pos y2, show j % 4 = j - 4 by omega, ← b3 (j - 4) (by omega) (by omega), g1.1 58 0 _ (by unfold TpW; omega), f1.1 58 0 _ (by unfold TpW; omega), d1.1 58 0 _ (by unfold TpW; omega), show sX σ 30 0 + 4 + (j - 4) = sX σ 30 0 + j by omega]
          · rw [if_neg y2]
            by_cases y3 : j < 12
            · rw [if_pos y3, show j % 4 = j - 8 by omega, ← d3 (j - 8) (by omega) (by omega), g1.1 58 0 _ (by unfold TpW; omega), f1.1 58 0 _ (by unfold TpW; omega), show sX σ 30 0 + 4 + 4 + (j - 8) = sX σ 30 0 + j by omega]
            · rw [if_neg y3]
              by_cases y4 : j < 16
              · rw [if_pos y4, show j % 4 = j - 12 by omega, ← f3 (j - 12) (by omega) (by omega), g1.1 58 0 _ (by unfold TpW; omega), show sX σ 30 0 + 4 + 4 + 4 + (j - 12) = sX σ 30 0 + j by omega]
              · rw [if_neg y4, show j % 4 = j - 16 by omega, ← g3 (j - 16) (by omega) (by omega), show sX σ 30 0 + 4 + 4 + 4 + 4 + (j - 16) = sX σ 30 0 + j by omega]
      have nt : kT H (stX σ (feX (sX σ) a b d e0 f)) := by
        refine ⟨?_, fun k k1 k2 => ?_⟩
        · show gI H 11 0 1 = sX σ 30 0 + 20; omega
        · have k2 : k < sX σ 30 0 + 20 := k2
          show gI H 58 0 k = sb (if sX σ 30 0 ≤ k then byF a b d e0 f (k - sX σ 30 0) else sX σ 29 k)
          by_cases y : sX σ 30 0 ≤ k
          · rw [if_pos y, ← byt (k - sX σ 30 0) (by omega) (by omega), show sX σ 30 0 + (k - sX σ 30 0) = k by omega]
          · rw [if_neg y, ee 58 0 k (by omega)]; exact q9.2 k k1 (by omega)
      have e := ee
      exact ⟨kA_e (fun r i k z => e r i k (by unfold inC at z; omega)) e2 q1, kR_e e2 q2, kV_e (fun k => e 10 0 k (by omega)) (fun k => e 57 0 k (by omega)) q3, kG_e (fun k z => e 2 0 k (by omega)) q4, kL_e (fun r k a b => e r 0 k (by omega)) q5, kU_e (e 11 0 10 (by omega)) (fun v k a b => e 10 v k (by omega)) (fun v k a b => e 57 v k (by omega)) q6, kI_e (e 11 0 13 (by omega)) (fun k => e 10 21 k (by omega)) (fun k => e 57 21 k (by omega)) (fun r k a b => e r 1 k (by omega)) q7, kN_e (fun k z => e 5 0 k (by omega)) (fun r k a b => e r 0 k (by omega)) q8, nt, kF_e (fun k z => e 7 0 k (by omega)) q10, (by
        rcases q11 with y | y
        · exact Or.inl ((e 11 0 16 (by omega)).trans y)
        · refine Or.inr ?_
          rw [e 11 0 16 (by omega)]
          exact isFit_c (C := sC σ) (X := sX σ) (Y := feX (sX σ) a b d e0 f) (M := sV σ 0 0 0) rfl rfl rfl rfl rfl rfl y)⟩
    · have q := IR_0 w q2
      have vm := vw_m (sw_V w).1
      have wC := sw_C w
      have r1 := q.2.2.2.2.2.2.2.1.1
      have key : ∀ (k n : Nat) (H : Hp) (j : Int), (20 - j).toNat = k → 0 ≤ j → j ≤ 20 → 3 * k + 3 ≤ n → Fr (fun r _ k => r = 60 ∧ sX σ 30 0 ≤ k) (sI h2 12 0 0 0) H → (∀ i, 0 ≤ i → i < j → gI H 60 0 (sX σ 30 0 + i) = byF a b d e0 f i) → ok (g_X12_feed n 1 [a, b, d, e0, f, j] H) (fun r h' => r = sX σ 30 0 + 20 ∧ IR h' (stX σ (feX (sX σ) a b d e0 f)) ∧ Fr ReW h2 h') := by
        intro k
        induction k with
        | zero =>
          intro n H j hd j1 j2 hn hF hj
          have ej : j = 20 := by omega
          subst ej
          have r2 : gI H 12 0 2 = sX σ 30 0 := (hF.1 12 0 2 (by omega)).trans r1
          refine s_X12_feed_1 (by omega) ?_
          unfold b_X12_feed_1
          rw [r2]
          refine ok_t (by omega) (ok_ck (by omega) (ok_lt ?_))
          rw [gI_eq]
          refine ok_some ⟨rfl, ?_, fr_0 (fr_sI (fr_mo hF (fun r i k u => Or.inr ⟨by omega, by omega⟩)) (Or.inl rfl))⟩
          have ee : ∀ (r : Nat) (i k : Int), ¬ ((r = 12 ∧ k = 2) ∨ (r = 60 ∧ sX σ 30 0 ≤ k)) → gI (sI H 12 0 2 (sX σ 30 0 + 20)) r i k = gI (sI h2 12 0 0 0) r i k := by
            intro r i k y
            rw [gI_sI, if_neg (by omega)]
            exact hF.1 r i k (by omega)
          obtain ⟨q1, q2, q3, q4, q5, q6, q7, q8, q9⟩ := q
          have nt : rT (sI H 12 0 2 (sX σ 30 0 + 20)) (stX σ (feX (sX σ) a b d e0 f)) := by
            refine ⟨gI_eq, fun k k1 k2 => ?_⟩
            have k2 : k < sX σ 30 0 + 20 := k2
            show gI (sI H 12 0 2 (sX σ 30 0 + 20)) 60 0 k = (if sX σ 30 0 ≤ k then byF a b d e0 f (k - sX σ 30 0) else sX σ 29 k)
            by_cases y : sX σ 30 0 ≤ k
            · rw [if_pos y, gI_nr (by decide), ← hj (k - sX σ 30 0) (by omega) (by omega), show sX σ 30 0 + (k - sX σ 30 0) = k by omega]
            · rw [if_neg y, ee 60 0 k (by omega)]; exact q8.2 k k1 (by omega)
          have e := ee
          exact ⟨isR_eq (fun r k a b => e r 0 k (by omega)) q1, B92_e (fun k => e 92 0 k (by omega)) q2, rV_e wC (fun r a b => e r 0 0 (by omega)) (fun m a b => ⟨e 91 0 m (by omega), e 92 0 m (by omega)⟩) q3, rL_e (fun r k a b z1 z2 => e r 0 k (by omega)) vm.2 q4, rU_e wC (sw_U w).2.1 (e 12 0 54 (by omega)) (fun r s a b z1 z2 => e r 0 s (by omega)) (fun m a b => ⟨e 91 0 m (by omega), e 92 0 m (by omega)⟩) q5, rI_e wC (fun z => (vw_m (sw_i w z).1).2) (e 12 0 53 (by omega)) (fun r a b => e r 0 2 (by omega)) (fun m a b => ⟨e 91 0 m (by omega), e 92 0 m (by omega)⟩) (fun r k a b z1 z2 => e r 0 k (by omega)) q6, rN_e (fun k z => e 12 0 k (by omega)) (fun r k a b => e r 0 k (by omega)) q7, nt, rF_e (fun k z => e 12 0 k (by omega)) q9⟩
        | succ k ih =>
          intro n H j hd j1 j2 hn hF hj
          have r2 : gI H 12 0 2 = sX σ 30 0 := (hF.1 12 0 2 (by omega)).trans r1
          have two : ∀ (m : Nat) (y : Int), 3 * k + 5 ≤ m → y = (if j < 4 then a else if j < 8 then b else if j < 12 then d else if j < 16 then e0 else f) → ok (g_X12_feed m 2 [a, b, d, e0, f, j, y] H) (fun r h' => r = sX σ 30 0 + 20 ∧ IR h' (stX σ (feX (sX σ) a b d e0 f)) ∧ Fr ReW h2 h') := by
            intro m y y1 y2
            refine s_X12_feed_2 (by omega) ?_
            unfold b_X12_feed_2
            rw [r2]
            refine ok_ck (by omega) (ok_ck (by omega) (ok_ck (by omega) (ok_ck (by omega) (ok_ck (by omega) (ok_lt (ok_ck (by omega) (ih _ _ _ (by omega) (by omega) (by omega) (by omega) (fr_sI hF ⟨rfl, by omega⟩) (fun i i1 i2 => ?_))))))))
            by_cases u : i = j
            · rw [u, gI_eq, y2]; rfl
            · rw [gI_nk (by omega)]; exact hj i i1 (by omega)
          refine s_X12_feed_1 (by omega) ?_
          unfold b_X12_feed_1
          refine ok_f (by omega) (ok_if (fun u => ok_if (fun u2 => ok_if (fun u3 => ok_if (fun u4 => two _ _ (by omega) ?_) (fun u4 => two _ _ (by omega) ?_)) (fun u3 => two _ _ (by omega) ?_)) (fun u2 => two _ _ (by omega) ?_)) (fun u => two _ _ (by omega) ?_))
          · rw [if_neg (by omega), if_neg (by omega), if_neg (by omega), if_neg (by omega)]
          · rw [if_neg (by omega), if_neg (by omega), if_neg (by omega), if_pos (by omega)]
          · rw [if_neg (by omega), if_neg (by omega), if_pos (by omega)]
          · rw [if_neg (by omega), if_pos (by omega)]
          · rw [if_pos (by omega)]
      refine fuv_X12_feed (fun n hn => ?_)
      refine s_X12_feed_0 (by omega) ?_
      unfold b_X12_feed_0
      refine ok_lt ?_
      rw [r1]
      exact ok_t z (key 20 _ _ _ (by omega) (by omega) (by omega) (by omega) fr_rf (fun i i1 i2 => by omega))
  · refine ⟨-1, σ, w, ok_rc q ?_, fun h2 q2 => ok_rr w q2 ?_⟩
    · refine ok_eq.mp (fuv_X11_feed (fun n hn => ?_))
      refine s_X11_feed_0 (by omega) ?_
      unfold b_X11_feed_0
      rw [e1]
      exact ok_f (by omega) (ok_ck (by omega) (ok_f (by omega) (ok_some ⟨rfl, rfl⟩)))
    · have q3 := IR_0 w q2
      refine ok_eq.mp (fuv_X12_feed (fun n hn => ?_))
      refine s_X12_feed_0 (by omega) ?_
      unfold b_X12_feed_0
      refine ok_lt ?_
      rw [q3.2.2.2.2.2.2.2.1.1]
      exact ok_f z (ok_some ⟨rfl, rfl⟩)
