/-! TEXT, 21: the reference's lines, but those of mouths -/
def RSe : Nat → Int → Int → Prop := fun r _ k => (r = 12 ∧ 28 ≤ k ∧ k ≤ 31) ∨ (r = 61 ∧ 15 ≤ k ∧ k ≤ 19) ∨ (r = 62 ∧ 64 ≤ k)
def RIs : Nat → Int → Int → Prop := fun r _ k => (r = 12 ∧ 28 ≤ k ∧ k ≤ 31) ∨ (r = 61 ∧ k = 20) ∨ (63 ≤ r ∧ r ≤ 66)
def RWi : Nat → Int → Int → Prop := fun r _ k => (r = 12 ∧ 28 ≤ k ∧ k ≤ 31) ∨ (r = 61 ∧ k = 21) ∨ r = 67
def RGa : Nat → Int → Int → Prop := fun r _ k => (r = 12 ∧ 28 ≤ k ∧ k ≤ 31) ∨ (r = 61 ∧ k = 22) ∨ (68 ≤ r ∧ r ≤ 70)
def RSt : Nat → Int → Int → Prop := fun r _ k => (r = 12 ∧ 28 ≤ k ∧ k ≤ 31) ∨ (r = 61 ∧ 23 ≤ k ∧ k ≤ 26)
section
variable {h h0 h2 : Hp} {b : Int → Int} {n t : Nat} {S I N G T M : Ch} {W W2 : Int → Int} {e : Int × Int} {Z : Hp → Option (Int × Hp)}
theorem cel_f (f : ftR h0 h e) : f_X12_cellAtHand h = some (0, h) := by
  have c1 := f.2 16 (by decide) (by decide)
  have c0 := f.2 15 (by decide) (by decide)
  refine ok_eq.mp (fuv_X12_cellAtHand (fun m hm => ?_))
  refine s_X12_cellAtHand_0 (by omega) ?_
  unfold b_X12_cellAtHand_0
  exact ok_be (p_fr (k := 15) (by decide) (by decide) (by decide)) (ok_ck (by omega) (nF f (ok_be (p_fr (k := 16) (by decide) (by decide) (by decide)) (ok_ck (by omega) (ok_be (p_hand_f (ba_0 f.1)) (ok_be (p_fr (k := 15) (by decide) (by decide) (by decide)) (ok_ck (by omega) (ok_ck (by omega) (ok_some ⟨by omega, rfl⟩)))))))))
theorem wat_f (f : ftR h0 h e) : f_X12_water h = some (0, h) := by
  refine ok_eq.mp (fuv_X12_water (fun m hm => ?_))
  refine s_X12_water_0 (by omega) ?_
  unfold b_X12_water_0
  refine ok_be (cel_f f) (ok_f (ba_0 f.1) ?_)
  refine s_X12_water_1 (by omega) ?_
  unfold b_X12_water_1
  exact goF f (ok_some ⟨rfl, rfl⟩)
theorem rf_sea {Q : Ex ((Int → Int) × Ch × Nat) → Int → Hp → Prop} (F0 : Fr TxR h0 h) (q : rdE h b n t) (qs : drS h S) (kZ : ∀ (F : Ex ((Int → Int) × Ch × Nat)) (h' : Hp), endX F (baR h0 h') (fun a => Fr RSe h h' ∧ Fr TxR h0 h' ∧ rdE h' b n a.2.2 ∧ drS h' a.2.1 ∧ a.1 = W2) → ok (Z h') (Q F)) : ok (bd (f_X12_numeral 1 8 h) fun v4 h5 => bd (f_X12_reads 0 v4 h5) fun v6 h7 => bd (f_X12_numeral 1 8 h7) fun v8 h9 => bd (f_X12_reads 1 v8 h9) fun v10 h11 => Z h11) (Q (exB (numF b n 1 8 t) fun x => exB (numF b n 1 8 (t + 1)) fun y => .ok (W2, ud (ud S 0 0 x) 1 0 y, t + 2))) := by
  refine nR (by decide) F0 q ?_ ?_
  · intro x h5 ex f5 G5 q5 x1 x2
    rw [ex]
    refine ok_be (p_rd (k := 15) (by decide) (by decide) (by decide)) (nR (by decide) (fr_sI G5 (by unfold TxR; omega)) (rdE_w (by omega) (by omega) q5) ?_ ?_)
    · intro y h9 ey f9 G9 q9 y1 y2
      rw [ey]
      refine ok_be (p_rd (k := 16) (by decide) (by decide) (by decide)) ?_
      have e7 : Fr (fun r _ k => r = 61 ∧ k = 15) h5 (sI h5 61 0 15 x) := fr_sI fr_rf (by omega)
      have e11 : Fr (fun r _ k => r = 61 ∧ k = 16) h9 (sI h9 61 0 16 y) := fr_sI fr_rf (by omega)
      have FF : Fr (fun r _ k => (r = 12 ∧ 28 ≤ k ∧ k ≤ 31) ∨ (r = 61 ∧ (k = 15 ∨ k = 16))) h (sI h9 61 0 16 y) := fr_tr (fr_mo f5 (by intro r i k; unfold ToW; omega)) (fr_tr (fr_mo e7 (by intro r i k; omega)) (fr_tr (fr_mo f9 (by intro r i k; unfold ToW; omega)) (fr_mo e11 (by intro r i k; omega))))
      have g0 : gI (sI h9 61 0 16 y) 61 0 15 = x := by rw [gI_nk (by decide), f9.1 61 0 15 (by unfold ToW; omega), gI_eq]
      exact kZ (.ok (W2, ud (ud S 0 0 x) 1 0 y, t + 2)) _ (eX_o ⟨fr_mo FF (by intro r i k; unfold RSe; omega), fr_sI G9 (by unfold TxR; omega), rdE_w (by omega) (by omega) q9, ⟨g0, gI_eq, (FF.1 61 0 18 (by omega)).trans qs.2.2.1, (FF.1 61 0 19 (by omega)).trans qs.2.2.2.1, (FF.1 61 0 17 (by omega)).trans qs.2.2.2.2.1, fun z z1 z2 => (FF.1 62 0 _ (by omega)).trans (qs.2.2.2.2.2 z z1 z2)⟩, rfl⟩)
    · intro e h9 ey f9
      rw [ey]
      exact ok_be (p_rd (k := 16) (by decide) (by decide) (by decide)) (kZ (.error e) _ (eX_e (baR_w (by unfold TxR; omega) (by decide) f9.1)))
  · intro e h5 ex f5
    rw [ex]
    exact ok_be (p_rd (k := 15) (by decide) (by decide) (by decide)) (nF (ftR_6 (by decide) (by decide) (by decide) f5) (ok_be (p_rd (k := 16) (by decide) (by decide) (by decide)) (kZ (.error e) _ (eX_e (baR_w (by unfold TxR; omega) (by decide) (ftR_6 (by decide) (by decide) (by decide) f5).1)))))
theorem rf_ship {Q : Ex ((Int → Int) × Ch × Nat) → Int → Hp → Prop} (F0 : Fr TxR h0 h) (q : rdE h b n t) (qs : drS h S) (ws : sW S) (kZ : ∀ (F : Ex ((Int → Int) × Ch × Nat)) (h' : Hp), endX F (baR h0 h') (fun a => Fr RSe h h' ∧ Fr TxR h0 h' ∧ rdE h' b n a.2.2 ∧ drS h' a.2.1 ∧ a.1 = W2) → ok (Z h') (Q F)) : ok (bd (f_X12_water h) fun v14 h15 => bd (f_X12_reads 3 v14 h15) fun v16 h17 => Z h17) (Q (exB (watF b n S t) fun c => .ok (W2, ud S 3 0 c, t + 2))) := by
  refine ok_bq (r_wat F0 q qs ws) ?_
  intro v h5 z
  refine ok_be (p_rd (k := 18) (by decide) (by decide) (by decide)) ?_
  cases eN : watF b n S t with
  | error e =>
    rw [eN] at z
    exact kZ (.error e) _ (eX_e (baR_w (by unfold TxR; omega) (by decide) z.1))
  | ok c =>
    rw [eN] at z
    obtain ⟨z1, f5, G5, q5, cp, c6, -⟩ := z
    have c0 := cp.1
    rw [z1]
    have e7 : Fr (fun r _ k => r = 61 ∧ k = 18) h5 (sI h5 61 0 18 c) := fr_sI fr_rf (by omega)
    have FF : Fr (fun r _ k => (r = 12 ∧ 28 ≤ k ∧ k ≤ 31) ∨ (r = 61 ∧ k = 18)) h (sI h5 61 0 18 c) := fr_tr (fr_mo f5 (by intro r i k; unfold ToW; omega)) (fr_mo e7 (by intro r i k; omega))
    exact kZ (.ok (W2, ud S 3 0 c, t + 2)) _ (eX_o ⟨fr_mo FF (by intro r i k; unfold RSe; omega), fr_sI G5 (by unfold TxR; omega), rdE_w (by omega) (by omega) q5, ⟨(FF.1 61 0 15 (by omega)).trans qs.1, (FF.1 61 0 16 (by omega)).trans qs.2.1, gI_eq, (FF.1 61 0 19 (by omega)).trans qs.2.2.2.1, (FF.1 61 0 17 (by omega)).trans qs.2.2.2.2.1, fun z z1 z2 => (FF.1 62 0 _ (by omega)).trans (qs.2.2.2.2.2 z z1 z2)⟩, rfl⟩)
theorem rf_bah {Q : Ex ((Int → Int) × Ch × Nat) → Int → Hp → Prop} (F0 : Fr TxR h0 h) (q : rdE h b n t) (qs : drS h S) (ws : sW S) (kZ : ∀ (F : Ex ((Int → Int) × Ch × Nat)) (h' : Hp), endX F (baR h0 h') (fun a => Fr RSe h h' ∧ Fr TxR h0 h' ∧ rdE h' b n a.2.2 ∧ drS h' a.2.1 ∧ a.1 = W2) → ok (Z h') (Q F)) : ok (bd (f_X12_water h) fun v14 h15 => bd (f_X12_reads 4 v14 h15) fun v16 h17 => Z h17) (Q (exB (watF b n S t) fun c => .ok (W2, ud S 4 0 c, t + 2))) := by
  refine ok_bq (r_wat F0 q qs ws) ?_
  intro v h5 z
  refine ok_be (p_rd (k := 19) (by decide) (by decide) (by decide)) ?_
  cases eN : watF b n S t with
  | error e =>
    rw [eN] at z
    exact kZ (.error e) _ (eX_e (baR_w (by unfold TxR; omega) (by decide) z.1))
  | ok c =>
    rw [eN] at z
    obtain ⟨z1, f5, G5, q5, cp, c6, -⟩ := z
    have c0 := cp.1
    rw [z1]
    have e7 : Fr (fun r _ k => r = 61 ∧ k = 19) h5 (sI h5 61 0 19 c) := fr_sI fr_rf (by omega)
    have FF : Fr (fun r _ k => (r = 12 ∧ 28 ≤ k ∧ k ≤ 31) ∨ (r = 61 ∧ k = 19)) h (sI h5 61 0 19 c) := fr_tr (fr_mo f5 (by intro r i k; unfold ToW; omega)) (fr_mo e7 (by intro r i k; omega))
    exact kZ (.ok (W2, ud S 4 0 c, t + 2)) _ (eX_o ⟨fr_mo FF (by intro r i k; unfold RSe; omega), fr_sI G5 (by unfold TxR; omega), rdE_w (by omega) (by omega) q5, ⟨(FF.1 61 0 15 (by omega)).trans qs.1, (FF.1 61 0 16 (by omega)).trans qs.2.1, (FF.1 61 0 18 (by omega)).trans qs.2.2.1, gI_eq, (FF.1 61 0 17 (by omega)).trans qs.2.2.2.2.1, fun z z1 z2 => (FF.1 62 0 _ (by omega)).trans (qs.2.2.2.2.2 z z1 z2)⟩, rfl⟩)
theorem rf_storm {Q : Ex ((Int → Int) × Ch × Nat) → Int → Hp → Prop} (F0 : Fr TxR h0 h) (q : rdE h b n t) (qt : drT h T) (kZ : ∀ (F : Ex ((Int → Int) × Ch × Nat)) (h' : Hp), endX F (baR h0 h') (fun a => Fr RSt h h' ∧ Fr TxR h0 h' ∧ rdE h' b n a.2.2 ∧ drT h' a.2.1 ∧ a.1 = W2) → ok (Z h') (Q F)) : ok (bd (f_X12_numeral 0 99 h) fun v4 h5 => bd (f_X12_reads 8 v4 h5) fun v6 h7 => bd (f_X12_numeral 1 99 h7) fun v8 h9 => bd (f_X12_reads 9 v8 h9) fun v10 h11 => Z h11) (Q (exB (numF b n 0 99 t) fun x => exB (numF b n 1 99 (t + 1)) fun y => .ok (W2, ud (ud T 0 0 x) 1 0 y, t + 2))) := by
  refine nR (by decide) F0 q ?_ ?_
  · intro x h5 ex f5 G5 q5 x1 x2
    rw [ex]
    refine ok_be (p_rd (k := 23) (by decide) (by decide) (by decide)) (nR (by decide) (fr_sI G5 (by unfold TxR; omega)) (rdE_w (by omega) (by omega) q5) ?_ ?_)
    · intro y h9 ey f9 G9 q9 y1 y2
      rw [ey]
      refine ok_be (p_rd (k := 24) (by decide) (by decide) (by decide)) ?_
      have e7 : Fr (fun r _ k => r = 61 ∧ k = 23) h5 (sI h5 61 0 23 x) := fr_sI fr_rf (by omega)
      have e11 : Fr (fun r _ k => r = 61 ∧ k = 24) h9 (sI h9 61 0 24 y) := fr_sI fr_rf (by omega)
      have FF : Fr (fun r _ k => (r = 12 ∧ 28 ≤ k ∧ k ≤ 31) ∨ (r = 61 ∧ (k = 23 ∨ k = 24))) h (sI h9 61 0 24 y) := fr_tr (fr_mo f5 (by intro r i k; unfold ToW; omega)) (fr_tr (fr_mo e7 (by intro r i k; omega)) (fr_tr (fr_mo f9 (by intro r i k; unfold ToW; omega)) (fr_mo e11 (by intro r i k; omega))))
      have g0 : gI (sI h9 61 0 24 y) 61 0 23 = x := by rw [gI_nk (by decide), f9.1 61 0 23 (by unfold ToW; omega), gI_eq]
      exact kZ (.ok (W2, ud (ud T 0 0 x) 1 0 y, t + 2)) _ (eX_o ⟨fr_mo FF (by intro r i k; unfold RSt; omega), fr_sI G9 (by unfold TxR; omega), rdE_w (by omega) (by omega) q9, ⟨g0, gI_eq, (FF.1 61 0 25 (by omega)).trans qt.2.2.1, (FF.1 61 0 26 (by omega)).trans qt.2.2.2⟩, rfl⟩)
    · intro e h9 ey f9
      rw [ey]
      exact ok_be (p_rd (k := 24) (by decide) (by decide) (by decide)) (kZ (.error e) _ (eX_e (baR_w (by unfold TxR; omega) (by decide) f9.1)))
  · intro e h5 ex f5
    rw [ex]
    exact ok_be (p_rd (k := 23) (by decide) (by decide) (by decide)) (nF (ftR_6 (by decide) (by decide) (by decide) f5) (ok_be (p_rd (k := 24) (by decide) (by decide) (by decide)) (kZ (.error e) _ (eX_e (baR_w (by unfold TxR; omega) (by decide) (ftR_6 (by decide) (by decide) (by decide) f5).1)))))
theorem rf_soup {Q : Ex ((Int → Int) × Ch × Nat) → Int → Hp → Prop} (F0 : Fr TxR h0 h) (q : rdE h b n t) (qt : drT h T) (kZ : ∀ (F : Ex ((Int → Int) × Ch × Nat)) (h' : Hp), endX F (baR h0 h') (fun a => Fr RSt h h' ∧ Fr TxR h0 h' ∧ rdE h' b n a.2.2 ∧ drT h' a.2.1 ∧ a.1 = W2) → ok (Z h') (Q F)) : ok (bd (f_X12_numeral 0 9999 h) fun v14 h15 => bd (f_X12_reads 10 v14 h15) fun v16 h17 => Z h17) (Q (exB (numF b n 0 9999 t) fun x => .ok (W2, ud T 2 0 x, t + 1))) := by
  refine nR (by decide) F0 q ?_ ?_
  · intro x h5 ex f5 G5 q5 x1 x2
    rw [ex]
    refine ok_be (p_rd (k := 25) (by decide) (by decide) (by decide)) ?_
    have e7 : Fr (fun r _ k => r = 61 ∧ k = 25) h5 (sI h5 61 0 25 x) := fr_sI fr_rf (by omega)
    have FF : Fr (fun r _ k => (r = 12 ∧ 28 ≤ k ∧ k ≤ 31) ∨ (r = 61 ∧ k = 25)) h (sI h5 61 0 25 x) := fr_tr (fr_mo f5 (by intro r i k; unfold ToW; omega)) (fr_mo e7 (by intro r i k; omega))
    exact kZ (.ok (W2, ud T 2 0 x, t + 1)) _ (eX_o ⟨fr_mo FF (by intro r i k; unfold RSt; omega), fr_sI G5 (by unfold TxR; omega), rdE_w (by omega) (by omega) q5, ⟨(FF.1 61 0 23 (by omega)).trans qt.1, (FF.1 61 0 24 (by omega)).trans qt.2.1, gI_eq, (FF.1 61 0 26 (by omega)).trans qt.2.2.2⟩, rfl⟩)
  · intro e h5 ex f5
    rw [ex]
    exact ok_be (p_rd (k := 25) (by decide) (by decide) (by decide)) (kZ (.error e) _ (eX_e (baR_w (by unfold TxR; omega) (by decide) f5.1)))
theorem rf_seed {Q : Ex ((Int → Int) × Ch × Nat) → Int → Hp → Prop} (F0 : Fr TxR h0 h) (q : rdE h b n t) (qt : drT h T) (kZ : ∀ (F : Ex ((Int → Int) × Ch × Nat)) (h' : Hp), endX F (baR h0 h') (fun a => Fr RSt h h' ∧ Fr TxR h0 h' ∧ rdE h' b n a.2.2 ∧ drT h' a.2.1 ∧ a.1 = W2) → ok (Z h') (Q F)) : ok (bd (f_X12_numeral 0 99999 h) fun v14 h15 => bd (f_X12_reads 11 v14 h15) fun v16 h17 => Z h17) (Q (exB (numF b n 0 99999 t) fun x => .ok (W2, ud T 3 0 x, t + 1))) := by
  refine nR (by decide) F0 q ?_ ?_
  · intro x h5 ex f5 G5 q5 x1 x2
    rw [ex]
    refine ok_be (p_rd (k := 26) (by decide) (by decide) (by decide)) ?_
    have e7 : Fr (fun r _ k => r = 61 ∧ k = 26) h5 (sI h5 61 0 26 x) := fr_sI fr_rf (by omega)
    have FF : Fr (fun r _ k => (r = 12 ∧ 28 ≤ k ∧ k ≤ 31) ∨ (r = 61 ∧ k = 26)) h (sI h5 61 0 26 x) := fr_tr (fr_mo f5 (by intro r i k; unfold ToW; omega)) (fr_mo e7 (by intro r i k; omega))
    exact kZ (.ok (W2, ud T 3 0 x, t + 1)) _ (eX_o ⟨fr_mo FF (by intro r i k; unfold RSt; omega), fr_sI G5 (by unfold TxR; omega), rdE_w (by omega) (by omega) q5, ⟨(FF.1 61 0 23 (by omega)).trans qt.1, (FF.1 61 0 24 (by omega)).trans qt.2.1, (FF.1 61 0 25 (by omega)).trans qt.2.2.1, gI_eq⟩, rfl⟩)
  · intro e h5 ex f5
    rw [ex]
    exact ok_be (p_rd (k := 26) (by decide) (by decide) (by decide)) (kZ (.error e) _ (eX_e (baR_w (by unfold TxR; omega) (by decide) f5.1)))
theorem rf_gale {Q : Ex (Ch × Nat) → Int → Hp → Prop} (F0 : Fr TxR h0 h) (q : rdE h b n t) (qg : drG h G) (g0 : 0 ≤ G 0 0) (g4 : G 0 0 < 4) (kZ : ∀ (F : Ex (Ch × Nat)) (h' : Hp), endX F (baR h0 h') (fun a => Fr RGa h h' ∧ Fr TxR h0 h' ∧ rdE h' b n a.2 ∧ drG h' a.1) → ok (Z h') (Q F)) : ok (bd (f_X12_fresher 7 h) fun v28 h29 => ck (-2147483648 ≤ 4 + v28 ∧ 4 + v28 < 2147483648) <| lt (4 + v28) fun z30 => bd (f_X12_numeral 0 59 h29) fun v31 h32 => ck (0 ≤ z30 ∧ z30 < 8) <| lt (sI h32 68 0 z30 v31) fun h33 => bd (f_X12_numeral 0 3 h33) fun v34 h35 => ck (0 ≤ z30 ∧ z30 < 8) <| lt (sI h35 69 0 z30 v34) fun h36 => bd (f_X12_numeral 1 99 h36) fun v37 h38 => ck (0 ≤ z30 ∧ z30 < 8) <| lt (sI h38 70 0 z30 v37) fun h39 => bd (f_X12_fresher 7 h39) fun v40 h41 => ck (-2147483648 ≤ v40 + 1 ∧ v40 + 1 < 2147483648) <| bd (f_X12_reads 7 (v40 + 1) h41) fun v42 h43 => Z h43) (Q (exB (numF b n 0 59 t) fun x => exB (numF b n 0 3 (t + 1)) fun y => exB (numF b n 1 99 (t + 2)) fun z => .ok ((ud (ud (ud (ud G 1 (G 0 0) x) 2 (G 0 0) y) 3 (G 0 0) z) 0 0 (G 0 0 + 1)), t + 3))) := by
  have tw : ∀ r : Nat, 68 ≤ r → r ≤ 70 → TxR r 0 (4 + G 0 0) := by intro r r1 r2; unfold TxR; omega
  have fin : ∀ (e : Int × Int) (h5 : Hp), ftR h0 h5 e → ok (bd (f_X12_fresher 7 h5) fun v40 h41 => ck (-2147483648 ≤ v40 + 1 ∧ v40 + 1 < 2147483648) <| bd (f_X12_reads 7 (v40 + 1) h41) fun v42 h43 => Z h43) (Q (.error e)) := by
    intro e h5 f
    have c := f.2 22 (by decide) (by decide)
    exact ok_be (p_fr (k := 22) (by decide) (by decide) (by decide)) (ok_ck (by omega) (ok_be (p_rd (k := 22) (by decide) (by decide) (by decide)) (kZ (.error e) _ (eX_e (baR_w (by unfold TxR; omega) (by decide) f.1)))))
  refine ok_be (p_fr (k := 22) (by decide) (by decide) (by decide)) ?_
  rw [qg.1]
  refine ok_ck (by omega) (ok_lt (nR (by decide) F0 q ?_ ?_))
  · intro x h4 ex f4 G4 q4 x1 x2
    rw [ex]
    have e5 : Fr (fun r _ k => r = 68 ∧ k = 4 + G 0 0) h4 (sI h4 68 0 (4 + G 0 0) x) := fr_sI fr_rf (by omega)
    refine ok_ck (by omega) (ok_lt (nR (by decide) (fr_sI G4 (tw 68 (by decide) (by decide))) (rdE_v (by decide) q4) ?_ ?_))
    · intro y h8 ey f8 G8 q8 y1 y2
      rw [ey]
      have e9 : Fr (fun r _ k => r = 69 ∧ k = 4 + G 0 0) h8 (sI h8 69 0 (4 + G 0 0) y) := fr_sI fr_rf (by omega)
      refine ok_ck (by omega) (ok_lt (nR (by decide) (fr_sI G8 (tw 69 (by decide) (by decide))) (rdE_v (by decide) q8) ?_ ?_))
      · intro z h12 ez f12 G12 q12 z1 z2
        rw [ez]
        have e13 : Fr (fun r _ k => r = 70 ∧ k = 4 + G 0 0) h12 (sI h12 70 0 (4 + G 0 0) z) := fr_sI fr_rf (by omega)
        have F1 : Fr (fun r _ k => (r = 12 ∧ 28 ≤ k ∧ k ≤ 31) ∨ ((r = 68 ∨ r = 69 ∨ r = 70) ∧ k = 4 + G 0 0)) h (sI h12 70 0 (4 + G 0 0) z) := fr_tr (fr_mo f4 (by intro r i k; unfold ToW; omega)) (fr_tr (fr_mo e5 (by intro r i k; omega)) (fr_tr (fr_mo f8 (by intro r i k; unfold ToW; omega)) (fr_tr (fr_mo e9 (by intro r i k; omega)) (fr_tr (fr_mo f12 (by intro r i k; unfold ToW; omega)) (fr_mo e13 (by intro r i k; omega))))))
        refine ok_ck (by omega) (ok_lt (ok_be (p_fr (k := 22) (by decide) (by decide) (by decide)) ?_))
        rw [F1.1 61 0 22 (by omega), qg.1]
        refine ok_ck (by omega) (ok_be (p_rd (k := 22) (by decide) (by decide) (by decide)) ?_)
        have a22 : gI (sI (sI h12 70 0 (4 + G 0 0) z) 61 0 22 (G 0 0 + 1)) 68 0 (4 + G 0 0) = x := by rw [gI_nr (by decide), gI_nr (by decide), f12.1 68 0 _ (by unfold ToW; omega), gI_nr (by decide), f8.1 68 0 _ (by unfold ToW; omega), gI_eq]
        have a23 : gI (sI (sI h12 70 0 (4 + G 0 0) z) 61 0 22 (G 0 0 + 1)) 69 0 (4 + G 0 0) = y := by rw [gI_nr (by decide), gI_nr (by decide), f12.1 69 0 _ (by unfold ToW; omega), gI_eq]
        have a24 : gI (sI (sI h12 70 0 (4 + G 0 0) z) 61 0 22 (G 0 0 + 1)) 70 0 (4 + G 0 0) = z := by rw [gI_nr (by decide), gI_eq]
        have e16 : Fr (fun r _ k => r = 61 ∧ k = 22) (sI h12 70 0 (4 + G 0 0) z) (sI (sI h12 70 0 (4 + G 0 0) z) 61 0 22 (G 0 0 + 1)) := fr_sI fr_rf (by omega)
        have FF := fr_tr (fr_mo F1 (show ∀ (r : Nat) (i k : Int), _ → ((r = 12 ∧ 28 ≤ k ∧ k ≤ 31) ∨ ((r = 68 ∨ r = 69 ∨ r = 70) ∧ k = 4 + G 0 0) ∨ (r = 61 ∧ k = 22)) by intro r i k; omega)) (fr_mo e16 (by intro r i k; omega))
        refine kZ (.ok ((ud (ud (ud (ud G 1 (G 0 0) x) 2 (G 0 0) y) 3 (G 0 0) z) 0 0 (G 0 0 + 1)), t + 3)) _ (eX_o ⟨fr_mo FF (by intro r i k; unfold RGa; omega), fr_sI (fr_sI G12 (tw 70 (by decide) (by decide))) (by unfold TxR; omega), rdE_w (by omega) (by omega) (rdE_v (by decide) q12), gI_eq, fun k k1 k2 => ?_⟩)
        have k2' : k < G 0 0 + 1 := k2
        have u1 : (ud (ud (ud (ud G 1 (G 0 0) x) 2 (G 0 0) y) 3 (G 0 0) z) 0 0 (G 0 0 + 1)) 1 k = if k = G 0 0 then x else G 1 k := by simp [ud]
        have u2 : (ud (ud (ud (ud G 1 (G 0 0) x) 2 (G 0 0) y) 3 (G 0 0) z) 0 0 (G 0 0 + 1)) 2 k = if k = G 0 0 then y else G 2 k := by simp [ud]
        have u3 : (ud (ud (ud (ud G 1 (G 0 0) x) 2 (G 0 0) y) 3 (G 0 0) z) 0 0 (G 0 0 + 1)) 3 k = if k = G 0 0 then z else G 3 k := by simp [ud]
        show _ = (ud (ud (ud (ud G 1 (G 0 0) x) 2 (G 0 0) y) 3 (G 0 0) z) 0 0 (G 0 0 + 1)) 1 k ∧ _ = (ud (ud (ud (ud G 1 (G 0 0) x) 2 (G 0 0) y) 3 (G 0 0) z) 0 0 (G 0 0 + 1)) 2 k ∧ _ = (ud (ud (ud (ud G 1 (G 0 0) x) 2 (G 0 0) y) 3 (G 0 0) z) 0 0 (G 0 0 + 1)) 3 k
        rw [u1, u2, u3]
        by_cases kk : k = G 0 0
        · rw [if_pos kk, if_pos kk, if_pos kk, kk]
          exact ⟨a22, a23, a24⟩
        · rw [if_neg kk, if_neg kk, if_neg kk, FF.1 68 0 (4 + k) (by omega), FF.1 69 0 (4 + k) (by omega), FF.1 70 0 (4 + k) (by omega)]
          exact qg.2 k k1 (by omega)
      · intro e h12 ez f12
        rw [ez]
        exact ok_ck (by omega) (ok_lt (fin e _ (ftR_w (tw 70 (by decide) (by decide)) (by decide) (by decide) f12)))
    · intro e h8 ey f8
      rw [ey]
      have f9 : ftR h0 (sI h8 69 0 (4 + G 0 0) 0) e := ftR_w (tw 69 (by decide) (by decide)) (by decide) (by decide) f8
      exact ok_ck (by omega) (ok_lt (nF f9 (ok_ck (by omega) (ok_lt (fin e _ (ftR_w (tw 70 (by decide) (by decide)) (by decide) (by decide) f9))))))
  · intro e h4 ex f4
    rw [ex]
    have f5 : ftR h0 (sI h4 68 0 (4 + G 0 0) 0) e := ftR_w (tw 68 (by decide) (by decide)) (by decide) (by decide) f4
    have f9 : ftR h0 (sI (sI h4 68 0 (4 + G 0 0) 0) 69 0 (4 + G 0 0) 0) e := ftR_w (tw 69 (by decide) (by decide)) (by decide) (by decide) f5
    exact ok_ck (by omega) (ok_lt (nF f5 (ok_ck (by omega) (ok_lt (nF f9 (ok_ck (by omega) (ok_lt (fin e _ (ftR_w (tw 70 (by decide) (by decide)) (by decide) (by decide) f9)))))))))
end
