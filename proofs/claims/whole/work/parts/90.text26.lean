/-! TEXT, 26: the reference's line -/
def dR (h : Hp) (b : Int → Int) (n : Nat) (D : Dr) (t : Nat) : Prop := rdE h b n t ∧ drS h (dS D) ∧ drI h (dI D) ∧ drN h (dN D) ∧ drG h (dG D) ∧ drT h (dT D) ∧ drM h (dM D) ∧ ouR h (dO D) ∧ gI h 12 0 36 = 0 ∧ gI h 12 0 37 = (dK D : Int) ∧ drW h (dW D) ∧ gI h 12 0 33 = -1
def goL (b : Int → Int) (n : Nat) (h h' : Hp) (a : Dr × Nat) : Prop := Fr TxR h h' ∧ dR h' b n a.1 a.2 ∧ gI h' 12 0 26 = gI h 12 0 26 + 1
def fuP (D : Dr) (w : Int) : Prop := (w = 1 ∧ dS D 5 0 = 20) ∨ (w = 4 ∧ dI D 0 0 = 3) ∨ (w = 6 ∧ dG D 0 0 = 4) ∨ (w = 10 ∧ dM D 0 0 = 5) ∨ (w = 11 ∧ dM D 1 0 = 4)
def onP (w : Int) : Prop := w = 0 ∨ w = 2 ∨ w = 3 ∨ w = 5 ∨ (7 ≤ w ∧ w ≤ 9)
section
variable {h h0 h1 : Hp} {b : Int → Int} {n t : Nat} {D : Dr} {w pl : Int}
theorem p_full (q : dR h b n D t) : ok (f_X12_isFull w h) (fun r h' => h' = h ∧ ((r = 0 ∧ ¬ fuP D w) ∨ (r ≠ 0 ∧ fuP D w))) := by
  obtain ⟨q0, qS, qI, qN, qG, qT, qM, -⟩ := q
  have five : ∀ g : Nat, 0 < g → fuP D w → ok (g_X12_isFull g 5 [] h) (fun r h' => h' = h ∧ ((r = 0 ∧ ¬ fuP D w) ∨ (r ≠ 0 ∧ fuP D w))) := by
    intro g hg z
    refine s_X12_isFull_5 hg ?_
    unfold b_X12_isFull_5
    exact ok_some ⟨rfl, Or.inr ⟨by decide, z⟩⟩
  have no : (¬ (w = 1 ∧ dS D 5 0 = 20)) → (¬ (w = 4 ∧ dI D 0 0 = 3)) → (¬ (w = 6 ∧ dG D 0 0 = 4)) → (¬ (w = 10 ∧ dM D 0 0 = 5)) → (¬ (w = 11 ∧ dM D 1 0 = 4)) → ¬ fuP D w := by
    intro a1 a2 a3 a4 a5
    unfold fuP
    omega
  have four : ∀ g : Nat, 2 ≤ g → (¬ (w = 1 ∧ dS D 5 0 = 20)) → (¬ (w = 4 ∧ dI D 0 0 = 3)) → (¬ (w = 6 ∧ dG D 0 0 = 4)) → (¬ (w = 10 ∧ dM D 0 0 = 5)) → ok (g_X12_isFull g 4 [w] h) (fun r h' => h' = h ∧ ((r = 0 ∧ ¬ fuP D w) ∨ (r ≠ 0 ∧ fuP D w))) := by
    intro g hg a1 a2 a3 a4
    refine s_X12_isFull_4 (by omega) ?_
    unfold b_X12_isFull_4
    refine ok_if (fun u => ok_be (p_fr (k := 28) (by decide) (by decide) (by decide)) ?_) (fun u => ok_some ⟨rfl, Or.inl ⟨rfl, no a1 a2 a3 a4 (fun z => u z.1)⟩⟩)
    rw [qM.2.1]
    exact ok_if (fun z => five _ (by omega) (Or.inr (Or.inr (Or.inr (Or.inr ⟨u, z⟩))))) (fun z => ok_some ⟨rfl, Or.inl ⟨rfl, no a1 a2 a3 a4 (fun y => z y.2)⟩⟩)
  have three : ∀ g : Nat, 3 ≤ g → (¬ (w = 1 ∧ dS D 5 0 = 20)) → (¬ (w = 4 ∧ dI D 0 0 = 3)) → (¬ (w = 6 ∧ dG D 0 0 = 4)) → ok (g_X12_isFull g 3 [w] h) (fun r h' => h' = h ∧ ((r = 0 ∧ ¬ fuP D w) ∨ (r ≠ 0 ∧ fuP D w))) := by
    intro g hg a1 a2 a3
    refine s_X12_isFull_3 (by omega) ?_
    unfold b_X12_isFull_3
    refine ok_if (fun u => ok_be (p_fr (k := 27) (by decide) (by decide) (by decide)) ?_) (fun u => four _ (by omega) a1 a2 a3 (fun z => u z.1))
    rw [qM.1]
    exact ok_if (fun z => five _ (by omega) (Or.inr (Or.inr (Or.inr (Or.inl ⟨u, z⟩))))) (fun z => four _ (by omega) a1 a2 a3 (fun y => z y.2))
  have two : ∀ g : Nat, 4 ≤ g → (¬ (w = 1 ∧ dS D 5 0 = 20)) → (¬ (w = 4 ∧ dI D 0 0 = 3)) → ok (g_X12_isFull g 2 [w] h) (fun r h' => h' = h ∧ ((r = 0 ∧ ¬ fuP D w) ∨ (r ≠ 0 ∧ fuP D w))) := by
    intro g hg a1 a2
    refine s_X12_isFull_2 (by omega) ?_
    unfold b_X12_isFull_2
    refine ok_if (fun u => ok_be (p_fr (k := 22) (by decide) (by decide) (by decide)) ?_) (fun u => three _ (by omega) a1 a2 (fun z => u z.1))
    rw [qG.1]
    exact ok_if (fun z => five _ (by omega) (Or.inr (Or.inr (Or.inl ⟨u, z⟩)))) (fun z => three _ (by omega) a1 a2 (fun y => z y.2))
  have one : ∀ g : Nat, 5 ≤ g → (¬ (w = 1 ∧ dS D 5 0 = 20)) → ok (g_X12_isFull g 1 [w] h) (fun r h' => h' = h ∧ ((r = 0 ∧ ¬ fuP D w) ∨ (r ≠ 0 ∧ fuP D w))) := by
    intro g hg a1
    refine s_X12_isFull_1 (by omega) ?_
    unfold b_X12_isFull_1
    refine ok_if (fun u => ok_be (p_fr (k := 20) (by decide) (by decide) (by decide)) ?_) (fun u => two _ (by omega) a1 (fun z => u z.1))
    rw [qI.1]
    exact ok_if (fun z => five _ (by omega) (Or.inr (Or.inl ⟨u, z⟩))) (fun z => two _ (by omega) a1 (fun y => z y.2))
  refine fuv_X12_isFull (fun g hg => ?_)
  refine s_X12_isFull_0 (by omega) ?_
  unfold b_X12_isFull_0
  refine ok_if (fun u => ok_be (p_fr (k := 17) (by decide) (by decide) (by decide)) ?_) (fun u => one _ (by omega) (fun z => u z.1))
  rw [qS.2.2.2.2.1]
  exact ok_if (fun z => five _ (by omega) (Or.inl ⟨u, z⟩)) (fun z => one _ (by omega) (fun y => z y.2))
theorem p_once : ok (f_X12_isOnce w h) (fun r h' => h' = h ∧ ((r = 0 ∧ ¬ onP w) ∨ (r ≠ 0 ∧ onP w))) := by
  have one : ∀ g : Nat, 0 < g → onP w → ok (g_X12_isOnce g 1 [] h) (fun r h' => h' = h ∧ ((r = 0 ∧ ¬ onP w) ∨ (r ≠ 0 ∧ onP w))) := by
    intro g hg z
    refine s_X12_isOnce_1 hg ?_
    unfold b_X12_isOnce_1
    exact ok_some ⟨rfl, Or.inr ⟨by decide, z⟩⟩
  refine fuv_X12_isOnce (fun g hg => ?_)
  refine s_X12_isOnce_0 (by omega) ?_
  unfold b_X12_isOnce_0
  exact ok_if (fun u => one _ (by omega) (by unfold onP; omega)) (fun u0 => ok_if (fun u => one _ (by omega) (by unfold onP; omega)) (fun u2 => ok_if (fun u => one _ (by omega) (by unfold onP; omega)) (fun u3 => ok_if (fun u => one _ (by omega) (by unfold onP; omega)) (fun u5 => ok_if (fun u => ok_some ⟨rfl, Or.inl ⟨rfl, by unfold onP; omega⟩⟩) (fun u6 => ok_if (fun u => ok_some ⟨rfl, Or.inl ⟨rfl, by unfold onP; omega⟩⟩) (fun u7 => one _ (by omega) (by unfold onP; omega)))))))
theorem dR_fr {W : Nat → Int → Int → Prop} {t2 : Nat} (f : Fr W h h1) (d : ∀ (r : Nat) (k : Int), (r = 12 ∧ (k = 25 ∨ k = 33 ∨ k = 36 ∨ k = 37)) ∨ (61 ≤ r ∧ r ≤ 82) → ¬ W r 0 k) (q0 : rdE h1 b n t2) (q : dR h b n D t) : dR h1 b n D t2 := by
  obtain ⟨-, qS, qI, qN, qG, qT, qM, qO, q36, q37, qW, q33⟩ := q
  have x : ∀ (r : Nat) (k : Int), 61 ≤ r → r ≤ 82 → gI h1 r 0 k = gI h r 0 k := fun r k r1 r2 => f.1 r 0 k (d r k (Or.inr ⟨r1, r2⟩))
  exact ⟨q0, drS_e (fun k _ _ => x 61 k (by decide) (by decide)) (fun k _ => x 62 k (by decide) (by decide)) qS, drI_e (x 61 20 (by decide) (by decide)) (fun r k r1 r2 => x r k (by omega) (by omega)) qI, drN_e (x 61 21 (by decide) (by decide)) (fun k => x 67 k (by decide) (by decide)) qN, drG_e (x 61 22 (by decide) (by decide)) (fun r k r1 r2 => x r k (by omega) (by omega)) qG, drT_e (fun k _ _ => x 61 k (by decide) (by decide)) qT, drM_e (x 61 27 (by decide) (by decide)) (x 61 28 (by decide) (by decide)) (fun r k r1 r2 => x r k (by omega) (by omega)) qM, ouR_e (x 61 29 (by decide) (by decide)) (fun r k z => x r k (by omega) (by omega)) qO, (f.1 12 0 36 (d 12 36 (by omega))).trans q36, (f.1 12 0 37 (d 12 37 (by omega))).trans q37, drW_e (f.1 12 0 25 (d 12 25 (by omega))) qW, (f.1 12 0 33 (d 12 33 (by omega))).trans q33⟩
/-- the line's end -/
theorem r5 {g : Nat} {F : Ex (Dr × Nat)} (hg : 2 ≤ g) (L : 0 ≤ gI h 12 0 26 ∧ gI h 12 0 26 ≤ 1000) (z : endX F (fun e => baR h h1 e ∨ alR h b n h1 e) (fun a => Fr TxR h h1 ∧ dR h1 b n a.1 a.2 ∧ gI h1 12 0 26 = gI h 12 0 26)) : ok (g_X12_line g 5 [] h1) (fun _ h' => endX (exB F (enF b n)) (baR h h') (goL b n h h')) := by
  have six : ∀ (t' : Nat) (e : Int × Int), Fr TxR h h1 → rdE h1 b n t' → e = (1, (tkP b n t' : Int)) → sgT b n t' ≠ 17 → gI h1 12 0 26 = gI h 12 0 26 → ok (g_X12_line g 5 [] h1) (fun _ h' => baR h h' e) := by
    intro t' e G1 q1 ee sg e26
    refine s_X12_line_5 (by omega) ?_
    unfold b_X12_line_5
    refine ok_t q1.2.1 (ok_be (p_X12_isSign (x := 59) (v := 17) q1.1 q1.2.1 (by decide) (by decide) (by decide)) (ok_t (b2i_0.mpr (fun y => sg ((sg_K (by decide)).mpr y))) (ok_bq (p_X12_wrong (x := 1) q1.1 q1.2.1) ?_)))
    intro _ h4 f4
    have ft := fl_ft G1 q1 f4 (by show (1 : Int) ≠ 0; decide)
    refine s_X12_line_6 (by omega) ?_
    unfold b_X12_line_6
    rw [f4.1.1 12 0 26 (by omega), e26]
    refine ok_ck (by omega) (ok_lt (ok_some ?_))
    rw [ee]
    obtain ⟨b1, b2, b3, b4, b5, b6⟩ := ft.1
    exact ⟨fr_sI b1 (by unfold TxR; omega), (gI_nk (by decide)).trans b2, (gI_nk (by decide)).trans b3, b4, by rw [gI_nk (by decide)]; exact b5, by rw [gI_nk (by decide)]; exact b6⟩
  cases F with
  | error e =>
    rcases z with z | ⟨t', G1, q1, ee, sg, e26⟩
    · refine s_X12_line_5 (by omega) ?_
      unfold b_X12_line_5
      exact ok_f (ba_0 z) (ok_some (eX_e z))
    · exact six t' e G1 q1 ee sg e26
  | ok a =>
    obtain ⟨G1, q1, e26⟩ := z
    show ok _ (fun _ h' => endX (exB (endF b n a.2) fun t2 => .ok (a.1, t2)) (baR h h') (goL b n h h'))
    unfold endF
    by_cases sg : sgT b n a.2 = 17
    · rw [if_pos sg]
      refine s_X12_line_5 (by omega) ?_
      unfold b_X12_line_5
      refine ok_t q1.1.2.1 (ok_be (p_X12_isSign (x := 59) (v := 17) q1.1.1 q1.1.2.1 (by decide) (by decide) (by decide)) (ok_f (b2i_n.mpr ((sg_K (by decide)).mp sg)) (tR G1 q1.1 ?_)))
      intro _ h6 f6 G6 q6
      refine s_X12_line_6 (by omega) ?_
      unfold b_X12_line_6
      rw [f6.1 12 0 26 (by unfold ToW; omega), e26]
      have e7 : Fr (fun r _ k => r = 12 ∧ k = 26) h6 (sI h6 12 0 26 (gI h 12 0 26 + 1)) := fr_sI fr_rf (by omega)
      refine ok_ck (by omega) (ok_lt (ok_some (eX_o ⟨fr_sI G6 (by unfold TxR; omega), ?_, gI_eq⟩)))
      exact dR_fr e7 (by intro r k; omega) (rdE_fr e7 (by intro r k; omega) q6) (dR_fr f6 (by intro r k; unfold ToW; omega) q6 q1)
    · rw [if_neg sg]
      exact six a.2 _ G1 q1.1 rfl sg e26
theorem tdF_b' {W : Int → Int} {x w : Int} (q : ∀ v, 0 ≤ v → v < 10 → v ≠ 6 → bit x v = W v) (w1 : 0 ≤ w) (w2 : w < 31) : ∀ v, 0 ≤ v → v < 10 → v ≠ 6 → bit (bor x (bshl 1 w)) v = tdF W w v := by
  intro v v1 v2 v6
  rw [bit_or1 w1 (by omega) v1 (by omega)]
  unfold tdF
  rw [q v v1 v2 v6]
/-- told, and the next token -/
theorem r4 {g : Nat} {Q : Int → Hp → Prop} (hg : 0 < g) (q : dR h b n D t) (w1 : 0 ≤ w) (w2 : w < 31)
    (k : ∀ h3 : Hp, Fr TxR h h3 → gI h3 12 0 26 = gI h 12 0 26 → dR h3 b n (dS D, dI D, dN D, dG D, dT D, dM D, dO D, dK D, tdF (dW D) w) (t + 1) → ok (
      if w = 0 then (
      bd (f_X12_numeral 1 8 h3) fun v4 h5 =>
      bd (f_X12_reads 0 v4 h5) fun v6 h7 =>
      bd (f_X12_numeral 1 8 h7) fun v8 h9 =>
      bd (f_X12_reads 1 v8 h9) fun v10 h11 =>
      g_X12_line (g - 1) 5 [] h11
      ) else (
      if w = 1 then (
      bd (f_X12_landLine h3) fun v12 h13 =>
      g_X12_line (g - 1) 5 [] h13
      ) else (
      if w = 2 then (
      bd (f_X12_water h3) fun v14 h15 =>
      bd (f_X12_reads 3 v14 h15) fun v16 h17 =>
      g_X12_line (g - 1) 5 [] h17
      ) else (
      if w = 3 then (
      bd (f_X12_water h3) fun v18 h19 =>
      bd (f_X12_reads 4 v18 h19) fun v20 h21 =>
      g_X12_line (g - 1) 5 [] h21
      ) else (
      if w = 4 then (
      bd (f_X12_fresher 5 h3) fun v22 h23 =>
      ck (-2147483648 ≤ 3 + v22 ∧ 3 + v22 < 2147483648) <|
      bd (f_X12_isleLine (3 + v22) h23) fun v24 h25 =>
      g_X12_line (g - 1) 5 [] h25
      ) else (
      if w = 5 then (
      bd (f_X12_windLine h3) fun v26 h27 =>
      g_X12_line (g - 1) 5 [] h27
      ) else (
      if w = 6 then (
      bd (f_X12_fresher 7 h3) fun v28 h29 =>
      ck (-2147483648 ≤ 4 + v28 ∧ 4 + v28 < 2147483648) <|
      lt (4 + v28) fun z30 =>
      bd (f_X12_numeral 0 59 h29) fun v31 h32 =>
      ck (0 ≤ z30 ∧ z30 < 8) <|
      lt (sI h32 68 0 z30 v31) fun h33 =>
      bd (f_X12_numeral 0 3 h33) fun v34 h35 =>
      ck (0 ≤ z30 ∧ z30 < 8) <|
      lt (sI h35 69 0 z30 v34) fun h36 =>
      bd (f_X12_numeral 1 99 h36) fun v37 h38 =>
      ck (0 ≤ z30 ∧ z30 < 8) <|
      lt (sI h38 70 0 z30 v37) fun h39 =>
      bd (f_X12_fresher 7 h39) fun v40 h41 =>
      ck (-2147483648 ≤ v40 + 1 ∧ v40 + 1 < 2147483648) <|
      bd (f_X12_reads 7 (v40 + 1) h41) fun v42 h43 =>
      g_X12_line (g - 1) 5 [] h43
      ) else (
      if w = 7 then (
      bd (f_X12_numeral 0 99 h3) fun v44 h45 =>
      bd (f_X12_reads 8 v44 h45) fun v46 h47 =>
      bd (f_X12_numeral 1 99 h47) fun v48 h49 =>
      bd (f_X12_reads 9 v48 h49) fun v50 h51 =>
      g_X12_line (g - 1) 5 [] h51
      ) else (
      if w = 8 then (
      bd (f_X12_numeral 0 9999 h3) fun v52 h53 =>
      bd (f_X12_reads 10 v52 h53) fun v54 h55 =>
      g_X12_line (g - 1) 5 [] h55
      ) else (
      if w = 9 then (
      bd (f_X12_numeral 0 99999 h3) fun v56 h57 =>
      bd (f_X12_reads 11 v56 h57) fun v58 h59 =>
      g_X12_line (g - 1) 5 [] h59
      ) else (
      if w = 10 then (
      bd (f_X12_fresher 12 h3) fun v60 h61 =>
      ck (-2147483648 ≤ 9 + v60 ∧ 9 + v60 < 2147483648) <|
      bd (f_X12_mouthLine (9 + v60) 0 h61) fun v62 h63 =>
      bd (f_X12_fresher 12 h63) fun v64 h65 =>
      ck (-2147483648 ≤ v64 + 1 ∧ v64 + 1 < 2147483648) <|
      bd (f_X12_reads 12 (v64 + 1) h65) fun v66 h67 =>
      g_X12_line (g - 1) 5 [] h67
      ) else (
      bd (f_X12_fresher 13 h3) fun v68 h69 =>
      ck (-2147483648 ≤ 14 + v68 ∧ 14 + v68 < 2147483648) <|
      bd (f_X12_mouthLine (14 + v68) 1 h69) fun v70 h71 =>
      bd (f_X12_fresher 13 h71) fun v72 h73 =>
      ck (-2147483648 ≤ v72 + 1 ∧ v72 + 1 < 2147483648) <|
      bd (f_X12_reads 13 (v72 + 1) h73) fun v74 h75 =>
      g_X12_line (g - 1) 5 [] h75
      )
      )
      )
      )
      )
      )
      )
      )
      )
      )
      )
      ) Q) : ok (g_X12_line g 4 [w] h) Q := by
  refine s_X12_line_4 hg ?_
  unfold b_X12_line_4
  refine ok_t q.1.2.1 (ok_lt ?_)
  have e1 : Fr (fun r _ k => r = 12 ∧ k = 25) h (sI h 12 0 25 (bor (gI h 12 0 25) (bshl 1 w))) := fr_sI fr_rf (by omega)
  have q1 : rdE (sI h 12 0 25 (bor (gI h 12 0 25) (bshl 1 w))) b n t := rdE_fr e1 (by intro r k; omega) q.1
  refine tR (h0 := h) (fr_sI fr_rf (by unfold TxR; omega)) q1 ?_
  intro _ h3 f3 G3 q3
  have x : ∀ (r : Nat) (k : Int), (61 ≤ r ∧ r ≤ 82) ∨ (r = 12 ∧ (k = 36 ∨ k = 37 ∨ k = 26 ∨ k = 33)) → gI h3 r 0 k = gI h r 0 k := fun r k z => (f3.1 r 0 k (by unfold ToW; omega)).trans (e1.1 r 0 k (by omega))
  obtain ⟨-, qS, qI, qN, qG, qT, qM, qO, q36, q37, qW, q33⟩ := q
  refine k h3 G3 (x 12 26 (by omega)) ⟨q3, drS_e (fun k _ _ => x 61 k (by omega)) (fun k _ => x 62 k (by omega)) qS, drI_e (x 61 20 (by omega)) (fun r k r1 r2 => x r k (by omega)) qI, drN_e (x 61 21 (by omega)) (fun k => x 67 k (by omega)) qN, drG_e (x 61 22 (by omega)) (fun r k r1 r2 => x r k (by omega)) qG, drT_e (fun k _ _ => x 61 k (by omega)) qT, drM_e (x 61 27 (by omega)) (x 61 28 (by omega)) (fun r k r1 r2 => x r k (by omega)) qM, ouR_e (x 61 29 (by omega)) (fun r k z => x r k (by omega)) qO, (x 12 36 (by omega)).trans q36, (x 12 37 (by omega)).trans q37, ?_, (x 12 33 (by omega)).trans q33⟩
  unfold drW
  rw [f3.1 12 0 25 (by unfold ToW; omega), gI_eq]
  exact tdF_b' qW w1 w2
theorem r4_f {g : Nat} {e : Int × Int} (hg : 0 < g) (f : ftR h0 h e) : ok (g_X12_line g 4 [w] h) (fun _ h' => baR h0 h' e) := by
  refine s_X12_line_4 hg ?_
  unfold b_X12_line_4
  exact ok_f (ba_0 f.1) (ok_some f.1)
end
