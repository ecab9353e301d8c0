/-! TEXT, 27: the reference's line, by words -/
section
variable {h h0 h1 : Hp} {b : Int → Int} {n t : Nat} {D : Dr} {pl : Int}
theorem drW_o {W : Int → Int} {w : Int} (z : w = 6 ∨ 10 ≤ w) (q : drW h (tdF W w)) : drW h W := fun v v1 v2 v3 => by
  rw [q v v1 v2 v3]
  exact if_neg (by omega)
theorem rw_0 {g : Nat} (hg : 4 ≤ g) (L : 0 ≤ gI h 12 0 26 ∧ gI h 12 0 26 ≤ 1000) (w0 : dw0 D) (q : dR h b n D t) : ok (g_X12_line g 4 [0] h) (fun _ h' => endX (exB (exM (exB (numF b n 1 8 (t + 1)) fun x => exB (numF b n 1 8 (t + 1 + 1)) fun y => .ok (tdF (dW D) 0, ud (ud (dS D) 0 0 x) 1 0 y, t + 1 + 2)) (pkS D)) (enF b n)) (baR h h') (goL b n h h')) := by
  refine r4 (by omega) q (by decide) (by decide) ?_
  intro h3 G3 e26 q3
  obtain ⟨q0, qS, qI, qN, qG, qT, qM, qO, q36, q37, qW, q33⟩ := q3
  refine ok_t rfl ?_
  refine rf_sea (Q := fun F _ h' => endX (exB (exM F (pkS D)) (enF b n)) (baR h h') (goL b n h h')) (Z := fun h' => g_X12_line (g - 1) 5 [] h') G3 q0 qS ?_
  intro F h' z
  refine r5 (by omega) L (eX_b (eX_m z (fun e y => Or.inl y) (fun a _ ⟨f, G, r, own, ew⟩ => ?_)))
  exact eX_o ⟨G, ⟨r, own, drI_e (f.1 61 0 20 (by unfold RSe; omega)) (fun r k r1 r2 => f.1 r 0 k (by unfold RSe; omega)) qI, drN_e (f.1 61 0 21 (by unfold RSe; omega)) (fun k => f.1 67 0 k (by unfold RSe; omega)) qN, drG_e (f.1 61 0 22 (by unfold RSe; omega)) (fun r k r1 r2 => f.1 r 0 k (by unfold RSe; omega)) qG, drT_e (fun k k1 k2 => f.1 61 0 k (by unfold RSe; omega)) qT, drM_e (f.1 61 0 27 (by unfold RSe; omega)) (f.1 61 0 28 (by unfold RSe; omega)) (fun r k r1 r2 => f.1 r 0 k (by unfold RSe; omega)) qM, ouR_e (f.1 61 0 29 (by unfold RSe; omega)) (fun r k z => f.1 r 0 k (by unfold RSe; omega)) qO, (f.1 12 0 36 (by unfold RSe; omega)).trans q36, (f.1 12 0 37 (by unfold RSe; omega)).trans q37, (show drW h' a.1 by rw [ew]; exact drW_e (f.1 12 0 25 (by unfold RSe; omega)) qW), (f.1 12 0 33 (by unfold RSe; omega)).trans q33⟩, (f.1 12 0 26 (by unfold RSe; omega)).trans e26⟩
theorem rw_1 {g : Nat} (hg : 4 ≤ g) (L : 0 ≤ gI h 12 0 26 ∧ gI h 12 0 26 ≤ 1000) (w0 : dw0 D) (nf : dS D 5 0 < 20) (q : dR h b n D t) : ok (g_X12_line g 4 [1] h) (fun _ h' => endX (exB (exM (exB (celF b n (dS D) (t + 1)) fun c => if dS D 2 c = 1 then .error (3, (tkP b n (t + 1 + 1) : Int)) else @ite _ (onL (dW D) (dS D) (dI D) c) (Classical.propDecidable _) (.error (5, (tkP b n (t + 1 + 1) : Int))) (.ok (tdF (dW D) 1, ud (ud (dS D) 2 c 1) 5 0 (dS D 5 0 + 1), t + 1 + 2))) (pkS D)) (enF b n)) (baR h h') (goL b n h h')) := by
  refine r4 (by omega) q (by decide) (by decide) ?_
  intro h3 G3 e26 q3
  obtain ⟨q0, qS, qI, qN, qG, qT, qM, qO, q36, q37, qW, q33⟩ := q3
  refine ok_f (by decide) (ok_t rfl ?_)
  refine ok_bq (r_land (W := dW D) (W2 := tdF (dW D) 1) G3 q0 qS w0.1 nf qI w0.2.1.1 w0.2.1.2 qW rfl rfl) ?_
  intro _ h' z
  refine r5 (by omega) L (eX_b (eX_m z (fun e y => Or.inl y) (fun a _ ⟨f, G, r, own, ew⟩ => ?_)))
  exact eX_o ⟨G, ⟨r, own, drI_e (f.1 61 0 20 (by unfold RSe; omega)) (fun r k r1 r2 => f.1 r 0 k (by unfold RSe; omega)) qI, drN_e (f.1 61 0 21 (by unfold RSe; omega)) (fun k => f.1 67 0 k (by unfold RSe; omega)) qN, drG_e (f.1 61 0 22 (by unfold RSe; omega)) (fun r k r1 r2 => f.1 r 0 k (by unfold RSe; omega)) qG, drT_e (fun k k1 k2 => f.1 61 0 k (by unfold RSe; omega)) qT, drM_e (f.1 61 0 27 (by unfold RSe; omega)) (f.1 61 0 28 (by unfold RSe; omega)) (fun r k r1 r2 => f.1 r 0 k (by unfold RSe; omega)) qM, ouR_e (f.1 61 0 29 (by unfold RSe; omega)) (fun r k z => f.1 r 0 k (by unfold RSe; omega)) qO, (f.1 12 0 36 (by unfold RSe; omega)).trans q36, (f.1 12 0 37 (by unfold RSe; omega)).trans q37, (show drW h' a.1 by rw [ew]; exact drW_e (f.1 12 0 25 (by unfold RSe; omega)) qW), (f.1 12 0 33 (by unfold RSe; omega)).trans q33⟩, (f.1 12 0 26 (by unfold RSe; omega)).trans e26⟩
theorem rw_2 {g : Nat} (hg : 4 ≤ g) (L : 0 ≤ gI h 12 0 26 ∧ gI h 12 0 26 ≤ 1000) (w0 : dw0 D) (q : dR h b n D t) : ok (g_X12_line g 4 [2] h) (fun _ h' => endX (exB (exM (exB (watF b n (dS D) (t + 1)) fun c => .ok (tdF (dW D) 2, ud (dS D) 3 0 c, t + 1 + 2)) (pkS D)) (enF b n)) (baR h h') (goL b n h h')) := by
  refine r4 (by omega) q (by decide) (by decide) ?_
  intro h3 G3 e26 q3
  obtain ⟨q0, qS, qI, qN, qG, qT, qM, qO, q36, q37, qW, q33⟩ := q3
  refine ok_f (by decide) (ok_f (by decide) (ok_t rfl ?_))
  refine rf_ship (Q := fun F _ h' => endX (exB (exM F (pkS D)) (enF b n)) (baR h h') (goL b n h h')) (Z := fun h' => g_X12_line (g - 1) 5 [] h') G3 q0 qS w0.1 ?_
  intro F h' z
  refine r5 (by omega) L (eX_b (eX_m z (fun e y => Or.inl y) (fun a _ ⟨f, G, r, own, ew⟩ => ?_)))
  exact eX_o ⟨G, ⟨r, own, drI_e (f.1 61 0 20 (by unfold RSe; omega)) (fun r k r1 r2 => f.1 r 0 k (by unfold RSe; omega)) qI, drN_e (f.1 61 0 21 (by unfold RSe; omega)) (fun k => f.1 67 0 k (by unfold RSe; omega)) qN, drG_e (f.1 61 0 22 (by unfold RSe; omega)) (fun r k r1 r2 => f.1 r 0 k (by unfold RSe; omega)) qG, drT_e (fun k k1 k2 => f.1 61 0 k (by unfold RSe; omega)) qT, drM_e (f.1 61 0 27 (by unfold RSe; omega)) (f.1 61 0 28 (by unfold RSe; omega)) (fun r k r1 r2 => f.1 r 0 k (by unfold RSe; omega)) qM, ouR_e (f.1 61 0 29 (by unfold RSe; omega)) (fun r k z => f.1 r 0 k (by unfold RSe; omega)) qO, (f.1 12 0 36 (by unfold RSe; omega)).trans q36, (f.1 12 0 37 (by unfold RSe; omega)).trans q37, (show drW h' a.1 by rw [ew]; exact drW_e (f.1 12 0 25 (by unfold RSe; omega)) qW), (f.1 12 0 33 (by unfold RSe; omega)).trans q33⟩, (f.1 12 0 26 (by unfold RSe; omega)).trans e26⟩
theorem rw_3 {g : Nat} (hg : 4 ≤ g) (L : 0 ≤ gI h 12 0 26 ∧ gI h 12 0 26 ≤ 1000) (w0 : dw0 D) (q : dR h b n D t) : ok (g_X12_line g 4 [3] h) (fun _ h' => endX (exB (exM (exB (watF b n (dS D) (t + 1)) fun c => .ok (tdF (dW D) 3, ud (dS D) 4 0 c, t + 1 + 2)) (pkS D)) (enF b n)) (baR h h') (goL b n h h')) := by
  refine r4 (by omega) q (by decide) (by decide) ?_
  intro h3 G3 e26 q3
  obtain ⟨q0, qS, qI, qN, qG, qT, qM, qO, q36, q37, qW, q33⟩ := q3
  refine ok_f (by decide) (ok_f (by decide) (ok_f (by decide) (ok_t rfl ?_)))
  refine rf_bah (Q := fun F _ h' => endX (exB (exM F (pkS D)) (enF b n)) (baR h h') (goL b n h h')) (Z := fun h' => g_X12_line (g - 1) 5 [] h') G3 q0 qS w0.1 ?_
  intro F h' z
  refine r5 (by omega) L (eX_b (eX_m z (fun e y => Or.inl y) (fun a _ ⟨f, G, r, own, ew⟩ => ?_)))
  exact eX_o ⟨G, ⟨r, own, drI_e (f.1 61 0 20 (by unfold RSe; omega)) (fun r k r1 r2 => f.1 r 0 k (by unfold RSe; omega)) qI, drN_e (f.1 61 0 21 (by unfold RSe; omega)) (fun k => f.1 67 0 k (by unfold RSe; omega)) qN, drG_e (f.1 61 0 22 (by unfold RSe; omega)) (fun r k r1 r2 => f.1 r 0 k (by unfold RSe; omega)) qG, drT_e (fun k k1 k2 => f.1 61 0 k (by unfold RSe; omega)) qT, drM_e (f.1 61 0 27 (by unfold RSe; omega)) (f.1 61 0 28 (by unfold RSe; omega)) (fun r k r1 r2 => f.1 r 0 k (by unfold RSe; omega)) qM, ouR_e (f.1 61 0 29 (by unfold RSe; omega)) (fun r k z => f.1 r 0 k (by unfold RSe; omega)) qO, (f.1 12 0 36 (by unfold RSe; omega)).trans q36, (f.1 12 0 37 (by unfold RSe; omega)).trans q37, (show drW h' a.1 by rw [ew]; exact drW_e (f.1 12 0 25 (by unfold RSe; omega)) qW), (f.1 12 0 33 (by unfold RSe; omega)).trans q33⟩, (f.1 12 0 26 (by unfold RSe; omega)).trans e26⟩
theorem rw_4 {g : Nat} (hg : 4 ≤ g) (L : 0 ≤ gI h 12 0 26 ∧ gI h 12 0 26 ≤ 1000) (w0 : dw0 D) (nf : dI D 0 0 < 3) (q : dR h b n D t) : ok (g_X12_line g 4 [4] h) (fun _ h' => endX (exB (exM (if tkK b n (t + 1) ≠ 1 then .error (1, (tkP b n (t + 1) : Int)) else @ite _ (nmP (dI D 1) (dI D 0 0) (tkV b n (t + 1))) (Classical.propDecidable _) (.error (3, (tkP b n (t + 1) : Int))) (exB (watF b n (dS D) (t + 1 + 1)) fun c => exB (numF b n 0 9 (t + 1 + 3)) fun x => exB (numF b n 1 9 (t + 1 + 4)) fun y => .ok (tdF (dW D) 4, ud (ud (ud (ud (ud (dI D) 1 (dI D 0 0) (tkV b n (t + 1))) 2 (dI D 0 0) c) 3 (dI D 0 0) x) 4 (dI D 0 0) y) 0 0 (dI D 0 0 + 1), t + 1 + 5))) (pkI D)) (enF b n)) (baR h h') (goL b n h h')) := by
  refine r4 (by omega) q (by decide) (by decide) ?_
  intro h3 G3 e26 q3
  obtain ⟨q0, qS, qI, qN, qG, qT, qM, qO, q36, q37, qW, q33⟩ := q3
  refine ok_f (by decide) (ok_f (by decide) (ok_f (by decide) (ok_f (by decide) (ok_t rfl ?_))))
  have i1 := w0.2.1
  refine ok_be (p_fr (k := 20) (by decide) (by decide) (by decide)) ?_
  rw [qI.1]
  show ok (ck (-2147483648 ≤ 3 + dI D 0 0 ∧ 3 + dI D 0 0 < 2147483648) _) _
  refine ok_ck (by omega) ?_
  refine ok_bq (r_isle (W2 := tdF (dW D) 4) G3 q0 qS w0.1 qI w0.2.1.1 nf) ?_
  intro _ h' z
  refine r5 (by omega) L (eX_b (eX_m z (fun e y => Or.inl y) (fun a _ ⟨f, G, r, own, ew⟩ => ?_)))
  exact eX_o ⟨G, ⟨r, drS_e (fun k k1 k2 => f.1 61 0 k (by unfold RIs; omega)) (fun k k1 => f.1 62 0 k (by unfold RIs; omega)) qS, own, drN_e (f.1 61 0 21 (by unfold RIs; omega)) (fun k => f.1 67 0 k (by unfold RIs; omega)) qN, drG_e (f.1 61 0 22 (by unfold RIs; omega)) (fun r k r1 r2 => f.1 r 0 k (by unfold RIs; omega)) qG, drT_e (fun k k1 k2 => f.1 61 0 k (by unfold RIs; omega)) qT, drM_e (f.1 61 0 27 (by unfold RIs; omega)) (f.1 61 0 28 (by unfold RIs; omega)) (fun r k r1 r2 => f.1 r 0 k (by unfold RIs; omega)) qM, ouR_e (f.1 61 0 29 (by unfold RIs; omega)) (fun r k z => f.1 r 0 k (by unfold RIs; omega)) qO, (f.1 12 0 36 (by unfold RIs; omega)).trans q36, (f.1 12 0 37 (by unfold RIs; omega)).trans q37, (show drW h' a.1 by rw [ew]; exact drW_e (f.1 12 0 25 (by unfold RIs; omega)) qW), (f.1 12 0 33 (by unfold RIs; omega)).trans q33⟩, (f.1 12 0 26 (by unfold RIs; omega)).trans e26⟩
theorem rw_5 {g : Nat} (hg : 4 ≤ g) (L : 0 ≤ gI h 12 0 26 ∧ gI h 12 0 26 ≤ 1000) (w0 : dw0 D) (q : dR h b n D t) : ok (g_X12_line g 4 [5] h) (fun _ h' => endX (exB (exM (exB (wdF b n 9 0 (dN D) (t + 1)) fun r => .ok (tdF (dW D) 5, r.1, r.2)) (pkWn D)) (enF b n)) (baR h h') (goL b n h h')) := by
  refine r4 (by omega) q (by decide) (by decide) ?_
  intro h3 G3 e26 q3
  obtain ⟨q0, qS, qI, qN, qG, qT, qM, qO, q36, q37, qW, q33⟩ := q3
  refine ok_f (by decide) (ok_f (by decide) (ok_f (by decide) (ok_f (by decide) (ok_f (by decide) (ok_t rfl ?_)))))
  refine ok_bq (r_wind (N := dN D) G3 q0) ?_
  intro _ h' z
  refine r5 (by omega) L (eX_b (eX_b (eX_m z (fun e y => Or.inl y) (fun a _ ⟨f, G, r, own⟩ => ?_))))
  exact eX_o ⟨G, ⟨r, drS_e (fun k k1 k2 => f.1 61 0 k (by unfold RWi; omega)) (fun k k1 => f.1 62 0 k (by unfold RWi; omega)) qS, drI_e (f.1 61 0 20 (by unfold RWi; omega)) (fun r k r1 r2 => f.1 r 0 k (by unfold RWi; omega)) qI, own, drG_e (f.1 61 0 22 (by unfold RWi; omega)) (fun r k r1 r2 => f.1 r 0 k (by unfold RWi; omega)) qG, drT_e (fun k k1 k2 => f.1 61 0 k (by unfold RWi; omega)) qT, drM_e (f.1 61 0 27 (by unfold RWi; omega)) (f.1 61 0 28 (by unfold RWi; omega)) (fun r k r1 r2 => f.1 r 0 k (by unfold RWi; omega)) qM, ouR_e (f.1 61 0 29 (by unfold RWi; omega)) (fun r k z => f.1 r 0 k (by unfold RWi; omega)) qO, (f.1 12 0 36 (by unfold RWi; omega)).trans q36, (f.1 12 0 37 (by unfold RWi; omega)).trans q37, drW_e (f.1 12 0 25 (by unfold RWi; omega)) qW, (f.1 12 0 33 (by unfold RWi; omega)).trans q33⟩, (f.1 12 0 26 (by unfold RWi; omega)).trans e26⟩
theorem rw_6 {g : Nat} (hg : 4 ≤ g) (L : 0 ≤ gI h 12 0 26 ∧ gI h 12 0 26 ≤ 1000) (w0 : dw0 D) (nf : dG D 0 0 < 4) (q : dR h b n D t) : ok (g_X12_line g 4 [6] h) (fun _ h' => endX (exB (exM (exB (numF b n 0 59 (t + 1)) fun x => exB (numF b n 0 3 (t + 1 + 1)) fun y => exB (numF b n 1 99 (t + 1 + 2)) fun z => .ok (ud (ud (ud (ud (dG D) 1 (dG D 0 0) x) 2 (dG D 0 0) y) 3 (dG D 0 0) z) 0 0 (dG D 0 0 + 1), t + 1 + 3)) (pkG D)) (enF b n)) (baR h h') (goL b n h h')) := by
  refine r4 (by omega) q (by decide) (by decide) ?_
  intro h3 G3 e26 q3
  obtain ⟨q0, qS, qI, qN, qG, qT, qM, qO, q36, q37, qW, q33⟩ := q3
  refine ok_f (by decide) (ok_f (by decide) (ok_f (by decide) (ok_f (by decide) (ok_f (by decide) (ok_f (by decide) (ok_t rfl ?_))))))
  refine rf_gale (Q := fun F _ h' => endX (exB (exM F (pkG D)) (enF b n)) (baR h h') (goL b n h h')) (Z := fun h' => g_X12_line (g - 1) 5 [] h') G3 q0 qG w0.2.2.1.1 nf ?_
  intro F h' z
  refine r5 (by omega) L (eX_b (eX_m z (fun e y => Or.inl y) (fun a _ ⟨f, G, r, own⟩ => ?_)))
  exact eX_o ⟨G, ⟨r, drS_e (fun k k1 k2 => f.1 61 0 k (by unfold RGa; omega)) (fun k k1 => f.1 62 0 k (by unfold RGa; omega)) qS, drI_e (f.1 61 0 20 (by unfold RGa; omega)) (fun r k r1 r2 => f.1 r 0 k (by unfold RGa; omega)) qI, drN_e (f.1 61 0 21 (by unfold RGa; omega)) (fun k => f.1 67 0 k (by unfold RGa; omega)) qN, own, drT_e (fun k k1 k2 => f.1 61 0 k (by unfold RGa; omega)) qT, drM_e (f.1 61 0 27 (by unfold RGa; omega)) (f.1 61 0 28 (by unfold RGa; omega)) (fun r k r1 r2 => f.1 r 0 k (by unfold RGa; omega)) qM, ouR_e (f.1 61 0 29 (by unfold RGa; omega)) (fun r k z => f.1 r 0 k (by unfold RGa; omega)) qO, (f.1 12 0 36 (by unfold RGa; omega)).trans q36, (f.1 12 0 37 (by unfold RGa; omega)).trans q37, drW_o (Or.inl rfl) (drW_e (f.1 12 0 25 (by unfold RGa; omega)) qW), (f.1 12 0 33 (by unfold RGa; omega)).trans q33⟩, (f.1 12 0 26 (by unfold RGa; omega)).trans e26⟩
theorem rw_7 {g : Nat} (hg : 4 ≤ g) (L : 0 ≤ gI h 12 0 26 ∧ gI h 12 0 26 ≤ 1000) (w0 : dw0 D) (q : dR h b n D t) : ok (g_X12_line g 4 [7] h) (fun _ h' => endX (exB (exM (exB (numF b n 0 99 (t + 1)) fun x => exB (numF b n 1 99 (t + 1 + 1)) fun y => .ok (tdF (dW D) 7, ud (ud (dT D) 0 0 x) 1 0 y, t + 1 + 2)) (pkT D)) (enF b n)) (baR h h') (goL b n h h')) := by
  refine r4 (by omega) q (by decide) (by decide) ?_
  intro h3 G3 e26 q3
  obtain ⟨q0, qS, qI, qN, qG, qT, qM, qO, q36, q37, qW, q33⟩ := q3
  refine ok_f (by decide) (ok_f (by decide) (ok_f (by decide) (ok_f (by decide) (ok_f (by decide) (ok_f (by decide) (ok_f (by decide) (ok_t rfl ?_)))))))
  refine rf_storm (Q := fun F _ h' => endX (exB (exM F (pkT D)) (enF b n)) (baR h h') (goL b n h h')) (Z := fun h' => g_X12_line (g - 1) 5 [] h') G3 q0 qT ?_
  intro F h' z
  refine r5 (by omega) L (eX_b (eX_m z (fun e y => Or.inl y) (fun a _ ⟨f, G, r, own, ew⟩ => ?_)))
  exact eX_o ⟨G, ⟨r, drS_e (fun k k1 k2 => f.1 61 0 k (by unfold RSt; omega)) (fun k k1 => f.1 62 0 k (by unfold RSt; omega)) qS, drI_e (f.1 61 0 20 (by unfold RSt; omega)) (fun r k r1 r2 => f.1 r 0 k (by unfold RSt; omega)) qI, drN_e (f.1 61 0 21 (by unfold RSt; omega)) (fun k => f.1 67 0 k (by unfold RSt; omega)) qN, drG_e (f.1 61 0 22 (by unfold RSt; omega)) (fun r k r1 r2 => f.1 r 0 k (by unfold RSt; omega)) qG, own, drM_e (f.1 61 0 27 (by unfold RSt; omega)) (f.1 61 0 28 (by unfold RSt; omega)) (fun r k r1 r2 => f.1 r 0 k (by unfold RSt; omega)) qM, ouR_e (f.1 61 0 29 (by unfold RSt; omega)) (fun r k z => f.1 r 0 k (by unfold RSt; omega)) qO, (f.1 12 0 36 (by unfold RSt; omega)).trans q36, (f.1 12 0 37 (by unfold RSt; omega)).trans q37, (show drW h' a.1 by rw [ew]; exact drW_e (f.1 12 0 25 (by unfold RSt; omega)) qW), (f.1 12 0 33 (by unfold RSt; omega)).trans q33⟩, (f.1 12 0 26 (by unfold RSt; omega)).trans e26⟩
theorem rw_8 {g : Nat} (hg : 4 ≤ g) (L : 0 ≤ gI h 12 0 26 ∧ gI h 12 0 26 ≤ 1000) (w0 : dw0 D) (q : dR h b n D t) : ok (g_X12_line g 4 [8] h) (fun _ h' => endX (exB (exM (exB (numF b n 0 9999 (t + 1)) fun x => .ok (tdF (dW D) 8, ud (dT D) 2 0 x, t + 1 + 1)) (pkT D)) (enF b n)) (baR h h') (goL b n h h')) := by
  refine r4 (by omega) q (by decide) (by decide) ?_
  intro h3 G3 e26 q3
  obtain ⟨q0, qS, qI, qN, qG, qT, qM, qO, q36, q37, qW, q33⟩ := q3
  refine ok_f (by decide) (ok_f (by decide) (ok_f (by decide) (ok_f (by decide) (ok_f (by decide) (ok_f (by decide) (ok_f (by decide) (ok_f (by decide) (ok_t rfl ?_))))))))
  refine rf_soup (Q := fun F _ h' => endX (exB (exM F (pkT D)) (enF b n)) (baR h h') (goL b n h h')) (Z := fun h' => g_X12_line (g - 1) 5 [] h') G3 q0 qT ?_
  intro F h' z
  refine r5 (by omega) L (eX_b (eX_m z (fun e y => Or.inl y) (fun a _ ⟨f, G, r, own, ew⟩ => ?_)))
  exact eX_o ⟨G, ⟨r, drS_e (fun k k1 k2 => f.1 61 0 k (by unfold RSt; omega)) (fun k k1 => f.1 62 0 k (by unfold RSt; omega)) qS, drI_e (f.1 61 0 20 (by unfold RSt; omega)) (fun r k r1 r2 => f.1 r 0 k (by unfold RSt; omega)) qI, drN_e (f.1 61 0 21 (by unfold RSt; omega)) (fun k => f.1 67 0 k (by unfold RSt; omega)) qN, drG_e (f.1 61 0 22 (by unfold RSt; omega)) (fun r k r1 r2 => f.1 r 0 k (by unfold RSt; omega)) qG, own, drM_e (f.1 61 0 27 (by unfold RSt; omega)) (f.1 61 0 28 (by unfold RSt; omega)) (fun r k r1 r2 => f.1 r 0 k (by unfold RSt; omega)) qM, ouR_e (f.1 61 0 29 (by unfold RSt; omega)) (fun r k z => f.1 r 0 k (by unfold RSt; omega)) qO, (f.1 12 0 36 (by unfold RSt; omega)).trans q36, (f.1 12 0 37 (by unfold RSt; omega)).trans q37, (show drW h' a.1 by rw [ew]; exact drW_e (f.1 12 0 25 (by unfold RSt; omega)) qW), (f.1 12 0 33 (by unfold RSt; omega)).trans q33⟩, (f.1 12 0 26 (by unfold RSt; omega)).trans e26⟩
theorem rw_9 {g : Nat} (hg : 4 ≤ g) (L : 0 ≤ gI h 12 0 26 ∧ gI h 12 0 26 ≤ 1000) (w0 : dw0 D) (q : dR h b n D t) : ok (g_X12_line g 4 [9] h) (fun _ h' => endX (exB (exM (exB (numF b n 0 99999 (t + 1)) fun x => .ok (tdF (dW D) 9, ud (dT D) 3 0 x, t + 1 + 1)) (pkT D)) (enF b n)) (baR h h') (goL b n h h')) := by
  refine r4 (by omega) q (by decide) (by decide) ?_
  intro h3 G3 e26 q3
  obtain ⟨q0, qS, qI, qN, qG, qT, qM, qO, q36, q37, qW, q33⟩ := q3
  refine ok_f (by decide) (ok_f (by decide) (ok_f (by decide) (ok_f (by decide) (ok_f (by decide) (ok_f (by decide) (ok_f (by decide) (ok_f (by decide) (ok_f (by decide) (ok_t rfl ?_)))))))))
  refine rf_seed (Q := fun F _ h' => endX (exB (exM F (pkT D)) (enF b n)) (baR h h') (goL b n h h')) (Z := fun h' => g_X12_line (g - 1) 5 [] h') G3 q0 qT ?_
  intro F h' z
  refine r5 (by omega) L (eX_b (eX_m z (fun e y => Or.inl y) (fun a _ ⟨f, G, r, own, ew⟩ => ?_)))
  exact eX_o ⟨G, ⟨r, drS_e (fun k k1 k2 => f.1 61 0 k (by unfold RSt; omega)) (fun k k1 => f.1 62 0 k (by unfold RSt; omega)) qS, drI_e (f.1 61 0 20 (by unfold RSt; omega)) (fun r k r1 r2 => f.1 r 0 k (by unfold RSt; omega)) qI, drN_e (f.1 61 0 21 (by unfold RSt; omega)) (fun k => f.1 67 0 k (by unfold RSt; omega)) qN, drG_e (f.1 61 0 22 (by unfold RSt; omega)) (fun r k r1 r2 => f.1 r 0 k (by unfold RSt; omega)) qG, own, drM_e (f.1 61 0 27 (by unfold RSt; omega)) (f.1 61 0 28 (by unfold RSt; omega)) (fun r k r1 r2 => f.1 r 0 k (by unfold RSt; omega)) qM, ouR_e (f.1 61 0 29 (by unfold RSt; omega)) (fun r k z => f.1 r 0 k (by unfold RSt; omega)) qO, (f.1 12 0 36 (by unfold RSt; omega)).trans q36, (f.1 12 0 37 (by unfold RSt; omega)).trans q37, (show drW h' a.1 by rw [ew]; exact drW_e (f.1 12 0 25 (by unfold RSt; omega)) qW), (f.1 12 0 33 (by unfold RSt; omega)).trans q33⟩, (f.1 12 0 26 (by unfold RSt; omega)).trans e26⟩
theorem exB_ok {α β : Type} {F : Ex α} {K : α → Ex β} {a : β} (e : exB F K = .ok a) : ∃ x, F = .ok x ∧ K x = .ok a := by
  cases F with
  | error _ => cases e
  | ok x => exact ⟨x, rfl, e⟩
theorem mb_R {y : Bool} {M : Ch} {o : List (Int × Int)} {k t : Nat} {a : Mr} (e : (if tkK b n t ≠ 1 then .error (1, (tkP b n t : Int)) else @ite _ (crP M (tkV b n t)) (Classical.propDecidable _) (.error (3, (tkP b n t : Int))) (exB (numF b n 0 9 (t + 1)) fun p => exB (if y = true then oddF b n (t + 2) else .ok (0, t + 2)) fun od => exB (rsF b n 5 (fun _ => 0) (mR (tkV b n t) p od.1) od.2) fun r => exB (runE b n 801 o [] r.2 true k 0) fun q => .ok (MU y M (ur (ur r.1 8 (o.length : Int)) 9 (q.1.length : Int)), q.1, q.2.2, q.2.1))) = .ok a) : ∃ R : Nat → Int, a.1 = MU y M R := by
  split at e
  · cases e
  · split at e
    · cases e
    · obtain ⟨p, -, e⟩ := exB_ok e
      obtain ⟨od, -, e⟩ := exB_ok e
      obtain ⟨r, -, e⟩ := exB_ok e
      obtain ⟨q, -, e⟩ := exB_ok e
      injection e with e
      exact ⟨_, by rw [← e]⟩
set_option maxHeartbeats 1000000 in
theorem rw_10 {g : Nat} (hg : 4 ≤ g) (L : 0 ≤ gI h 12 0 26 ∧ gI h 12 0 26 ≤ 1000) (w0 : dw0 D) (nf : dM D 0 0 < 5) (q : dR h b n D t) : ok (g_X12_line g 4 [10] h) (fun _ h' => endX (exB (exM (if tkK b n (t + 1) ≠ 1 then .error (1, (tkP b n (t + 1) : Int)) else @ite _ (crP (dM D) (tkV b n (t + 1))) (Classical.propDecidable _) (.error (3, (tkP b n (t + 1) : Int))) (exB (numF b n 0 9 (t + 1 + 1)) fun p => exB (if false = true then oddF b n (t + 1 + 2) else .ok (0, t + 1 + 2)) fun od => exB (rsF b n 5 (fun _ => 0) (mR (tkV b n (t + 1)) p od.1) od.2) fun r => exB (runE b n 801 (dO D) [] r.2 true (dK D) 0) fun q => .ok (MU false (dM D) (ur (ur r.1 8 ((dO D).length : Int)) 9 (q.1.length : Int)), q.1, q.2.2, q.2.1))) (pkM D)) (enF b n)) (baR h h') (goL b n h h')) := by
  refine r4 (by omega) q (by decide) (by decide) ?_
  intro h3 G3 e26 q3
  obtain ⟨q0, qS, qI, qN, qG, qT, qM, qO, q36, q37, qW, q33⟩ := q3
  obtain ⟨-, -, -, wM, wO, wK⟩ := w0
  refine ok_f (by decide) (ok_f (by decide) (ok_f (by decide) (ok_f (by decide) (ok_f (by decide) (ok_f (by decide) (ok_f (by decide) (ok_f (by decide) (ok_f (by decide) (ok_f (by decide) (ok_t rfl ?_))))))))))
  refine ok_be (p_fr (k := 27) (by decide) (by decide) (by decide)) ?_
  rw [qM.1]
  have ex : (9 + dM D 0 0 : Int) = 9 + slM false (dM D) := by
    show 9 + dM D 0 0 = 9 + dM D 0 0
    omega
  show ok (ck (-2147483648 ≤ 9 + dM D 0 0 ∧ 9 + dM D 0 0 < 2147483648) _) _
  refine ok_ck (by omega) ?_
  rw [ex]
  refine ok_bq (r_mouth (y := false) G3 e26 q0 qM wM (by show 0 ≤ dM D 0 0; omega) (by show dM D 0 0 < 9; omega) qO q36 q37 q33 wO wK) ?_
  intro _ h' z
  refine ok_be (p_fr (k := 27) (by decide) (by decide) (by decide)) ?_
  have fin : ∀ (F : Ex Mr), endX F (fun e => ftR h h' e ∨ (alR h b n h' e ∧ ∀ j, j = 27 ∨ j = 28 → gI h' 61 0 j ≤ 5)) (fun a => Fr (RMo (9 + slM false (dM D))) h3 h' ∧ Fr TxR h h' ∧ rdE h' b n a.2.2.2 ∧ drm h' a.1 (slM false (dM D)) ∧ ouR h' a.2.1 ∧ gI h' 12 0 36 = 0 ∧ gI h' 12 0 37 = (a.2.2.1 : Int) ∧ gI h' 12 0 33 = -1 ∧ ∃ R : Nat → Int, a.1 = MU false (dM D) R) → ok (ck (-2147483648 ≤ gI h' 61 0 27 + 1 ∧ gI h' 61 0 27 + 1 < 2147483648) <| bd (f_X12_reads 12 (gI h' 61 0 27 + 1) h') fun v66 h67 => g_X12_line (g - 1) 5 [] h67) (fun _ h' => endX (exB (exM F (pkM D)) (enF b n)) (baR h h') (goL b n h h')) := by
    intro F z
    cases F with
    | error e =>
      rcases z with z | ⟨⟨t', G1, q1, ee, sg, e6⟩, c5⟩
      · have c := z.2 27 (by decide) (by decide)
        refine ok_ck (by omega) (ok_be (p_rd (k := 27) (by decide) (by decide) (by decide)) (r5 (F := exM (.error e) (pkM D)) (by omega) L (eX_e (Or.inl (baR_w (by unfold TxR; omega) (by decide) z.1)))))
      · have c := q1.2.2 27 (by decide) (by decide)
        have c6 := c5 27 (by omega)
        refine ok_ck (by omega) (ok_be (p_rd (k := 27) (by decide) (by decide) (by decide)) (r5 (F := exM (.error e) (pkM D)) (by omega) L (eX_e (Or.inr ⟨t', fr_sI G1 (by unfold TxR; omega), rdE_w (by omega) (by omega) q1, ee, sg, (gI_nr (by decide)).trans e6⟩))))
    | ok a =>
      obtain ⟨f, G, r, own, oo, a36, a37, a33, R, eR⟩ := z
      have ec : gI h' 61 0 27 = dM D 0 0 := (f.1 61 0 27 (by unfold RMo; omega)).trans qM.1
      rw [ec]
      refine ok_ck (by omega) (ok_be (p_rd (k := 27) (by decide) (by decide) (by decide)) (r5 (F := exM (.ok a) (pkM D)) (by omega) L ?_))
      have e7 : Fr (fun r _ j => r = 61 ∧ j = 27) h' (sI h' 61 0 27 (dM D 0 0 + 1)) := fr_sI fr_rf (by omega)
      have x : ∀ (r : Nat) (j : Int), r ≠ 61 → gI (sI h' 61 0 27 (dM D 0 0 + 1)) r 0 j = gI h' r 0 j := fun r j hr => gI_nr hr
      have x61 : ∀ j : Int, j ≠ 27 → gI (sI h' 61 0 27 (dM D 0 0 + 1)) 61 0 j = gI h' 61 0 j := fun j hj => gI_nk hj
      refine eX_o ⟨fr_sI G (by unfold TxR; omega), ⟨rdE_w (by omega) (by omega) r, drS_e (fun k k1 k2 => (x61 k (by omega)).trans (f.1 61 0 k (by unfold RMo; omega))) (fun k k1 => (x 62 k (by decide)).trans (f.1 62 0 k (by unfold RMo; omega))) qS, drI_e ((x61 20 (by decide)).trans (f.1 61 0 20 (by unfold RMo; omega))) (fun r k r1 r2 => (x r k (by omega)).trans (f.1 r 0 k (by unfold RMo; omega))) qI, drN_e ((x61 21 (by decide)).trans (f.1 61 0 21 (by unfold RMo; omega))) (fun k => (x 67 k (by decide)).trans (f.1 67 0 k (by unfold RMo; omega))) qN, drG_e ((x61 22 (by decide)).trans (f.1 61 0 22 (by unfold RMo; omega))) (fun r k r1 r2 => (x r k (by omega)).trans (f.1 r 0 k (by unfold RMo; omega))) qG, drT_e (fun k k1 k2 => (x61 k (by omega)).trans (f.1 61 0 k (by unfold RMo; omega))) qT, ?_, ouR_e (x61 29 (by decide)) (fun r k z => x r k (by omega)) oo, (x 12 36 (by decide)).trans a36, (x 12 37 (by decide)).trans a37, drW_o (Or.inr (by decide)) (drW_e ((x 12 25 (by decide)).trans (f.1 12 0 25 (by unfold RMo; omega))) qW), (x 12 33 (by decide)).trans a33⟩, (x 12 26 (by decide)).trans ((f.1 12 0 26 (by unfold RMo; omega)).trans e26)⟩
      show drM _ a.1
      rw [eR] at own ⊢
      refine ⟨gI_eq, (gI_nk (by decide)).trans ((f.1 61 0 28 (by unfold RMo; omega)).trans qM.2.1), fun s hs => ?_⟩
      by_cases es : s = slM false (dM D)
      · rw [es]
        exact drm_e (fun r r1 r2 => x r _ (by omega)) own
      · have hs2 : thM (dM D) s := by
          revert hs es
          unfold thM MU slM
          show ((0 ≤ s ∧ s < dM D 0 0 + 1) ∨ (5 ≤ s ∧ s < 5 + dM D 1 0)) → ¬ s = dM D 0 0 → _
          omega
        have gg := drm_e (h2 := sI h' 61 0 27 (dM D 0 0 + 1)) (fun r r1 r2 => (x r (9 + s) (by omega)).trans (f.1 r 0 (9 + s) (by unfold RMo; omega))) (qM.2.2 s hs2)
        have e : ∀ f : Nat, 2 ≤ f → MU false (dM D) R f s = dM D f s := by
          intro f hf
          unfold MU
          rw [if_neg (by omega), if_neg (by omega), if_neg es]
        unfold drm
        rw [e 2 (by decide), e 3 (by decide), e 4 (by decide), e 5 (by decide), e 6 (by decide), e 7 (by decide), e 8 (by decide), e 9 (by decide), e 10 (by decide), e 11 (by decide)]
        exact gg
  refine fin _ (eX_m z (fun e y => y) (fun a ea ⟨y1, y2, y3, y4, y5, y6, y7, y8⟩ => ⟨y1, y2, y3, y4, y5, y6, y7, y8, ?_⟩))
  exact mb_R ea
set_option maxHeartbeats 1000000 in
theorem rw_11 {g : Nat} (hg : 4 ≤ g) (L : 0 ≤ gI h 12 0 26 ∧ gI h 12 0 26 ≤ 1000) (w0 : dw0 D) (nf : dM D 1 0 < 4) (q : dR h b n D t) : ok (g_X12_line g 4 [11] h) (fun _ h' => endX (exB (exM (if tkK b n (t + 1) ≠ 1 then .error (1, (tkP b n (t + 1) : Int)) else @ite _ (crP (dM D) (tkV b n (t + 1))) (Classical.propDecidable _) (.error (3, (tkP b n (t + 1) : Int))) (exB (numF b n 0 9 (t + 1 + 1)) fun p => exB (if true = true then oddF b n (t + 1 + 2) else .ok (0, t + 1 + 2)) fun od => exB (rsF b n 5 (fun _ => 0) (mR (tkV b n (t + 1)) p od.1) od.2) fun r => exB (runE b n 801 (dO D) [] r.2 true (dK D) 0) fun q => .ok (MU true (dM D) (ur (ur r.1 8 ((dO D).length : Int)) 9 (q.1.length : Int)), q.1, q.2.2, q.2.1))) (pkM D)) (enF b n)) (baR h h') (goL b n h h')) := by
  refine r4 (by omega) q (by decide) (by decide) ?_
  intro h3 G3 e26 q3
  obtain ⟨q0, qS, qI, qN, qG, qT, qM, qO, q36, q37, qW, q33⟩ := q3
  obtain ⟨-, -, -, wM, wO, wK⟩ := w0
  refine ok_f (by decide) (ok_f (by decide) (ok_f (by decide) (ok_f (by decide) (ok_f (by decide) (ok_f (by decide) (ok_f (by decide) (ok_f (by decide) (ok_f (by decide) (ok_f (by decide) (ok_f (by decide) ?_))))))))))
  refine ok_be (p_fr (k := 28) (by decide) (by decide) (by decide)) ?_
  rw [qM.2.1]
  have ex : (14 + dM D 1 0 : Int) = 9 + slM true (dM D) := by
    show 14 + dM D 1 0 = 9 + (5 + dM D 1 0)
    omega
  show ok (ck (-2147483648 ≤ 14 + dM D 1 0 ∧ 14 + dM D 1 0 < 2147483648) _) _
  refine ok_ck (by omega) ?_
  rw [ex]
  refine ok_bq (r_mouth (y := true) G3 e26 q0 qM wM (by show 0 ≤ (5 + dM D 1 0); omega) (by show (5 + dM D 1 0) < 9; omega) qO q36 q37 q33 wO wK) ?_
  intro _ h' z
  refine ok_be (p_fr (k := 28) (by decide) (by decide) (by decide)) ?_
  have fin : ∀ (F : Ex Mr), endX F (fun e => ftR h h' e ∨ (alR h b n h' e ∧ ∀ j, j = 27 ∨ j = 28 → gI h' 61 0 j ≤ 5)) (fun a => Fr (RMo (9 + slM true (dM D))) h3 h' ∧ Fr TxR h h' ∧ rdE h' b n a.2.2.2 ∧ drm h' a.1 (slM true (dM D)) ∧ ouR h' a.2.1 ∧ gI h' 12 0 36 = 0 ∧ gI h' 12 0 37 = (a.2.2.1 : Int) ∧ gI h' 12 0 33 = -1 ∧ ∃ R : Nat → Int, a.1 = MU true (dM D) R) → ok (ck (-2147483648 ≤ gI h' 61 0 28 + 1 ∧ gI h' 61 0 28 + 1 < 2147483648) <| bd (f_X12_reads 13 (gI h' 61 0 28 + 1) h') fun v66 h67 => g_X12_line (g - 1) 5 [] h67) (fun _ h' => endX (exB (exM F (pkM D)) (enF b n)) (baR h h') (goL b n h h')) := by
    intro F z
    cases F with
    | error e =>
      rcases z with z | ⟨⟨t', G1, q1, ee, sg, e6⟩, c5⟩
      · have c := z.2 28 (by decide) (by decide)
        refine ok_ck (by omega) (ok_be (p_rd (k := 28) (by decide) (by decide) (by decide)) (r5 (F := exM (.error e) (pkM D)) (by omega) L (eX_e (Or.inl (baR_w (by unfold TxR; omega) (by decide) z.1)))))
      · have c := q1.2.2 28 (by decide) (by decide)
        have c6 := c5 28 (by omega)
        refine ok_ck (by omega) (ok_be (p_rd (k := 28) (by decide) (by decide) (by decide)) (r5 (F := exM (.error e) (pkM D)) (by omega) L (eX_e (Or.inr ⟨t', fr_sI G1 (by unfold TxR; omega), rdE_w (by omega) (by omega) q1, ee, sg, (gI_nr (by decide)).trans e6⟩))))
    | ok a =>
      obtain ⟨f, G, r, own, oo, a36, a37, a33, R, eR⟩ := z
      have ec : gI h' 61 0 28 = dM D 1 0 := (f.1 61 0 28 (by unfold RMo; omega)).trans qM.2.1
      rw [ec]
      refine ok_ck (by omega) (ok_be (p_rd (k := 28) (by decide) (by decide) (by decide)) (r5 (F := exM (.ok a) (pkM D)) (by omega) L ?_))
      have e7 : Fr (fun r _ j => r = 61 ∧ j = 28) h' (sI h' 61 0 28 (dM D 1 0 + 1)) := fr_sI fr_rf (by omega)
      have x : ∀ (r : Nat) (j : Int), r ≠ 61 → gI (sI h' 61 0 28 (dM D 1 0 + 1)) r 0 j = gI h' r 0 j := fun r j hr => gI_nr hr
      have x61 : ∀ j : Int, j ≠ 28 → gI (sI h' 61 0 28 (dM D 1 0 + 1)) 61 0 j = gI h' 61 0 j := fun j hj => gI_nk hj
      refine eX_o ⟨fr_sI G (by unfold TxR; omega), ⟨rdE_w (by omega) (by omega) r, drS_e (fun k k1 k2 => (x61 k (by omega)).trans (f.1 61 0 k (by unfold RMo; omega))) (fun k k1 => (x 62 k (by decide)).trans (f.1 62 0 k (by unfold RMo; omega))) qS, drI_e ((x61 20 (by decide)).trans (f.1 61 0 20 (by unfold RMo; omega))) (fun r k r1 r2 => (x r k (by omega)).trans (f.1 r 0 k (by unfold RMo; omega))) qI, drN_e ((x61 21 (by decide)).trans (f.1 61 0 21 (by unfold RMo; omega))) (fun k => (x 67 k (by decide)).trans (f.1 67 0 k (by unfold RMo; omega))) qN, drG_e ((x61 22 (by decide)).trans (f.1 61 0 22 (by unfold RMo; omega))) (fun r k r1 r2 => (x r k (by omega)).trans (f.1 r 0 k (by unfold RMo; omega))) qG, drT_e (fun k k1 k2 => (x61 k (by omega)).trans (f.1 61 0 k (by unfold RMo; omega))) qT, ?_, ouR_e (x61 29 (by decide)) (fun r k z => x r k (by omega)) oo, (x 12 36 (by decide)).trans a36, (x 12 37 (by decide)).trans a37, drW_o (Or.inr (by decide)) (drW_e ((x 12 25 (by decide)).trans (f.1 12 0 25 (by unfold RMo; omega))) qW), (x 12 33 (by decide)).trans a33⟩, (x 12 26 (by decide)).trans ((f.1 12 0 26 (by unfold RMo; omega)).trans e26)⟩
      show drM _ a.1
      rw [eR] at own ⊢
      refine ⟨(gI_nk (by decide)).trans ((f.1 61 0 27 (by unfold RMo; omega)).trans qM.1), gI_eq, fun s hs => ?_⟩
      by_cases es : s = slM true (dM D)
      · rw [es]
        exact drm_e (fun r r1 r2 => x r _ (by omega)) own
      · have hs2 : thM (dM D) s := by
          revert hs es
          unfold thM MU slM
          show ((0 ≤ s ∧ s < dM D 0 0) ∨ (5 ≤ s ∧ s < 5 + (dM D 1 0 + 1))) → ¬ s = 5 + dM D 1 0 → _
          omega
        have gg := drm_e (h2 := sI h' 61 0 28 (dM D 1 0 + 1)) (fun r r1 r2 => (x r (9 + s) (by omega)).trans (f.1 r 0 (9 + s) (by unfold RMo; omega))) (qM.2.2 s hs2)
        have e : ∀ f : Nat, 2 ≤ f → MU true (dM D) R f s = dM D f s := by
          intro f hf
          unfold MU
          rw [if_neg (by omega), if_neg (by omega), if_neg es]
        unfold drm
        rw [e 2 (by decide), e 3 (by decide), e 4 (by decide), e 5 (by decide), e 6 (by decide), e 7 (by decide), e 8 (by decide), e 9 (by decide), e 10 (by decide), e 11 (by decide)]
        exact gg
  refine fin _ (eX_m z (fun e y => y) (fun a ea ⟨y1, y2, y3, y4, y5, y6, y7, y8⟩ => ⟨y1, y2, y3, y4, y5, y6, y7, y8, ?_⟩))
  exact mb_R ea
end
