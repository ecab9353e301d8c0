/-! CALLS, 3: notes -/
def adX (X : Ch) (kd ml v : Int) : Ch := fun f i => match f with
  | 20 => if i = X 23 0 then kd else X 20 i
  | 21 => if i = X 23 0 then ml else X 21 i
  | 22 => if i = X 23 0 then v else X 22 i
  | 23 => X 23 0 + 1
  | _ => X f i
def lmX (X : Ch) (l : Int) : Ch := fun f i => match f with
  | 24 => l
  | _ => X f i
theorem sw_ad {σ : Sg} {kd ml v : Int} (w : SW σ) (hn : sX σ 23 0 < 32) (k1 : 0 ≤ kd ∧ kd ≤ 2) (k2 : kd = 2 → 0 ≤ v ∧ v < sX σ 23 0) (k3 : ¬ kd = 2 → 0 ≤ ml ∧ ml < 60) : SW (stX σ (adX (sX σ) kd ml v)) := by
  obtain ⟨w1, w2, w3, w4, w5, w6, w7, w8, w9⟩ := w
  obtain ⟨n1, n2, n3⟩ := w7
  refine ⟨w1, w2, w3, w4, w5, w6, ⟨?_, ?_, fun k j1 j2 => ?_⟩, w8, w9⟩
  · show 0 ≤ sX σ 23 0 + 1 ∧ sX σ 23 0 + 1 ≤ 32; omega
  · show -1 ≤ sX σ 24 0 ∧ sX σ 24 0 ≤ sX σ 23 0 + 1; omega
  · have j2 : k < sX σ 23 0 + 1 := j2
    show 0 ≤ (if k = sX σ 23 0 then kd else sX σ 20 k) ∧ (if k = sX σ 23 0 then kd else sX σ 20 k) ≤ 2 ∧ ((if k = sX σ 23 0 then kd else sX σ 20 k) = 2 → 0 ≤ (if k = sX σ 23 0 then v else sX σ 22 k) ∧ (if k = sX σ 23 0 then v else sX σ 22 k) < k) ∧ (¬ (if k = sX σ 23 0 then kd else sX σ 20 k) = 2 → 0 ≤ (if k = sX σ 23 0 then ml else sX σ 21 k) ∧ (if k = sX σ 23 0 then ml else sX σ 21 k) < 60)
    by_cases y : k = sX σ 23 0
    · rw [if_pos y, if_pos y, if_pos y]
      exact ⟨k1.1, k1.2, fun z => by have := k2 z; omega, k3⟩
    · rw [if_neg y, if_neg y, if_neg y]
      exact n3 k j1 (by omega)
section
variable {h : Hp} {c kd ml v x y : Int} {σ : Sg}
theorem p_note (w : SW σ) (q : IC h c σ) (hn : sX σ 23 0 < 32) : ok (f_X11_note kd ml v h) (fun r h' => r = sX σ 23 0 ∧ (∃ c', IC h' c' (stX σ (adX (sX σ) kd ml v))) ∧ FrX ClW h h') := by
  have n1 := nw_n (sw_N w)
  refine fuv_X11_note (fun n hn' => ?_)
  refine s_X11_note_0 (by omega) ?_
  unfold b_X11_note_0
  refine ok_lt ?_
  obtain ⟨q1, q2, q3, q4, q5, q6, q7, q8, q9, q10, q11⟩ := q
  have en : gI (sI h 11 0 16 (-1)) 5 0 4 = sX σ 23 0 := (gI_nr (by decide)).trans (in_n q8)
  have ea : f_X5_add kd ml v (sI h 11 0 16 (-1)) = some (sX σ 23 0, sI (sI (sI (sI (sI h 11 0 16 (-1)) 39 0 (sX σ 23 0) kd) 40 0 (sX σ 23 0) ml) 41 0 (sX σ 23 0) v) 5 0 4 (sX σ 23 0 + 1)) := by
    refine ok_eq.mp (fuv_X5_add (fun n hn' => ?_))
    refine s_X5_add_0 (by omega) ?_
    unfold b_X5_add_0
    rw [en]
    refine ok_f (by omega) (ok_t hn (ok_ck (by omega) (ok_lt ?_)))
    rw [gI_nr (show (5 : Nat) ≠ 39 by decide), en]
    refine ok_ck (by omega) (ok_lt ?_)
    rw [gI_nr (show (5 : Nat) ≠ 40 by decide), gI_nr (show (5 : Nat) ≠ 39 by decide), en]
    refine ok_ck (by omega) (ok_lt ?_)
    rw [gI_nr (show (5 : Nat) ≠ 41 by decide), gI_nr (show (5 : Nat) ≠ 40 by decide), gI_nr (show (5 : Nat) ≠ 39 by decide), en]
    refine ok_ck (by omega) (ok_lt ?_)
    rw [gI_eq]
    exact ok_ck (by omega) (ok_some ⟨by omega, rfl⟩)
  refine ok_be ea (ok_some ⟨rfl, ⟨c, ?_⟩, ?_⟩)
  · generalize hH : sI (sI (sI (sI (sI h 11 0 16 (-1)) 39 0 (sX σ 23 0) kd) 40 0 (sX σ 23 0) ml) 41 0 (sX σ 23 0) v) 5 0 4 (sX σ 23 0 + 1) = H
    have e : ∀ (r : Nat) (i k : Int), ¬ ((r = 11 ∧ k = 16) ∨ r = 39 ∨ r = 40 ∨ r = 41 ∨ (r = 5 ∧ k = 4)) → gI H r i k = gI h r i k := by
      intro r i k z
      rw [← hH, gI_sI, if_neg (by omega), gI_sI, if_neg (by omega), gI_sI, if_neg (by omega), gI_sI, if_neg (by omega), gI_sI, if_neg (by omega)]
    have e2 : H.2 = h.2 := by rw [← hH]; rfl
    have g39 : ∀ k, gI H 39 0 k = if k = sX σ 23 0 then kd else gI h 39 0 k := by intro k; rw [← hH]; simp only [gI_sI]; simp
    have g40 : ∀ k, gI H 40 0 k = if k = sX σ 23 0 then ml else gI h 40 0 k := by intro k; rw [← hH]; simp only [gI_sI]; simp
    have g41 : ∀ k, gI H 41 0 k = if k = sX σ 23 0 then v else gI h 41 0 k := by intro k; rw [← hH]; simp only [gI_sI]; simp
    have g5 : gI H 5 0 4 = sX σ 23 0 + 1 := by rw [← hH, gI_eq]
    have g16 : gI H 11 0 16 = -1 := by rw [← hH]; simp only [gI_sI]; simp
    have nn : kN H (stX σ (adX (sX σ) kd ml v)) := by
      obtain ⟨m1, m2, m3⟩ := q8
      refine ⟨g5, (e 5 0 5 (by omega)).trans m2, fun k k1 k2 => ?_⟩
      have k2 : k < sX σ 23 0 + 1 := k2
      show gI H 39 0 k = (if k = sX σ 23 0 then kd else sX σ 20 k) ∧ gI H 41 0 k = (if k = sX σ 23 0 then v else sX σ 22 k) ∧ (¬ (if k = sX σ 23 0 then kd else sX σ 20 k) = 2 → gI H 40 0 k = (if k = sX σ 23 0 then ml else sX σ 21 k))
      rw [g39, g40, g41]
      by_cases y : k = sX σ 23 0
      · simp only [if_pos y]; exact ⟨trivial, trivial, fun _ => trivial⟩
      · simp only [if_neg y]
        exact m3 k k1 (by omega)
    exact ⟨kA_e (fun r i k z => e r i k (by unfold inC at z; omega)) e2 q1, kR_e e2 q2, kV_e (fun k => e 10 0 k (by omega)) (fun k => e 57 0 k (by omega)) q3, kG_e (fun k z => e 2 0 k (by omega)) q4, kL_e (fun r k a b => e r 0 k (by omega)) q5, kU_e (e 11 0 10 (by omega)) (fun v k a b => e 10 v k (by omega)) (fun v k a b => e 57 v k (by omega)) q6, kI_e (e 11 0 13 (by omega)) (fun k => e 10 21 k (by omega)) (fun k => e 57 21 k (by omega)) (fun r k a b => e r 1 k (by omega)) q7, nn, kT_e (e 11 0 1 (by omega)) (fun k => e 58 0 k (by omega)) q9, kF_e (fun k z => e 7 0 k (by omega)) q10, Or.inl g16⟩
  · repeat (first | exact cx_rf | refine cx_sI ?_ (by unfold ClW; omega))
/-- no room: the note is refused -/
theorem p_noteF (w : SW σ) (q : IC h c σ) (hn : sX σ 23 0 = 32) : ok (f_X11_note kd ml v h) (fun r h' => r = -1 ∧ (∃ c', IC h' c' σ) ∧ FrX ClW h h') := by
  refine fuv_X11_note (fun n hn' => ?_)
  refine s_X11_note_0 (by omega) ?_
  unfold b_X11_note_0
  refine ok_lt ?_
  obtain ⟨q1, q2, q3, q4, q5, q6, q7, q8, q9, q10, q11⟩ := q
  have en : gI (sI h 11 0 16 (-1)) 5 0 4 = sX σ 23 0 := (gI_nr (by decide)).trans (in_n q8)
  have ea : f_X5_add kd ml v (sI h 11 0 16 (-1)) = some (-1, sI h 11 0 16 (-1)) := by
    refine ok_eq.mp (fuv_X5_add (fun n hn' => ?_))
    refine s_X5_add_0 (by omega) ?_
    unfold b_X5_add_0
    rw [en]
    exact ok_f (by omega) (ok_f (by omega) (ok_some ⟨rfl, rfl⟩))
  refine ok_be ea (ok_some ⟨rfl, ⟨c, ?_⟩, cx_sI cx_rf (by unfold ClW; omega)⟩)
  have e : ∀ (r : Nat) (i k : Int), ¬ (r = 11 ∧ k = 16) → gI (sI h 11 0 16 (-1)) r i k = gI h r i k := by
    intro r i k z
    rw [gI_sI, if_neg (by omega)]
  have e2 : (sI h 11 0 16 (-1)).2 = h.2 := rfl
  exact ⟨kA_e (fun r i k z => e r i k (by unfold inC at z; omega)) e2 q1, kR_e e2 q2, kV_e (fun k => e 10 0 k (by omega)) (fun k => e 57 0 k (by omega)) q3, kG_e (fun k z => e 2 0 k (by omega)) q4, kL_e (fun r k a b => e r 0 k (by omega)) q5, kU_e (e 11 0 10 (by omega)) (fun v k a b => e 10 v k (by omega)) (fun v k a b => e 57 v k (by omega)) q6, kI_e (e 11 0 13 (by omega)) (fun k => e 10 21 k (by omega)) (fun k => e 57 21 k (by omega)) (fun r k a b => e r 1 k (by omega)) q7, kN_e (fun k z => e 5 0 k (by omega)) (fun r k a b => e r 0 k (by omega)) q8, kT_e (e 11 0 1 (by omega)) (fun k => e 58 0 k (by omega)) q9, kF_e (fun k z => e 7 0 k (by omega)) q10, Or.inl gI_eq⟩
theorem p_added (w : SW σ) (q : IR h σ) (hn : sX σ 23 0 < 32) : ok (f_X12_added kd ml v h) (fun r h' => r = sX σ 23 0 ∧ IR h' (stX σ (adX (sX σ) kd ml v)) ∧ Fr ReW h h') := by
  have n1 := nw_n (sw_N w)
  have vm := vw_m (sw_V w).1
  have wC := sw_C w
  obtain ⟨q1, q2, q3, q4, q5, q6, q7, q8, q9⟩ := q
  have en : gI h 12 0 74 = sX σ 23 0 := ip_n q7
  refine fuv_X12_added (fun n hn' => ?_)
  refine s_X12_added_0 (by omega) ?_
  unfold b_X12_added_0
  rw [en]
  refine ok_ck (by omega) (ok_lt ?_)
  rw [gI_nr (show (12 : Nat) ≠ 111 by decide), en]
  refine ok_ck (by omega) (ok_lt ?_)
  rw [gI_nr (show (12 : Nat) ≠ 110 by decide), gI_nr (show (12 : Nat) ≠ 111 by decide), en]
  refine ok_ck (by omega) (ok_lt ?_)
  rw [gI_nr (show (12 : Nat) ≠ 112 by decide), gI_nr (show (12 : Nat) ≠ 110 by decide), gI_nr (show (12 : Nat) ≠ 111 by decide), en]
  refine ok_ck (by omega) (ok_lt ?_)
  rw [gI_eq]
  refine ok_ck (by omega) (ok_some ⟨by omega, ?_, ?_⟩)
  · generalize hH : sI (sI (sI (sI h 111 0 (sX σ 23 0) kd) 110 0 (sX σ 23 0) ml) 112 0 (sX σ 23 0) v) 12 0 74 (sX σ 23 0 + 1) = H
    have e : ∀ (r : Nat) (i k : Int), ¬ ((r = 12 ∧ k = 74) ∨ r = 110 ∨ r = 111 ∨ r = 112) → gI H r i k = gI h r i k := by
      intro r i k z
      rw [← hH, gI_sI, if_neg (by omega), gI_sI, if_neg (by omega), gI_sI, if_neg (by omega), gI_sI, if_neg (by omega)]
    have g39 : ∀ k, gI H 111 0 k = if k = sX σ 23 0 then kd else gI h 111 0 k := by intro k; rw [← hH]; simp only [gI_sI]; simp
    have g40 : ∀ k, gI H 110 0 k = if k = sX σ 23 0 then ml else gI h 110 0 k := by intro k; rw [← hH]; simp only [gI_sI]; simp
    have g41 : ∀ k, gI H 112 0 k = if k = sX σ 23 0 then v else gI h 112 0 k := by intro k; rw [← hH]; simp only [gI_sI]; simp
    have g5 : gI H 12 0 74 = sX σ 23 0 + 1 := by rw [← hH, gI_eq]
    have nn : rN H (stX σ (adX (sX σ) kd ml v)) := by
      obtain ⟨m1, m2, m3⟩ := q7
      refine ⟨g5, (e 12 0 75 (by omega)).trans m2, fun k k1 k2 => ?_⟩
      have k2 : k < sX σ 23 0 + 1 := k2
      show gI H 111 0 k = (if k = sX σ 23 0 then kd else sX σ 20 k) ∧ gI H 112 0 k = (if k = sX σ 23 0 then v else sX σ 22 k) ∧ (¬ (if k = sX σ 23 0 then kd else sX σ 20 k) = 2 → gI H 110 0 k = (if k = sX σ 23 0 then ml else sX σ 21 k))
      rw [g39, g40, g41]
      by_cases y : k = sX σ 23 0
      · simp only [if_pos y]; exact ⟨trivial, trivial, fun _ => trivial⟩
      · simp only [if_neg y]
        exact m3 k k1 (by omega)
    exact ⟨isR_eq (fun r k a b => e r 0 k (by omega)) q1, B92_e (fun k => e 92 0 k (by omega)) q2, rV_e wC (fun r a b => e r 0 0 (by omega)) (fun m a b => ⟨e 91 0 m (by omega), e 92 0 m (by omega)⟩) q3, rL_e (fun r k a b z1 z2 => e r 0 k (by omega)) vm.2 q4, rU_e wC (sw_U w).2.1 (e 12 0 54 (by omega)) (fun r s a b z1 z2 => e r 0 s (by omega)) (fun m a b => ⟨e 91 0 m (by omega), e 92 0 m (by omega)⟩) q5, rI_e wC (fun z => (vw_m (sw_i w z).1).2) (e 12 0 53 (by omega)) (fun r a b => e r 0 2 (by omega)) (fun m a b => ⟨e 91 0 m (by omega), e 92 0 m (by omega)⟩) (fun r k a b z1 z2 => e r 0 k (by omega)) q6, nn, rT_e (e 12 0 2 (by omega)) (fun k => e 60 0 k (by omega)) q8, rF_e (fun k z => e 12 0 k (by omega)) q9⟩
  · repeat (first | exact fr_rf | refine fr_sI ?_ (by unfold ReW; omega))
end

theorem fr_0 {h2 h3 : Hp} (f : Fr ReW (sI h2 12 0 0 0) h3) : Fr ReW h2 h3 := fr_tr (fr_sI fr_rf (Or.inl rfl)) f
theorem agr_taken {x y : Int} : Agr (f_X11_taken x y) (f_X12_taken x y) := by
  intro h c σ w q
  have vm := vw_m (sw_V w).1
  have e0 := iv_0 q.2.2.1.1
  have n1 := nw_n (sw_N w)
  have no2 : ∀ (h2 : Hp) (n : Nat), 1 ≤ n → ok (g_X12_taken n 1 [] (sI h2 12 0 0 0)) (fun r h' => r = -1 ∧ h' = sI h2 12 0 0 0) := by
    intro h2 n hn
    refine s_X12_taken_1 (by omega) ?_
    unfold b_X12_taken_1
    exact ok_some ⟨rfl, rfl⟩
  by_cases z : (0 ≤ x ∧ x < sV σ 0 0 0) ∧ (0 ≤ y ∧ y < 4)
  · by_cases f : sX σ 23 0 < 32
    · refine ⟨sX σ 23 0, stX σ (adX (sX σ) 0 x y), sw_ad w f (by omega) (fun z => by omega) (fun _ => by omega), ?_, fun h2 q2 => ?_⟩
      · refine fuv_X11_taken (fun n hn => ?_)
        refine s_X11_taken_0 (by omega) ?_
        unfold b_X11_taken_0
        exact ok_be (p_X11_isGone e0 vm.2) (ok_f (fun u => b2i_0.mp u z.1) (ok_be p_X11_isCourse (ok_f (fun u => b2i_0.mp u z.2) (ok_bq (p_note w q f) (fun r h' k => ok_some k)))))
      · have q3 := IR_0 w q2
        refine fuv_X12_taken (fun n hn => ?_)
        refine s_X12_taken_0 (by omega) ?_
        unfold b_X12_taken_0
        refine ok_lt ?_
        rw [is_0 q3.2.2.1.1, ip_n q3.2.2.2.2.2.2.1]
        exact ok_f (by omega) (ok_ck (by decide) (ok_f (by omega) (ok_f (by omega) (ok_f (by omega) (ok_f (by omega) (ok_bq (p_added w q3 f) (fun r h' k => ok_some ⟨k.1, k.2.1, fr_0 k.2.2⟩)))))))
    · refine ⟨-1, σ, w, ?_, fun h2 q2 => ok_rr w q2 ?_⟩
      · refine fuv_X11_taken (fun n hn => ?_)
        refine s_X11_taken_0 (by omega) ?_
        unfold b_X11_taken_0
        exact ok_be (p_X11_isGone e0 vm.2) (ok_f (fun u => b2i_0.mp u z.1) (ok_be p_X11_isCourse (ok_f (fun u => b2i_0.mp u z.2) (ok_bq (p_noteF w q (by omega)) (fun r h' k => ok_some k)))))
      · have q3 := IR_0 w q2
        refine ok_eq.mp (fuv_X12_taken (fun n hn => ?_))
        refine s_X12_taken_0 (by omega) ?_
        unfold b_X12_taken_0
        refine ok_lt ?_
        rw [is_0 q3.2.2.1.1, ip_n q3.2.2.2.2.2.2.1]
        exact ok_f (by omega) (ok_ck (by decide) (ok_f (by omega) (ok_f (by omega) (ok_f (by omega) (ok_t (by omega) (no2 _ _ (by omega)))))))
  · refine ⟨-1, σ, w, ok_rc q ?_, fun h2 q2 => ok_rr w q2 ?_⟩
    · refine ok_eq.mp (fuv_X11_taken (fun n hn => ?_))
      refine s_X11_taken_0 (by omega) ?_
      unfold b_X11_taken_0
      exact ok_be (p_X11_isGone e0 vm.2) (ok_if (fun u => ok_some ⟨rfl, rfl⟩) (fun u => ok_be p_X11_isCourse (ok_t (b2i_0.mpr (fun v => z ⟨b2i_n.mp u, v⟩)) (ok_some ⟨rfl, rfl⟩))))
    · have q3 := IR_0 w q2
      refine ok_eq.mp (fuv_X12_taken (fun n hn => ?_))
      refine s_X12_taken_0 (by omega) ?_
      unfold b_X12_taken_0
      refine ok_lt ?_
      rw [is_0 q3.2.2.1.1]
      exact ok_if (fun u => no2 _ _ (by omega)) (fun u => ok_ck (by decide) (ok_if (fun u2 => no2 _ _ (by omega)) (fun u2 => ok_if (fun u3 => no2 _ _ (by omega)) (fun u3 => ok_t (by omega) (no2 _ _ (by omega))))))
theorem agr_washed {x y : Int} : Agr (f_X11_washed x y) (f_X12_washed x y) := by
  intro h c σ w q
  have vm := vw_m (sw_V w).1
  have e0 := iv_0 q.2.2.1.1
  have n1 := nw_n (sw_N w)
  have no2 : ∀ (h2 : Hp) (n : Nat), 1 ≤ n → ok (g_X12_washed n 1 [] (sI h2 12 0 0 0)) (fun r h' => r = -1 ∧ h' = sI h2 12 0 0 0) := by
    intro h2 n hn
    refine s_X12_washed_1 (by omega) ?_
    unfold b_X12_washed_1
    exact ok_some ⟨rfl, rfl⟩
  by_cases z : (0 ≤ x ∧ x < sV σ 0 0 0) ∧ (0 ≤ y ∧ y ≤ 99)
  · by_cases f : sX σ 23 0 < 32
    · refine ⟨sX σ 23 0, stX σ (adX (sX σ) 1 x y), sw_ad w f (by omega) (fun z => by omega) (fun _ => by omega), ?_, fun h2 q2 => ?_⟩
      · refine fuv_X11_washed (fun n hn => ?_)
        refine s_X11_washed_0 (by omega) ?_
        unfold b_X11_washed_0
        exact ok_be (p_X11_isGone e0 vm.2) (ok_f (fun u => b2i_0.mp u z.1) (ok_f (by omega) (ok_t (by omega) (ok_bq (p_note w q f) (fun r h' k => ok_some k)))))
      · have q3 := IR_0 w q2
        refine fuv_X12_washed (fun n hn => ?_)
        refine s_X12_washed_0 (by omega) ?_
        unfold b_X12_washed_0
        refine ok_lt ?_
        rw [is_0 q3.2.2.1.1, ip_n q3.2.2.2.2.2.2.1]
        exact ok_f (by omega) (ok_ck (by decide) (ok_f (by omega) (ok_f (by omega) (ok_f (by omega) (ok_f (by omega) (ok_bq (p_added w q3 f) (fun r h' k => ok_some ⟨k.1, k.2.1, fr_0 k.2.2⟩)))))))
    · refine ⟨-1, σ, w, ?_, fun h2 q2 => ok_rr w q2 ?_⟩
      · refine fuv_X11_washed (fun n hn => ?_)
        refine s_X11_washed_0 (by omega) ?_
        unfold b_X11_washed_0
        exact ok_be (p_X11_isGone e0 vm.2) (ok_f (fun u => b2i_0.mp u z.1) (ok_f (by omega) (ok_t (by omega) (ok_bq (p_noteF w q (by omega)) (fun r h' k => ok_some k)))))
      · have q3 := IR_0 w q2
        refine ok_eq.mp (fuv_X12_washed (fun n hn => ?_))
        refine s_X12_washed_0 (by omega) ?_
        unfold b_X12_washed_0
        refine ok_lt ?_
        rw [is_0 q3.2.2.1.1, ip_n q3.2.2.2.2.2.2.1]
        exact ok_f (by omega) (ok_ck (by decide) (ok_f (by omega) (ok_f (by omega) (ok_f (by omega) (ok_t (by omega) (no2 _ _ (by omega)))))))
  · refine ⟨-1, σ, w, ok_rc q ?_, fun h2 q2 => ok_rr w q2 ?_⟩
    · refine ok_eq.mp (fuv_X11_washed (fun n hn => ?_))
      refine s_X11_washed_0 (by omega) ?_
      unfold b_X11_washed_0
      refine ok_be (p_X11_isGone e0 vm.2) (ok_if (fun u => ok_some ⟨rfl, rfl⟩) (fun u => ok_if (fun u2 => ok_some ⟨rfl, rfl⟩) (fun u2 => ok_f ?_ (ok_some ⟨rfl, rfl⟩))))
      have u := b2i_n.mp u
      omega
    · have q3 := IR_0 w q2
      refine ok_eq.mp (fuv_X12_washed (fun n hn => ?_))
      refine s_X12_washed_0 (by omega) ?_
      unfold b_X12_washed_0
      refine ok_lt ?_
      rw [is_0 q3.2.2.1.1]
      exact ok_if (fun u => no2 _ _ (by omega)) (fun u => ok_ck (by decide) (ok_if (fun u2 => no2 _ _ (by omega)) (fun u2 => ok_if (fun u3 => no2 _ _ (by omega)) (fun u3 => ok_t (by omega) (no2 _ _ (by omega))))))
theorem agr_strike {x : Int} : Agr (f_X11_strike x) (f_X12_strike x) := by
  intro h c σ w q
  have n1 := nw_n (sw_N w)
  have e4 := in_n q.2.2.2.2.2.2.2.1
  have no2 : ∀ (h2 : Hp) (n : Nat), 1 ≤ n → ok (g_X12_strike n 1 [] (sI h2 12 0 0 0)) (fun r h' => r = -1 ∧ h' = sI h2 12 0 0 0) := by
    intro h2 n hn
    refine s_X12_strike_1 (by omega) ?_
    unfold b_X12_strike_1
    exact ok_some ⟨rfl, rfl⟩
  by_cases z : 0 ≤ x ∧ x < sX σ 23 0
  · by_cases f : sX σ 23 0 < 32
    · refine ⟨sX σ 23 0, stX σ (adX (sX σ) 2 (-1) x), sw_ad w f (by omega) (fun _ => z) (fun y => absurd rfl y), ?_, fun h2 q2 => ?_⟩
      · refine fuv_X11_strike (fun n hn => ?_)
        refine s_X11_strike_0 (by omega) ?_
        unfold b_X11_strike_0
        rw [e4]
        exact ok_f (by omega) (ok_t z.2 (ok_bq (p_note w q f) (fun r h' k => ok_some k)))
      · have q3 := IR_0 w q2
        refine fuv_X12_strike (fun n hn => ?_)
        refine s_X12_strike_0 (by omega) ?_
        unfold b_X12_strike_0
        refine ok_lt ?_
        rw [ip_n q3.2.2.2.2.2.2.1]
        refine ok_f (by omega) (ok_f (by omega) (ok_f (by omega) (ok_bq (p_added (ml := 0) w q3 f) (fun r h' k => ok_some ⟨k.1, ?_, fr_0 k.2.2⟩))))
        obtain ⟨-, ⟨k1, k2, k3, k4, k5, k6, k7, k8, k9⟩, -⟩ := k
        refine ⟨k1, k2, k3, k4, k5, k6, ?_, k8, k9⟩
        obtain ⟨m1, m2, m3⟩ := k7
        refine ⟨m1, m2, fun k j1 j2 => ⟨(m3 k j1 j2).1, (m3 k j1 j2).2.1, fun nz => ?_⟩⟩
        have t := (m3 k j1 j2).2.2 nz
        have nz : ¬ (if k = sX σ 23 0 then (2 : Int) else sX σ 20 k) = 2 := nz
        have t : gI h' 110 0 k = (if k = sX σ 23 0 then (0 : Int) else sX σ 21 k) := t
        show gI h' 110 0 k = (if k = sX σ 23 0 then (-1 : Int) else sX σ 21 k)
        by_cases y : k = sX σ 23 0
        · rw [if_pos y] at nz; exact absurd rfl nz
        · rw [if_neg y] at t ⊢; exact t
    · refine ⟨-1, σ, w, ?_, fun h2 q2 => ok_rr w q2 ?_⟩
      · refine fuv_X11_strike (fun n hn => ?_)
        refine s_X11_strike_0 (by omega) ?_
        unfold b_X11_strike_0
        rw [e4]
        exact ok_f (by omega) (ok_t z.2 (ok_bq (p_noteF w q (by omega)) (fun r h' k => ok_some k)))
      · have q3 := IR_0 w q2
        refine ok_eq.mp (fuv_X12_strike (fun n hn => ?_))
        refine s_X12_strike_0 (by omega) ?_
        unfold b_X12_strike_0
        refine ok_lt ?_
        rw [ip_n q3.2.2.2.2.2.2.1]
        exact ok_f (by omega) (ok_f (by omega) (ok_t (by omega) (no2 _ _ (by omega))))
  · refine ⟨-1, σ, w, ok_rc q ?_, fun h2 q2 => ok_rr w q2 ?_⟩
    · refine ok_eq.mp (fuv_X11_strike (fun n hn => ?_))
      refine s_X11_strike_0 (by omega) ?_
      unfold b_X11_strike_0
      rw [e4]
      exact ok_if (fun u => ok_some ⟨rfl, rfl⟩) (fun u => ok_f (by omega) (ok_some ⟨rfl, rfl⟩))
    · have q3 := IR_0 w q2
      refine ok_eq.mp (fuv_X12_strike (fun n hn => ?_))
      refine s_X12_strike_0 (by omega) ?_
      unfold b_X12_strike_0
      refine ok_lt ?_
      rw [ip_n q3.2.2.2.2.2.2.1]
      exact ok_if (fun u => no2 _ _ (by omega)) (fun u => ok_t (by omega) (no2 _ _ (by omega)))
theorem agr_known {x : Int} : Agr (f_X11_known x) (f_X12_known x) := by
  intro h c σ w q
  have n1 := nw_n (sw_N w)
  have e4 := in_n q.2.2.2.2.2.2.2.1
  by_cases z : -1 ≤ x ∧ x ≤ sX σ 23 0
  · refine ⟨1, stX σ (lmX (sX σ) x), ?_, ?_, fun h2 q2 => ?_⟩
    · obtain ⟨w1, w2, w3, w4, w5, w6, ⟨w7, w8, w9⟩, w10, w11⟩ := w
      exact ⟨w1, w2, w3, w4, w5, w6, ⟨w7, z, w9⟩, w10, w11⟩
    · refine fuv_X11_known (fun n hn => ?_)
      refine s_X11_known_0 (by omega) ?_
      unfold b_X11_known_0
      rw [e4]
      refine ok_f (by omega) (ok_t z.2 (ok_lt (ok_lt (ok_some ⟨rfl, ⟨c, ?_⟩, cx_sI (cx_sI cx_rf (by unfold ClW; omega)) (by unfold ClW; omega)⟩))))
      have e : ∀ (r : Nat) (i k : Int), ¬ ((r = 11 ∧ k = 16) ∨ (r = 5 ∧ k = 5)) → gI (sI (sI h 5 0 5 x) 11 0 16 (-1)) r i k = gI h r i k := by
        intro r i k z
        rw [gI_sI, if_neg (by omega), gI_sI, if_neg (by omega)]
      have e2 : (sI (sI h 5 0 5 x) 11 0 16 (-1)).2 = h.2 := rfl
      obtain ⟨q1, q2, q3, q4, q5, q6, q7, q8, q9, q10, q11⟩ := q
      have nn : kN (sI (sI h 5 0 5 x) 11 0 16 (-1)) (stX σ (lmX (sX σ) x)) := by
        obtain ⟨m1, m2, m3⟩ := q8
        refine ⟨(e 5 0 4 (by omega)).trans m1, by rw [gI_nr (by decide), gI_eq]; rfl, fun k k1 k2 => ?_⟩
        rw [e 39 0 k (by omega), e 40 0 k (by omega), e 41 0 k (by omega)]
        exact m3 k k1 k2
      exact ⟨kA_e (fun r i k z => e r i k (by unfold inC at z; omega)) e2 q1, kR_e e2 q2, kV_e (fun k => e 10 0 k (by omega)) (fun k => e 57 0 k (by omega)) q3, kG_e (fun k z => e 2 0 k (by omega)) q4, kL_e (fun r k a b => e r 0 k (by omega)) q5, kU_e (e 11 0 10 (by omega)) (fun v k a b => e 10 v k (by omega)) (fun v k a b => e 57 v k (by omega)) q6, kI_e (e 11 0 13 (by omega)) (fun k => e 10 21 k (by omega)) (fun k => e 57 21 k (by omega)) (fun r k a b => e r 1 k (by omega)) q7, nn, kT_e (e 11 0 1 (by omega)) (fun k => e 58 0 k (by omega)) q9, kF_e (fun k z => e 7 0 k (by omega)) q10, Or.inl gI_eq⟩
    · have q := IR_0 w q2
      have vm := vw_m (sw_V w).1
      have wC := sw_C w
      refine fuv_X12_known (fun n hn => ?_)
      refine s_X12_known_0 (by omega) ?_
      unfold b_X12_known_0
      refine ok_lt ?_
      rw [ip_n q.2.2.2.2.2.2.1]
      refine ok_f (by omega) (ok_t z.2 (ok_lt (ok_some ⟨rfl, ?_, fr_sI (fr_sI fr_rf (Or.inl rfl)) (Or.inl rfl)⟩)))
      have e : ∀ (r : Nat) (i k : Int), ¬ (r = 12 ∧ k = 75) → gI (sI (sI h2 12 0 0 0) 12 0 75 x) r i k = gI (sI h2 12 0 0 0) r i k := by
        intro r i k z
        rw [gI_sI, if_neg (by omega)]
      obtain ⟨q1, q2, q3, q4, q5, q6, q7, q8, q9⟩ := q
      have nn : rN (sI (sI h2 12 0 0 0) 12 0 75 x) (stX σ (lmX (sX σ) x)) := by
        obtain ⟨m1, m2, m3⟩ := q7
        refine ⟨(e 12 0 74 (by omega)).trans m1, by rw [gI_eq]; rfl, fun k k1 k2 => ?_⟩
        rw [e 110 0 k (by omega), e 111 0 k (by omega), e 112 0 k (by omega)]
        exact m3 k k1 k2
      exact ⟨isR_eq (fun r k a b => e r 0 k (by omega)) q1, B92_e (fun k => e 92 0 k (by omega)) q2, rV_e wC (fun r a b => e r 0 0 (by omega)) (fun m a b => ⟨e 91 0 m (by omega), e 92 0 m (by omega)⟩) q3, rL_e (fun r k a b z1 z2 => e r 0 k (by omega)) vm.2 q4, rU_e wC (sw_U w).2.1 (e 12 0 54 (by omega)) (fun r s a b z1 z2 => e r 0 s (by omega)) (fun m a b => ⟨e 91 0 m (by omega), e 92 0 m (by omega)⟩) q5, rI_e wC (fun z => (vw_m (sw_i w z).1).2) (e 12 0 53 (by omega)) (fun r a b => e r 0 2 (by omega)) (fun m a b => ⟨e 91 0 m (by omega), e 92 0 m (by omega)⟩) (fun r k a b z1 z2 => e r 0 k (by omega)) q6, nn, rT_e (e 12 0 2 (by omega)) (fun k => e 60 0 k (by omega)) q8, rF_e (fun k z => e 12 0 k (by omega)) q9⟩
  · refine ⟨0, σ, w, ok_rc q ?_, fun h2 q2 => ok_rr w q2 ?_⟩
    · refine ok_eq.mp (fuv_X11_known (fun n hn => ?_))
      refine s_X11_known_0 (by omega) ?_
      unfold b_X11_known_0
      rw [e4]
      exact ok_if (fun u => ok_some ⟨rfl, rfl⟩) (fun u => ok_f (by omega) (ok_some ⟨rfl, rfl⟩))
    · have q3 := IR_0 w q2
      refine ok_eq.mp (fuv_X12_known (fun n hn => ?_))
      refine s_X12_known_0 (by omega) ?_
      unfold b_X12_known_0
      refine ok_lt ?_
      rw [ip_n q3.2.2.2.2.2.2.1]
      exact ok_if (fun u => ok_some ⟨rfl, rfl⟩) (fun u => ok_f (by omega) (ok_some ⟨rfl, rfl⟩))
