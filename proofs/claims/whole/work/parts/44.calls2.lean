/-! CALLS, 2: cells that tell nothing between calls -/
def ScW : Nat → Int → Int → Prop := fun r i k => (27 ≤ r ∧ r ≤ 33) ∨ (r = 2 ∧ (k = 1 ∨ k = 2 ∨ k = 7 ∨ k = 8 ∨ k = 10)) ∨ ((r = 10 ∨ r = 57) ∧ 22 ≤ i) ∨ r = 42 ∨ r = 44 ∨ r = 45 ∨ r = 6 ∨ (r = 55 ∧ 256 ≤ k) ∨ r = 56
def SrW : Nat → Int → Int → Prop := fun r _ k => (r = 12 ∧ (k = 0 ∨ (55 ≤ k ∧ k ≤ 57) ∨ k = 60 ∨ k = 64 ∨ k = 67 ∨ k = 68)) ∨ (84 ≤ r ∧ r ≤ 90 ∧ k = 1) ∨ ((r = 91 ∨ r = 92) ∧ 9 ≤ k ∧ k < 18) ∨ (93 ≤ r ∧ r ≤ 97 ∧ 60 ≤ k ∧ k < 120) ∨ (98 ≤ r ∧ r ≤ 109) ∨ r = 113
section
variable {h h2 : Hp} {c : Int} {σ : Sg}
theorem IC_sc (f : Fr ScW h h2) (g : kG h2) (q : IC h c σ) : IC h2 c σ := by
  have e : ∀ (r : Nat) (i k : Int), ¬ ((27 ≤ r ∧ r ≤ 33) ∨ (r = 2 ∧ (k = 1 ∨ k = 2 ∨ k = 7 ∨ k = 8 ∨ k = 10)) ∨ ((r = 10 ∨ r = 57) ∧ 22 ≤ i) ∨ r = 42 ∨ r = 44 ∨ r = 45 ∨ r = 6 ∨ (r = 55 ∧ 256 ≤ k) ∨ r = 56) → gI h2 r i k = gI h r i k := f.1
  have e2 := f.2
  obtain ⟨q1, q2, q3, q4, q5, q6, q7, q8, q9, q10, q11⟩ := q
  exact ⟨kA_e (fun r i k z => e r i k (by unfold inC at z; omega)) e2 q1, kR_e e2 q2, kV_e (fun k => e 10 0 k (by omega)) (fun k => e 57 0 k (by omega)) q3, g, kL_e (fun r k a b => e r 0 k (by omega)) q5, kU_e (e 11 0 10 (by omega)) (fun v k a b => e 10 v k (by omega)) (fun v k a b => e 57 v k (by omega)) q6, kI_e (e 11 0 13 (by omega)) (fun k => e 10 21 k (by omega)) (fun k => e 57 21 k (by omega)) (fun r k a b => e r 1 k (by omega)) q7, kN_e (fun k z => e 5 0 k (by omega)) (fun r k a b => e r 0 k (by omega)) q8, kT_e (e 11 0 1 (by omega)) (fun k => e 58 0 k (by omega)) q9, kF_e (fun k z => e 7 0 k (by omega)) q10, kQ_e (e 11 0 16 (by omega)) q11⟩
theorem IR_sc (w : SW σ) (f : Fr SrW h h2) (b : B92 h2) (q : IR h σ) : IR h2 σ := by
  have e : ∀ (r : Nat) (i k : Int), ¬ ((r = 12 ∧ (k = 0 ∨ (55 ≤ k ∧ k ≤ 57) ∨ k = 60 ∨ k = 64 ∨ k = 67 ∨ k = 68)) ∨ (84 ≤ r ∧ r ≤ 90 ∧ k = 1) ∨ ((r = 91 ∨ r = 92) ∧ 9 ≤ k ∧ k < 18) ∨ (93 ≤ r ∧ r ≤ 97 ∧ 60 ≤ k ∧ k < 120) ∨ (98 ≤ r ∧ r ≤ 109) ∨ r = 113) → gI h2 r i k = gI h r i k := f.1
  have vm := vw_m (sw_V w).1
  have wC := sw_C w
  obtain ⟨q1, q2, q3, q4, q5, q6, q7, q8, q9⟩ := q
  exact ⟨isR_eq (fun r k a b => e r 0 k (by omega)) q1, b, rV_e wC (fun r a b => e r 0 0 (by omega)) (fun m a b => ⟨e 91 0 m (by omega), e 92 0 m (by omega)⟩) q3, rL_e (fun r k a b z1 z2 => e r 0 k (by omega)) vm.2 q4, rU_e wC (sw_U w).2.1 (e 12 0 54 (by omega)) (fun r s a b z1 z2 => e r 0 s (by omega)) (fun m a b => ⟨e 91 0 m (by omega), e 92 0 m (by omega)⟩) q5, rI_e wC (fun z => (vw_m (sw_i w z).1).2) (e 12 0 53 (by omega)) (fun r a b => e r 0 2 (by omega)) (fun m a b => ⟨e 91 0 m (by omega), e 92 0 m (by omega)⟩) (fun r k a b z1 z2 => e r 0 k (by omega)) q6, rN_e (fun k z => e 12 0 k (by omega)) (fun r k a b => e r 0 k (by omega)) q7, rT_e (e 12 0 2 (by omega)) (fun k => e 60 0 k (by omega)) q8, rF_e (fun k z => e 12 0 k (by omega)) q9⟩
theorem cx_sI {W : Nat → Int → Int → Prop} {h3 : Hp} {r : Nat} {i k v : Int} (a : FrX W h h3) (b : W r i k) : FrX W h (sI h3 r i k v) := fun r' i' k' z => by
  rw [gI_sI, if_neg (fun y => z (by rw [y.1, y.2.1, y.2.2]; exact b))]
  exact a r' i' k' z
theorem scw_Cl : ∀ (r : Nat) (i k : Int), ScW r i k → ClW r i k := by intro r i k z; unfold ScW at z; unfold ClW; omega
theorem srw_Re : ∀ (r : Nat) (i k : Int), SrW r i k → ReW r i k := by intro r i k z; unfold SrW at z; unfold ReW; omega
theorem ok_sc {a : Int} {o : Option (Int × Hp)} (q : IC h c σ) (e : ok o (fun r h' => r = a ∧ Fr ScW h h' ∧ kG h')) : ok o (fun r h' => r = a ∧ (∃ c', IC h' c' σ) ∧ FrX ClW h h') := ok_mono e (fun r h' z => ⟨z.1, ⟨c, IC_sc z.2.1 z.2.2 q⟩, cx_of z.2.1 scw_Cl⟩)
theorem ok_sr {a : Int} {o : Option (Int × Hp)} (w : SW σ) (q : IR h σ) (e : ok o (fun r h' => r = a ∧ Fr SrW h h' ∧ B92 h')) : ok o (fun r h' => r = a ∧ IR h' σ ∧ Fr ReW h h') := ok_mono e (fun r h' z => ⟨z.1, IR_sc w z.2.1 z.2.2 q, fr_mo z.2.1 srw_Re⟩)
theorem p_X12_plain : f_X12_plain h = some (0, sI (sI (sI h 12 0 55 (-1)) 12 0 56 (-1)) 12 0 57 0) := by
  refine ok_eq.mp (fuv_X12_plain (fun n hn => ?_))
  refine s_X12_plain_0 (by omega) ?_
  unfold b_X12_plain_0
  exact ok_lt (ok_lt (ok_lt (ok_some ⟨rfl, rfl⟩)))
end
/-! fed, truth -/
def fdV (V : Ch) (x : Int) : Ch := fun f i => match f with
  | 4 => bit x i
  | _ => V f i
def trV (V : Ch) (x : Int) : Ch := fun f i => match f with
  | 5 => x
  | _ => V f i
def stN (σ : Sg) (V : Ch) : Sg := (σ.1, fun j => match j with
  | 0 => V
  | j + 1 => σ.2.1 (j + 1), σ.2.2)
theorem sw_stN {σ : Sg} {V : Ch} (w : SW σ) (v : VWF (sC σ) V) (m : V 0 0 = sV σ 0 0 0) : SW (stN σ V) := by
  obtain ⟨w1, w2, w3, w4, w5, w6, w7, w8, w9⟩ := w
  refine ⟨w1, v, ?_, fun k k1 => ?_, w5, w6, w7, w8, w9⟩
  · show 0 ≤ sX σ 25 0 ∧ sX σ 25 0 ≤ 20 ∧ sX σ 25 0 ≤ V 0 0
    rw [m]; exact w3
  · show VWF (sC σ) (sV σ (k + 2)) ∧ sV σ (k + 2) 0 0 = V 0 0 - sX σ 25 0 + k
    rw [m]; exact w4 k k1
theorem agr_fed {x : Int} : Agr (f_X11_fed x) (f_X12_fed x) := by
  intro h c σ w q
  have wC := sw_C w
  have vm := vw_m (sw_V w).1
  have qc := q.1.2.2.2.2.1
  by_cases y : 0 ≤ x ∧ x < bshl 1 (sC σ 20 0)
  · refine ⟨1, stN σ (fdV (sV σ 0) x), sw_stN w (sw_V w) rfl, ?_, fun h2 q2 => ?_⟩
    · refine fuv_X11_fed (fun n hn => ?_)
      refine s_X11_fed_0 (by omega) ?_
      unfold b_X11_fed_0
      refine ok_f (by omega) (ok_rf (j := c) q.1.1 ?_)
      rw [ic_20 qc]
      refine ok_t y.2 (ok_lt (ok_some ⟨rfl, ⟨c, ?_⟩, cx_sI cx_rf (by unfold ClW; omega)⟩))
      have e : ∀ (r : Nat) (i k : Int), r ≠ 10 ∨ i ≠ 0 ∨ k ≠ 4 → gI (sI h 10 0 4 x) r i k = gI h r i k := fun r i k z => by rw [gI_sI, if_neg (by omega)]
      have e2 : (sI h 10 0 4 x).2 = h.2 := rfl
      obtain ⟨q1, q2, q3, q4, q5, q6, q7, q8, q9, q10, q11⟩ := q
      have nv : kV (sI h 10 0 4 x) (stN σ (fdV (sV σ 0) x)) := by
        obtain ⟨⟨b0, b1, b2, b5, b6, b7, b8⟩, a2, a3⟩ := q3
        refine ⟨⟨?_, ?_, ?_, ?_, fun i i1 i2 => ?_, ?_, fun i i1 i2 => ?_⟩, ?_, fun i i1 i2 => ?_⟩
        · exact (e 10 0 0 (by omega)).trans b0
        · exact (e 10 0 1 (by omega)).trans b1
        · exact (e 10 0 2 (by omega)).trans b2
        · exact (e 10 0 5 (by omega)).trans b5
        · rw [e 10 0 6 (by omega)]; exact b6 i i1 i2
        · exact (e 10 0 7 (by omega)).trans b7
        · exact (e 57 0 i (by omega)).trans (b8 i i1 i2)
        · exact (e 10 0 3 (by omega)).trans a2
        · rw [gI_eq]; rfl
      exact ⟨kA_e (fun r i k z => e r i k (by unfold inC at z; omega)) e2 q1, kR_e e2 q2, nv, kG_e (fun k z => e 2 0 k (by omega)) q4, kL_e (fun r k a b => e r 0 k (by omega)) q5, kU_e (e 11 0 10 (by omega)) (fun v k a b => e 10 v k (by omega)) (fun v k a b => e 57 v k (by omega)) q6, kI_e (e 11 0 13 (by omega)) (fun k => e 10 21 k (by omega)) (fun k => e 57 21 k (by omega)) (fun r k a b => e r 1 k (by omega)) q7, kN_e (fun k z => e 5 0 k (by omega)) (fun r k a b => e r 0 k (by omega)) q8, kT_e (e 11 0 1 (by omega)) (fun k => e 58 0 k (by omega)) q9, kF_e (fun k z => e 7 0 k (by omega)) q10, kQ_e (e 11 0 16 (by omega)) q11⟩
    · refine fuv_X12_fed (fun n hn => ?_)
      refine s_X12_fed_0 (by omega) ?_
      unfold b_X12_fed_0
      refine ok_lt (ok_f (by omega) (ok_ck (by decide) ?_))
      rw [gI_nr (show (61 : Nat) ≠ 12 by decide), ir_12 q2.1]
      have q := IR_0 w q2
      refine ok_t y.2 (ok_ck (by decide) (ok_lt (ok_some ⟨rfl, ?_, fr_sI (fr_sI fr_rf (Or.inl rfl)) (Or.inr ⟨by decide, by decide⟩)⟩)))
      have e : ∀ (r : Nat) (i k : Int), r ≠ 89 ∨ k ≠ 0 → gI (sI (sI h2 12 0 0 0) 89 0 0 x) r i k = gI (sI h2 12 0 0 0) r i k := fun r i k z => by
        rcases z with z | z
        · exact gI_nr z
        · exact gI_nk z
      obtain ⟨q1, q2, q3, q4, q5, q6, q7, q8, q9⟩ := q
      have nv : rV (sI (sI h2 12 0 0 0) 89 0 0 x) (stN σ (fdV (sV σ 0) x)) := by
        obtain ⟨⟨b0, b1, b2, b5, b7, b8, b6⟩, a2, a3⟩ := q3
        refine ⟨⟨?_, ?_, ?_, ?_, ?_, fun i i1 i2 => ?_, fun i i1 i2 => ?_⟩, ?_, fun i i1 i2 => ?_⟩
        · exact (e 84 0 0 (by omega)).trans b0
        · exact (e 85 0 0 (by omega)).trans b1
        · exact (e 86 0 0 (by omega)).trans b2
        · exact (e 90 0 0 (by omega)).trans b5
        · exact (e 88 0 0 (by omega)).trans b7
        · exact (e 91 0 _ (by omega)).trans (b8 i i1 i2)
        · exact (e 92 0 _ (by omega)).trans (b6 i i1 i2)
        · exact (e 87 0 0 (by omega)).trans a2
        · rw [gI_eq]; rfl
      exact ⟨isR_eq (fun r k a b => e r 0 k (by omega)) q1, B92_e (fun k => e 92 0 k (by omega)) q2, nv, rL_e (fun r k a b z1 z2 => e r 0 k (by omega)) vm.2 q4, rU_e wC (sw_U w).2.1 (e 12 0 54 (by omega)) (fun r s a b z1 z2 => e r 0 s (by omega)) (fun m a b => ⟨e 91 0 m (by omega), e 92 0 m (by omega)⟩) q5, rI_e wC (fun z => (vw_m (sw_i w z).1).2) (e 12 0 53 (by omega)) (fun r a b => e r 0 2 (by omega)) (fun m a b => ⟨e 91 0 m (by omega), e 92 0 m (by omega)⟩) (fun r k a b z1 z2 => e r 0 k (by omega)) q6, rN_e (fun k z => e 12 0 k (by omega)) (fun r k a b => e r 0 k (by omega)) q7, rT_e (e 12 0 2 (by omega)) (fun k => e 60 0 k (by omega)) q8, rF_e (fun k z => e 12 0 k (by omega)) q9⟩
  · refine ⟨0, σ, w, ok_rc q ?_, fun h2 q2 => ok_rr w q2 ?_⟩
    · refine ok_eq.mp (fuv_X11_fed (fun n hn => ?_))
      refine s_X11_fed_0 (by omega) ?_
      unfold b_X11_fed_0
      refine ok_if (fun z => ok_some ⟨rfl, rfl⟩) (fun z => ok_rf (j := c) q.1.1 ?_)
      rw [ic_20 qc]
      exact ok_f (fun z2 => y ⟨by omega, z2⟩) (ok_some ⟨rfl, rfl⟩)
    · refine ok_eq.mp (fuv_X12_fed (fun n hn => ?_))
      refine s_X12_fed_0 (by omega) ?_
      unfold b_X12_fed_0
      refine ok_lt (ok_if (fun z => ok_some ⟨rfl, rfl⟩) (fun z => ok_ck (by decide) ?_))
      rw [gI_nr (show (61 : Nat) ≠ 12 by decide), ir_12 q2.1]
      exact ok_f (fun z2 => y ⟨by omega, z2⟩) (ok_some ⟨rfl, rfl⟩)
theorem agr_truth {x : Int} : Agr (f_X11_truth x) (f_X12_truth x) := by
  intro h c σ w q
  have wC := sw_C w
  have vm := vw_m (sw_V w).1
  have qc := q.1.2.2.2.2.1
  have cM := cw_M wC
  have b1 := bshl1 (j := sC σ 21 0) (by omega) (by omega)
  have b2 : (2 : Int) ^ (sC σ 21 0).toNat ≤ 16 := by
    have e : (sC σ 21 0).toNat = 0 ∨ (sC σ 21 0).toNat = 1 ∨ (sC σ 21 0).toNat = 2 ∨ (sC σ 21 0).toNat = 3 ∨ (sC σ 21 0).toNat = 4 := by omega
    rcases e with e | e | e | e | e <;> rw [e] <;> decide
  by_cases y : 0 ≤ x ∧ x < bshl 1 (sC σ 21 0)
  · have vw : VWF (sC σ) (trV (sV σ 0) x) := by
      obtain ⟨⟨a1, a2, a3, a4, a5, a6, a7⟩, b⟩ := sw_V w
      exact ⟨⟨a1, a2, a3, ⟨y.1, by have := y.2; show x < 16; omega⟩, a5, a6, a7⟩, b⟩
    refine ⟨1, stN σ (trV (sV σ 0) x), sw_stN w vw rfl, ?_, fun h2 q2 => ?_⟩
    · refine fuv_X11_truth (fun n hn => ?_)
      refine s_X11_truth_0 (by omega) ?_
      unfold b_X11_truth_0
      refine ok_f (by omega) (ok_rf (j := c) q.1.1 ?_)
      rw [ic_21 qc]
      refine ok_t y.2 (ok_lt (ok_some ⟨rfl, ⟨c, ?_⟩, cx_sI cx_rf (by unfold ClW; omega)⟩))
      have e : ∀ (r : Nat) (i k : Int), r ≠ 10 ∨ i ≠ 0 ∨ k ≠ 5 → gI (sI h 10 0 5 x) r i k = gI h r i k := fun r i k z => by rw [gI_sI, if_neg (by omega)]
      have e2 : (sI h 10 0 5 x).2 = h.2 := rfl
      obtain ⟨q1, q2, q3, q4, q5, q6, q7, q8, q9, q10, q11⟩ := q
      have nv : kV (sI h 10 0 5 x) (stN σ (trV (sV σ 0) x)) := by
        obtain ⟨⟨b0, b1, b2, b5, b6, b7, b8⟩, a2, a3⟩ := q3
        refine ⟨⟨?_, ?_, ?_, ?_, fun i i1 i2 => ?_, ?_, fun i i1 i2 => ?_⟩, ?_, fun i i1 i2 => ?_⟩
        · exact (e 10 0 0 (by omega)).trans b0
        · exact (e 10 0 1 (by omega)).trans b1
        · exact (e 10 0 2 (by omega)).trans b2
        · rw [gI_eq]; rfl
        · rw [e 10 0 6 (by omega)]; exact b6 i i1 i2
        · exact (e 10 0 7 (by omega)).trans b7
        · exact (e 57 0 i (by omega)).trans (b8 i i1 i2)
        · exact (e 10 0 3 (by omega)).trans a2
        · rw [e 10 0 4 (by omega)]; exact a3 i i1 i2
      exact ⟨kA_e (fun r i k z => e r i k (by unfold inC at z; omega)) e2 q1, kR_e e2 q2, nv, kG_e (fun k z => e 2 0 k (by omega)) q4, kL_e (fun r k a b => e r 0 k (by omega)) q5, kU_e (e 11 0 10 (by omega)) (fun v k a b => e 10 v k (by omega)) (fun v k a b => e 57 v k (by omega)) q6, kI_e (e 11 0 13 (by omega)) (fun k => e 10 21 k (by omega)) (fun k => e 57 21 k (by omega)) (fun r k a b => e r 1 k (by omega)) q7, kN_e (fun k z => e 5 0 k (by omega)) (fun r k a b => e r 0 k (by omega)) q8, kT_e (e 11 0 1 (by omega)) (fun k => e 58 0 k (by omega)) q9, kF_e (fun k z => e 7 0 k (by omega)) q10, kQ_e (e 11 0 16 (by omega)) q11⟩
    · refine fuv_X12_truth (fun n hn => ?_)
      refine s_X12_truth_0 (by omega) ?_
      unfold b_X12_truth_0
      refine ok_lt (ok_f (by omega) (ok_ck (by decide) ?_))
      rw [gI_nr (show (61 : Nat) ≠ 12 by decide), ir_13 q2.1]
      have q := IR_0 w q2
      refine ok_t y.2 (ok_ck (by decide) (ok_lt (ok_some ⟨rfl, ?_, fr_sI (fr_sI fr_rf (Or.inl rfl)) (Or.inr ⟨by decide, by decide⟩)⟩)))
      have e : ∀ (r : Nat) (i k : Int), r ≠ 90 ∨ k ≠ 0 → gI (sI (sI h2 12 0 0 0) 90 0 0 x) r i k = gI (sI h2 12 0 0 0) r i k := fun r i k z => by
        rcases z with z | z
        · exact gI_nr z
        · exact gI_nk z
      obtain ⟨q1, q2, q3, q4, q5, q6, q7, q8, q9⟩ := q
      have nv : rV (sI (sI h2 12 0 0 0) 90 0 0 x) (stN σ (trV (sV σ 0) x)) := by
        obtain ⟨⟨b0, b1, b2, b5, b7, b8, b6⟩, a2, a3⟩ := q3
        refine ⟨⟨?_, ?_, ?_, ?_, ?_, fun i i1 i2 => ?_, fun i i1 i2 => ?_⟩, ?_, fun i i1 i2 => ?_⟩
        · exact (e 84 0 0 (by omega)).trans b0
        · exact (e 85 0 0 (by omega)).trans b1
        · exact (e 86 0 0 (by omega)).trans b2
        · rw [gI_eq]; rfl
        · exact (e 88 0 0 (by omega)).trans b7
        · exact (e 91 0 _ (by omega)).trans (b8 i i1 i2)
        · exact (e 92 0 _ (by omega)).trans (b6 i i1 i2)
        · exact (e 87 0 0 (by omega)).trans a2
        · rw [e 89 0 0 (by omega)]; exact a3 i i1 i2
      exact ⟨isR_eq (fun r k a b => e r 0 k (by omega)) q1, B92_e (fun k => e 92 0 k (by omega)) q2, nv, rL_e (fun r k a b z1 z2 => e r 0 k (by omega)) vm.2 q4, rU_e wC (sw_U w).2.1 (e 12 0 54 (by omega)) (fun r s a b z1 z2 => e r 0 s (by omega)) (fun m a b => ⟨e 91 0 m (by omega), e 92 0 m (by omega)⟩) q5, rI_e wC (fun z => (vw_m (sw_i w z).1).2) (e 12 0 53 (by omega)) (fun r a b => e r 0 2 (by omega)) (fun m a b => ⟨e 91 0 m (by omega), e 92 0 m (by omega)⟩) (fun r k a b z1 z2 => e r 0 k (by omega)) q6, rN_e (fun k z => e 12 0 k (by omega)) (fun r k a b => e r 0 k (by omega)) q7, rT_e (e 12 0 2 (by omega)) (fun k => e 60 0 k (by omega)) q8, rF_e (fun k z => e 12 0 k (by omega)) q9⟩
  · refine ⟨0, σ, w, ok_rc q ?_, fun h2 q2 => ok_rr w q2 ?_⟩
    · refine ok_eq.mp (fuv_X11_truth (fun n hn => ?_))
      refine s_X11_truth_0 (by omega) ?_
      unfold b_X11_truth_0
      refine ok_if (fun z => ok_some ⟨rfl, rfl⟩) (fun z => ok_rf (j := c) q.1.1 ?_)
      rw [ic_21 qc]
      exact ok_f (fun z2 => y ⟨by omega, z2⟩) (ok_some ⟨rfl, rfl⟩)
    · refine ok_eq.mp (fuv_X12_truth (fun n hn => ?_))
      refine s_X12_truth_0 (by omega) ?_
      unfold b_X12_truth_0
      refine ok_lt (ok_if (fun z => ok_some ⟨rfl, rfl⟩) (fun z => ok_ck (by decide) ?_))
      rw [gI_nr (show (61 : Nat) ≠ 12 by decide), ir_13 q2.1]
      exact ok_f (fun z2 => y ⟨by omega, z2⟩) (ok_some ⟨rfl, rfl⟩)
theorem p_X11_isGone {h : Hp} {x M : Int} (e : gI h 10 0 0 = M) (m : M ≤ 60) : f_X11_isGone x h = some (b2i (0 ≤ x ∧ x < M), h) := by
  refine ok_eq.mp (fuv_X11_isGone (fun n hn => ?_))
  refine s_X11_isGone_0 (by omega) ?_
  unfold b_X11_isGone_0 b2i
  rw [e]
  refine ok_if (fun y => ok_some ⟨by rw [if_neg (by omega)], rfl⟩) (fun y => ok_if (fun y2 => ok_some ⟨by rw [if_neg (by omega)], rfl⟩) (fun y2 => ok_f (by omega) (ok_some ⟨by rw [if_pos (by omega)], rfl⟩)))
theorem agr_log {x y : Int} : Agr (f_X11_log x y) (f_X12_log x y) := by
  intro h c σ w q
  have vm := vw_m (sw_V w).1
  have e0 := iv_0 q.2.2.1.1
  by_cases z : 0 ≤ x ∧ x < sV σ 0 0 0
  · refine ⟨if y = 0 then sX σ 0 x else if y = 1 then sX σ 1 x else if y = 2 then sX σ 2 x else if y = 3 then sX σ 3 x else -1, σ, w, ok_rc q ?_, fun h2 q2 => ok_rr w q2 ?_⟩
    · obtain ⟨l0, l1, l2, l3, -⟩ := q.2.2.2.2.1 x z.1 z.2
      refine ok_eq.mp (fuv_X11_log (fun n hn => ?_))
      refine s_X11_log_0 (by omega) ?_
      unfold b_X11_log_0
      refine ok_be (p_X11_isGone e0 vm.2) (ok_f (fun u => b2i_0.mp u z) ?_)
      rw [l0, l1, l2, l3]
      have x6 : 0 ≤ x ∧ x < 60 := by omega
      exact ok_if (fun y0 => ok_ck x6 (ok_some ⟨by rw [if_pos y0], rfl⟩)) (fun y0 => ok_if (fun y1 => ok_ck x6 (ok_some ⟨by rw [if_neg y0, if_pos y1], rfl⟩)) (fun y1 => ok_if (fun y2 => ok_ck x6 (ok_some ⟨by rw [if_neg y0, if_neg y1, if_pos y2], rfl⟩)) (fun y2 => ok_if (fun y3 => ok_ck x6 (ok_some ⟨by rw [if_neg y0, if_neg y1, if_neg y2, if_pos y3], rfl⟩)) (fun y3 => ok_some ⟨by rw [if_neg y0, if_neg y1, if_neg y2, if_neg y3], rfl⟩))))
    · have q3 := IR_0 w q2
      obtain ⟨l0, l1, l2, l3, -⟩ := q3.2.2.2.1 x z.1 z.2
      rw [show (60 : Int) * 0 + x = x by omega] at l0 l1 l2 l3
      refine ok_eq.mp (fuv_X12_log (fun n hn => ?_))
      refine s_X12_log_0 (by omega) ?_
      unfold b_X12_log_0
      refine ok_lt (ok_f (by omega) (ok_ck (by decide) ?_))
      rw [is_0 q3.2.2.1.1, l0, l1, l2, l3]
      have x6 : 0 ≤ x ∧ x < 180 := by omega
      exact ok_t z.2 (ok_if (fun y0 => ok_ck x6 (ok_some ⟨by rw [if_pos y0], rfl⟩)) (fun y0 => ok_if (fun y1 => ok_ck x6 (ok_some ⟨by rw [if_neg y0, if_pos y1], rfl⟩)) (fun y1 => ok_if (fun y2 => ok_ck x6 (ok_some ⟨by rw [if_neg y0, if_neg y1, if_pos y2], rfl⟩)) (fun y2 => ok_if (fun y3 => ok_ck x6 (ok_some ⟨by rw [if_neg y0, if_neg y1, if_neg y2, if_pos y3], rfl⟩)) (fun y3 => ok_some ⟨by rw [if_neg y0, if_neg y1, if_neg y2, if_neg y3], rfl⟩)))))
  · refine ⟨-1, σ, w, ok_rc q ?_, fun h2 q2 => ok_rr w q2 ?_⟩
    · refine ok_eq.mp (fuv_X11_log (fun n hn => ?_))
      refine s_X11_log_0 (by omega) ?_
      unfold b_X11_log_0
      exact ok_be (p_X11_isGone e0 vm.2) (ok_t (b2i_0.mpr z) (ok_some ⟨rfl, rfl⟩))
    · have q3 := IR_0 w q2
      refine ok_eq.mp (fuv_X12_log (fun n hn => ?_))
      refine s_X12_log_0 (by omega) ?_
      unfold b_X12_log_0
      refine ok_lt (ok_if (fun u => ok_some ⟨rfl, rfl⟩) (fun u => ok_ck (by decide) ?_))
      rw [is_0 q3.2.2.1.1]
      exact ok_f (fun v => z ⟨by omega, v⟩) (ok_some ⟨rfl, rfl⟩)
