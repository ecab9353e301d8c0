/-! LOOK: what is thrown, what is answered; the reference -/
def lkT (C : Ch) (x1 x2 : Int) : Int := if 0 ≤ x1 ∧ x1 < sz C then (if 0 ≤ x2 ∧ x2 ≤ 4 then 0 else 2) else 1
def lkV (C V : Ch) (x1 x2 : Int) : Int := if x2 = 0 then b2i (abP C V (-1) (-1) x1) else if x2 = 1 then poF C V (-1) x1 else if x2 = 2 then V 8 x1 else if x2 = 3 then V 6 x1 else b2i (fdP C (V 4) x1)
section
variable {h : Hp} {σ : Sg} {x1 x2 : Int}
set_option maxHeartbeats 2000000 in
theorem lk_R (w : SW σ) (q : IR h σ) : ok (f_X12_look x1 x2 h) (fun r h' => (lkT (sC σ) x1 x2 = 0 → r = lkV (sC σ) (sV σ 0) x1 x2) ∧ gI h' 12 0 0 = lkT (sC σ) x1 x2 ∧ IR h' σ ∧ Fr ReW h h') := by
  have wC := sw_C w
  have vw := (sw_V w).1
  refine ok_mono (P := fun r h' => (lkT (sC σ) x1 x2 = 0 → r = lkV (sC σ) (sV σ 0) x1 x2) ∧ gI h' 12 0 0 = lkT (sC σ) x1 x2 ∧ Fr SrW h h' ∧ B92 h') ?_ (fun r h' z => ⟨z.1, z.2.1, IR_sc w z.2.2.1 z.2.2.2 q, fr_mo z.2.2.1 srw_Re⟩)
  have two : ∀ (g : Nat) (m y : Int), 2 ≤ g → y ≠ 0 → lkT (sC σ) x1 x2 = y → ok (g_X12_look g 2 [x2, m, y] h) (fun r h' => (lkT (sC σ) x1 x2 = 0 → r = lkV (sC σ) (sV σ 0) x1 x2) ∧ gI h' 12 0 0 = lkT (sC σ) x1 x2 ∧ Fr SrW h h' ∧ B92 h') := fun g m y hg hy e => by
    refine s_X12_look_2 (by omega) ?_
    unfold b_X12_look_2
    refine ok_lt ?_
    rw [gI_eq]
    refine ok_f hy (ok_some ⟨fun z => absurd (e.symm.trans z) hy, ?_, fr_sI fr_rf (by unfold SrW; omega), B92_e (fun k => gI_nr (by decide)) q.2.1⟩)
    rw [gI_eq]; exact e.symm
  refine fuv_X12_look (fun n hn => ?_)
  refine s_X12_look_0 (by omega) ?_
  unfold b_X12_look_0
  refine ok_be (p_X12_slot q.1 wC) ?_
  by_cases z : 0 ≤ x1 ∧ x1 < sz (sC σ)
  · rw [if_pos z]
    have sr := sl_r wC z.1 z.2
    refine ok_f (by omega) ?_
    by_cases z2 : 0 ≤ x2 ∧ x2 ≤ 4
    · refine ok_f (by omega) (ok_t z2.2 ?_)
      have et : lkT (sC σ) x1 x2 = 0 := by unfold lkT; rw [if_pos z, if_pos z2]
      rw [et]
      refine s_X12_look_2 (by omega) ?_
      unfold b_X12_look_2
      refine ok_lt ?_
      rw [gI_eq]
      refine ok_t rfl (ok_be p_X12_plain ?_)
      have q3 := pl_q w q
      have t3 : isT (sC σ) _ (-1) (-1) := pl_t (h := h)
      have f3 := pl_f (h := h)
      have g3 : gI (sI (sI (sI (sI h 12 0 0 0) 12 0 55 (-1)) 12 0 56 (-1)) 12 0 57 0) 12 0 0 = 0 := by rw [gI_nk (by decide), gI_nk (by decide), gI_nk (by decide), gI_eq]
      generalize sI (sI (sI (sI h 12 0 0 0) 12 0 55 (-1)) 12 0 56 (-1)) 12 0 57 0 = h3 at q3 t3 f3 g3
      have b3 := q3.2.1
      have sf := q3.2.2.1
      have fin : ∀ v : Int, v = lkV (sC σ) (sV σ 0) x1 x2 → ok (some (v, h3)) (fun r h' => ((0 : Int) = 0 → r = lkV (sC σ) (sV σ 0) x1 x2) ∧ gI h' 12 0 0 = 0 ∧ Fr SrW h h' ∧ B92 h') := fun v e => ok_some ⟨fun _ => e, g3, f3, b3⟩
      have e9 : 9 * 0 + sl (sC σ) x1 = sl (sC σ) x1 := by omega
      by_cases y0 : x2 = 0
      · refine ok_t y0 (ok_be (p_X12_isAboard q3.1 wC sf.1 vw t3 (by decide) (by decide) sr.1 sr.2.1) ?_)
        rw [sr.2.2.2]
        have ev : lkV (sC σ) (sV σ 0) x1 x2 = b2i (abP (sC σ) (sV σ 0) (-1) (-1) x1) := by unfold lkV; rw [if_pos y0]
        refine ok_if (fun u => fin _ ?_) (fun u => fin _ ?_)
        · rw [ev]
          exact (b2i_0.mpr (fun y => b2i_0.mp u ⟨sr.2.2.1, y⟩)).symm
        · rw [ev]
          have y := (b2i_n.mp u).2
          unfold b2i; rw [if_pos y]
      · refine ok_f y0 ?_
        by_cases y1 : x2 = 1
        · refine ok_t y1 (ok_be (p_X12_platesOf q3.1 wC sf.1 vw t3 (by decide) (by decide) sr.1 sr.2.1 sr.2.2.1) (fin _ ?_))
          rw [sr.2.2.2]
          unfold lkV; rw [if_neg y0, if_pos y1]
        · refine ok_f y1 ?_
          by_cases y2 : x2 = 2
          · refine ok_t y2 (ok_ck (by omega) (fin _ ?_))
            have := is_8 sf.1 x1 z.1 z.2
            rw [e9] at this
            rw [this]
            unfold lkV; rw [if_neg y0, if_neg y1, if_pos y2]
          · refine ok_f y2 ?_
            by_cases y3 : x2 = 3
            · refine ok_t y3 (ok_ck (by omega) ?_)
              have e6 := is_6 sf.1 x1 z.1 z.2
              rw [e9] at e6
              have ev : lkV (sC σ) (sV σ 0) x1 x2 = sV σ 0 6 x1 := by unfold lkV; rw [if_neg y0, if_neg y1, if_neg y2, if_pos y3]
              have r6 := vw_l vw x1 z.1 z.2
              rw [e6]
              refine ok_if (fun u => fin _ ?_) (fun u => fin _ ?_)
              · rw [ev, u]
              · rw [ev]; omega
            · refine ok_f y3 ?_
              have ev : lkV (sC σ) (sV σ 0) x1 x2 = b2i (fdP (sC σ) (sV σ 0 4) x1) := by unfold lkV; rw [if_neg y0, if_neg y1, if_neg y2, if_neg y3]
              have m := cw_M wC
              have one : fdP (sC σ) (sV σ 0 4) x1 → ∀ g : Nat, 1 ≤ g → ok (g_X12_look g 3 [] h3) (fun r h' => ((0 : Int) = 0 → r = lkV (sC σ) (sV σ 0) x1 x2) ∧ gI h' 12 0 0 = 0 ∧ Fr SrW h h' ∧ B92 h') := fun fd g hg => by
                refine s_X12_look_3 (by omega) ?_
                unfold b_X12_look_3
                refine fin _ ?_
                rw [ev]; unfold b2i; rw [if_pos fd]
              by_cases y4 : 5 ≤ sl (sC σ) x1
              · refine ok_t y4 (one (Or.inl ?_) _ (by omega))
                unfold sl at y4
                split at y4 <;> omega
              · have es : sl (sC σ) x1 = x1 ∧ x1 < sC σ 20 0 := by
                  unfold sl at y4 ⊢
                  split at y4
                  · rename_i u; rw [if_pos u]; exact ⟨rfl, u⟩
                  · omega
                refine ok_f y4 (ok_ck (by decide) ?_)
                have bb := sf.2.2 x1 z.1 es.2
                rw [es.1]
                have eb : band (bshr (gI h3 89 0 0) x1) 1 = sV σ 0 4 x1 := bb
                rw [eb]
                refine ok_if (fun u => one (Or.inr u) _ (by omega)) (fun u => fin _ ?_)
                rw [ev]
                exact (b2i_0.mpr (fun y => y.elim (fun y => by omega) (fun y => u y))).symm
    · have et : lkT (sC σ) x1 x2 = 2 := by unfold lkT; rw [if_pos z, if_neg z2]
      have one : ∀ (g : Nat) (m : Int), 3 ≤ g → ok (g_X12_look g 1 [x2, m] h) (fun r h' => (lkT (sC σ) x1 x2 = 0 → r = lkV (sC σ) (sV σ 0) x1 x2) ∧ gI h' 12 0 0 = lkT (sC σ) x1 x2 ∧ Fr SrW h h' ∧ B92 h') := fun g m hg => by
        refine s_X12_look_1 (by omega) ?_
        unfold b_X12_look_1
        exact two _ _ _ (by omega) (by decide) et
      refine ok_if (fun u => one _ _ (by omega)) (fun u => ok_f (by omega) (one _ _ (by omega)))
  · rw [if_neg z]
    refine ok_t rfl (two _ _ _ (by omega) (by decide) ?_)
    unfold lkT; rw [if_neg z]
end
