/-! CALLS, 5: what a meal would be -/
section
variable {h h2 : Hp} {c x : Int} {C V : Ch} {σ : Sg}
theorem p_X12_slot (q : isR h C) (w : CW C) : f_X12_slot x h = some (if 0 ≤ x ∧ x < sz C then sl C x else -1, h) := by
  have ez := sz_r w
  refine ok_eq.mp (fuv_X12_slot (fun n hn => ?_))
  refine s_X12_slot_0 (by omega) ?_
  unfold b_X12_slot_0
  rw [ir_12 q, ir_13 q]
  refine ok_if (fun y => ok_some ⟨by rw [if_neg (by omega)], rfl⟩) (fun y => ok_ck (by decide) (ok_ck (by decide) (ok_ck (by omega) (ok_if (fun y2 => ok_ck (by decide) (ok_if (fun y3 => ok_ck (by omega) (ok_ck (by decide) (ok_ck (by omega) (ok_some ⟨?_, rfl⟩)))) (fun y3 => ok_some ⟨?_, rfl⟩))) (fun y2 => ok_some ⟨by rw [if_neg (by omega)], rfl⟩)))))
  · rw [if_pos (by omega)]; unfold sl; rw [if_neg (by omega)]; omega
  · rw [if_pos (by omega)]; unfold sl; rw [if_pos (by omega)]
theorem p_X11_mealIsNext (e : gI h 10 0 0 = x) : f_X11_mealIsNext h = some (b2i (x < 60), h) := by
  refine ok_eq.mp (fuv_X11_mealIsNext (fun n hn => ?_))
  refine s_X11_mealIsNext_0 (by omega) ?_
  unfold b_X11_mealIsNext_0 b2i
  rw [e]
  exact ok_if (fun y => ok_some ⟨by rw [if_neg (by omega)], rfl⟩) (fun y => ok_some ⟨by rw [if_pos (by omega)], rfl⟩)
/-- what the reference does ahead of a meal, or what would be one -/
theorem pl_f : Fr SrW h (sI (sI (sI (sI h 12 0 0 0) 12 0 55 (-1)) 12 0 56 (-1)) 12 0 57 0) := by
  repeat (first | exact fr_rf | refine fr_sI ?_ (by unfold SrW; omega))
theorem pl_q (w : SW σ) (q : IR h σ) : IR (sI (sI (sI (sI h 12 0 0 0) 12 0 55 (-1)) 12 0 56 (-1)) 12 0 57 0) σ := IR_sc w pl_f (B92_e (fun k => by rw [gI_nr (by decide), gI_nr (by decide), gI_nr (by decide), gI_nr (by decide)]) q.2.1) q
theorem pl_t : isT C (sI (sI (sI (sI h 12 0 0 0) 12 0 55 (-1)) 12 0 56 (-1)) 12 0 57 0) (-1) (-1) := ⟨by rw [gI_nk (by decide), gI_nk (by decide), gI_eq], fun z => by omega⟩
theorem pl_s : gI (sI (sI (sI (sI h 12 0 0 0) 12 0 55 (-1)) 12 0 56 (-1)) 12 0 57 0) 12 0 57 = if false then 1 else 0 := by rw [gI_eq]; rfl
theorem stw_Sr : ∀ (r : Nat) (i k : Int), StW r i k → SrW r i k := by intro r i k z; unfold StW at z; unfold SrW; omega
theorem svw_Sc : ∀ (r : Nat) (i k : Int), SvW r i k → ScW r i k := by intro r i k z; unfold SvW at z; unfold ScW; omega
theorem pow_Sc {b : Int} : ∀ (r : Nat) (i k : Int), PoW b r i k → ScW r i k := by intro r i k z; unfold PoW at z; unfold ScW; omega
theorem wiw_Sc {b : Int} : ∀ (r : Nat) (i k : Int), WiW b r i k → ScW r i k := by intro r i k z; unfold WiW at z; unfold ScW; omega
end
theorem agr_votes {x : Int} : Agr (f_X11_votes x) (f_X12_votes x) := by
  intro h c σ w q
  have wC := sw_C w
  have vw := (sw_V w).1
  have kv := q.2.2.1
  have kg := q.2.2.2.1
  have e0 := iv_0 kv.1
  have hx := q.1.2.2.2
  by_cases z : (0 ≤ x ∧ x < 4) ∧ sV σ 0 0 0 < 60
  · refine ⟨vt (sC σ) (sV σ 0) (-1) (-1) (sV σ 0 4) x, σ, w, ok_sc q ?_, fun h2 q2 => ok_sr w q2 ?_⟩
    · refine fuv_X11_votes (fun n hn => ?_)
      refine s_X11_votes_0 (by omega) ?_
      unfold b_X11_votes_0
      refine ok_be p_X11_isCourse (ok_f (fun u => b2i_0.mp u z.1) (ok_be (p_X11_mealIsNext e0) (ok_f (fun u => b2i_0.mp u z.2) (ok_bq (p_X2_serve (F := sV σ 0 4) (ta := -1) hx kv.1 vw kg.1 (fun u => by omega) kv.2.2) ?_))))
      intro _ h6 ⟨s1, s2, s3⟩
      have hx6 := CX_fr s1 svw_C hx
      have hv6 : isV (sC σ) h6 0 (sV σ 0) := isV_fr s1 (fun k => by unfold SvW; omega) kv.1
      have b1 : gI h6 2 0 1 = -1 := (s1.1 2 0 1 (by unfold SvW; omega)).trans kg.1
      have b10 : gI h6 2 0 10 = -1 := (s1.1 2 0 10 (by unfold SvW; omega)).trans kg.2
      refine ok_bq (p_X2_poll (ta := -1) (F := sV σ 0 4) hx6 hv6 vw (by rw [b1]; exact s2) (Or.inl b10)) ?_
      rw [b1]
      intro _ h8 ⟨p1, p2, p3, p4⟩
      refine ok_ck z.1 (ok_some ⟨p2 x z.1.1 z.1.2, fr_tr (fr_mo s1 svw_Sc) (fr_mo p1 pow_Sc), (p1.1 2 0 1 (by unfold PoW; omega)).trans b1, (p1.1 2 0 10 (by unfold PoW; omega)).trans b10⟩)
    · have q3 := pl_q w q2
      refine fuv_X12_votes (fun n hn => ?_)
      refine s_X12_votes_0 (by omega) ?_
      unfold b_X12_votes_0
      refine ok_lt (ok_f (by omega) (ok_f (by omega) (ok_ck (by decide) ?_)))
      rw [is_0 (IR_0 w q2).2.2.1.1]
      refine ok_t z.2 (ok_be p_X12_plain (ok_bq (p_X12_sits (F := sV σ 0 4) q3.1 wC q3.2.2.1.1 vw pl_t (by decide) (by decide) q3.2.2.1.2.2) ?_))
      intro _ h5 ⟨u1, u2, u3, u4, u5⟩
      exact ok_ck z.1 (ok_some ⟨u2 x z.1.1 z.1.2, fr_tr pl_f (fr_mo u1 stw_Sr), B92_e (fun k => u1.1 92 0 k (by unfold StW; omega)) q3.2.1⟩)
  · refine ⟨-1, σ, w, ok_rc q ?_, fun h2 q2 => ok_rr w q2 ?_⟩
    · refine ok_eq.mp (fuv_X11_votes (fun n hn => ?_))
      refine s_X11_votes_0 (by omega) ?_
      unfold b_X11_votes_0
      exact ok_be p_X11_isCourse (ok_if (fun u => ok_some ⟨rfl, rfl⟩) (fun u => ok_be (p_X11_mealIsNext e0) (ok_t (b2i_0.mpr (fun v => z ⟨b2i_n.mp u, v⟩)) (ok_some ⟨rfl, rfl⟩))))
    · refine ok_eq.mp (fuv_X12_votes (fun n hn => ?_))
      refine s_X12_votes_0 (by omega) ?_
      unfold b_X12_votes_0
      refine ok_lt (ok_if (fun u => ok_some ⟨rfl, rfl⟩) (fun u => ok_if (fun u2 => ok_some ⟨rfl, rfl⟩) (fun u2 => ok_ck (by decide) ?_)))
      rw [is_0 (IR_0 w q2).2.2.1.1]
      exact ok_f (by omega) (ok_some ⟨rfl, rfl⟩)
theorem agr_wish {x : Int} : Agr (f_X11_wish x) (f_X12_wish x) := by
  intro h c σ w q
  have wC := sw_C w
  have ez := sz_r wC
  have vw := (sw_V w).1
  have kv := q.2.2.1
  have kg := q.2.2.2.1
  have e0 := iv_0 kv.1
  have hx := q.1.2.2.2
  by_cases z : (0 ≤ x ∧ x < sz (sC σ)) ∧ sV σ 0 0 0 < 60
  · have pr := plt_r (tw := -1) (ta := -1) (F := sV σ 0 4) wC vw z.1.1 z.1.2
    have x9 : 0 ≤ x ∧ x < 9 := by omega
    refine ⟨if wi (sC σ) (sV σ 0) (-1) (-1) (sV σ 0 4) x = -1 then -2 else wi (sC σ) (sV σ 0) (-1) (-1) (sV σ 0 4) x, σ, w, ok_sc q ?_, fun h2 q2 => ok_sr w q2 ?_⟩
    · refine fuv_X11_wish (fun n hn => ?_)
      refine s_X11_wish_0 (by omega) ?_
      unfold b_X11_wish_0
      refine ok_rf (j := c) q.1.1 (ok_be (p_X0_isMouth hx.2.1 wC) (ok_f (fun u => b2i_0.mp u z.1) (ok_be (p_X11_mealIsNext e0) (ok_f (fun u => b2i_0.mp u z.2) (ok_bq (p_X2_serve (F := sV σ 0 4) (ta := -1) hx kv.1 vw kg.1 (fun u => by omega) kv.2.2) ?_)))))
      intro _ h6 ⟨s1, s2, s3⟩
      have hx6 := CX_fr s1 svw_C hx
      have hv6 : isV (sC σ) h6 0 (sV σ 0) := isV_fr s1 (fun k => by unfold SvW; omega) kv.1
      have b1 : gI h6 2 0 1 = -1 := (s1.1 2 0 1 (by unfold SvW; omega)).trans kg.1
      have b10 : gI h6 2 0 10 = -1 := (s1.1 2 0 10 (by unfold SvW; omega)).trans kg.2
      rw [s2 x z.1.1 z.1.2]
      refine ok_ck x9 (ok_lt (ok_if (fun u => ?_) (fun u => ok_some ⟨?_, fr_mo s1 svw_Sc, b1, b10⟩)))
      · refine ok_bq (p_X2_wishOf hx6 hv6 vw z.1.1 z.1.2 pr.1 pr.2 (Or.inl b10)) ?_
        rw [b10]
        intro r h8 ⟨p1, p2, p3⟩
        have ew : r = wi (sC σ) (sV σ 0) (-1) (-1) (sV σ 0 4) x := by unfold wi; rw [if_pos (by omega)]; exact p1
        have fr : Fr ScW h h8 := fr_tr (fr_mo s1 svw_Sc) (fr_mo p2 wiw_Sc)
        have g : kG h8 := ⟨(p2.1 2 0 1 (by unfold WiW; omega)).trans b1, (p2.1 2 0 10 (by unfold WiW; omega)).trans b10⟩
        exact ok_if (fun v => ok_some ⟨by rw [← ew, if_pos v], fr, g⟩) (fun v => ok_some ⟨by rw [← ew, if_neg v], fr, g⟩)
      · have ew : wi (sC σ) (sV σ 0) (-1) (-1) (sV σ 0 4) x = -1 := by unfold wi; rw [if_neg (by omega)]
        rw [ew, if_pos rfl]
    · have q3 := pl_q w q2
      have sr := sl_r wC z.1.1 z.1.2
      refine fuv_X12_wish (fun n hn => ?_)
      refine s_X12_wish_0 (by omega) ?_
      unfold b_X12_wish_0
      refine ok_lt (ok_be (p_X12_slot (IR_0 w q2).1 wC) ?_)
      rw [if_pos z.1]
      refine ok_f (by omega) (ok_ck (by decide) ?_)
      rw [is_0 (IR_0 w q2).2.2.1.1]
      refine ok_t z.2 (ok_be p_X12_plain (ok_bq (p_X12_sits (F := sV σ 0 4) q3.1 wC q3.2.2.1.1 vw pl_t (by decide) (by decide) q3.2.2.1.2.2) ?_))
      intro _ h5 ⟨u1, u2, u3, u4, u5⟩
      have ec : gI h5 101 0 (sl (sC σ) x) = wi (sC σ) (sV σ 0) (-1) (-1) (sV σ 0 4) x := by rw [u3 _ sr.1 sr.2.1]; unfold chF; rw [if_pos sr.2.2.1, sr.2.2.2]
      have fr : Fr SrW h2 h5 := fr_tr pl_f (fr_mo u1 stw_Sr)
      have b : B92 h5 := B92_e (fun k => u1.1 92 0 k (by unfold StW; omega)) q3.2.1
      rw [ec]
      exact ok_ck (by omega) (ok_if (fun v => ok_some ⟨by rw [if_pos v], fr, b⟩) (fun v => ok_ck (by omega) (ok_some ⟨by rw [if_neg v], fr, b⟩)))
  · refine ⟨-1, σ, w, ok_rc q ?_, fun h2 q2 => ok_rr w q2 ?_⟩
    · refine ok_eq.mp (fuv_X11_wish (fun n hn => ?_))
      refine s_X11_wish_0 (by omega) ?_
      unfold b_X11_wish_0
      exact ok_rf (j := c) q.1.1 (ok_be (p_X0_isMouth hx.2.1 wC) (ok_if (fun u => ok_some ⟨rfl, rfl⟩) (fun u => ok_be (p_X11_mealIsNext e0) (ok_t (b2i_0.mpr (fun v => z ⟨b2i_n.mp u, v⟩)) (ok_some ⟨rfl, rfl⟩)))))
    · refine ok_eq.mp (fuv_X12_wish (fun n hn => ?_))
      refine s_X12_wish_0 (by omega) ?_
      unfold b_X12_wish_0
      refine ok_lt (ok_be (p_X12_slot (IR_0 w q2).1 wC) ?_)
      by_cases y : 0 ≤ x ∧ x < sz (sC σ)
      · have sr := sl_r wC y.1 y.2
        rw [if_pos y]
        refine ok_f (by omega) (ok_ck (by decide) ?_)
        rw [is_0 (IR_0 w q2).2.2.1.1]
        exact ok_f (fun v => z ⟨y, v⟩) (ok_some ⟨rfl, rfl⟩)
      · rw [if_neg y]
        exact ok_t rfl (ok_some ⟨rfl, rfl⟩)
theorem agr_law {x y p : Int} : Agr (f_X11_law x y p) (f_X12_law x y p) := by
  intro h c σ w q
  have wC := sw_C w
  have ez := sz_r wC
  have hm := sea_mul (cw_W wC)
  have vw := (sw_V w).1
  have kv := q.2.2.1
  have kg := q.2.2.2.1
  have e0 := iv_0 kv.1
  have e1 := iv_1 kv.1
  have hx := q.1.2.2.2
  by_cases z : (0 ≤ x ∧ x < sz (sC σ)) ∧ (0 ≤ y ∧ y < 4) ∧ 0 ≤ p ∧ p ≤ 9 ∧ sV σ 0 0 0 < 60
  · obtain ⟨zx, zy, p1, p2, zm⟩ := z
    have sr := sl_r wC zx.1 zx.2
    by_cases u : stC (sC σ) (sV σ 0 1 0) y = -1
    · refine ⟨MIN, σ, w, ok_rc q ?_, fun h2 q2 => ok_rr w q2 ?_⟩
      · refine ok_eq.mp (fuv_X11_law (fun n hn => ?_))
        refine s_X11_law_0 (by omega) ?_
        unfold b_X11_law_0
        refine ok_rf (j := c) q.1.1 (ok_be (p_X0_isMouth hx.2.1 wC) (ok_f (fun v => b2i_0.mp v zx) (ok_be p_X11_isCourse (ok_f (fun v => b2i_0.mp v zy) (ok_f (by omega) (ok_f (by omega) (ok_be (p_X11_mealIsNext e0) (ok_f (fun v => b2i_0.mp v zm) (ok_rf (j := c) q.1.1 ?_)))))))))
        rw [e1]
        exact ok_be (p9_step hx.2.1 wC) (ok_t u (ok_some ⟨rfl, rfl⟩))
      · have q3 := IR_0 w q2
        refine ok_eq.mp (fuv_X12_law (fun n hn => ?_))
        refine s_X12_law_0 (by omega) ?_
        unfold b_X12_law_0
        refine ok_lt (ok_be (p_X12_slot q3.1 wC) ?_)
        rw [if_pos zx]
        refine ok_f (by omega) (ok_f (by omega) (ok_f (by omega) (ok_f (by omega) (ok_f (by omega) (ok_ck (by decide) ?_)))))
        rw [is_0 q3.2.2.1.1, is_1 q3.2.2.1.1]
        exact ok_t zm (ok_ck (by decide) (ok_be (p_X12_leads q3.1 wC (vw_c vw) zy.1 zy.2) (ok_t u (ok_some ⟨rfl, rfl⟩))))
    · have cP := (stepF_r (k := y) (cw_W wC) (vw_c vw)).resolve_left u
      have y1 : 0 ≤ stC (sC σ) (sV σ 0 1 0) y := cP.1
      have y2 : stC (sC σ) (sV σ 0 1 0) y < 64 := Int.lt_of_lt_of_le cP.2 hm.2
      refine ⟨evv (valF (sC σ) (sV σ 0) x y (stC (sC σ) (sV σ 0 1 0) y) p), σ, w, ok_sc q ?_, fun h2 q2 => ok_sr w q2 ?_⟩
      · refine fuv_X11_law (fun n hn => ?_)
        refine s_X11_law_0 (by omega) ?_
        unfold b_X11_law_0
        refine ok_rf (j := c) q.1.1 (ok_be (p_X0_isMouth hx.2.1 wC) (ok_f (fun v => b2i_0.mp v zx) (ok_be p_X11_isCourse (ok_f (fun v => b2i_0.mp v zy) (ok_f (by omega) (ok_f (by omega) (ok_be (p_X11_mealIsNext e0) (ok_f (fun v => b2i_0.mp v zm) (ok_rf (j := c) q.1.1 ?_)))))))))
        rw [e1]
        refine ok_be (p9_step hx.2.1 wC) (ok_f u (ok_bq (p_X2_value hx kv.1 vw zx.1 zx.2 zy.1 zy.2 y1 y2 p1 p2) ?_))
        intro r h' ⟨k1, k2⟩
        exact ok_some ⟨k1, fr_mo k2 (fun r i k v => by unfold NmW at v; unfold ScW; omega), (k2.1 2 0 1 (by unfold NmW; omega)).trans kg.1, (k2.1 2 0 10 (by unfold NmW; omega)).trans kg.2⟩
      · have q3 := IR_0 w q2
        refine fuv_X12_law (fun n hn => ?_)
        refine s_X12_law_0 (by omega) ?_
        unfold b_X12_law_0
        refine ok_lt (ok_be (p_X12_slot q3.1 wC) ?_)
        rw [if_pos zx]
        refine ok_f (by omega) (ok_f (by omega) (ok_f (by omega) (ok_f (by omega) (ok_f (by omega) (ok_ck (by decide) ?_)))))
        rw [is_0 q3.2.2.1.1, is_1 q3.2.2.1.1]
        refine ok_t zm (ok_ck (by decide) (ok_be (p_X12_leads q3.1 wC (vw_c vw) zy.1 zy.2) (ok_f u (ok_ck (by decide) ?_))))
        rw [is_2 q3.2.2.1.1]
        refine ok_bq (p_X12_says q3.1 wC q3.2.2.1.1 vw (by decide) (by decide) zx.1 zx.2 zy.1 zy.2 y1 y2 p1 p2) ?_
        intro r h' ⟨k1, k2⟩
        have fr : Fr SrW h2 h' := fr_tr (fr_sI fr_rf (by unfold SrW; omega)) (fr_mo k2 (fun r i k v => by unfold SyW at v; unfold SrW; omega))
        have b : B92 h' := B92_e (fun k => k2.1 92 0 k (by unfold SyW; omega)) q3.2.1
        rcases k1 with ⟨k1, k3⟩ | ⟨v, k1, k3, k4⟩
        · exact ok_t k3 (ok_some ⟨by rw [k1]; rfl, fr, b⟩)
        · exact ok_f (by omega) (ok_ck (by decide) (ok_some ⟨by rw [k1]; exact k4, fr, b⟩))
  · refine ⟨MIN, σ, w, ok_rc q ?_, fun h2 q2 => ok_rr w q2 ?_⟩
    · refine ok_eq.mp (fuv_X11_law (fun n hn => ?_))
      refine s_X11_law_0 (by omega) ?_
      unfold b_X11_law_0
      refine ok_rf (j := c) q.1.1 (ok_be (p_X0_isMouth hx.2.1 wC) (ok_if (fun v => ok_some ⟨rfl, rfl⟩) (fun v => ok_be p_X11_isCourse (ok_if (fun v2 => ok_some ⟨rfl, rfl⟩) (fun v2 => ok_if (fun v3 => ok_some ⟨rfl, rfl⟩) (fun v3 => ok_if (fun v4 => ok_some ⟨rfl, rfl⟩) (fun v4 => ok_be (p_X11_mealIsNext e0) (ok_t ?_ (ok_some ⟨rfl, rfl⟩)))))))))
      exact b2i_0.mpr (fun v5 => z ⟨b2i_n.mp v, b2i_n.mp v2, by omega, by omega, v5⟩)
    · have q3 := IR_0 w q2
      refine ok_eq.mp (fuv_X12_law (fun n hn => ?_))
      refine s_X12_law_0 (by omega) ?_
      unfold b_X12_law_0
      refine ok_lt (ok_be (p_X12_slot q3.1 wC) ?_)
      by_cases yy : 0 ≤ x ∧ x < sz (sC σ)
      · have sr := sl_r wC yy.1 yy.2
        rw [if_pos yy]
        refine ok_f (by omega) (ok_if (fun v => ok_some ⟨rfl, rfl⟩) (fun v => ok_if (fun v2 => ok_some ⟨rfl, rfl⟩) (fun v2 => ok_if (fun v3 => ok_some ⟨rfl, rfl⟩) (fun v3 => ok_if (fun v4 => ok_some ⟨rfl, rfl⟩) (fun v4 => ok_ck (by decide) ?_)))))
        rw [is_0 q3.2.2.1.1]
        exact ok_f (fun v5 => z ⟨yy, by omega, by omega, by omega, v5⟩) (ok_some ⟨rfl, rfl⟩)
      · rw [if_neg yy]
        exact ok_t rfl (ok_some ⟨rfl, rfl⟩)
/-! count -/
def abN (C V : Ch) (tw ta : Int) : Nat → Int
  | 0 => 0
  | n + 1 => abN C V tw ta n + if abP C V tw ta n then 1 else 0
theorem abN_r {C V : Ch} {tw ta : Int} : ∀ n : Nat, 0 ≤ abN C V tw ta n ∧ abN C V tw ta n ≤ n
  | 0 => by simp [abN]
  | n + 1 => by
    have := abN_r (C := C) (V := V) (tw := tw) (ta := ta) n
    unfold abN
    split <;> omega
section
variable {h : Hp} {c v s tw ta : Int} {C V : Ch}
theorem p_X2_aboard (hx : CX h c C) (hv : isV C h v V) (t1 : gI h 2 0 1 = tw) (t2 : tw = 3 → gI h 2 0 2 = ta) : f_X2_aboard v h = some (abN C V tw ta (sz C).toNat, h) := by
  have w := hx.2.2
  have ez := sz_r w
  have key : ∀ (d n : Nat) (b x : Int) (a : Nat), (sz C).toNat - a = d → (a : Int) ≤ sz C → x = (a : Int) → 3 * d + 3 ≤ n → b = abN C V tw ta a → ok (g_X2_aboard n 1 [v, b, x] h) (fun r h' => r = abN C V tw ta (sz C).toNat ∧ h' = h) := by
    intro d
    induction d with
    | zero =>
      intro n b x a hd ha hxa hn hb
      subst hxa
      refine s_X2_aboard_1 (by omega) ?_
      unfold b_X2_aboard_1
      have e : a = (sz C).toNat := by omega
      exact ok_rf (j := c) hx.1 (ok_be (p_X0_size hx.2.1 w) (ok_t (by omega) (ok_some ⟨by rw [hb, e], rfl⟩)))
    | succ d ih =>
      intro n b x a hd ha hxa hn hb
      subst hxa
      have ar := abN_r (C := C) (V := V) (tw := tw) (ta := ta) a
      have es : abN C V tw ta (a + 1) = abN C V tw ta a + if abP C V tw ta a then 1 else 0 := rfl
      have next : ∀ (m' : Nat) (y : Int), 3 * d + 4 ≤ m' → y = (if abP C V tw ta a then 1 else 0) → ok (g_X2_aboard m' 2 [v, (a : Int), y, b] h) (fun r h' => r = abN C V tw ta (sz C).toNat ∧ h' = h) := by
        intro m' y z1 z2
        have z3 : 0 ≤ y ∧ y ≤ 1 := by rw [z2]; split <;> omega
        refine s_X2_aboard_2 (by omega) ?_
        unfold b_X2_aboard_2
        exact ok_ck (by omega) (ok_lt (ok_ck (by omega) (ih _ _ _ (a + 1) (by omega) (by omega) (by omega) (by omega) (by rw [es, ← z2, hb]))))
      refine s_X2_aboard_1 (by omega) ?_
      unfold b_X2_aboard_1
      refine ok_rf (j := c) hx.1 (ok_be (p_X0_size hx.2.1 w) (ok_f (by omega) (ok_be (p_X2_isAboard hx hv t1 t2 (by omega) (by omega)) (ok_if (fun u => next _ _ (by omega) ?_) (fun u => next _ _ (by omega) ?_)))))
      · rw [if_neg (b2i_0.mp u)]
      · rw [if_pos (b2i_n.mp u)]
  refine ok_eq.mp (fuv_X2_aboard (fun n hn => ?_))
  refine s_X2_aboard_0 (by omega) ?_
  unfold b_X2_aboard_0
  exact key _ _ _ _ 0 rfl (by omega) (by omega) (by omega) rfl
theorem p_count10 (q : isR h C) (w : CW C) (hs : isS C h 0 V) (vw : VW C V) (ht : isT C h tw ta) (n : Nat) (hn : 100 ≤ n) : ok (g_X12_count n 1 [0, 0] h) (fun r h' => r = abN C V tw ta (sz C).toNat ∧ h' = h) := by
  have ez := sz_r w
  have key : ∀ (d n : Nat) (b x : Int), (9 - x).toNat = d → 0 ≤ x → x ≤ 9 → 3 * d + 3 ≤ n → b = abN C V tw ta (cnt C x).toNat → ok (g_X12_count n 1 [b, x] h) (fun r h' => r = abN C V tw ta (sz C).toNat ∧ h' = h) := by
    intro d
    induction d with
    | zero =>
      intro n b x hd x1 x2 hn hb
      have e9 : x = 9 := by omega
      subst e9
      refine s_X12_count_1 (by omega) ?_
      unfold b_X12_count_1
      exact ok_t (by omega) (ok_some ⟨by rw [hb, cnt_9 w], rfl⟩)
    | succ d ih =>
      intro n b x hd x1 x2 hn hb
      have cr := cnt_r w x1 (by omega)
      have ar := abN_r (C := C) (V := V) (tw := tw) (ta := ta) (cnt C x).toNat
      have next : ∀ (m' : Nat) (y : Int), 3 * d + 4 ≤ m' → b + y = abN C V tw ta (cnt C (x + 1)).toNat → 0 ≤ y → y ≤ 1 → ok (g_X12_count m' 2 [x, y, b] h) (fun r h' => r = abN C V tw ta (sz C).toNat ∧ h' = h) := by
        intro m' y z1 z2 z3 z4
        refine s_X12_count_2 (by omega) ?_
        unfold b_X12_count_2
        exact ok_ck (by omega) (ok_lt (ok_ck (by omega) (ih _ _ _ (by omega) (by omega) (by omega) (by omega) z2)))
      refine s_X12_count_1 (by omega) ?_
      unfold b_X12_count_1
      refine ok_f (by omega) (ok_be (p_X12_isAboard q w hs vw ht (by decide) (by decide) x1 (by omega)) (ok_if (fun u => next _ _ (by omega) ?_ (by omega) (by omega)) (fun u => next _ _ (by omega) ?_ (by omega) (by omega))))
      · replace u := b2i_0.mp u
        by_cases th : thP C x
        · obtain ⟨n1, n2⟩ := cnt_th w x1 th
          have e1 : (cnt C (x + 1)).toNat = (cnt C x).toNat + 1 := by omega
          have e4 : ((cnt C x).toNat : Int) = ix C x := by omega
          have es : abN C V tw ta ((cnt C x).toNat + 1) = abN C V tw ta (cnt C x).toNat + if abP C V tw ta ((cnt C x).toNat : Int) then 1 else 0 := rfl
          rw [e1, es, e4, if_neg (fun v => u ⟨th, v⟩), hb]
        · rw [cnt_no w x1 th, hb]; omega
      · replace u := b2i_n.mp u
        obtain ⟨n1, n2⟩ := cnt_th w x1 u.1
        have e1 : (cnt C (x + 1)).toNat = (cnt C x).toNat + 1 := by omega
        have e4 : ((cnt C x).toNat : Int) = ix C x := by omega
        have es : abN C V tw ta ((cnt C x).toNat + 1) = abN C V tw ta (cnt C x).toNat + if abP C V tw ta ((cnt C x).toNat : Int) then 1 else 0 := rfl
        rw [e1, es, e4, if_pos u.2, hb]
  exact key 9 _ _ _ (by omega) (by omega) (by omega) (by omega) (by rw [cnt_0 w]; rfl)
end
theorem agr_count {x : Int} : Agr (f_X11_count x) (f_X12_count x) := by
  intro h c σ w q
  have wC := sw_C w
  have qc := q.1.2.2.2.2.1
  have kg := q.2.2.2.1
  by_cases x0 : x = 0
  · refine ⟨sC σ 0 0, σ, w, ok_rc q ?_, fun h2 q2 => ok_rr w q2 ?_⟩
    · refine ok_eq.mp (fuv_X11_count (fun n hn => ?_))
      refine s_X11_count_0 (by omega) ?_
      unfold b_X11_count_0
      exact ok_t x0 (ok_rf (j := c) q.1.1 (ok_some ⟨ic_0 qc, rfl⟩))
    · have q3 := IR_0 w q2
      have ra := q3.1
      refine ok_eq.mp (fuv_X12_count (fun n hn => ?_))
      refine s_X12_count_0 (by omega) ?_
      unfold b_X12_count_0
      exact ok_lt (ok_t x0 (ok_ck (by decide) (ok_some ⟨ir_0 ra, rfl⟩)))
  by_cases x1 : x = 1
  · refine ⟨sC σ 1 0, σ, w, ok_rc q ?_, fun h2 q2 => ok_rr w q2 ?_⟩
    · refine ok_eq.mp (fuv_X11_count (fun n hn => ?_))
      refine s_X11_count_0 (by omega) ?_
      unfold b_X11_count_0
      exact ok_f x0 (ok_t x1 (ok_rf (j := c) q.1.1 (ok_some ⟨ic_1 qc, rfl⟩)))
    · have q3 := IR_0 w q2
      have ra := q3.1
      refine ok_eq.mp (fuv_X12_count (fun n hn => ?_))
      refine s_X12_count_0 (by omega) ?_
      unfold b_X12_count_0
      exact ok_lt (ok_f x0 (ok_t x1 (ok_ck (by decide) (ok_some ⟨ir_1 ra, rfl⟩))))
  by_cases x2 : x = 2
  · refine ⟨sC σ 20 0, σ, w, ok_rc q ?_, fun h2 q2 => ok_rr w q2 ?_⟩
    · refine ok_eq.mp (fuv_X11_count (fun n hn => ?_))
      refine s_X11_count_0 (by omega) ?_
      unfold b_X11_count_0
      exact ok_f x0 (ok_f x1 (ok_t x2 (ok_rf (j := c) q.1.1 (ok_some ⟨ic_20 qc, rfl⟩))))
    · have q3 := IR_0 w q2
      have ra := q3.1
      refine ok_eq.mp (fuv_X12_count (fun n hn => ?_))
      refine s_X12_count_0 (by omega) ?_
      unfold b_X12_count_0
      exact ok_lt (ok_f x0 (ok_f x1 (ok_t x2 (ok_ck (by decide) (ok_some ⟨ir_12 ra, rfl⟩)))))
  by_cases x3 : x = 3
  · refine ⟨sC σ 21 0, σ, w, ok_rc q ?_, fun h2 q2 => ok_rr w q2 ?_⟩
    · refine ok_eq.mp (fuv_X11_count (fun n hn => ?_))
      refine s_X11_count_0 (by omega) ?_
      unfold b_X11_count_0
      exact ok_f x0 (ok_f x1 (ok_f x2 (ok_t x3 (ok_rf (j := c) q.1.1 (ok_some ⟨ic_21 qc, rfl⟩)))))
    · have q3 := IR_0 w q2
      have ra := q3.1
      refine ok_eq.mp (fuv_X12_count (fun n hn => ?_))
      refine s_X12_count_0 (by omega) ?_
      unfold b_X12_count_0
      exact ok_lt (ok_f x0 (ok_f x1 (ok_f x2 (ok_t x3 (ok_ck (by decide) (ok_some ⟨ir_13 ra, rfl⟩))))))
  by_cases x4 : x = 4
  · refine ⟨sC σ 5 0, σ, w, ok_rc q ?_, fun h2 q2 => ok_rr w q2 ?_⟩
    · refine ok_eq.mp (fuv_X11_count (fun n hn => ?_))
      refine s_X11_count_0 (by omega) ?_
      unfold b_X11_count_0
      exact ok_f x0 (ok_f x1 (ok_f x2 (ok_f x3 (ok_t x4 (ok_rf (j := c) q.1.1 (ok_some ⟨ic_5 qc, rfl⟩))))))
    · have q3 := IR_0 w q2
      have ra := q3.1
      refine ok_eq.mp (fuv_X12_count (fun n hn => ?_))
      refine s_X12_count_0 (by omega) ?_
      unfold b_X12_count_0
      exact ok_lt (ok_f x0 (ok_f x1 (ok_f x2 (ok_f x3 (ok_t x4 (ok_ck (by decide) (ok_some ⟨ir_5 ra, rfl⟩)))))))
  by_cases x5 : x = 5
  · refine ⟨sC σ 32 0, σ, w, ok_rc q ?_, fun h2 q2 => ok_rr w q2 ?_⟩
    · refine ok_eq.mp (fuv_X11_count (fun n hn => ?_))
      refine s_X11_count_0 (by omega) ?_
      unfold b_X11_count_0
      exact ok_f x0 (ok_f x1 (ok_f x2 (ok_f x3 (ok_f x4 (ok_t x5 (ok_rf (j := c) q.1.1 (ok_some ⟨ic_32 qc, rfl⟩)))))))
    · have q3 := IR_0 w q2
      have ra := q3.1
      refine ok_eq.mp (fuv_X12_count (fun n hn => ?_))
      refine s_X12_count_0 (by omega) ?_
      unfold b_X12_count_0
      exact ok_lt (ok_f x0 (ok_f x1 (ok_f x2 (ok_f x3 (ok_f x4 (ok_t x5 (ok_ck (by decide) (ok_some ⟨ir_14 ra, rfl⟩))))))))
  by_cases x6 : x = 6
  · refine ⟨sV σ 0 0 0, σ, w, ok_rc q ?_, fun h2 q2 => ok_rr w q2 ?_⟩
    · refine ok_eq.mp (fuv_X11_count (fun n hn => ?_))
      refine s_X11_count_0 (by omega) ?_
      unfold b_X11_count_0
      exact ok_f x0 (ok_f x1 (ok_f x2 (ok_f x3 (ok_f x4 (ok_f x5 (ok_t x6 (ok_some ⟨iv_0 q.2.2.1.1, rfl⟩)))))))
    · have q3 := IR_0 w q2
      have ra := q3.1
      refine ok_eq.mp (fuv_X12_count (fun n hn => ?_))
      refine s_X12_count_0 (by omega) ?_
      unfold b_X12_count_0
      exact ok_lt (ok_f x0 (ok_f x1 (ok_f x2 (ok_f x3 (ok_f x4 (ok_f x5 (ok_t x6 (ok_ck (by decide) (ok_some ⟨is_0 q3.2.2.1.1, rfl⟩)))))))))
  by_cases x7 : x = 7
  · refine ⟨sX σ 23 0, σ, w, ok_rc q ?_, fun h2 q2 => ok_rr w q2 ?_⟩
    · refine ok_eq.mp (fuv_X11_count (fun n hn => ?_))
      refine s_X11_count_0 (by omega) ?_
      unfold b_X11_count_0
      exact ok_f x0 (ok_f x1 (ok_f x2 (ok_f x3 (ok_f x4 (ok_f x5 (ok_f x6 (ok_t x7 (ok_some ⟨in_n q.2.2.2.2.2.2.2.1, rfl⟩))))))))
    · have q3 := IR_0 w q2
      have ra := q3.1
      refine ok_eq.mp (fuv_X12_count (fun n hn => ?_))
      refine s_X12_count_0 (by omega) ?_
      unfold b_X12_count_0
      exact ok_lt (ok_f x0 (ok_f x1 (ok_f x2 (ok_f x3 (ok_f x4 (ok_f x5 (ok_f x6 (ok_t x7 (ok_some ⟨ip_n q3.2.2.2.2.2.2.1, rfl⟩)))))))))
  by_cases x8 : x = 8
  · refine ⟨kn (sX σ 23 0) (sX σ 24 0), σ, w, ok_rc q ?_, fun h2 q2 => ok_rr w q2 ?_⟩
    · refine ok_eq.mp (fuv_X11_count (fun n hn => ?_))
      refine s_X11_count_0 (by omega) ?_
      unfold b_X11_count_0
      exact ok_f x0 (ok_f x1 (ok_f x2 (ok_f x3 (ok_f x4 (ok_f x5 (ok_f x6 (ok_f x7 (ok_t x8 (ok_be (p_X5_inForce q.2.2.2.2.2.2.2.1) (ok_some ⟨rfl, rfl⟩))))))))))
    · have q3 := IR_0 w q2
      have ra := q3.1
      refine ok_eq.mp (fuv_X12_count (fun n hn => ?_))
      refine s_X12_count_0 (by omega) ?_
      unfold b_X12_count_0
      exact ok_lt (ok_f x0 (ok_f x1 (ok_f x2 (ok_f x3 (ok_f x4 (ok_f x5 (ok_f x6 (ok_f x7 (ok_t x8 (ok_be (p_X12_knownMany q3.2.2.2.2.2.2.1) (ok_some ⟨rfl, rfl⟩)))))))))))
  by_cases x9 : x = 9
  · refine ⟨sX σ 25 0, σ, w, ok_rc q ?_, fun h2 q2 => ok_rr w q2 ?_⟩
    · refine ok_eq.mp (fuv_X11_count (fun n hn => ?_))
      refine s_X11_count_0 (by omega) ?_
      unfold b_X11_count_0
      exact ok_f x0 (ok_f x1 (ok_f x2 (ok_f x3 (ok_f x4 (ok_f x5 (ok_f x6 (ok_f x7 (ok_f x8 (ok_t x9 (ok_some ⟨q.2.2.2.2.2.1.1, rfl⟩))))))))))
    · have q3 := IR_0 w q2
      have ra := q3.1
      refine ok_eq.mp (fuv_X12_count (fun n hn => ?_))
      refine s_X12_count_0 (by omega) ?_
      unfold b_X12_count_0
      exact ok_lt (ok_f x0 (ok_f x1 (ok_f x2 (ok_f x3 (ok_f x4 (ok_f x5 (ok_f x6 (ok_f x7 (ok_f x8 (ok_t x9 (ok_some ⟨q3.2.2.2.2.1.1, rfl⟩)))))))))))
  by_cases x10 : x = 10
  · refine ⟨abN (sC σ) (sV σ 0) (-1) (-1) (sz (sC σ)).toNat, σ, w, ok_rc q ?_, fun h2 q2 => ok_sr w q2 ?_⟩
    · refine ok_eq.mp (fuv_X11_count (fun n hn => ?_))
      refine s_X11_count_0 (by omega) ?_
      unfold b_X11_count_0
      exact ok_f x0 (ok_f x1 (ok_f x2 (ok_f x3 (ok_f x4 (ok_f x5 (ok_f x6 (ok_f x7 (ok_f x8 (ok_f x9 (ok_t x10 (ok_be (p_X2_aboard q.1.2.2.2 q.2.2.1.1 kg.1 (fun u => by omega)) (ok_some ⟨rfl, rfl⟩))))))))))))
    · have q3 := pl_q w q2
      refine fuv_X12_count (fun n hn => ?_)
      refine s_X12_count_0 (by omega) ?_
      unfold b_X12_count_0
      exact ok_lt (ok_f x0 (ok_f x1 (ok_f x2 (ok_f x3 (ok_f x4 (ok_f x5 (ok_f x6 (ok_f x7 (ok_f x8 (ok_f x9 (ok_t x10 (ok_be p_X12_plain (ok_mono (p_count10 q3.1 wC q3.2.2.1.1 (sw_V w).1 pl_t _ (by omega)) (fun r h' k => ⟨k.1, by rw [k.2]; exact pl_f, by rw [k.2]; exact q3.2.1⟩))))))))))))))
  · refine ⟨-1, σ, w, ok_rc q ?_, fun h2 q2 => ok_rr w q2 ?_⟩
    · refine ok_eq.mp (fuv_X11_count (fun n hn => ?_))
      refine s_X11_count_0 (by omega) ?_
      unfold b_X11_count_0
      exact ok_f x0 (ok_f x1 (ok_f x2 (ok_f x3 (ok_f x4 (ok_f x5 (ok_f x6 (ok_f x7 (ok_f x8 (ok_f x9 (ok_f x10 (ok_some ⟨rfl, rfl⟩)))))))))))
    · refine ok_eq.mp (fuv_X12_count (fun n hn => ?_))
      refine s_X12_count_0 (by omega) ?_
      unfold b_X12_count_0
      exact ok_lt (ok_f x0 (ok_f x1 (ok_f x2 (ok_f x3 (ok_f x4 (ok_f x5 (ok_f x6 (ok_f x7 (ok_f x8 (ok_f x9 (ok_f x10 (ok_some ⟨rfl, rfl⟩))))))))))))
