/-! PLAN, 8: both -/
def bsQ (C V : Ch) (n : Int) : Option Pc := foQ none (sQ C n.toNat 0 0 V (fun _ => 0))
def plA (B : Option Pc) (x : Int) : Int := match B with
  | none => -2
  | some b => if x = -1 then b.1 else if x < b.2.1 then b.2.2 x else -2
theorem isS_v7 {C V : Ch} {h : Hp} {s : Int} (q : isS C h s V) : isS C h s (v7 V (V 7 0)) := by
  obtain ⟨a0, a1, a2, a5, a7, a8, a6⟩ := q
  exact ⟨a0, a1, a2, a5, a7, a8, a6⟩
section
variable {h : Hp} {c n : Int} {σ : Sg}
theorem p_X6_find (w : SW σ) (q : IC h c σ) (n1 : 1 ≤ n) (n2 : n ≤ 3) (n3 : sV σ 0 0 0 + n ≤ 60) : ok (f_X6_find 0 n h) (fun _ h' => Fr ScW h h' ∧ kG h' ∧ bC h' (bsQ (sC σ) (sV σ 0) n)) := by
  have wC := sw_C w
  have vw := (sw_V w).1
  have kv := q.2.2.1
  have kg := q.2.2.2.1
  have hx := q.1.2.2.2
  have F2 : Fr ScW h (sI (sI h 6 0 5 (-1)) 6 0 4 0) := fr_sI (fr_sI fr_rf (by unfold ScW; omega)) (by unfold ScW; omega)
  have x2 : CX (sI (sI h 6 0 5 (-1)) 6 0 4 0) c (sC σ) := CX_sI (by intro j; unfold inC; omega) (CX_sI (by intro j; unfold inC; omega) hx)
  have v2 : isV (sC σ) (sI (sI h 6 0 5 (-1)) 6 0 4 0) 0 (sV σ 0) := isV_sI (Or.inl ⟨by decide, by decide⟩) (isV_sI (Or.inl ⟨by decide, by decide⟩) kv.1)
  have g1 : gI (sI (sI h 6 0 5 (-1)) 6 0 4 0) 2 0 1 = -1 := by rw [gI_nr (by decide), gI_nr (by decide)]; exact kg.1
  have g2 : gI (sI (sI h 6 0 5 (-1)) 6 0 4 0) 2 0 10 = -1 := by rw [gI_nr (by decide), gI_nr (by decide)]; exact kg.2
  refine fuv_X6_find (fun nn hn => ?_)
  refine s_X6_find_0 (by omega) ?_
  unfold b_X6_find_0
  refine ok_lt (ok_lt (ok_rf x2.1 ?_))
  rw [iv_1 v2, ic_4 x2.2.1]
  refine ok_if (fun y => ok_lt (ok_some ⟨fr_sI F2 (by unfold ScW; omega), ⟨by rw [gI_nr (by decide)]; exact g1, by rw [gI_nr (by decide)]; exact g2⟩, ?_⟩)) (fun y => ok_ck (by decide) (ok_rf (j := 23) ?_ (ok_bq (p_X10_copyFrom (by decide)) ?_)))
  · have ha : haQ (sC σ) (sV σ 0) = true := decide_eq_true y
    have e : bsQ (sC σ) (sV σ 0) n = some (0, 0, fun _ => 0) := by
      unfold bsQ
      show foQ none (soQ (haQ (sC σ)) (goQ (sC σ)) (eaQ (sC σ)) (2 ^ (sC σ 20 0).toNat) n.toNat 0 0 (sV σ 0) (fun _ => 0)) = _
      rw [soQ_ha ha]; rfl
    rw [e]
    refine ⟨gI_eq, by decide, ?_, fun i i1 i2 => ?_⟩
    · rw [gI_nk (by decide), gI_eq]
    · have : i < 0 := i2
      omega
  · rw [gR_2 F2.2]; exact q.2.1.2.1 0 (by decide) (by decide)
  · intro _ h7 ⟨f7, a7, b7⟩
    have F7 : Fr ScW h h7 := fr_tr F2 (fr_mo f7 (by intro r i j; unfold VoW ScW; omega))
    have nh : ¬ haQ (sC σ) (sV σ 0) = true := fun t => y (of_decide_eq_true t)
    have x7 : CX h7 c (sC σ) := CX_fr f7 (by intro r i j z; unfold inC at z; unfold VoW; omega) x2
    have o6 : ∀ j, gI h7 6 0 j = gI (sI (sI h 6 0 5 (-1)) 6 0 4 0) 6 0 j := fun j => f7.1 6 0 j (by unfold VoW; omega)
    have s := pl_C wC (c := c) n.toNat 1000 h7 0 n 0 (sV σ 0) (fun _ => 0) none (by omega) (by omega) (by omega) n2 (by omega) (by omega) ⟨vw, by omega⟩ nh ⟨x7, fun j j1 j2 => by rw [fr_R F7]; exact q.2.1.2.1 j j1 j2, (f7.1 2 0 1 (by unfold VoW; omega)).trans g1⟩ (isV_cp wC a7 b7 v2) (fun i i1 i2 => by omega) (show gI h7 6 0 5 = -1 by rw [o6, gI_nk (by decide), gI_eq])
    refine ok_bq (o := f_X6_search 0 n 0 h7) s ?_
    intro _ h9 ⟨f9, b9⟩
    refine ok_be p_X2_noPage (ok_some ⟨fr_sI (fr_tr F7 (fr_mo f9 (by intro r i j; unfold PsW ScW; omega))) (by unfold ScW; omega), ⟨?_, gI_eq⟩, ?_⟩)
    · rw [gI_nk (by decide), f9.1 2 0 1 (by unfold PsW; omega), f7.1 2 0 1 (by unfold VoW; omega)]
      exact g1
    · exact bC_eq (gI_nr (by decide)) (gI_nr (by decide)) (fun i => gI_nr (by decide)) b9
end
theorem agr_plan {x y : Int} : Agr (f_X11_plan x y) (f_X12_plan x y) := by
  intro h c σ w q
  have wC := sw_C w
  have vw := (sw_V w).1
  have vm := vw_m vw
  have kv := q.2.2.1
  have e0 := iv_0 kv.1
  by_cases z : (1 ≤ x ∧ x ≤ 3) ∧ (-1 ≤ y ∧ y ≤ 2) ∧ sV σ 0 0 0 + x ≤ 60
  · obtain ⟨⟨x1, x2⟩, ⟨y1, y2⟩, z3⟩ := z
    have nn : ∀ t, bsQ (sC σ) (sV σ 0) x = some t → 0 ≤ t.2.1 := by
      obtain ⟨_, h', _, f, g, b⟩ := p_X6_find w q x1 x2 z3
      intro t e
      rw [e] at b
      exact b.2.1
    refine ⟨plA (bsQ (sC σ) (sV σ 0) x) y, σ, w, ok_sc q ?_, fun h2 q2 => ok_sr w q2 ?_⟩
    · refine fuv_X11_plan (fun n hn => ?_)
      refine s_X11_plan_0 (by omega) ?_
      unfold b_X11_plan_0
      rw [e0]
      refine ok_f (by omega) (ok_f (by omega) (ok_f (by omega) (ok_f (by omega) (ok_ck (by omega) (ok_t z3 (ok_bq (p_X6_find w q x1 x2 z3) ?_))))))
      intro _ h' ⟨f, g, b⟩
      cases eB : bsQ (sC σ) (sV σ 0) x with
      | none =>
        rw [eB] at b
        exact ok_t b (ok_some ⟨rfl, f, g⟩)
      | some t =>
        rw [eB] at b
        obtain ⟨b1, b2, b3, b4⟩ := b
        rw [b1]
        refine ok_f (by omega) (ok_if (fun u => ok_some ⟨?_, f, g⟩) (fun u => ok_if (fun u2 => ok_some ⟨?_, f, g⟩) (fun u2 => ok_ck (by omega) (ok_some ⟨?_, f, g⟩))))
        · show _ = if y = -1 then t.1 else if y < t.2.1 then t.2.2 y else -2
          rw [if_pos u]; exact b3
        · show _ = if y = -1 then t.1 else if y < t.2.1 then t.2.2 y else -2
          rw [if_neg u, if_neg (by omega)]
        · show _ = if y = -1 then t.1 else if y < t.2.1 then t.2.2 y else -2
          rw [if_neg u, if_pos (by omega)]
          exact b4 y (by omega) (by omega)
    · have F5 : Fr SrW h2 (sI (sI (sI (sI (sI h2 12 0 0 0) 12 0 55 (-1)) 12 0 56 (-1)) 12 0 57 0) 12 0 57 1) := by
        repeat (first | exact fr_rf | refine fr_sI ?_ (by unfold SrW; omega))
      have b5 : B92 (sI (sI (sI (sI (sI h2 12 0 0 0) 12 0 55 (-1)) 12 0 56 (-1)) 12 0 57 0) 12 0 57 1) := B92_e (fun k => by rw [gI_nr (by decide), gI_nr (by decide), gI_nr (by decide), gI_nr (by decide), gI_nr (by decide)]) q2.2.1
      have q5 := IR_sc w F5 b5 q2
      have t55 : gI (sI (sI (sI (sI (sI h2 12 0 0 0) 12 0 55 (-1)) 12 0 56 (-1)) 12 0 57 0) 12 0 57 1) 12 0 55 = -1 := by rw [gI_nk (by decide), gI_nk (by decide), gI_nk (by decide), gI_eq]
      have t57 : gI (sI (sI (sI (sI (sI h2 12 0 0 0) 12 0 55 (-1)) 12 0 56 (-1)) 12 0 57 0) 12 0 57 1) 12 0 57 = 1 := gI_eq
      refine fuv_X12_plan (fun n hn => ?_)
      refine s_X12_plan_0 (by omega) ?_
      unfold b_X12_plan_0
      refine ok_lt ?_
      rw [is_0 (IR_0 w q2).2.2.1.1]
      refine ok_f (by omega) (ok_f (by omega) (ok_f (by omega) (ok_f (by omega) (ok_ck (by decide) (ok_ck (by omega) (ok_t z3 (ok_be p_X12_plain (ok_lt ?_))))))))
      generalize sI (sI (sI (sI (sI h2 12 0 0 0) 12 0 55 (-1)) 12 0 56 (-1)) 12 0 57 0) 12 0 57 1 = h5 at F5 b5 q5 t55 t57
      refine ok_bq (p_X12_copies b5 (show (0 : Int) ≠ 1 by decide) (by decide) (by decide) (by decide) (by decide)) ?_
      intro _ h6 ⟨f6, b6, c6, d6⟩
      have v6 := isSF_cp wC c6 d6 q5.2.2.1
      have va := vw_a vw
      have F6 : Fr SrW h2 h6 := fr_tr F5 (fr_mo f6 (by intro r i j; unfold ShW SrW; omega))
      have i6 : isR h6 (sC σ) := isR_fr f6 (by intro r j a b; unfold ShW; omega) q5.1
      have e88 : gI h6 88 0 1 = sV σ 0 7 0 := v6.1.2.2.2.2.1
      have r7 : rP (sI h6 12 0 67 (-1)) (sC σ) (sV σ 0 3 0) := ⟨isR_sI (by omega) i6, by rw [gI_nk (by decide), f6.1 12 0 55 (by unfold ShW; omega)]; exact t55, by rw [gI_nk (by decide), f6.1 12 0 57 (by unfold ShW; omega)]; exact t57, B92_e (fun k => gI_nr (by decide)) b6, (gI_nr (by decide)).trans v6.2.1, by rw [gI_nr (by decide), e88]; exact va.1, by rw [gI_nr (by decide), e88]; exact va.2⟩
      have s7 : isS (sC σ) (sI h6 12 0 67 (-1)) 1 (v7 (sV σ 0) (sV σ 0 7 0)) := isS_v7 (isS_eq (fun r k a b _ _ => gI_nr (by omega)) v6.1)
      have s := pl_R wC x.toNat 1000 (sI h6 12 0 67 (-1)) 0 x 0 (sV σ 0 7 0) (sV σ 0) (fun _ => 0) none (by omega) (by omega) (by omega) x2 (by omega) (by omega) ⟨vw, by omega⟩ r7 s7 (fun i i1 i2 => by omega) (show gI (sI h6 12 0 67 (-1)) 12 0 67 = -1 from gI_eq)
      refine ok_lt (ok_bq (o := f_X12_plans 0 x 0 (sI h6 12 0 67 (-1))) s ?_)
      intro _ h9 ⟨f9, r9, b9⟩
      have F10 : Fr SrW h2 (sI h9 12 0 57 0) := fr_sI (fr_tr (fr_sI F6 (by unfold SrW; omega)) (fr_mo f9 (by intro r i j; unfold PlW SrW; omega))) (by unfold SrW; omega)
      have B10 : B92 (sI h9 12 0 57 0) := B92_e (fun k => gI_nr (by decide)) r9.2.2.2.1
      have b10 : bR (sI h9 12 0 57 0) (bsQ (sC σ) (sV σ 0) x) := bR_eq (gI_nk (by decide)) (gI_nk (by decide)) (fun i => gI_nr (by decide)) b9
      refine ok_lt ?_
      generalize sI h9 12 0 57 0 = h' at F10 B10 b10
      cases eB : bsQ (sC σ) (sV σ 0) x with
      | none =>
        rw [eB] at b10
        exact ok_t b10 (ok_some ⟨rfl, F10, B10⟩)
      | some t =>
        rw [eB] at b10
        obtain ⟨b1, b2, b3, b4⟩ := b10
        rw [b1, b3]
        refine ok_f (by omega) (ok_if (fun u => ok_if (fun u2 => ok_some ⟨?_, F10, B10⟩) (fun u2 => ok_ck (by omega) (ok_some ⟨?_, F10, B10⟩))) (fun u => ok_some ⟨?_, F10, B10⟩))
        · show _ = if y = -1 then t.1 else if y < t.2.1 then t.2.2 y else -2
          rw [if_pos u2]
        · show _ = if y = -1 then t.1 else if y < t.2.1 then t.2.2 y else -2
          rw [if_neg u2, if_pos u]
          exact b4 y (by omega) u
        · show _ = if y = -1 then t.1 else if y < t.2.1 then t.2.2 y else -2
          have n0 := nn t eB
          rw [if_neg (by omega), if_neg u]
  · refine ⟨-1, σ, w, ok_rc q ?_, fun h2 q2 => ok_rr w q2 ?_⟩
    · refine ok_eq.mp (fuv_X11_plan (fun n hn => ?_))
      refine s_X11_plan_0 (by omega) ?_
      unfold b_X11_plan_0
      rw [e0]
      exact ok_if (fun u => ok_some ⟨rfl, rfl⟩) (fun u => ok_if (fun u2 => ok_some ⟨rfl, rfl⟩) (fun u2 => ok_if (fun u3 => ok_some ⟨rfl, rfl⟩) (fun u3 => ok_if (fun u4 => ok_some ⟨rfl, rfl⟩) (fun u4 => ok_ck (by omega) (ok_f (fun t => z ⟨by omega, by omega, t⟩) (ok_some ⟨rfl, rfl⟩))))))
    · have q3 := IR_0 w q2
      refine ok_eq.mp (fuv_X12_plan (fun n hn => ?_))
      refine s_X12_plan_0 (by omega) ?_
      unfold b_X12_plan_0
      refine ok_lt ?_
      rw [is_0 q3.2.2.1.1]
      exact ok_if (fun u => ok_some ⟨rfl, rfl⟩) (fun u => ok_if (fun u2 => ok_some ⟨rfl, rfl⟩) (fun u2 => ok_if (fun u3 => ok_some ⟨rfl, rfl⟩) (fun u3 => ok_if (fun u4 => ok_some ⟨rfl, rfl⟩) (fun u4 => ok_ck (by decide) (ok_ck (by omega) (ok_f (fun t => z ⟨by omega, by omega, t⟩) (ok_some ⟨rfl, rfl⟩)))))))
