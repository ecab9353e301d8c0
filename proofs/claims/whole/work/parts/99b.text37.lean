/-! TEXT, 37: the class's text, whole -/
/-- what the reading leaves behind when all is right -/
def clP (c : Int) (hB h4 : Hp) (D : Dr) (L : Nat) : Prop := DW D ∧ (∃ f g : Int → Int, CW (mkC D f g) ∧ isC h4 c (mkC D f g)) ∧ (∃ ρ, pmC h4 c ρ) ∧ (∀ (r : Nat) (i k : Int), ¬ TxD c r i k → gI h4 r i k = gI hB r i k) ∧ (∀ (r : Nat) (i k : Int), ¬ (r = 20 ∧ i = c) → gR h4 r i k = gR hB r i k) ∧ gI h4 7 0 2 = (L : Int) ∧ gI h4 7 0 3 = 0 ∧ gI h4 7 0 4 = -1
section
variable {h hB : Hp} {c : Int} {π : Int → Int} {b : Int → Int} {n s t : Nat} {D : Dr} {L : Nat}
theorem t_rd2 {g : Nat} (hg : 1 ≤ g) (w : DW D) (q : dC h c π b n s D t) (eL : gI h 7 0 2 = (L : Int)) (F0 : Fr (TxD c) hB h) : ok (g_X7_read g 2 [] h) (fun v h4 => v = 1 ∧ clP c hB h4 D L) := by
  have q' := q
  obtain ⟨q0, p, qS, qI, qN, qG, qT, qM, qO, qK, qW⟩ := q'
  have m := w.2.2.2.2.2.2.1.1
  refine s_X7_read_2 (by omega) ?_
  unfold b_X7_read_2
  refine ok_rf p.1 (ok_bd ?_)
  refine t_close (π := π) ⟨p.2.1, p.2.2⟩ qM.1 qM.2.1 ⟨m.1, m.2.1⟩ ⟨m.2.2.1, m.2.2.2⟩ ?_
  intro g2 h2 ρ hg2 pm eρ e1 e2 e3
  have ei : ∀ (r : Nat) (i k : Int), gI h2 r i k = gI h r i k := fun r i k => by unfold gI; rw [e1]
  refine s_X0_close_2 (by omega) ?_
  unfold b_X0_close_2
  refine ok_bq (p_X9_measure (c := c) ?_ ?_ ?_) ?_
  · unfold seaB; rw [ei, ei, qS.1, qS.2.1]; exact w.1.1
  · rw [ei, qI.1]; exact w.2.2.1.1.1
  · rw [ei, qI.1]; exact w.2.2.1.1.2
  intro _ h3 ⟨f3, b3, i3⟩
  refine ok_some (ok_some ⟨rfl, w, ?_, ⟨ρ, fun k k1 k2 => by rw [fr_R f3]; exact pm.1 k k1 k2, pm.2⟩, fun r i k z => ?_, fun r i k z => ?_, ?_, ?_, ?_⟩)
  · have x : ∀ (r : Nat) (i k : Int), ¬ (i = c ∧ (r = 55 ∨ r = 56)) → gI h3 r i k = gI h r i k := fun r i k z => (f3.1 r i k (by unfold MeW; omega)).trans (ei r i k)
    have st : stp h2 c = stD D := by unfold stp stD; rw [ei, ei, qS.1, qS.2.1]
    have wt : wtr h2 c = wtD D := by
      funext y
      unfold wtr wtD
      rw [ei, ei, ei, qS.1, qS.2.1]
      have mm := sea_mul w.1.1
      refine propext ⟨fun z => ⟨z.1, ?_⟩, fun z => ⟨z.1, fun l => ?_⟩⟩
      · have y6 : y < 64 := by have := z.1.2; omega
        have l := w.1.2.1 y z.1.1 y6
        have lb := qS.2.2.2.2.2 y z.1.1 y6
        rcases l with l | l
        · exact l
        · exact absurd (lb.mpr l) z.2
      · have y6 : y < 64 := by have := z.1.2; omega
        have lb := (qS.2.2.2.2.2 y z.1.1 y6).mp l
        have := z.2
        omega
    have e5 : gI h2 9 c 5 = dS D 4 0 := (ei 9 c 5).trans qS.2.2.2.1
    rw [st, wt, e5] at b3
    have i3' : ∀ i x, 0 ≤ i → i < dI D 0 0 → 0 ≤ x → x < 64 → farV (stD D) (wtD D) (dI D 2 i) x (gI h3 55 c (64 * i + x)) := by
      intro i x i1 i2 x1 x2
      have a := i3 i x i1 (by rw [ei, qI.1]; exact i2) x1 x2
      rw [st, wt, ei, (qI.2 i i1 i2).2.1] at a
      exact a
    refine ⟨fun x => gI h3 55 c (192 + x), fun x => gI h3 55 c x, mk_CW w b3 i3', mk_isC w q x (fun i i1 i2 => ?_) (fun x _ _ => rfl) (fun i x _ _ _ _ => rfl)⟩
    rw [fr_R f3, (pm.1 i i1 (by omega)).1, eρ i i1 i2]
    rfl
  · rw [f3.1 r i k (fun y => z (by unfold MeW at y; unfold TxD TxC; omega)), ei]
    exact F0.1 r i k z
  · rw [fr_R f3, e2 r i k z, fr_R F0]
  · rw [f3.1 7 0 2 (by unfold MeW; omega), ei]; exact eL
  · rw [f3.1 7 0 3 (by unfold MeW; omega), ei]; exact q0.2.1
  · rw [f3.1 7 0 4 (by unfold MeW; omega), ei]; exact q0.2.2
end
section
variable {h : Hp} {c : Int} {σ : Sg} {n : Nat}
theorem gR_7 {h : Hp} {v : Option (Nat × Int)} {r : Nat} {i k : Int} (z : r ≠ 7) : gR (sR h 7 0 1 v) r i k = gR h r i k := by rw [gR_sR, if_neg (fun y => z y.1)]
set_option maxHeartbeats 4000000 in
theorem tC_text (w : SW σ) (q : IC h c σ) (hk : ∀ k : Nat, k < 27 → gI h 47 0 (k : Int) = keyV k) (x2 : (n : Int) ≤ sX σ 30 0) : ok (f_X11_text (n : Int) h) (fun r h' => endX (txF (sX σ 29) n 802 D0 0 0) (fun e => r = -1 ∧ IC h' c (stX σ (erX (sX σ) e)) ∧ FrX ClW h h') (fun a => r = (a.2 : Int) ∧ DW a.1 ∧ ∃ f g, CW (mkC a.1 f g) ∧ IC h' (1 - c) (okS σ (mkC a.1 f g)) ∧ FrX ClW h h')) := by
  obtain ⟨q1, q2, q3, q4, q5, q6, q7, q8, q9, q10, q11⟩ := q
  obtain ⟨a1, a2, a3, a4⟩ := q1
  have wT := sw_T w
  have n8 : n ≤ 800 := by omega
  refine fuv_X11_text (fun m hm => ?_)
  refine s_X11_text_0 (by omega) ?_
  unfold b_X11_text_0
  rw [q9.1]
  refine ok_f (by omega) (ok_t x2 (ok_lt (ok_rf (j := 1 - c) a2 ?_)))
  obtain ⟨π, pp⟩ := q2.2.2 (1 - c) (by omega)
  obtain ⟨πc, pc⟩ := q2.2.2 c a3
  have T := t_read (h := sI h 11 0 1 0) (b := sX σ 29) (n := n) (c := 1 - c) (π := π) (Q := fun F v h4 => endX F (fun e => baD (1 - c) (sR (sI h 11 0 1 0) 7 0 1 (some (0, 1 - c))) v h4 e) (fun a => v = 1 ∧ clP (1 - c) (sR (sI h 11 0 1 0) 7 0 1 (some (0, 1 - c))) h4 a.1 a.2)) n8 (fun k hk2 => ⟨(gI_nr (by decide)).trans (q9.2 k (by omega) (by omega)), sw_t w k (by omega) (by omega)⟩) (fun k hk2 => (gI_nr (by decide)).trans (hk k hk2)) pp (fun s g2 D L t h2 hg2 _ w2 d2 e2 f2 => t_rd2 hg2 w2 d2 e2 f2) (fun e h2 z => z)
  refine ok_bq T ?_
  intro v h4 z
  cases eF : txF (sX σ 29) n 802 D0 0 0 with
  | error e =>
    rw [eF] at z
    obtain ⟨z1, f4, z3, z4⟩ := (z : baD (1 - c) (sR (sI h 11 0 1 0) 7 0 1 (some (0, 1 - c))) v h4 e)
    have I : ∀ (r : Nat) (i k : Int), ¬ TxD (1 - c) r i k → ¬ (r = 11 ∧ k = 1) → gI h4 r i k = gI h r i k := fun r i k y1 y2 => by
      rw [f4.1 r i k y1]
      show gI (sI h 11 0 1 0) r i k = gI h r i k
      rw [gI_sI, if_neg (fun y => y2 ⟨y.1, y.2.2⟩)]
    have R : ∀ (r : Nat) (i k : Int), r ≠ 7 → gR h4 r i k = gR h r i k := fun r i k y => (fr_R f4).trans (gR_7 y)
    have J : ∀ (r : Nat) (i k : Int), (r = 2 ∨ r = 5 ∨ r = 10 ∨ (r = 11 ∧ k ≠ 1) ∨ (34 ≤ r ∧ r ≤ 41) ∨ r = 57) → gI h4 r i k = gI h r i k := fun r i k y => I r i k (by unfold TxD TxC; omega) (by omega)
    have e11 : gI h4 11 0 1 = 0 := by
      rw [f4.1 11 0 1 (by unfold TxD TxC; omega)]
      show gI (sI h 11 0 1 0) 11 0 1 = 0
      exact gI_eq
    refine ok_t z1 (ok_some (eX_e ⟨rfl, ⟨⟨(R 11 0 2 (by decide)).trans a1, (R 11 0 3 (by decide)).trans a2, a3, (R 2 0 0 (by decide)).trans a4.1, ?_, a4.2.2⟩, ⟨fun k k1 k2 => (R 59 0 k (by decide)).trans (q2.1 k k1 k2), fun k k1 k2 => (R 43 0 k (by decide)).trans (q2.2.1 k k1 k2), fun y hy => ?_⟩, kV_e (fun k => J 10 0 k (by omega)) (fun k => J 57 0 k (by omega)) q3, kG_e (fun k _ => J 2 0 k (by omega)) q4, kL_e (fun r k r1 r2 => J r 0 k (by omega)) q5, kU_e (J 11 0 10 (by omega)) (fun v k _ _ => J 10 v k (by omega)) (fun v k _ _ => J 57 v k (by omega)) q6, kI_e (J 11 0 13 (by omega)) (fun k => J 10 21 k (by omega)) (fun k => J 57 21 k (by omega)) (fun r k r1 r2 => J r 1 k (by omega)) q7, kN_e (fun k _ => J 5 0 k (by omega)) (fun r k r1 r2 => J r 0 k (by omega)) q8, ⟨e11, fun k k1 k2 => ?_⟩, ⟨z3, z4⟩, ?_⟩, fun r i k y => ?_⟩))
    · refine isC_e2 (π := πc) a4.2.2 ⟨pc.1, pc.2⟩ (fun r i k y1 y2 y3 => I r i k (fun y => ?_) (by unfold inC at y1; omega)) (fun k => R 20 c k (by decide)) a4.2.1
      unfold TxD TxC at y
      unfold inC at y1
      by_cases r4 : r = 4
      · have := y3 r4
        omega
      · have := y2 r4
        omega
    · obtain ⟨ρ, p1, p2⟩ := q2.2.2 y hy
      exact ⟨ρ, fun k k1 k2 => by rw [R 20 y k (by decide)]; exact p1 k k1 k2, p2⟩
    · have k3 : k < 0 := k2
      omega
    · rcases q11 with y | y
      · exact Or.inl ((J 11 0 16 (by omega)).trans y)
      · refine Or.inr ?_
        rw [J 11 0 16 (by omega)]
        exact isFit_c (C := sC σ) (X := sX σ) (Y := erX (sX σ) e) (M := sV σ 0 0 0) rfl rfl rfl rfl rfl rfl y
    · refine I r i k (fun y2 => y ?_) (fun y2 => y ?_)
      · unfold TxD TxC at y2; unfold ClW; omega
      · unfold ClW; omega
  | ok a =>
    rw [eF] at z
    obtain ⟨z1, wD, ⟨f, g, cw, ic⟩, ⟨ρ, pm⟩, I4, R4, eL, e3, e4⟩ := z
    have R4' : ∀ (r : Nat) (i k : Int), r ≠ 7 → ¬ (r = 20 ∧ i = 1 - c) → gR h4 r i k = gR h r i k := fun r i k y1 y2 => (R4 r i k y2).trans (gR_7 y1)
    refine ok_f (by omega) (ok_rf (j := c) ((R4' 11 0 2 (by decide) (by omega)).trans a1) (ok_rf (j := 1 - c) ((R4' 11 0 3 (by decide) (by omega)).trans a2) (ok_lt (ok_lt ?_))))
    have g2 : gR (sR (sR h4 11 0 2 (some (0, 1 - c))) 11 0 3 (some (0, c))) 11 0 2 = some (0, 1 - c) := by rw [gR_sR, if_neg (fun y => absurd y.2.2 (by decide)), gR_sR, if_pos ⟨rfl, rfl, rfl⟩]
    refine ok_rf g2 (ok_lt ?_)
    have rS : ∀ (r : Nat) (i k : Int), r ≠ 11 → r ≠ 2 → gR (sR (sR (sR h4 11 0 2 (some (0, 1 - c))) 11 0 3 (some (0, c))) 2 0 0 (some (0, 1 - c))) r i k = gR h4 r i k := fun r i k y1 y2 => by rw [gR_sR, if_neg (fun y => y2 y.1), gR_sR, if_neg (fun y => y1 y.1), gR_sR, if_neg (fun y => y1 y.1)]
    have g112 : gR (sR (sR (sR h4 11 0 2 (some (0, 1 - c))) 11 0 3 (some (0, c))) 2 0 0 (some (0, 1 - c))) 11 0 2 = some (0, 1 - c) := by rw [gR_sR, if_neg (fun y => absurd y.1 (by decide))]; exact g2
    have g113 : gR (sR (sR (sR h4 11 0 2 (some (0, 1 - c))) 11 0 3 (some (0, c))) 2 0 0 (some (0, 1 - c))) 11 0 3 = some (0, c) := by rw [gR_sR, if_neg (fun y => absurd y.1 (by decide)), gR_sR, if_pos ⟨rfl, rfl, rfl⟩]
    have g200 : gR (sR (sR (sR h4 11 0 2 (some (0, 1 - c))) 11 0 3 (some (0, c))) 2 0 0 (some (0, 1 - c))) 2 0 0 = some (0, 1 - c) := by rw [gR_sR, if_pos ⟨rfl, rfl, rfl⟩]
    have iS : ∀ (r : Nat) (i k : Int), gI (sR (sR (sR h4 11 0 2 (some (0, 1 - c))) 11 0 3 (some (0, c))) 2 0 0 (some (0, 1 - c))) r i k = gI h4 r i k := fun r i k => rfl
    generalize sR (sR (sR h4 11 0 2 (some (0, 1 - c))) 11 0 3 (some (0, c))) 2 0 0 (some (0, 1 - c)) = hS at rS g112 g113 g200 iS
    have icS : isC hS (1 - c) (mkC a.1 f g) := isC_e2 (π := ρ) cw pm (fun r i k _ _ _ => iS r i k) (fun k => rS 20 (1 - c) k (by decide) (by decide)) ic
    refine ok_rf g112 (ok_bq (p_X10_begin (v := 0) icS cw) ?_)
    intro _ h13 ⟨f13, v13⟩
    have cl : f_X5_clear h13 = some (0, sI (sI h13 5 0 4 0) 5 0 5 (-1)) := by
      refine ok_eq.mp (fuv_X5_clear (fun m hm => ?_))
      refine s_X5_clear_0 (by omega) ?_
      unfold b_X5_clear_0
      exact ok_lt (ok_lt (ok_some ⟨rfl, rfl⟩))
    refine ok_be cl (ok_lt (ok_lt (ok_lt ?_)))
    have F18 : Fr (fun r _ k => (r = 5 ∧ (k = 4 ∨ k = 5)) ∨ (r = 11 ∧ (k = 13 ∨ k = 10 ∨ k = 16))) h13 (sI (sI (sI (sI (sI h13 5 0 4 0) 5 0 5 (-1)) 11 0 13 0) 11 0 10 0) 11 0 16 (-1)) := fr_sI (fr_sI (fr_sI (fr_sI (fr_sI fr_rf (by omega)) (by omega)) (by omega)) (by omega)) (by omega)
    have k54 : gI (sI (sI (sI (sI (sI h13 5 0 4 0) 5 0 5 (-1)) 11 0 13 0) 11 0 10 0) 11 0 16 (-1)) 5 0 4 = 0 := by rw [gI_nr (by decide), gI_nr (by decide), gI_nr (by decide), gI_nk (by decide), gI_eq]
    have k55 : gI (sI (sI (sI (sI (sI h13 5 0 4 0) 5 0 5 (-1)) 11 0 13 0) 11 0 10 0) 11 0 16 (-1)) 5 0 5 = -1 := by rw [gI_nr (by decide), gI_nr (by decide), gI_nr (by decide), gI_eq]
    have k13 : gI (sI (sI (sI (sI (sI h13 5 0 4 0) 5 0 5 (-1)) 11 0 13 0) 11 0 10 0) 11 0 16 (-1)) 11 0 13 = 0 := by rw [gI_nk (by decide), gI_nk (by decide), gI_eq]
    have k10 : gI (sI (sI (sI (sI (sI h13 5 0 4 0) 5 0 5 (-1)) 11 0 13 0) 11 0 10 0) 11 0 16 (-1)) 11 0 10 = 0 := by rw [gI_nk (by decide), gI_eq]
    have k16 : gI (sI (sI (sI (sI (sI h13 5 0 4 0) 5 0 5 (-1)) 11 0 13 0) 11 0 10 0) 11 0 16 (-1)) 11 0 16 = -1 := gI_eq
    generalize sI (sI (sI (sI (sI h13 5 0 4 0) 5 0 5 (-1)) 11 0 13 0) 11 0 10 0) 11 0 16 (-1) = H at F18 k54 k55 k13 k10 k16
    have HS : ∀ (r : Nat) (i k : Int), r ≠ 10 → r ≠ 57 → r ≠ 5 → (r ≠ 11 ∨ (k ≠ 13 ∧ k ≠ 10 ∧ k ≠ 16)) → gI H r i k = gI h4 r i k := fun r i k y1 y2 y3 y4 => ((F18.1 r i k (by omega)).trans (f13.1 r i k (by unfold VoW; omega))).trans (iS r i k)
    have I : ∀ (r : Nat) (i k : Int), ¬ TxD (1 - c) r i k → r ≠ 10 → r ≠ 57 → r ≠ 5 → r ≠ 11 → gI H r i k = gI h r i k := fun r i k y0 y1 y2 y3 y4 => by
      rw [HS r i k y1 y2 y3 (Or.inl y4), I4 r i k y0]
      show gI (sI h 11 0 1 0) r i k = gI h r i k
      exact gI_nr y4
    have R : ∀ (r : Nat) (i k : Int), r ≠ 11 → r ≠ 2 → gR H r i k = gR h4 r i k := fun r i k y1 y2 => (fr_R F18).trans ((fr_R f13).trans (rS r i k y1 y2))
    have e111 : gI H 11 0 1 = 0 := by
      rw [HS 11 0 1 (by decide) (by decide) (by decide) (Or.inr (by decide)), I4 11 0 1 (by unfold TxD TxC; omega)]
      show gI (sI h 11 0 1 0) 11 0 1 = 0
      exact gI_eq
    have em : ∀ {i : Int}, 0 ≤ i → i < 0 → False := fun a c => by omega
    refine ok_some (eX_o ⟨?_, wD, f, g, cw, ⟨⟨(fr_R F18).trans ((fr_R f13).trans g112), ?_, by omega, (fr_R F18).trans ((fr_R f13).trans g200), ?_, cw⟩, ⟨fun k k1 k2 => ?_, fun k k1 k2 => ?_, fun y hy => ?_⟩, isVF_eq (fun k => F18.1 10 0 k (by omega)) (fun k => F18.1 57 0 k (by omega)) v13, ⟨?_, ?_⟩, fun t t1 t2 => (em t1 t2).elim, ⟨k10, fun k k1 => ?_⟩, ⟨k13, fun z => ?_⟩, ⟨k54, k55, fun k k1 k2 => (em k1 k2).elim⟩, ⟨e111, fun k k1 k2 => (em k1 k2).elim⟩, ⟨?_, ?_⟩, Or.inl k16⟩, fun r i k y => ?_⟩)
    · rw [HS 7 0 2 (by decide) (by decide) (by decide) (Or.inl (by decide))]; exact eL
    · rw [show 1 - (1 - c) = c by omega]
      exact (fr_R F18).trans ((fr_R f13).trans g113)
    · exact isC_e2 (π := ρ) cw ⟨fun k k1 k2 => by rw [rS 20 _ k (by decide) (by decide)]; exact pm.1 k k1 k2, pm.2⟩ (fun r i k y1 _ _ => by unfold inC at y1; exact (F18.1 r i k (by omega)).trans (f13.1 r i k (by unfold VoW; omega))) (fun k => (fr_R F18).trans (fr_R f13)) icS
    · rw [R 59 0 k (by decide) (by decide), R4' 59 0 k (by decide) (by omega)]; exact q2.1 k k1 k2
    · rw [R 43 0 k (by decide) (by decide), R4' 43 0 k (by decide) (by omega)]; exact q2.2.1 k k1 k2
    · by_cases yc : y = 1 - c
      · rw [yc]
        exact ⟨ρ, fun k k1 k2 => by rw [R 20 (1 - c) k (by decide) (by decide)]; exact pm.1 k k1 k2, pm.2⟩
      · obtain ⟨ρ2, p1, p2⟩ := q2.2.2 y hy
        exact ⟨ρ2, fun k k1 k2 => by rw [R 20 y k (by decide) (by decide), R4' 20 y k (by decide) (by omega)]; exact p1 k k1 k2, p2⟩
    · rw [I 2 0 1 (by unfold TxD TxC; omega) (by decide) (by decide) (by decide) (by decide)]; exact q4.1
    · rw [I 2 0 10 (by unfold TxD TxC; omega) (by decide) (by decide) (by decide) (by decide)]; exact q4.2
    · have k3 : (k : Int) < 0 := k1
      omega
    · have z2 : (0 : Int) = 1 := z
      omega
    · rw [HS 7 0 3 (by decide) (by decide) (by decide) (Or.inl (by decide))]; exact e3
    · rw [HS 7 0 4 (by decide) (by decide) (by decide) (Or.inl (by decide))]; exact e4
    · unfold ClW at y
      exact I r i k (by unfold TxD TxC; omega) (by omega) (by omega) (by omega) (by omega)
end
