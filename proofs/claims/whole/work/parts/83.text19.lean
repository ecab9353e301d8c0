/-! TEXT, 19: a line, and the class's -/
/-- what is read: sea, isles, winds, gales, stores, mouths, code (newest first), knots, words told -/
abbrev Dr : Type := Ch × Ch × Ch × Ch × Ch × Ch × List (Int × Int) × Nat × (Int → Int)
abbrev dS (D : Dr) : Ch := D.1
abbrev dI (D : Dr) : Ch := D.2.1
abbrev dN (D : Dr) : Ch := D.2.2.1
abbrev dG (D : Dr) : Ch := D.2.2.2.1
abbrev dT (D : Dr) : Ch := D.2.2.2.2.1
abbrev dM (D : Dr) : Ch := D.2.2.2.2.2.1
abbrev dO (D : Dr) : List (Int × Int) := D.2.2.2.2.2.2.1
abbrev dK (D : Dr) : Nat := D.2.2.2.2.2.2.2.1
abbrev dW (D : Dr) : Int → Int := D.2.2.2.2.2.2.2.2
section
variable (b : Int → Int) (n : Nat)
def pkS (D : Dr) (a : (Int → Int) × Ch × Nat) : Dr × Nat := ((a.2.1, dI D, dN D, dG D, dT D, dM D, dO D, dK D, a.1), a.2.2)
def pkI (D : Dr) (a : (Int → Int) × Ch × Nat) : Dr × Nat := ((dS D, a.2.1, dN D, dG D, dT D, dM D, dO D, dK D, a.1), a.2.2)
def pkWn (D : Dr) (a : (Int → Int) × Ch × Nat) : Dr × Nat := ((dS D, dI D, a.2.1, dG D, dT D, dM D, dO D, dK D, a.1), a.2.2)
def pkG (D : Dr) (a : Ch × Nat) : Dr × Nat := ((dS D, dI D, dN D, a.1, dT D, dM D, dO D, dK D, dW D), a.2)
def pkT (D : Dr) (a : (Int → Int) × Ch × Nat) : Dr × Nat := ((dS D, dI D, dN D, dG D, a.2.1, dM D, dO D, dK D, a.1), a.2.2)
def pkM (D : Dr) (a : Mr) : Dr × Nat := ((dS D, dI D, dN D, dG D, dT D, a.1, a.2.1, a.2.2.1, dW D), a.2.2.2)
def exM {α β : Type} (F : Ex α) (f : α → β) : Ex β := exB F fun a => .ok (f a)
noncomputable def bodF (D : Dr) (w : Int) (t : Nat) (pl : Int) : Ex (Dr × Nat) :=
  if w = 0 then exM (seaF b n (dW D) (dS D) t pl) (pkS D)
  else if w = 1 then exM (lanF b n (dW D) (dS D) (dI D) t pl) (pkS D)
  else if w = 2 then exM (shiF b n 2 3 (dW D) (dS D) t pl) (pkS D)
  else if w = 3 then exM (shiF b n 3 4 (dW D) (dS D) t pl) (pkS D)
  else if w = 4 then exM (islF b n (dW D) (dS D) (dI D) t pl) (pkI D)
  else if w = 5 then exM (winF b n (dW D) (dN D) t pl) (pkWn D)
  else if w = 6 then exM (galF b n (dG D) t pl) (pkG D)
  else if w = 7 then exM (stmF b n (dW D) (dT D) t pl) (pkT D)
  else if w = 8 then exM (stoF b n 8 9999 2 (dW D) (dT D) t pl) (pkT D)
  else if w = 9 then exM (stoF b n 9 99999 3 (dW D) (dT D) t pl) (pkT D)
  else if w = 10 then exM (mouF b n false (dM D) (dO D) (dK D) t pl) (pkM D)
  else if w = 11 then exM (mouF b n true (dM D) (dO D) (dK D) t pl) (pkM D)
  else .error (1, pl)
def enF (r : Dr × Nat) : Ex (Dr × Nat) := exB (endF b n r.2) fun t2 => .ok (r.1, t2)
noncomputable def lnF (D : Dr) (t : Nat) : Ex (Dr × Nat) := exB (bodF b n D (kyT b n t) (t + 1) (tkP b n t : Int)) (enF b n)
end
/-- small facts of what is read -/
def dw0 (D : Dr) : Prop := sW (dS D) ∧ (0 ≤ dI D 0 0 ∧ dI D 0 0 ≤ 3) ∧ (0 ≤ dG D 0 0 ∧ dG D 0 0 ≤ 4) ∧ (0 ≤ dM D 0 0 ∧ dM D 0 0 ≤ 5 ∧ 0 ≤ dM D 1 0 ∧ dM D 1 0 ≤ 4) ∧ (dO D).length ≤ dK D ∧ dK D ≤ 64
def dC (h : Hp) (c : Int) (π : Int → Int) (b : Int → Int) (n s : Nat) (D : Dr) (t : Nat) : Prop := rdF h b n s t ∧ dcP h c π ∧ dcS h c (dS D) ∧ dcI h c (dI D) ∧ dcN h c (dN D) ∧ dcG h c (dG D) ∧ dcT h c (dT D) ∧ dcM h c π (dM D) ∧ ouC h c (dO D) ∧ gI h 7 0 17 = (dK D : Int) ∧ dcW h (dW D)
section
variable {h h0 h2 : Hp} {c : Int} {π : Int → Int} {b : Int → Int} {n s t : Nat} {D : Dr} {W : Nat → Int → Int → Prop}
theorem oC_fr {o : List (Int × Int)} (f : Fr W h h2) (d : ∀ (r : Nat) (k : Int), (r = 1 ∧ k = 2) ∨ r = 25 ∨ r = 26 → ¬ W r c k) (q : ouC h c o) : ouC h2 c o := ouC_e (f.1 1 c 2 (d 1 2 (by omega))) (fun r k z => f.1 r c k (d r k (by omega))) q
set_option maxHeartbeats 2000000 in
theorem l_line (w0 : dw0 D) (q : dC h c π b n s D t) : ok (f_X7_readLine h) (fun r h' => endX (lnF b n D t) (baC c h r h') (fun a => r ≠ 0 ∧ Fr (TxC c) h h' ∧ dC h' c π b n s a.1 a.2)) := by
  obtain ⟨q0, p, qS, qI, qN, qG, qT, qM, qO, qK, qW⟩ := q
  obtain ⟨wS, wI, wG, wM, wO, wK⟩ := w0
  have k9 : gI h 7 0 9 = kyT b n t := q0.1.2.2.2.2.2.1
  have k7 : gI h 7 0 7 = (tkP b n t : Int) := q0.1.2.2.2.1
  refine fuv_X7_readLine (fun g hg => ?_)
  refine s_X7_readLine_0 (by omega) ?_
  unfold b_X7_readLine_0 lnF
  rw [k9, k7]
  obtain ⟨w, ew⟩ : ∃ w, kyT b n t = w := ⟨_, rfl⟩
  obtain ⟨pl, ep⟩ : ∃ pl, (tkP b n t : Int) = pl := ⟨_, rfl⟩
  rw [ew, ep]
  refine ok_lt (ok_lt (ok_bq (aC (c := c) fr_rf q0) ?_))
  intro _ h4 ⟨f4, G4, r4⟩
  have one : ∀ (g1 : Nat) (v : Int) (h5 : Hp) (F : Ex (Dr × Nat)), 0 < g1 → endX F (baC c h v h5) (fun a => v = 1 ∧ Fr (TxC c) h h5 ∧ dC h5 c π b n s a.1 a.2) → ok (g_X7_readLine g1 1 [v] h5) (fun r h' => endX (exB F (enF b n)) (baC c h r h') (fun a => r ≠ 0 ∧ Fr (TxC c) h h' ∧ dC h' c π b n s a.1 a.2)) := by
    intro g1 v h5 F hg1 z
    refine s_X7_readLine_1 hg1 ?_
    unfold b_X7_readLine_1
    cases F with
    | error e => exact ok_t z.1 (ok_some (⟨rfl, z.2⟩ : baC c h 0 h5 e))
    | ok a =>
      obtain ⟨v1, G5, d0, d1, d2, d3, d4, d5, d6, d7, d8, d9, d10⟩ := z
      refine ok_f (by omega) (ok_bq (l_end d0 G5) ?_)
      intro v2 h6 z6
      show ok _ (fun r h' => endX (exB (endF b n a.2) fun t2 => .ok (a.1, t2)) (baC c h r h') (fun a => r ≠ 0 ∧ Fr (TxC c) h h' ∧ dC h' c π b n s a.1 a.2))
      cases eE : endF b n a.2 with
      | error e =>
        rw [eE] at z6
        exact ok_t z6.1 (ok_some (⟨rfl, z6.2⟩ : baC c h 0 h6 e))
      | ok t2 =>
        rw [eE] at z6
        obtain ⟨y1, f6, G6, r6⟩ := z6
        have x : ∀ (r : Nat) (i k : Int), r ≠ 7 → gI h6 r i k = gI h5 r i k := fun r i k z => f6.1 r i k (by unfold AdW; omega)
        have y : ∀ k : Int, 11 ≤ k → gI h6 7 0 k = gI h5 7 0 k := fun k z => f6.1 7 0 k (by unfold AdW; omega)
        exact ok_f (by omega) (ok_some (eX_o ⟨by decide, G6, r6, dcP_e f6.2 d1, dcS_e (fun k _ _ => x 9 c k (by decide)) d2, dcI_e (x 9 c 6 (by decide)) (fun r k _ _ => x r c k (by omega)) d3, dcN_e (x 0 c 6 (by decide)) (fun k => x 21 c k (by decide)) d4, dcG_e (x 0 c 10 (by decide)) (fun r k _ _ => x r c k (by omega)) d5, dcT_e (fun k _ _ => x 0 c k (by decide)) d6, dcM_e (x 0 c 3 (by decide)) (x 0 c 4 (by decide)) (fun m k => x 4 m k (by decide)) d7, ouC_e (x 1 c 2 (by decide)) (fun r k _ => x r c k (by omega)) d8, (y 17 (by decide)).trans d9, dcW_e (y 13 (by decide)) d10⟩))
  have x4 : ∀ (r : Nat) (i k : Int), r ≠ 7 → gI h4 r i k = gI h r i k := fun r i k z => f4.1 r i k (by unfold AdW; omega)
  have y4 : ∀ k : Int, 11 ≤ k → gI h4 7 0 k = gI h 7 0 k := fun k z => f4.1 7 0 k (by unfold AdW; omega)
  have p4 := dcP_e f4.2 p
  have s4 := dcS_e (fun k _ _ => x4 9 c k (by decide)) qS
  have i4 := dcI_e (x4 9 c 6 (by decide)) (fun r k _ _ => x4 r c k (by omega)) qI
  have n4 := dcN_e (x4 0 c 6 (by decide)) (fun k => x4 21 c k (by decide)) qN
  have g4 := dcG_e (x4 0 c 10 (by decide)) (fun r k _ _ => x4 r c k (by omega)) qG
  have t4 := dcT_e (fun k _ _ => x4 0 c k (by decide)) qT
  have m4 := dcM_e (x4 0 c 3 (by decide)) (x4 0 c 4 (by decide)) (fun m k => x4 4 m k (by decide)) qM
  have o4 := ouC_e (x4 1 c 2 (by decide)) (fun r k _ => x4 r c k (by omega)) qO
  have k4 := (y4 17 (by decide)).trans qK
  have w4 := dcW_e (y4 13 (by decide)) qW
  unfold bodF
  by_cases e0 : w = 0
  · subst e0
    refine ok_t rfl ?_
    rw [if_pos rfl]
    refine ok_bq (l_sea p4.1 s4 w4 r4 G4) ?_
    intro v h6 z
    refine one _ v h6 _ (by omega) (eX_b (eX_m z (fun e y => y) (fun a _ ⟨v1, f6, G6, r6, ww, own⟩ => ?_)))
    exact eX_o ⟨v1, G6, r6, dcP_e f6.2 p4, own, dcI_e (f6.1 9 c 6 (by unfold SeW; omega)) (fun r k k1 k2 => f6.1 r c k (by unfold SeW; omega)) i4, dcN_e (f6.1 0 c 6 (by unfold SeW; omega)) (fun k => f6.1 21 c k (by unfold SeW; omega)) n4, dcG_e (f6.1 0 c 10 (by unfold SeW; omega)) (fun r k k1 k2 => f6.1 r c k (by unfold SeW; omega)) g4, dcT_e (fun k k1 k2 => f6.1 0 c k (by unfold SeW; omega)) t4, dcM_e (f6.1 0 c 3 (by unfold SeW; omega)) (f6.1 0 c 4 (by unfold SeW; omega)) (fun m k => f6.1 4 m k (by unfold SeW; omega)) m4, oC_fr f6 (by intro r k; unfold SeW; omega) o4, (f6.1 7 0 17 (by unfold SeW; omega)).trans k4, ww⟩
  · refine ok_f e0 ?_
    rw [if_neg e0]
    by_cases e1 : w = 1
    · subst e1
      refine ok_t rfl ?_
      rw [if_pos rfl]
      refine ok_bq (l_land p4.1 s4 wS i4 wI.1 wI.2 w4 r4 G4) ?_
      intro v h6 z
      refine one _ v h6 _ (by omega) (eX_b (eX_m z (fun e y => y) (fun a _ ⟨v1, f6, G6, r6, ww, own⟩ => ?_)))
      exact eX_o ⟨v1, G6, r6, dcP_e f6.2 p4, own, dcI_e (f6.1 9 c 6 (by unfold SeW; omega)) (fun r k k1 k2 => f6.1 r c k (by unfold SeW; omega)) i4, dcN_e (f6.1 0 c 6 (by unfold SeW; omega)) (fun k => f6.1 21 c k (by unfold SeW; omega)) n4, dcG_e (f6.1 0 c 10 (by unfold SeW; omega)) (fun r k k1 k2 => f6.1 r c k (by unfold SeW; omega)) g4, dcT_e (fun k k1 k2 => f6.1 0 c k (by unfold SeW; omega)) t4, dcM_e (f6.1 0 c 3 (by unfold SeW; omega)) (f6.1 0 c 4 (by unfold SeW; omega)) (fun m k => f6.1 4 m k (by unfold SeW; omega)) m4, oC_fr f6 (by intro r k; unfold SeW; omega) o4, (f6.1 7 0 17 (by unfold SeW; omega)).trans k4, ww⟩
    · refine ok_f e1 ?_
      rw [if_neg e1]
      by_cases e2 : w = 2
      · subst e2
        refine ok_t rfl ?_
        rw [if_pos rfl]
        refine ok_bq (l_ship p4.1 s4 wS w4 r4 G4) ?_
        intro v h6 z
        refine one _ v h6 _ (by omega) (eX_b (eX_m z (fun e y => y) (fun a _ ⟨v1, f6, G6, r6, ww, own⟩ => ?_)))
        exact eX_o ⟨v1, G6, r6, dcP_e f6.2 p4, own, dcI_e (f6.1 9 c 6 (by unfold SeW; omega)) (fun r k k1 k2 => f6.1 r c k (by unfold SeW; omega)) i4, dcN_e (f6.1 0 c 6 (by unfold SeW; omega)) (fun k => f6.1 21 c k (by unfold SeW; omega)) n4, dcG_e (f6.1 0 c 10 (by unfold SeW; omega)) (fun r k k1 k2 => f6.1 r c k (by unfold SeW; omega)) g4, dcT_e (fun k k1 k2 => f6.1 0 c k (by unfold SeW; omega)) t4, dcM_e (f6.1 0 c 3 (by unfold SeW; omega)) (f6.1 0 c 4 (by unfold SeW; omega)) (fun m k => f6.1 4 m k (by unfold SeW; omega)) m4, oC_fr f6 (by intro r k; unfold SeW; omega) o4, (f6.1 7 0 17 (by unfold SeW; omega)).trans k4, ww⟩
      · refine ok_f e2 ?_
        rw [if_neg e2]
        by_cases e3 : w = 3
        · subst e3
          refine ok_t rfl ?_
          rw [if_pos rfl]
          refine ok_bq (l_bah p4.1 s4 wS w4 r4 G4) ?_
          intro v h6 z
          refine one _ v h6 _ (by omega) (eX_b (eX_m z (fun e y => y) (fun a _ ⟨v1, f6, G6, r6, ww, own⟩ => ?_)))
          exact eX_o ⟨v1, G6, r6, dcP_e f6.2 p4, own, dcI_e (f6.1 9 c 6 (by unfold SeW; omega)) (fun r k k1 k2 => f6.1 r c k (by unfold SeW; omega)) i4, dcN_e (f6.1 0 c 6 (by unfold SeW; omega)) (fun k => f6.1 21 c k (by unfold SeW; omega)) n4, dcG_e (f6.1 0 c 10 (by unfold SeW; omega)) (fun r k k1 k2 => f6.1 r c k (by unfold SeW; omega)) g4, dcT_e (fun k k1 k2 => f6.1 0 c k (by unfold SeW; omega)) t4, dcM_e (f6.1 0 c 3 (by unfold SeW; omega)) (f6.1 0 c 4 (by unfold SeW; omega)) (fun m k => f6.1 4 m k (by unfold SeW; omega)) m4, oC_fr f6 (by intro r k; unfold SeW; omega) o4, (f6.1 7 0 17 (by unfold SeW; omega)).trans k4, ww⟩
        · refine ok_f e3 ?_
          rw [if_neg e3]
          by_cases e4 : w = 4
          · subst e4
            refine ok_t rfl ?_
            rw [if_pos rfl]
            refine ok_bq (l_isle p4.1 s4 wS i4 wI.1 wI.2 w4 r4 G4) ?_
            intro v h6 z
            refine one _ v h6 _ (by omega) (eX_b (eX_m z (fun e y => y) (fun a _ ⟨v1, f6, G6, r6, ww, own⟩ => ?_)))
            exact eX_o ⟨v1, G6, r6, dcP_e f6.2 p4, dcS_e (fun k k1 k2 => f6.1 9 c k (by unfold IsW; omega)) s4, own, dcN_e (f6.1 0 c 6 (by unfold IsW; omega)) (fun k => f6.1 21 c k (by unfold IsW; omega)) n4, dcG_e (f6.1 0 c 10 (by unfold IsW; omega)) (fun r k k1 k2 => f6.1 r c k (by unfold IsW; omega)) g4, dcT_e (fun k k1 k2 => f6.1 0 c k (by unfold IsW; omega)) t4, dcM_e (f6.1 0 c 3 (by unfold IsW; omega)) (f6.1 0 c 4 (by unfold IsW; omega)) (fun m k => f6.1 4 m k (by unfold IsW; omega)) m4, oC_fr f6 (by intro r k; unfold IsW; omega) o4, (f6.1 7 0 17 (by unfold IsW; omega)).trans k4, ww⟩
          · refine ok_f e4 ?_
            rw [if_neg e4]
            by_cases e5 : w = 5
            · subst e5
              refine ok_t rfl ?_
              rw [if_pos rfl]
              refine ok_bq (l_wind (N := dN D) p4.1 w4 r4 G4) ?_
              intro v h6 z
              refine one _ v h6 _ (by omega) (eX_b (eX_m z (fun e y => y) (fun a _ ⟨v1, f6, G6, r6, ww, own⟩ => ?_)))
              exact eX_o ⟨v1, G6, r6, dcP_e f6.2 p4, dcS_e (fun k k1 k2 => f6.1 9 c k (by unfold WnW; omega)) s4, dcI_e (f6.1 9 c 6 (by unfold WnW; omega)) (fun r k k1 k2 => f6.1 r c k (by unfold WnW; omega)) i4, own, dcG_e (f6.1 0 c 10 (by unfold WnW; omega)) (fun r k k1 k2 => f6.1 r c k (by unfold WnW; omega)) g4, dcT_e (fun k k1 k2 => f6.1 0 c k (by unfold WnW; omega)) t4, dcM_e (f6.1 0 c 3 (by unfold WnW; omega)) (f6.1 0 c 4 (by unfold WnW; omega)) (fun m k => f6.1 4 m k (by unfold WnW; omega)) m4, oC_fr f6 (by intro r k; unfold WnW; omega) o4, (f6.1 7 0 17 (by unfold WnW; omega)).trans k4, ww⟩
            · refine ok_f e5 ?_
              rw [if_neg e5]
              by_cases e6 : w = 6
              · subst e6
                refine ok_t rfl ?_
                rw [if_pos rfl]
                refine ok_bq (l_gale p4.1 g4 wG.1 r4 G4) ?_
                intro v h6 z
                refine one _ v h6 _ (by omega) (eX_b (eX_m z (fun e y => y) (fun a _ ⟨v1, f6, G6, r6, own, ww⟩ => ?_)))
                exact eX_o ⟨v1, G6, r6, dcP_e f6.2 p4, dcS_e (fun k k1 k2 => f6.1 9 c k (by unfold GaW; omega)) s4, dcI_e (f6.1 9 c 6 (by unfold GaW; omega)) (fun r k k1 k2 => f6.1 r c k (by unfold GaW; omega)) i4, dcN_e (f6.1 0 c 6 (by unfold GaW; omega)) (fun k => f6.1 21 c k (by unfold GaW; omega)) n4, own, dcT_e (fun k k1 k2 => f6.1 0 c k (by unfold GaW; omega)) t4, dcM_e (f6.1 0 c 3 (by unfold GaW; omega)) (f6.1 0 c 4 (by unfold GaW; omega)) (fun m k => f6.1 4 m k (by unfold GaW; omega)) m4, oC_fr f6 (by intro r k; unfold GaW; omega) o4, (f6.1 7 0 17 (by unfold GaW; omega)).trans k4, dcW_e ww w4⟩
              · refine ok_f e6 ?_
                rw [if_neg e6]
                by_cases e7 : w = 7
                · subst e7
                  refine ok_t rfl ?_
                  rw [if_pos rfl]
                  refine ok_bq (l_storm p4.1 t4 w4 r4 G4) ?_
                  intro v h6 z
                  refine one _ v h6 _ (by omega) (eX_b (eX_m z (fun e y => y) (fun a _ ⟨v1, f6, G6, r6, ww, own⟩ => ?_)))
                  exact eX_o ⟨v1, G6, r6, dcP_e f6.2 p4, dcS_e (fun k k1 k2 => f6.1 9 c k (by unfold SuW; omega)) s4, dcI_e (f6.1 9 c 6 (by unfold SuW; omega)) (fun r k k1 k2 => f6.1 r c k (by unfold SuW; omega)) i4, dcN_e (f6.1 0 c 6 (by unfold SuW; omega)) (fun k => f6.1 21 c k (by unfold SuW; omega)) n4, dcG_e (f6.1 0 c 10 (by unfold SuW; omega)) (fun r k k1 k2 => f6.1 r c k (by unfold SuW; omega)) g4, own, dcM_e (f6.1 0 c 3 (by unfold SuW; omega)) (f6.1 0 c 4 (by unfold SuW; omega)) (fun m k => f6.1 4 m k (by unfold SuW; omega)) m4, oC_fr f6 (by intro r k; unfold SuW; omega) o4, (f6.1 7 0 17 (by unfold SuW; omega)).trans k4, ww⟩
                · refine ok_f e7 ?_
                  rw [if_neg e7]
                  by_cases e8 : w = 8
                  · subst e8
                    refine ok_t rfl ?_
                    rw [if_pos rfl]
                    refine ok_bq (l_soup p4.1 t4 w4 r4 G4) ?_
                    intro v h6 z
                    refine one _ v h6 _ (by omega) (eX_b (eX_m z (fun e y => y) (fun a _ ⟨v1, f6, G6, r6, ww, own⟩ => ?_)))
                    exact eX_o ⟨v1, G6, r6, dcP_e f6.2 p4, dcS_e (fun k k1 k2 => f6.1 9 c k (by unfold SuW; omega)) s4, dcI_e (f6.1 9 c 6 (by unfold SuW; omega)) (fun r k k1 k2 => f6.1 r c k (by unfold SuW; omega)) i4, dcN_e (f6.1 0 c 6 (by unfold SuW; omega)) (fun k => f6.1 21 c k (by unfold SuW; omega)) n4, dcG_e (f6.1 0 c 10 (by unfold SuW; omega)) (fun r k k1 k2 => f6.1 r c k (by unfold SuW; omega)) g4, own, dcM_e (f6.1 0 c 3 (by unfold SuW; omega)) (f6.1 0 c 4 (by unfold SuW; omega)) (fun m k => f6.1 4 m k (by unfold SuW; omega)) m4, oC_fr f6 (by intro r k; unfold SuW; omega) o4, (f6.1 7 0 17 (by unfold SuW; omega)).trans k4, ww⟩
                  · refine ok_f e8 ?_
                    rw [if_neg e8]
                    by_cases e9 : w = 9
                    · subst e9
                      refine ok_t rfl ?_
                      rw [if_pos rfl]
                      refine ok_bq (l_seed p4.1 t4 w4 r4 G4) ?_
                      intro v h6 z
                      refine one _ v h6 _ (by omega) (eX_b (eX_m z (fun e y => y) (fun a _ ⟨v1, f6, G6, r6, ww, own⟩ => ?_)))
                      exact eX_o ⟨v1, G6, r6, dcP_e f6.2 p4, dcS_e (fun k k1 k2 => f6.1 9 c k (by unfold SuW; omega)) s4, dcI_e (f6.1 9 c 6 (by unfold SuW; omega)) (fun r k k1 k2 => f6.1 r c k (by unfold SuW; omega)) i4, dcN_e (f6.1 0 c 6 (by unfold SuW; omega)) (fun k => f6.1 21 c k (by unfold SuW; omega)) n4, dcG_e (f6.1 0 c 10 (by unfold SuW; omega)) (fun r k k1 k2 => f6.1 r c k (by unfold SuW; omega)) g4, own, dcM_e (f6.1 0 c 3 (by unfold SuW; omega)) (f6.1 0 c 4 (by unfold SuW; omega)) (fun m k => f6.1 4 m k (by unfold SuW; omega)) m4, oC_fr f6 (by intro r k; unfold SuW; omega) o4, (f6.1 7 0 17 (by unfold SuW; omega)).trans k4, ww⟩
                    · refine ok_f e9 ?_
                      rw [if_neg e9]
                      by_cases e10 : w = 10
                      · subst e10
                        refine ok_t rfl ?_
                        rw [if_pos rfl]
                        refine ok_bq (l_mouth (y := false) p4 m4 wM o4 k4 wO wK r4 G4) ?_
                        intro v h6 z
                        refine one _ v h6 _ (by omega) (eX_b (eX_m z (fun e y => y) (fun a _ ⟨v1, f6, G6, r6, own, oo, kk, l1, l2⟩ => ?_)))
                        exact eX_o ⟨v1, G6, r6, dcP_e f6.2 p4, dcS_e (fun k k1 k2 => f6.1 9 c k (by unfold MoW; omega)) s4, dcI_e (f6.1 9 c 6 (by unfold MoW; omega)) (fun r k k1 k2 => f6.1 r c k (by unfold MoW; omega)) i4, dcN_e (f6.1 0 c 6 (by unfold MoW; omega)) (fun k => f6.1 21 c k (by unfold MoW; omega)) n4, dcG_e (f6.1 0 c 10 (by unfold MoW; omega)) (fun r k k1 k2 => f6.1 r c k (by unfold MoW; omega)) g4, dcT_e (fun k k1 k2 => f6.1 0 c k (by unfold MoW; omega)) t4, own, oo, kk, dcW_e (f6.1 7 0 13 (by unfold MoW; omega)) w4⟩
                      · refine ok_f e10 ?_
                        rw [if_neg e10]
                        by_cases e11 : w = 11
                        · subst e11
                          refine ok_t rfl ?_
                          rw [if_pos rfl]
                          refine ok_bq (l_mouth (y := true) p4 m4 wM o4 k4 wO wK r4 G4) ?_
                          intro v h6 z
                          refine one _ v h6 _ (by omega) (eX_b (eX_m z (fun e y => y) (fun a _ ⟨v1, f6, G6, r6, own, oo, kk, l1, l2⟩ => ?_)))
                          exact eX_o ⟨v1, G6, r6, dcP_e f6.2 p4, dcS_e (fun k k1 k2 => f6.1 9 c k (by unfold MoW; omega)) s4, dcI_e (f6.1 9 c 6 (by unfold MoW; omega)) (fun r k k1 k2 => f6.1 r c k (by unfold MoW; omega)) i4, dcN_e (f6.1 0 c 6 (by unfold MoW; omega)) (fun k => f6.1 21 c k (by unfold MoW; omega)) n4, dcG_e (f6.1 0 c 10 (by unfold MoW; omega)) (fun r k k1 k2 => f6.1 r c k (by unfold MoW; omega)) g4, dcT_e (fun k k1 k2 => f6.1 0 c k (by unfold MoW; omega)) t4, own, oo, kk, dcW_e (f6.1 7 0 13 (by unfold MoW; omega)) w4⟩
                        · refine ok_f e11 ?_
                          rw [if_neg e11]
                          exact wC G4
end
