/-! TEXT, 13: E, primary, all levels -/
section
variable {b : Int → Int} {n d : Nat}
/-- no sign that goes on: the machine faults -/
theorem sgT_q (t : Nat) : sgT b n t = -1 ∨ (2 ≤ sgT b n t ∧ sgT b n t ≤ 17) := by
  have r := (tk_v (b := b) (n := n) t).2.2.2
  unfold sgT
  by_cases y : tkK b n t = 4
  · have := r y
    rw [if_pos y]; omega
  · rw [if_neg y]
    split <;> omega
theorem run_1' {o1 : List (Int × Int)} {s1 : List Int} {t k p : Nat} (fo : fol b n 1 o1 s1 t) (n16 : sgT b n t ≠ 16) (sg : ¬ (sgT b n t = -1 ∨ sgT b n t = 4 ∨ sgT b n t = 15 ∨ sgT b n t = 17)) (F : Nat) : runE b n (F + 1) o1 s1 t false k p = .error (1, (tkP b n t : Int)) := by
  have r := sgT_q (b := b) (n := n) t
  have f1 := fo.1 (by decide)
  have f2 := fo.2.1 (by decide)
  have f3 := fo.2.2.1 (by decide)
  have f4 := fo.2.2.2.1 (by decide)
  have f5 := fo.2.2.2.2 (by decide)
  have c : 5 ≤ sgT b n t ∧ sgT b n t ≤ 10 := by omega
  have er := rk_c (sgT b n t).toNat (by omega) (by omega)
  rw [show (((sgT b n t).toNat : Nat) : Int) = sgT b n t by omega] at er
  rw [run_s, if_neg sg, if_neg n16, if_pos er, if_pos (f3 c.1 c.2)]
theorem run_1 {o1 : List (Int × Int)} {s1 : List Int} {t k p : Nat} (fo : fol b n 1 o1 s1 t) (n16 : sgT b n t ≠ 16) (p0 : p ≠ 0) (F : Nat) : runE b n (F + 1) o1 s1 t false k p = .error (1, (tkP b n t : Int)) := by
  by_cases sg : sgT b n t = -1 ∨ sgT b n t = 4 ∨ sgT b n t = 15 ∨ sgT b n t = 17
  · rw [run_s, if_pos sg, if_neg p0]
  · exact run_1' fo n16 sg F
/-- behind a fault -/
theorem leaf_f {h : Hp} {g : Nat} {x : Int} (f0 : gI h 12 0 32 ≠ 0) (vr : -1 ≤ gI h 12 0 31 ∧ gI h 12 0 31 < 1073741824) (hg : 3 ≤ g) : g_grpE g 18 [x] h = some (0, h) := ok_eq.mp (by
  have twenty : ∀ (g2 : Nat) (y z : Int), 0 < g2 → ok (g_grpE g2 20 [y, z] h) (fun r h' => r = 0 ∧ h' = h) := by
    intro g2 y z hg2
    refine s_grpE_20 hg2 ?_
    unfold b_grpE_20
    exact ok_be (p_puts_f f0) (ok_be (p_goOn_f f0) (ok_some ⟨rfl, rfl⟩))
  have nine : ∀ (g2 : Nat) (y : Int), 2 ≤ g2 → ok (g_grpE g2 19 [x, y] h) (fun r h' => r = 0 ∧ h' = h) := by
    intro g2 y hg2
    refine s_grpE_19 (by omega) ?_
    unfold b_grpE_19
    exact ok_if (fun u => ok_ck (by omega) (twenty _ _ _ (by omega))) (fun u => twenty _ _ _ (by omega))
  refine s_grpE_18 (by omega) ?_
  unfold b_grpE_18
  exact ok_be (p_knot_f f0) (ok_if (fun u => nine _ _ (by omega)) (fun u => nine _ _ (by omega))))
set_option maxHeartbeats 2000000 in
theorem lv12 (n8 : n ≤ 800) (ihe : Lv b n d 0 1 1 13) : Lv b n (d + 1) 12 7 7 8 := by
  intro t o s k p g h hd t8 st I hs hn hg
  have I1 := I.1
  have I2 := I.2.1
  have I3 := I.2.2.1
  have I4 := I.2.2.2.1
  have I5 := I.2.2.2.2
  have kk := tk_k (b := b) (n := n) t
  have rk := rK_r kk.1 kk.2
  have q30 : gI h 12 0 30 = rK (tkK b n t) := st.1.2.2.2.2.1
  have vr := st.1.2.2.1
  have lt8 : tkK b n t ≠ 0 → t + 1 ≤ 800 := fun z => by
    by_cases y : t + 1 ≤ 800
    · exact y
    · exact absurd (tk_end n8 (by omega)) z
  have run1 : ∀ F, 801 ≤ F + t → ∃ F', F = F' + 1 ∧ 801 ≤ F' + (t + 1) := fun F hF => by
    cases F with
    | zero => omega
    | succ F => exact ⟨F, rfl, by omega⟩
  -- a fault, then blocks 18 to 20
  have bad : ∀ (g1 : Nat) (x y : Int) (h2 : Hp), 3 ≤ g1 → y ≠ 0 → flR h h2 (y, (tkP b n t : Int)) → (∀ F, runE b n (F + 1) o s t true k p = .error (y, (tkP b n t : Int))) → ok (g_grpE g1 18 [x] h2) (fun _ h' => endP b n 7 s k p (fun F => runE b n F o s t true k p) t h h') := by
    intro g1 x y h2 hg1 hy f er
    have f0 : gI h2 12 0 32 ≠ 0 := by rw [f.2.1]; exact hy
    rw [leaf_f f0 (by rw [f.1.1 12 0 31 (by omega)]; exact vr) hg1]
    refine ok_some (Or.inl ⟨(y, (tkP b n t : Int)), fl_ew f, f.2.1, f.2.2, ⟨hy, by rw [f.1.1 12 0 31 (by omega)]; exact vr⟩, fun F hF => ?_⟩)
    obtain ⟨F', e, _⟩ := run1 F hF
    show runE b n F o s t true k p = _
    rw [e]; exact er F'
  have good : ∀ (g1 : Nat) (x : Int), 4 ≤ g1 → ((x = 0 ∧ tkK b n t = 2 ∧ 20 ≤ kyT b n t) ∨ (x = 1 ∧ tkK b n t = 3 ∧ tkV b n t ≤ 9999)) → ok (g_grpE g1 18 [x] h) (fun _ h' => endP b n 7 s k p (fun F => runE b n F o s t true k p) t h h') := by
    intro g1 x hg1 z
    have z1 : ¬ (tkK b n t = 3 ∧ 9999 < tkV b n t) := by omega
    have z2 : tkK b n t = 3 ∨ 20 ≤ kyT b n t := by omega
    refine s_grpE_18 (by omega) ?_
    unfold b_grpE_18
    refine ok_bq (p_X12_knot st I2) ?_
    intro _ h2 z3
    rcases z3 with ⟨k7, f2, r2⟩ | ⟨k7, f2⟩
    · have twenty : ∀ (g2 : Nat) (y w : Int), 0 < g2 → w = rS (lfT b n t) → y = rW (lfT b n t) → ok (g_grpE g2 20 [y, w] h2) (fun _ h' => endP b n 7 s k p (fun F => runE b n F o s t true k p) t h h') := by
        intro g2 y w hg2 ew ey
        refine s_grpE_20 hg2 ?_
        unfold b_grpE_20
        refine ok_bq (p_X12_puts (e := lfT b n t) r2 (by omega) ew ey) ?_
        intro _ h4 ⟨f4, r4⟩
        refine ok_bq (p_X12_goOn r4.1 r4.2.1) ?_
        intro _ h5 ⟨f5, r5⟩
        refine ok_some (Or.inr ⟨t + 1, k + 1, lfT b n t :: o, [], fr_tr f2 (fr_tr f4 (fr_mo f5 to_ew)), rfE_go r4 f5 r5, by omega, lt8 (by omega), by omega, fun x hx => (by cases hx), ⟨by show o.length + 1 + nO s ≤ k + 1; omega, by omega, I3, I4, I5⟩, ⟨fun z => absurd z (by decide), fun z => absurd z (by decide), fun z => absurd z (by decide), fun z => absurd z (by decide), fun z => absurd z (by decide)⟩, fun F hF => ?_⟩)
        obtain ⟨F', e, e2⟩ := run1 F hF
        refine ⟨F', e2, ?_⟩
        show runE b n F o s t true k p = _
        rw [e, run_p, if_neg z1, if_pos z2, if_pos k7, List.nil_append]
      rcases z with ⟨x0, k2, k20⟩ | ⟨x1, k3, v9⟩
      · have e31 : gI h2 12 0 31 = tkV b n t := r2.1.2.2.2.2.2.1 (Or.inr k2)
        have ek : kyT b n t = tkV b n t := if_pos k2
        have el : lfT b n t = (1, kyT b n t - 20) := if_neg (by omega)
        have rv := (tk_v (b := b) (n := n) t).2.1 k2
        refine ok_t x0 ?_
        refine s_grpE_19 (by omega) ?_
        unfold b_grpE_19
        rw [e31]
        refine ok_t x0 (ok_ck (by omega) (twenty _ _ _ (by omega) ?_ ?_))
        · rw [el]; rfl
        · rw [el, ek]; rfl
      · have e31 : gI h2 12 0 31 = tkV b n t := (r2.1.2.2.2.2.2.2.1 k3).1 (by show tkV b n t ≤ 99999; omega)
        have el : lfT b n t = (0, tkV b n t) := if_pos k3
        refine ok_f (by omega) ?_
        refine s_grpE_19 (by omega) ?_
        unfold b_grpE_19
        rw [e31]
        refine ok_f (by omega) (twenty _ _ _ (by omega) ?_ ?_)
        · rw [el]; rfl
        · rw [el]; rfl
    · have f0 : gI h2 12 0 32 ≠ 0 := by rw [f2.2.1]; show (2 : Int) ≠ 0; decide
      have v2 : -1 ≤ gI h2 12 0 31 ∧ gI h2 12 0 31 < 1073741824 := by rw [f2.1.1 12 0 31 (by omega)]; exact vr
      have fin : ok (some ((0 : Int), h2)) (fun _ h' => endP b n 7 s k p (fun F => runE b n F o s t true k p) t h h') := by
        refine ok_some (Or.inl ⟨(2, (tkP b n t : Int)), fl_ew f2, f2.2.1, f2.2.2, ⟨by show (2 : Int) ≠ 0; decide, v2⟩, fun F hF => ?_⟩)
        obtain ⟨F', e, _⟩ := run1 F hF
        show runE b n F o s t true k p = _
        rw [e, run_p, if_neg z1, if_pos z2, if_neg k7]
      have twenty : ∀ (g2 : Nat) (y w : Int), 0 < g2 → ok (g_grpE g2 20 [y, w] h2) (fun _ h' => endP b n 7 s k p (fun F => runE b n F o s t true k p) t h h') := by
        intro g2 y w hg2
        refine s_grpE_20 hg2 ?_
        unfold b_grpE_20
        exact ok_be (p_puts_f f0) (ok_be (p_goOn_f f0) fin)
      have nine : ∀ (g2 : Nat) (y : Int), 2 ≤ g2 → ok (g_grpE g2 19 [x, y] h2) (fun _ h' => endP b n 7 s k p (fun F => runE b n F o s t true k p) t h h') := by
        intro g2 y hg2
        refine s_grpE_19 (by omega) ?_
        unfold b_grpE_19
        exact ok_if (fun u => ok_ck (by omega) (twenty _ _ _ (by omega))) (fun u => twenty _ _ _ (by omega))
      exact ok_if (fun u => nine _ _ (by omega)) (fun u => nine _ _ (by omega))
  have i15 := p_X12_isSign (x := 40) (v := 15) st.1 st.2.1 (by decide) (by decide) (by decide)
  refine s_grpE_12 (by omega) ?_
  unfold b_grpE_12
  refine ok_t st.2.1 (ok_be i15 (ok_if (fun u => ?_) (fun u => ?_)))
  · have n15 : sgT b n t ≠ 15 := fun z => b2i_0.mp u ((sg_K (by decide)).mp z)
    rw [q30]
    by_cases k3 : tkK b n t = 3
    · have ev : (tkV b n t ≤ 99999 → gI h 12 0 31 = tkV b n t) ∧ (99999 < tkV b n t → 99999 < gI h 12 0 31) := st.1.2.2.2.2.2.2.1 k3
      refine ok_t (rk.1.mpr k3) ?_
      refine s_grpE_15 (by omega) ?_
      unfold b_grpE_15
      refine ok_f (by decide) ?_
      by_cases v9 : tkV b n t ≤ 9999
      · refine ok_t (by omega) ?_
        refine s_grpE_16 (by omega) ?_
        unfold b_grpE_16
        exact ok_f (by decide) (good _ 1 (by omega) (Or.inr ⟨rfl, k3, v9⟩))
      · refine ok_f (by omega) (ok_bq (p_X12_wrong (x := 2) st.1 st.2.1) ?_)
        intro _ h2 f
        exact bad _ 1 2 h2 (by omega) (by decide) f (fun F => by rw [run_p, if_pos ⟨k3, by omega⟩])
    · have er : ¬ 20 ≤ kyT b n t → ∀ F, runE b n (F + 1) o s t true k p = .error (1, (tkP b n t : Int)) := fun z F => by
        have hh := hn (by decide)
        rw [run_p, if_neg (by omega), if_neg (by omega), if_neg n15, if_neg (by omega)]
      have svn : ∀ g1 : Nat, 5 ≤ g1 → ¬ 20 ≤ kyT b n t → ok (g_grpE g1 17 [0] h) (fun _ h' => endP b n 7 s k p (fun F => runE b n F o s t true k p) t h h') := by
        intro g1 hg1 z
        refine s_grpE_17 (by omega) ?_
        unfold b_grpE_17
        refine ok_bq (p_X12_wrong (x := 1) st.1 st.2.1) ?_
        intro _ h2 f
        exact bad _ 0 1 h2 (by omega) (by decide) f (er z)
      refine ok_f (fun z => k3 (rk.1.mp z)) ?_
      refine s_grpE_15 (by omega) ?_
      unfold b_grpE_15
      refine ok_t rfl ?_
      refine s_grpE_16 (by omega) ?_
      unfold b_grpE_16
      rw [q30]
      refine ok_t rfl ?_
      by_cases k2 : tkK b n t = 2
      · have e31 : gI h 12 0 31 = tkV b n t := st.1.2.2.2.2.2.1 (Or.inr k2)
        have ek : kyT b n t = tkV b n t := if_pos k2
        rw [e31]
        exact ok_t (rk.2.1.mpr k2) (ok_if (fun y => good _ 0 (by omega) (Or.inl ⟨rfl, k2, by omega⟩)) (fun y => svn _ (by omega) (by omega)))
      · have ek : kyT b n t = -1 := if_neg k2
        exact ok_f (fun z => k2 (rk.2.1.mp z)) (svn _ (by omega) (by omega))
  · have ev : sgT b n t = 15 := (sg_K (by decide)).mpr (b2i_n.mp u)
    have k4 : tkK b n t = 4 := (b2i_n.mp u).1
    have ek : kyT b n t = -1 := if_neg (by omega)
    have e36 : gI h 12 0 36 = (p : Int) := st.2.2.2.1
    have r1 : ∀ F, runE b n (F + 1) o s t true k p = if p < 8 then runE b n F o (15 :: s) (t + 1) true k (p + 1) else .error (2, (tkP b n t : Int)) := fun F => by
      rw [run_p, if_neg (by omega), if_neg (by omega), if_pos ev]
    rw [e36]
    refine ok_if (fun p8 => ?_) (fun p8 => ?_)
    · refine ok_bq (p_X12_wrong (x := 2) st.1 st.2.1) ?_
      intro _ h2 f
      have f0 : gI h2 12 0 32 ≠ 0 := by rw [f.2.1]; show (2 : Int) ≠ 0; decide
      refine s_grpE_13 (by omega) ?_
      unfold b_grpE_13
      refine ok_f f0 (ok_some (Or.inl ⟨(2, (tkP b n t : Int)), fl_ew f, f.2.1, f.2.2, ⟨by show (2 : Int) ≠ 0; decide, by rw [f.1.1 12 0 31 (by omega)]; exact vr⟩, fun F hF => ?_⟩))
      obtain ⟨F', e, _⟩ := run1 F hF
      show runE b n F o s t true k p = _
      rw [e, r1, if_neg (by omega)]
    · refine s_grpE_13 (by omega) ?_
      unfold b_grpE_13
      rw [e36]
      refine ok_t st.2.1 (ok_ck (by omega) (ok_lt ?_))
      have F1 : Fr (fun r _ k => r = 12 ∧ k = 36) h (sI h 12 0 36 ((p : Int) + 1)) := fr_sI fr_rf (by omega)
      have st1 : rfE (sI h 12 0 36 ((p : Int) + 1)) b n t o k (p + 1) := ⟨rdR_fr F1 (by intro r k; omega) st.1, (F1.1 12 0 32 (by omega)).trans st.2.1, ouR_e (F1.1 61 0 29 (by omega)) (fun r k z => F1.1 r 0 k (by omega)) st.2.2.1, by rw [gI_eq]; omega, (F1.1 12 0 37 (by omega)).trans st.2.2.2.2.1, (F1.1 12 0 33 (by omega)).trans st.2.2.2.2.2⟩
      generalize sI h 12 0 36 ((p : Int) + 1) = h1 at F1 st1
      refine ok_bq (p_token_t st1.1) ?_
      intro _ h3 ⟨f3, r3⟩
      have st3 := rfE_go st1 f3 r3
      have G3 : Fr EwR h h3 := fr_tr (fr_mo F1 (by intro r i k; unfold EwR; omega)) (fr_mo f3 to_ew)
      have I' : eI o (15 :: s) k (p + 1) := ⟨by show o.length + ((if (15 : Int) = 15 then 0 else 1) + nO s) ≤ k; rw [if_pos rfl]; omega, I2, by show (if (15 : Int) = 15 then 1 else 0) + nB s = p + 1; rw [if_pos rfl]; omega, by omega, Or.inl rfl, I5⟩
      refine ok_bq (ihe (t + 1) o (15 :: s) k (p + 1) _ h3 (by omega) (lt8 (by omega)) st3 I' (by show rkF 15 < 1; decide) (fun z => absurd z (by decide)) (by omega)) ?_
      intro _ h5 z5
      have r2 : ∀ F, 801 ≤ F + t → ∃ F', 801 ≤ F' + (t + 1) ∧ runE b n F o s t true k p = runE b n F' o (15 :: s) (t + 1) true k (p + 1) := fun F hF => by
        obtain ⟨F', e, e2⟩ := run1 F hF
        exact ⟨F', e2, by rw [e, r1, if_pos (by omega)]⟩
      have flt : ∀ (g1 : Nat) (h6 : Hp) (e : Int × Int), 0 < g1 → Fr EwR h h6 → gI h6 12 0 32 = e.1 → gI h6 12 0 33 = e.2 → nzv h6 e → (∀ F, 801 ≤ F + t → runE b n F o s t true k p = .error e) → ok (g_grpE g1 14 [] h6) (fun _ h' => endP b n 7 s k p (fun F => runE b n F o s t true k p) t h h') := by
        intro g1 h6 e hg1 f6 e1 e2 e3 e4
        refine s_grpE_14 hg1 ?_
        unfold b_grpE_14
        exact ok_f (by rw [e1]; exact e3.1) (ok_some (Or.inl ⟨e, f6, e1, e2, e3, e4⟩))
      rcases z5 with ⟨e, F5, e1, e2, e3, e4⟩ | ⟨t', k', o1, P, F5, st5, a1, a2, a3, a4, a5, a6, a7⟩
      · refine ok_f (by rw [e1]; exact e3.1) (flt _ h5 e (by omega) (fr_tr G3 F5) e1 e2 e3 (fun F hF => ?_))
        obtain ⟨F', y1, y2⟩ := r2 F hF
        rw [y2]; exact e4 F' y1
      · have r5 : ∀ F, 801 ≤ F + t → ∃ F', 801 ≤ F' + (t' + 1) ∧ runE b n F o s t true k p = runE b n (F' + 1) o1 (P ++ 15 :: s) t' false k' (p + 1) := fun F hF => by
          obtain ⟨F', y1, y2⟩ := r2 F hF
          obtain ⟨F2, y3, y4⟩ := a7 F' y1
          cases F2 with
          | zero => omega
          | succ F2 => exact ⟨F2, by omega, by rw [y2]; exact y4⟩
        have pI := psh_I (s := 15 :: s) P o1 (fun x hx => by have := a4 x hx; omega)
        have nb : nB (15 :: s) = 1 + nB s := by show (if (15 : Int) = 15 then 1 else 0) + nB s = _; rw [if_pos rfl]
        have no : nO (15 :: s) = nO s := by show (if (15 : Int) = 15 then 0 else 1) + nO s = _; rw [if_pos rfl]; omega
        have J1 := a5.1
        have J2 := a5.2.1
        have J3 := a5.2.2.1
        have J5 := pI.2.2 a5.2.2.2.2
        refine ok_t st5.2.1 (ok_be (p_X12_isSign (x := 41) (v := 16) st5.1 st5.2.1 (by decide) (by decide) (by decide)) (ok_if (fun u2 => ?_) (fun u2 => ?_)))
        · have n16 : sgT b n t' ≠ 16 := fun z => b2i_0.mp u2 ((sg_K (by decide)).mp z)
          refine ok_bq (p_X12_wrong (x := 1) st5.1 st5.2.1) ?_
          intro _ h6 f6
          refine flt _ h6 (1, (tkP b n t' : Int)) (by omega) (fr_tr G3 (fr_tr F5 (fl_ew f6))) f6.2.1 f6.2.2 ⟨by show (1 : Int) ≠ 0; decide, by rw [f6.1.1 12 0 31 (by omega)]; exact st5.1.2.2.1⟩ (fun F hF => ?_)
          obtain ⟨F', y1, y2⟩ := r5 F hF
          rw [y2]
          exact run_1 a6 n16 (by omega) F'
        · have ev2 : sgT b n t' = 16 := (sg_K (by decide)).mpr (b2i_n.mp u2)
          have t82 : t' + 1 ≤ 800 := by
            by_cases y : t' + 1 ≤ 800
            · exact y
            · exact absurd (tk_end n8 (by omega)) (sg_0 (b := b) (n := n) (t := t') (by omega))
          refine s_grpE_14 (by omega) ?_
          unfold b_grpE_14
          have e5 : gI h5 12 0 36 = ((p + 1 : Nat) : Int) := st5.2.2.2.1
          rw [e5]
          refine ok_t st5.2.1 (ok_ck (by omega) (ok_lt ?_))
          have F6 : Fr (fun r _ k => r = 12 ∧ k = 36) h5 (sI h5 12 0 36 (((p + 1 : Nat) : Int) - 1)) := fr_sI fr_rf (by omega)
          have st6 : rfE (sI h5 12 0 36 (((p + 1 : Nat) : Int) - 1)) b n t' (psh P o1) k' p := ⟨rdR_fr F6 (by intro r k; omega) st5.1, (F6.1 12 0 32 (by omega)).trans st5.2.1, ouR_e (F6.1 61 0 29 (by omega)) (fun r k z => F6.1 r 0 k (by omega)) st5.2.2.1, by rw [gI_eq]; omega, (F6.1 12 0 37 (by omega)).trans st5.2.2.2.2.1, (F6.1 12 0 33 (by omega)).trans st5.2.2.2.2.2⟩
          generalize sI h5 12 0 36 (((p + 1 : Nat) : Int) - 1) = h6 at F6 st6
          refine ok_bq (p_token_t st6.1) ?_
          intro _ h7 ⟨f7, r7⟩
          refine ok_some (Or.inr ⟨t' + 1, k', psh P o1, [], fr_tr G3 (fr_tr F5 (fr_tr (fr_mo F6 (by intro r i k; unfold EwR; omega)) (fr_mo f7 to_ew))), rfE_go st6 f7 r7, by omega, t82, a3, fun x hx => (by cases hx), ⟨by show (psh P o1).length + nO s ≤ k'; omega, J2, by show nB s = p; omega, I4, J5.2⟩, ⟨fun z => absurd z (by decide), fun z => absurd z (by decide), fun z => absurd z (by decide), fun z => absurd z (by decide), fun z => absurd z (by decide)⟩, fun F hF => ?_⟩)
          obtain ⟨F', y1, y2⟩ := r5 F hF
          refine ⟨F', y1, ?_⟩
          show runE b n F o s t true k p = _
          rw [y2, run_s, ev2, if_neg (by decide), if_pos rfl, if_pos (by omega), rel_psh P o1 (15 :: s) a4, rel_st (show rkT (15 :: s) < 1 by show rkF 15 < 1; decide)]
          rfl
theorem lv_all (n8 : n ≤ 800) : ∀ d : Nat, Lv b n d 0 1 1 13 ∧ Lv b n d 2 2 2 12 ∧ Lv b n d 4 3 4 11 ∧ Lv b n d 6 5 5 10 ∧ Lv b n d 9 6 6 9 ∧ Lv b n d 12 7 7 8
  | 0 => by
    have z : ∀ (ent : Nat) (L top : Int) (cL : Nat), Lv b n 0 ent L top cL := by
      intro ent L top cL t o s k p g h hd t8
      omega
    exact ⟨z _ _ _ _, z _ _ _ _, z _ _ _ _, z _ _ _ _, z _ _ _ _, z _ _ _ _⟩
  | d + 1 => by
    obtain ⟨i0, i2, i4, i6, i9, i12⟩ := lv_all n8 d
    have p12 := lv12 n8 i0
    have p9 := lv9 n8 p12 i12
    have p6 := lv6 n8 p9 i9
    have p4 := lv4 n8 p6 i4 i6
    have p2 := lv2 n8 p4 i4
    exact ⟨lv0 n8 p2 i2, p2, p4, p6, p9, p12⟩
end
theorem exv {h : Hp} {Q : Int → Hp → Prop} (k : ∀ g : Nat, 605 ≤ g → ok (g_grpE g 0 [] h) Q) : ok (f_X12_expression h) Q := k 1000 (by decide)
/-- the reference's E against the machine: where the machine's fault comes behind E, the reference ends without one -/
def exR (b : Int → Int) (n : Nat) (t k : Nat) (h h' : Hp) : Er → Prop
  | .ok r => Fr EwR h h' ∧ rfE h' b n r.2.1 r.1 r.2.2 0 ∧ t < r.2.1 ∧ r.2.1 ≤ 800 ∧ k ≤ r.2.2 ∧ r.1.length ≤ r.2.2 ∧ r.2.2 ≤ 64
  | .error e => (Fr EwR h h' ∧ gI h' 12 0 32 = e.1 ∧ gI h' 12 0 33 = e.2 ∧ nzv h' e) ∨ ∃ (t' k' : Nat) (o' : List (Int × Int)), Fr EwR h h' ∧ rfE h' b n t' o' k' 0 ∧ e = (1, (tkP b n t' : Int)) ∧ sgT b n t' ≠ 17 ∧ o'.length ≤ 64
theorem p_X12_expression {b : Int → Int} {n t k : Nat} {o : List (Int × Int)} {h : Hp} (n8 : n ≤ 800) (t8 : t ≤ 800) (st : rfE h b n t o k 0) (l : o.length ≤ k) (k6 : k ≤ 64) : ok (f_X12_expression h) (fun _ h' => exR b n t k h h' (runE b n 801 o [] t true k 0)) := by
  refine exv (fun g hg => ?_)
  refine ok_mono ((lv_all n8 801).1 t o [] k 0 g h (by omega) t8 st ⟨by show o.length + 0 ≤ k; omega, k6, rfl, by omega, trivial⟩ (by decide) (fun z => absurd z (by decide)) (by omega)) ?_
  intro _ h' z
  rcases z with ⟨e, F5, e1, e2, e3, e4⟩ | ⟨t', k', o1, P, F5, st5, a1, a2, a3, a4, a5, a6, a7⟩
  · have e5 : runE b n 801 o [] t true k 0 = .error e := e4 801 (by omega)
    rw [e5]
    exact Or.inl ⟨F5, e1, e2, e3⟩
  · obtain ⟨F', y1, y2⟩ := a7 801 (by omega)
    have y3 : runE b n 801 o [] t true k 0 = runE b n F' o1 (P ++ []) t' false k' 0 := y2
    have pI := psh_I (s := []) P o1 (fun x hx => by have := a4 x hx; omega)
    have J1 := a5.1
    have J2 := a5.2.1
    have n0 : nO [] = 0 := rfl
    cases F' with
    | zero => omega
    | succ F' =>
      by_cases sg : sgT b n t' = -1 ∨ sgT b n t' = 4 ∨ sgT b n t' = 15 ∨ sgT b n t' = 17
      · have y4 : runE b n 801 o [] t true k 0 = .ok (psh P o1, t', k') := by
          rw [y3, run_s, if_pos sg, if_pos rfl, rel_psh P o1 [] a4]
          rfl
        rw [y4]
        exact ⟨F5, st5, a1, a2, a3, by show (psh P o1).length ≤ k'; omega, J2⟩
      · have y4 : runE b n 801 o [] t true k 0 = .error (1, (tkP b n t' : Int)) := by
          rw [y3]
          by_cases y : sgT b n t' = 16
          · rw [run_s, if_neg sg, if_pos y, if_neg (by decide)]
          · exact run_1' a6 y sg F'
        rw [y4]
        exact Or.inr ⟨t', k', psh P o1, F5, st5, rfl, by omega, by omega⟩
