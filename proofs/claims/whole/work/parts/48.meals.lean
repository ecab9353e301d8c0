/-! MEALS -/
def mlX (C V X : Ch) : Ch := fun f i => match f with
  | 0 => if i = V 0 0 then wnr C V (-1) (-1) (V 4) false else X 0 i
  | 1 => if i = V 0 0 then eaF C V (-1) (-1) (V 4) else X 1 i
  | 2 => if i = V 0 0 then ctF C V (wnr C V (-1) (-1) (V 4) false) else X 2 i
  | 3 => if i = V 0 0 then stF C V (-1) false else X 3 i
  | 4 => if 8 * V 0 0 ≤ i ∧ i < 8 * V 0 0 + 8 then V 4 (i - 8 * V 0 0) else X 4 i
  | 25 => min 20 (X 25 0 + 1)
  | _ => X f i
/-- the k-th to undo behind a meal -/
def mlU (σ : Sg) (j : Nat) : Ch := if sX σ 25 0 = 20 then (if j = 19 then sV σ 0 else sV σ (j + 3)) else (if (j : Int) = sX σ 25 0 then sV σ 0 else sV σ (j + 2))
def mlS (σ : Sg) : Sg := (σ.1, fun j => match j with
  | 0 => hdV σ.1 (σ.2.1 0) (-1) (-1) (σ.2.1 0 4) false
  | 1 => σ.2.1 1
  | j + 2 => mlU σ j, mlX σ.1 (σ.2.1 0) σ.2.2)
def itS : Nat → Sg → Sg
  | 0, σ => σ
  | n + 1, σ => itS n (mlS σ)
theorem rnF_r {C V : Ch} {tw : Int} {st : Bool} (h1 : 0 ≤ V 3 0) (h2 : V 3 0 < 2147483648) : 0 ≤ rnF C V tw st ∧ rnF C V tw st < 2147483648 := by
  have a := lcg_r (V 3 0)
  have b := lcg_r (lcg (V 3 0))
  unfold rnF
  split
  · split <;> omega
  · omega
theorem sw_ml {σ : Sg} (w : SW σ) (hm : sV σ 0 0 0 < 60) : SW (mlS σ) := by
  obtain ⟨w1, w2, w3, w4, w5, w6, w7, w8, w9⟩ := w
  have vm := vw_m w2.1
  refine ⟨w1, ⟨slV_w w1 w2.1 hm _, rnF_r w2.2.1 w2.2.2⟩, ?_, fun k k1 => ?_, w5, w6, w7, w8, w9⟩
  · show 0 ≤ min 20 (sX σ 25 0 + 1) ∧ min 20 (sX σ 25 0 + 1) ≤ 20 ∧ min 20 (sX σ 25 0 + 1) ≤ sV σ 0 0 0 + 1
    omega
  · have k1 : (k : Int) < min 20 (sX σ 25 0 + 1) := k1
    show VWF (sC σ) (mlU σ k) ∧ mlU σ k 0 0 = sV σ 0 0 0 + 1 - min 20 (sX σ 25 0 + 1) + k
    unfold mlU
    by_cases y : sX σ 25 0 = 20
    · rw [if_pos y]
      by_cases y2 : k = 19
      · rw [if_pos y2]; exact ⟨w2, by omega⟩
      · rw [if_neg y2]
        obtain ⟨a, b⟩ := w4 (k + 1) (by omega)
        exact ⟨a, by rw [show k + 3 = k + 1 + 2 from rfl, b]; omega⟩
    · rw [if_neg y]
      by_cases y2 : (k : Int) = sX σ 25 0
      · rw [if_pos y2]; exact ⟨w2, by omega⟩
      · rw [if_neg y2]
        obtain ⟨a, b⟩ := w4 k (by omega)
        exact ⟨a, by rw [b]; omega⟩
set_option maxHeartbeats 8000000 in
theorem p_holdMeal {h : Hp} {c : Int} {σ : Sg} (w : SW σ) (q : IC h c σ) (hm : sV σ 0 0 0 < 60) : ok (f_X11_holdMeal h) (fun _ h' => IC h' c (mlS σ) ∧ FrX ClW h h') := by
  have wC := sw_C w
  have ez := sz_r wC
  have vw := sw_V w
  have vm := vw_m vw.1
  have uu := sw_U w
  have kv := q.2.2.1
  have kg := q.2.2.2.1
  have e0 := iv_0 kv.1
  have e10 := q.2.2.2.2.2.1.1
  have rr := q.2.1.1 (sV σ 0 0 0 % 20) (by omega) (by omega)
  refine fuv_X11_holdMeal (fun n hn => ?_)
  refine s_X11_holdMeal_0 (by omega) ?_
  unfold b_X11_holdMeal_0
  rw [e0]
  refine ok_lt (ok_f (by omega) (ok_t hm (ok_ck (by omega) (ok_ck (by omega) (ok_rf rr (ok_bq (p_X10_copyFrom (show (0 : Int) ≠ 1 + sV σ 0 0 0 % 20 by omega)) ?_))))))
  intro _ h4 ⟨f1, f2, f3⟩
  rw [f1.1 11 0 10 (by unfold VoW; omega), e10]
  refine ok_ck (by omega) (ok_lt ?_)
  have t5 : ∀ (r : Nat) (i k : Int), ¬ (((r = 10 ∨ r = 57) ∧ i = 1 + sV σ 0 0 0 % 20) ∨ (r = 11 ∧ k = 10)) → gI (sI h4 11 0 10 (min 20 (sX σ 25 0 + 1))) r i k = gI h r i k := by
    intro r i k z
    rw [gI_sI, if_neg (by omega), f1.1 r i k (by unfold VoW; omega)]
  have e5 : (sI h4 11 0 10 (min 20 (sX σ 25 0 + 1))).2 = h.2 := f1.2
  have hx5 := CX_eq (fun r i k z => t5 r i k (by unfold inC at z; omega)) e5 q.1.2.2.2
  have hv5 : isVF (sC σ) (sI h4 11 0 10 (min 20 (sX σ 25 0 + 1))) 0 (sV σ 0) := isVF_eq (fun k => t5 10 0 k (by omega)) (fun k => t5 57 0 k (by omega)) kv
  refine ok_bq (p_X2_hold (tw := -1) (ta := -1) (F := sV σ 0 4) hx5 hv5.1 hv5.2.1 vw.2.1 vw.2.2 vw.1 hm hv5.2.2 ((t5 2 0 1 (by omega)).trans kg.1) (fun u => by omega)) ?_
  intro v6 h7 ⟨g1, g2, g3, g4, g5, g6, g7⟩
  have z6 : 0 ≤ sV σ 0 0 0 ∧ sV σ 0 0 0 < 60 := by omega
  refine ok_ck z6 (ok_lt (ok_ck z6 (ok_lt (ok_ck z6 (ok_lt (ok_ck z6 (ok_lt (ok_ck z6 (ok_lt (ok_lt ?_))))))))))
  simp only [gI_nr (show (2 : Nat) ≠ 34 by decide), gI_nr (show (10 : Nat) ≠ 34 by decide), gI_nr (show (10 : Nat) ≠ 35 by decide), gI_nr (show (2 : Nat) ≠ 35 by decide), gI_nr (show (2 : Nat) ≠ 36 by decide), gI_nr (show (10 : Nat) ≠ 36 by decide), gI_nr (show (10 : Nat) ≠ 37 by decide), g1, g5, g6, iv_1 g3]
  generalize hH : sI (sI (sI (sI (sI (sI h7 34 0 (sV σ 0 0 0) _) 35 0 (sV σ 0 0 0) _) 36 0 (sV σ 0 0 0) _) 37 0 (sV σ 0 0 0) _) 38 0 (sV σ 0 0 0) _) 11 0 16 (-1) = H
  have t7 : ∀ (r : Nat) (i k : Int), ¬ ((34 ≤ r ∧ r ≤ 38 ∧ i = 0 ∧ k = sV σ 0 0 0) ∨ (r = 11 ∧ k = 16)) → gI H r i k = gI h7 r i k := by
    intro r i k z
    rw [← hH, gI_sI, if_neg (by omega), gI_sI, if_neg (by omega), gI_sI, if_neg (by omega), gI_sI, if_neg (by omega), gI_sI, if_neg (by omega), gI_sI, if_neg (by omega)]
  have e : ∀ (r : Nat) (i k : Int), ¬ (((r = 10 ∨ r = 57) ∧ i = 1 + sV σ 0 0 0 % 20) ∨ (r = 11 ∧ (k = 10 ∨ k = 16)) ∨ (27 ≤ r ∧ r ≤ 31) ∨ (r = 2 ∧ (k = 7 ∨ k = 8 ∨ k = 10)) ∨ (i = 0 ∧ ((r = 10 ∧ k ≠ 4 ∧ k ≠ 5) ∨ r = 57)) ∨ (34 ≤ r ∧ r ≤ 38 ∧ i = 0 ∧ k = sV σ 0 0 0)) → gI H r i k = gI h r i k := by
    intro r i k z
    rw [t7 r i k (by omega), g2.1 r i k (by unfold HoW; omega), t5 r i k (by omega)]
  have e2 : H.2 = h.2 := by rw [← hH]; exact g2.2.trans e5
  have l34 : gI H 34 0 (sV σ 0 0 0) = wnr (sC σ) (sV σ 0) (-1) (-1) (sV σ 0 4) false := by rw [← hH, gI_nr (by decide), gI_nr (by decide), gI_nr (by decide), gI_nr (by decide), gI_nr (by decide), gI_eq]
  have l35 : gI H 35 0 (sV σ 0 0 0) = eaF (sC σ) (sV σ 0) (-1) (-1) (sV σ 0 4) := by rw [← hH, gI_nr (by decide), gI_nr (by decide), gI_nr (by decide), gI_nr (by decide), gI_eq]
  have l36 : gI H 36 0 (sV σ 0 0 0) = ctF (sC σ) (sV σ 0) (wnr (sC σ) (sV σ 0) (-1) (-1) (sV σ 0 4) false) := by rw [← hH, gI_nr (by decide), gI_nr (by decide), gI_nr (by decide), gI_eq]; rfl
  have l37 : gI H 37 0 (sV σ 0 0 0) = stF (sC σ) (sV σ 0) (-1) false := by rw [← hH, gI_nr (by decide), gI_nr (by decide), gI_eq]
  have l38 : gI H 38 0 (sV σ 0 0 0) = gI h 10 0 4 := by
    rw [← hH, gI_nr (by decide), gI_eq, g2.1 10 0 4 (by unfold HoW; omega), t5 10 0 4 (by omega)]
  have g16 : gI H 11 0 16 = -1 := by rw [← hH, gI_eq]
  have g10 : gI H 11 0 10 = min 20 (sX σ 25 0 + 1) := by rw [t7 11 0 10 (by omega), g2.1 11 0 10 (by unfold HoW; omega), gI_eq]
  clear hH
  refine ok_some ⟨?_, fun r i k z => e r i k (by unfold ClW at z; omega)⟩
  obtain ⟨q1, q2, q3, q4, q5, q6, q7, q8, q9, q10, q11⟩ := q
  have nv : kV H (mlS σ) := by
    refine ⟨isV_eq (fun k => t7 10 0 k (by omega)) (fun k => t7 57 0 k (by omega)) g3, (t7 10 0 3 (by omega)).trans g4, fun i i1 i2 => ?_⟩
    rw [e 10 0 4 (by omega)]
    exact q3.2.2 i i1 i2
  have ng : kG H := ⟨(e 2 0 1 (by omega)).trans q4.1, (t7 2 0 10 (by omega)).trans g7⟩
  have nl : kL H (mlS σ) := by
    intro t t1 t2
    have t2 : t < sV σ 0 0 0 + 1 := t2
    show gI H 34 0 t = (if t = sV σ 0 0 0 then _ else sX σ 0 t) ∧ gI H 35 0 t = (if t = sV σ 0 0 0 then _ else sX σ 1 t) ∧ gI H 36 0 t = (if t = sV σ 0 0 0 then _ else sX σ 2 t) ∧ gI H 37 0 t = (if t = sV σ 0 0 0 then _ else sX σ 3 t) ∧ ∀ i, 0 ≤ i → i < sC σ 20 0 → bit (gI H 38 0 t) i = (if 8 * sV σ 0 0 0 ≤ 8 * t + i ∧ 8 * t + i < 8 * sV σ 0 0 0 + 8 then sV σ 0 4 (8 * t + i - 8 * sV σ 0 0 0) else sX σ 4 (8 * t + i))
    by_cases y : t = sV σ 0 0 0
    · rw [if_pos y, if_pos y, if_pos y, if_pos y, y]
      refine ⟨l34, l35, l36, l37, fun i i1 i2 => ?_⟩
      rw [if_pos (by omega), l38, show 8 * sV σ 0 0 0 + i - 8 * sV σ 0 0 0 = i by omega]
      exact q3.2.2 i i1 i2
    · rw [if_neg y, if_neg y, if_neg y, if_neg y]
      obtain ⟨a0, a1, a2, a3, a4⟩ := q5 t t1 (by omega)
      refine ⟨(e 34 0 t (by omega)).trans a0, (e 35 0 t (by omega)).trans a1, (e 36 0 t (by omega)).trans a2, (e 37 0 t (by omega)).trans a3, fun i i1 i2 => ?_⟩
      rw [if_neg (by omega), e 38 0 t (by omega)]
      exact a4 i i1 i2
  have cpy : isVF (sC σ) H (1 + sV σ 0 0 0 % 20) (sV σ 0) := by
    refine isVF_cp wC (u := 0) (h := h) (fun k k1 k2 => ?_) (fun k k1 k2 => ?_) q3
    · rw [t7 10 _ k (by omega), g2.1 10 _ k (by unfold HoW; omega), gI_nr (by decide)]; exact f2 k k1 k2
    · rw [t7 57 _ k (by omega), g2.1 57 _ k (by unfold HoW; omega), gI_nr (by decide)]; exact f3 k k1 k2
  have old : ∀ v, 1 ≤ v → v ≠ 1 + sV σ 0 0 0 % 20 → ∀ V, isVF (sC σ) h v V → isVF (sC σ) H v V := fun v v1 v2 V z => isVF_eq (fun k => e 10 v k (by omega)) (fun k => e 57 v k (by omega)) z
  have nu : kU H (mlS σ) := by
    refine ⟨g10, fun k k1 => ?_⟩
    have k1 : (k : Int) < min 20 (sX σ 25 0 + 1) := k1
    show isVF (sC σ) H (1 + (sV σ 0 0 0 + 1 - min 20 (sX σ 25 0 + 1) + k) % 20) (mlU σ k)
    unfold mlU
    by_cases y : sX σ 25 0 = 20
    · rw [if_pos y]
      by_cases y2 : k = 19
      · rw [if_pos y2, show (sV σ 0 0 0 + 1 - min 20 (sX σ 25 0 + 1) + (k : Int)) = sV σ 0 0 0 by omega]; exact cpy
      · rw [if_neg y2, show (sV σ 0 0 0 + 1 - min 20 (sX σ 25 0 + 1) + (k : Int)) = sV σ 0 0 0 - sX σ 25 0 + ((k + 1 : Nat) : Int) by omega]
        exact old _ (by omega) (by omega) _ (q6.2 (k + 1) (by omega))
    · rw [if_neg y]
      by_cases y2 : (k : Int) = sX σ 25 0
      · rw [if_pos y2, show (sV σ 0 0 0 + 1 - min 20 (sX σ 25 0 + 1) + (k : Int)) = sV σ 0 0 0 by omega]; exact cpy
      · rw [if_neg y2, show (sV σ 0 0 0 + 1 - min 20 (sX σ 25 0 + 1) + (k : Int)) = sV σ 0 0 0 - sX σ 25 0 + (k : Int) by omega]
        exact old _ (by omega) (by omega) _ (q6.2 k (by omega))
  exact ⟨kA_e (fun r i k z => e r i k (by unfold inC at z; omega)) e2 q1, kR_e e2 q2, nv, ng, nl, nu, kI_e (e 11 0 13 (by omega)) (fun k => e 10 21 k (by omega)) (fun k => e 57 21 k (by omega)) (fun r k a b => e r 1 k (by omega)) q7, kN_e (fun k z => e 5 0 k (by omega)) (fun r k a b => e r 0 k (by omega)) q8, kT_e (e 11 0 1 (by omega)) (fun k => e 58 0 k (by omega)) q9, kF_e (fun k z => e 7 0 k (by omega)) q10, Or.inl g16⟩
def KpW : Nat → Int → Int → Prop := fun r _ k => (r = 12 ∧ k = 54) ∨ (84 ≤ r ∧ r ≤ 90 ∧ 3 ≤ k ∧ k < 23) ∨ ((r = 91 ∨ r = 92) ∧ 27 ≤ k ∧ k < 207)
set_option maxHeartbeats 8000000 in
theorem p_keepNow {h : Hp} {σ : Sg} (w : SW σ) (q : IR h σ) : ok (f_X12_keepNow h) (fun _ h' => Fr KpW h h' ∧ B92 h' ∧ gI h' 12 0 54 = min 20 (sX σ 25 0 + 1) ∧ ∀ k : Nat, (k : Int) < min 20 (sX σ 25 0 + 1) → isSF (sC σ) h' (3 + k) (mlU σ k)) := by
  have wC := sw_C w
  have uu := sw_U w
  obtain ⟨q1, q2, q3, q4, q5, q6, q7, q8, q9⟩ := q
  have cs : ∀ {h1 h2 : Hp} {s t k : Int} {V : Ch}, 0 ≤ s → 0 ≤ k → k ≠ s → Fr (ShW s) h1 h2 → isSF (sC σ) h1 k V → isSF (sC σ) h2 k V := by
    intro h1 h2 s t k V s1 k1 k2 f z
    exact isSF_eq wC (fun r a b => f.1 r 0 k (by unfold ShW; omega)) (fun m m1 m2 => ⟨f.1 91 0 _ (by unfold ShW; omega), f.1 92 0 _ (by unfold ShW; omega)⟩) z
  have two : ∀ (n : Nat) (h1 : Hp) (x : Int), 5 ≤ n → 0 ≤ x → x < 20 → x + 1 = min 20 (sX σ 25 0 + 1) → gI h1 12 0 54 = x → Fr KpW h h1 → B92 h1 → (∀ k : Nat, (k : Int) < x → isSF (sC σ) h1 (3 + k) (mlU σ k)) → mlU σ x.toNat = sV σ 0 → ok (g_X12_keepNow n 2 [] h1) (fun _ h' => Fr KpW h h' ∧ B92 h' ∧ gI h' 12 0 54 = min 20 (sX σ 25 0 + 1) ∧ ∀ k : Nat, (k : Int) < min 20 (sX σ 25 0 + 1) → isSF (sC σ) h' (3 + k) (mlU σ k)) := by
    intro n h1 x hn x1 x2 x3 e54 hF b hk hu
    refine s_X12_keepNow_2 (by omega) ?_
    unfold b_X12_keepNow_2
    rw [e54]
    refine ok_ck (by omega) (ok_bq (p_X12_copies b (show (0 : Int) ≠ 3 + x by omega) (by omega) (by omega) (by decide) (by decide)) ?_)
    intro _ h2 ⟨f1, fb, f2, f3⟩
    rw [f1.1 12 0 54 (by unfold ShW; omega), e54]
    have z0 : isSF (sC σ) h1 0 (sV σ 0) := isSF_eq wC (fun r a b => hF.1 r 0 0 (by unfold KpW; omega)) (fun m m1 m2 => ⟨hF.1 91 0 _ (by unfold KpW; omega), hF.1 92 0 _ (by unfold KpW; omega)⟩) q3
    refine ok_ck (by omega) (ok_lt (ok_some ⟨fr_sI (fr_tr hF (fr_mo f1 (fun r i k y => by unfold ShW at y; unfold KpW; omega))) (by unfold KpW; omega), B92_e (fun k => gI_nr (by decide)) fb, by rw [gI_eq]; exact x3, fun k k1 => ?_⟩))
    have last : isSF (sC σ) h2 (3 + k) (mlU σ k) → isSF (sC σ) (sI h2 12 0 54 (x + 1)) (3 + k) (mlU σ k) := fun z => isSF_eq wC (fun r a b => gI_nr (by omega)) (fun m m1 m2 => ⟨gI_nr (by decide), gI_nr (by decide)⟩) z
    refine last ?_
    by_cases y : (k : Int) = x
    · have ek : mlU σ k = sV σ 0 := by rw [show k = x.toNat by omega]; exact hu
      rw [ek, y]
      exact isSF_cp wC f2 f3 z0
    · exact cs (t := 0) (by omega) (by omega) (by omega) f1 (hk k (by omega))
  refine fuv_X12_keepNow (fun n hn => ?_)
  refine s_X12_keepNow_0 (by omega) ?_
  unfold b_X12_keepNow_0
  rw [q5.1]
  refine ok_if (fun y => ?_) (fun y => ?_)
  · have key : ∀ (d n : Nat) (h1 : Hp) (x : Int), (20 - x).toNat = d → 1 ≤ x → x ≤ 20 → 2 * d + 20 ≤ n → Fr KpW h h1 → B92 h1 → gI h1 12 0 54 = 20 → (∀ k : Nat, (k : Int) < x - 1 → isSF (sC σ) h1 (3 + k) (sV σ (k + 3))) → (∀ k : Nat, x - 1 ≤ (k : Int) → k < 20 → isSF (sC σ) h1 (3 + k) (sV σ (k + 2))) → ok (g_X12_keepNow n 1 [x] h1) (fun _ h' => Fr KpW h h' ∧ B92 h' ∧ gI h' 12 0 54 = min 20 (sX σ 25 0 + 1) ∧ ∀ k : Nat, (k : Int) < min 20 (sX σ 25 0 + 1) → isSF (sC σ) h' (3 + k) (mlU σ k)) := by
      intro d
      induction d with
      | zero =>
        intro n h1 x hd x1 x2 hn hF b e54 h1a h1b
        refine s_X12_keepNow_1 (by omega) ?_
        unfold b_X12_keepNow_1
        rw [e54]
        refine ok_t (by omega) (ok_ck (by omega) (ok_lt (two _ _ 19 (by omega) (by omega) (by omega) (by omega) gI_eq (fr_sI hF (by unfold KpW; omega)) (B92_e (fun k => gI_nr (by decide)) b) (fun k k1 => ?_) ?_)))
        · have e : mlU σ k = sV σ (k + 3) := by unfold mlU; rw [if_pos y, if_neg (by omega)]
          rw [e]
          exact isSF_eq wC (fun r a b => gI_nr (by omega)) (fun m m1 m2 => ⟨gI_nr (by decide), gI_nr (by decide)⟩) (h1a k (by omega))
        · unfold mlU; rw [if_pos y, if_pos (by decide)]
      | succ d ih =>
        intro n h1 x hd x1 x2 hn hF b e54 h1a h1b
        refine s_X12_keepNow_1 (by omega) ?_
        unfold b_X12_keepNow_1
        refine ok_f (by omega) (ok_ck (by omega) (ok_ck (by omega) (ok_ck (by omega) (ok_bq (p_X12_copies b (show 3 + x ≠ 3 + x - 1 by omega) (by omega) (by omega) (by omega) (by omega)) ?_))))
        intro _ h2 ⟨f1, fb, f2, f3⟩
        refine ok_ck (by omega) (ih _ _ _ (by omega) (by omega) (by omega) (by omega) (fr_tr hF (fr_mo f1 (fun r i k y => by unfold ShW at y; unfold KpW; omega))) fb ((f1.1 12 0 54 (by unfold ShW; omega)).trans e54) (fun k k1 => ?_) (fun k k1 k2 => ?_))
        · by_cases y2 : (k : Int) = x - 1
          · have z := h1b (k + 1) (by omega) (by omega)
            rw [show (3 + ((k + 1 : Nat) : Int)) = 3 + x by omega] at z
            have z2 := isSF_cp wC f2 f3 z
            rw [show 3 + x - 1 = 3 + (k : Int) by omega] at z2
            exact z2
          · exact cs (t := 0) (by omega) (by omega) (by omega) f1 (h1a k (by omega))
        · exact cs (t := 0) (by omega) (by omega) (by omega) f1 (h1b k (by omega) k2)
    exact key 19 _ _ _ (by omega) (by omega) (by omega) (by omega) fr_rf q2 (q5.1.trans y) (fun k k1 => by omega) (fun k k1 k2 => q5.2 k (by omega))
  · refine two _ _ (sX σ 25 0) (by omega) (by omega) (by omega) (by omega) q5.1 fr_rf q2 (fun k k1 => ?_) ?_
    · have e : mlU σ k = sV σ (k + 2) := by unfold mlU; rw [if_neg y, if_neg (by omega)]
      rw [e]; exact q5.2 k k1
    · unfold mlU; rw [if_neg y, if_pos (by omega)]
theorem B92_pa {h h2 : Hp} {C V V0 : Ch} {s : Int} (w : CW C) (vw : VW C V) (s1 : 0 ≤ s) (f : Fr (PaW C V0 s) h h2) (b : B92 h) (q : isS C h2 s V) : B92 h2 := by
  intro k
  by_cases y : 9 * s ≤ k ∧ k < 9 * s + 9 ∧ thP C (k - 9 * s)
  · obtain ⟨i1, i2, i3⟩ := ix_r w (by omega) y.2.2
    have e := is_6 q _ i1 i2
    rw [i3, show 9 * s + (k - 9 * s) = k by omega] at e
    have := vw_l vw _ i1 i2
    rw [e]; omega
  · rw [f.1 92 0 k (fun z => ?_)]
    · exact b k
    · unfold PaW at z
      rcases z with z | z | z | z | z | z | z | z | z
      · omega
      · omega
      · omega
      · omega
      · omega
      · omega
      · omega
      · exact y z.2
      · omega
set_option maxHeartbeats 8000000 in
theorem p_rMeal {h : Hp} {σ : Sg} (w : SW σ) (q : IR h σ) (hm : sV σ 0 0 0 < 60) (t1 : gI h 12 0 55 = -1) (t3 : gI h 12 0 57 = 0) : ok (bd (f_X12_keepNow h) fun _ h2 => f_X12_passes 0 h2) (fun _ h' => IR h' (mlS σ) ∧ gI h' 12 0 55 = -1 ∧ gI h' 12 0 57 = 0 ∧ Fr ReW h h') := by
  have wC := sw_C w
  have ez := sz_r wC
  have vw := sw_V w
  have vm := vw_m vw.1
  have uu := sw_U w
  refine ok_bq (p_keepNow w q) ?_
  intro _ h2 ⟨f1, fb, f2, f3⟩
  have q' := q
  obtain ⟨q1, q2, q3, q4, q5, q6, q7, q8, q9⟩ := q
  have r2 : isR h2 (sC σ) := isR_eq (fun r k a b => f1.1 r 0 k (by unfold KpW; omega)) q1
  have s2 : isSF (sC σ) h2 0 (sV σ 0) := isSF_eq wC (fun r a b => f1.1 r 0 0 (by unfold KpW; omega)) (fun m m1 m2 => ⟨f1.1 91 0 _ (by unfold KpW; omega), f1.1 92 0 _ (by unfold KpW; omega)⟩) q3
  have t1' : gI h2 12 0 55 = -1 := (f1.1 12 0 55 (by unfold KpW; omega)).trans t1
  have t3' : gI h2 12 0 57 = if false then 1 else 0 := (f1.1 12 0 57 (by unfold KpW; omega)).trans t3
  refine ok_mono (p_X12_passes (tw := -1) (ta := -1) (st := false) (F := sV σ 0 4) r2 wC s2.1 vw.1 hm s2.2.1 ⟨t1', fun u => by omega⟩ t3' (by decide) (by decide) s2.2.2) ?_
  intro _ H ⟨g1, g2, g3, g4, l93, l94, l95, l96, l97⟩
  rw [show (60 : Int) * 0 + sV σ 0 0 0 = sV σ 0 0 0 by omega] at l93 l94 l95 l96 l97
  have nB := B92_pa wC (slV_w (tw := -1) (ta := -1) (F := sV σ 0 4) wC vw.1 hm _) (by decide) g1 fb g2
  have e : ∀ (r : Nat) (i k : Int), ¬ ((r = 12 ∧ (k = 54 ∨ k = 60 ∨ k = 64)) ∨ (84 ≤ r ∧ r ≤ 90 ∧ 3 ≤ k ∧ k < 23) ∨ ((r = 91 ∨ r = 92) ∧ 27 ≤ k ∧ k < 207) ∨ (98 ≤ r ∧ r ≤ 102) ∨ (k = 0 ∧ (r = 84 ∨ r = 85 ∨ r = 86 ∨ r = 87 ∨ r = 88)) ∨ ((r = 91 ∨ r = 92) ∧ 0 ≤ k ∧ k < 9) ∨ (93 ≤ r ∧ r ≤ 97 ∧ 0 ≤ k ∧ k < 60)) → gI H r i k = gI h r i k := by
    intro r i k z
    rw [g1.1 r i k (by unfold PaW; omega), f1.1 r i k (by unfold KpW; omega)]
  have fr : Fr ReW h H := fr_tr (fr_mo f1 (fun r i k y => by unfold KpW at y; unfold ReW; omega)) (fr_mo g1 (fun r i k y => by unfold PaW at y; unfold ReW; omega))
  have nv : rV H (mlS σ) := by
    refine ⟨g2, g3, fun i i1 i2 => ?_⟩
    rw [e 89 0 0 (by omega)]
    exact q3.2.2 i i1 i2
  have lo : ∀ (r : Nat) (t : Int), 93 ≤ r → r ≤ 97 → 0 ≤ t → t < 60 → t ≠ sV σ 0 0 0 → gI H r 0 (60 * 0 + t) = gI h r 0 (60 * 0 + t) := by
    intro r t a1 a2 a3 a4 a5
    exact (g1.1 r 0 _ (by unfold PaW; omega)).trans (f1.1 r 0 _ (by unfold KpW; omega))
  have nl : rL H (mlS σ) := by
    intro t t1 t2
    have t2 : t < sV σ 0 0 0 + 1 := t2
    show gI H 93 0 (60 * 0 + t) = (if t = sV σ 0 0 0 then _ else sX σ 0 t) ∧ gI H 94 0 (60 * 0 + t) = (if t = sV σ 0 0 0 then _ else sX σ 1 t) ∧ gI H 95 0 (60 * 0 + t) = (if t = sV σ 0 0 0 then _ else sX σ 2 t) ∧ gI H 96 0 (60 * 0 + t) = (if t = sV σ 0 0 0 then _ else sX σ 3 t) ∧ ∀ i, 0 ≤ i → i < sC σ 20 0 → bit (gI H 97 0 (60 * 0 + t)) i = (if 8 * sV σ 0 0 0 ≤ 8 * t + i ∧ 8 * t + i < 8 * sV σ 0 0 0 + 8 then sV σ 0 4 (8 * t + i - 8 * sV σ 0 0 0) else sX σ 4 (8 * t + i))
    by_cases y : t = sV σ 0 0 0
    · rw [if_pos y, if_pos y, if_pos y, if_pos y, y, show (60 : Int) * 0 + sV σ 0 0 0 = sV σ 0 0 0 by omega]
      refine ⟨l93, l94, l95, l96, fun i i1 i2 => ?_⟩
      rw [if_pos (by omega), l97, show 8 * sV σ 0 0 0 + i - 8 * sV σ 0 0 0 = i by omega]
      exact s2.2.2 i i1 i2
    · rw [if_neg y, if_neg y, if_neg y, if_neg y]
      obtain ⟨a0, a1, a2, a3, a4⟩ := q4 t t1 (by omega)
      refine ⟨(lo 93 t (by omega) (by omega) t1 (by omega) y).trans a0, (lo 94 t (by omega) (by omega) t1 (by omega) y).trans a1, (lo 95 t (by omega) (by omega) t1 (by omega) y).trans a2, (lo 96 t (by omega) (by omega) t1 (by omega) y).trans a3, fun i i1 i2 => ?_⟩
      rw [if_neg (by omega), lo 97 t (by omega) (by omega) t1 (by omega) y]
      exact a4 i i1 i2
  have nu : rU H (mlS σ) := by
    refine ⟨(g1.1 12 0 54 (by unfold PaW; omega)).trans f2, fun k k1 => ?_⟩
    have k1 : (k : Int) < min 20 (sX σ 25 0 + 1) := k1
    exact isSF_eq wC (fun r a b => g1.1 r 0 _ (by unfold PaW; omega)) (fun m m1 m2 => ⟨g1.1 91 0 _ (by unfold PaW; omega), g1.1 92 0 _ (by unfold PaW; omega)⟩) (f3 k k1)
  refine ⟨?_, (e 12 0 55 (by omega)).trans t1, (e 12 0 57 (by omega)).trans t3, fr⟩
  exact ⟨isR_eq (fun r k a b => e r 0 k (by omega)) q1, nB, nv, nl, nu, rI_e wC (fun z => (vw_m (sw_i w z).1).2) (e 12 0 53 (by omega)) (fun r a b => e r 0 2 (by omega)) (fun m a b => ⟨e 91 0 m (by omega), e 92 0 m (by omega)⟩) (fun r k a b z1 z2 => e r 0 k (by omega)) q6, rN_e (fun k z => e 12 0 k (by omega)) (fun r k a b => e r 0 k (by omega)) q7, rT_e (e 12 0 2 (by omega)) (fun k => e 60 0 k (by omega)) q8, rF_e (fun k z => e 12 0 k (by omega)) q9⟩
theorem it_m : ∀ (n : Nat) (σ : Sg), sV (itS n σ) 0 0 0 = sV σ 0 0 0 + n
  | 0, σ => by simp [itS]
  | n + 1, σ => by
    have := it_m n (mlS σ)
    have e : sV (mlS σ) 0 0 0 = sV σ 0 0 0 + 1 := rfl
    show sV (itS n (mlS σ)) 0 0 0 = _
    rw [this, e]; omega
theorem it_w : ∀ (n : Nat) (σ : Sg), SW σ → sV σ 0 0 0 + n ≤ 60 → SW (itS n σ)
  | 0, σ, w, _ => w
  | n + 1, σ, w, h => it_w n (mlS σ) (sw_ml w (by omega)) (by have e : sV (mlS σ) 0 0 0 = sV σ 0 0 0 + 1 := rfl; rw [e]; omega)
theorem agr_meals {x : Int} : Agr (f_X11_meals x) (f_X12_meals x) := by
  intro h c σ w q
  have vm := vw_m (sw_V w).1
  have e0 := iv_0 q.2.2.1.1
  by_cases z : 0 ≤ x ∧ x ≤ 60 ∧ sV σ 0 0 0 + x ≤ 60
  · refine ⟨sV σ 0 0 0 + x, itS x.toNat σ, it_w _ σ w (by omega), ?_, fun h2 q2 => ?_⟩
    · have key : ∀ (d n : Nat) (h1 : Hp) (τ : Sg) (k : Int), (x - k).toNat = d → 0 ≤ k → k ≤ x → 2 * d + 2 ≤ n → SW τ → IC h1 c τ → sV τ 0 0 0 + d ≤ 60 → ok (g_X11_meals n 1 [x, k] h1) (fun r h' => r = sV τ 0 0 0 + d ∧ (∃ c', IC h' c' (itS d τ)) ∧ FrX ClW h1 h') := by
        intro d
        induction d with
        | zero =>
          intro n h1 τ k hd k1 k2 hn wt qt ht
          refine s_X11_meals_1 (by omega) ?_
          unfold b_X11_meals_1
          exact ok_t (by omega) (ok_some ⟨by rw [iv_0 qt.2.2.1.1]; omega, ⟨c, qt⟩, cx_rf⟩)
        | succ d ih =>
          intro n h1 τ k hd k1 k2 hn wt qt ht
          refine s_X11_meals_1 (by omega) ?_
          unfold b_X11_meals_1
          refine ok_f (by omega) (ok_bq (p_holdMeal wt qt (by omega)) ?_)
          intro _ h3 ⟨u1, u2⟩
          have em : sV (mlS τ) 0 0 0 = sV τ 0 0 0 + 1 := rfl
          refine ok_ck (by omega) (ok_mono (ih _ _ (mlS τ) _ (by omega) (by omega) (by omega) (by omega) (sw_ml wt (by omega)) u1 (by rw [em]; omega)) ?_)
          intro r h' ⟨v1, v2, v3⟩
          exact ⟨by rw [v1, em]; omega, v2, cx_tr u2 v3⟩
      refine fuv_X11_meals (fun n hn => ?_)
      refine s_X11_meals_0 (by omega) ?_
      unfold b_X11_meals_0
      rw [e0]
      refine ok_f (by omega) (ok_f (by omega) (ok_ck (by omega) (ok_t (by omega) (ok_mono (key _ _ _ σ _ rfl (by omega) (by omega) (by omega) w q (by omega)) ?_))))
      intro r h' ⟨v1, v2, v3⟩
      rw [show (x - 0).toNat = x.toNat by omega] at v1 v2
      exact ⟨by rw [v1]; omega, v2, v3⟩
    · have key : ∀ (d n : Nat) (h1 : Hp) (τ : Sg) (k : Int), (x - k).toNat = d → 0 ≤ k → k ≤ x → 2 * d + 2 ≤ n → SW τ → IR h1 τ → gI h1 12 0 55 = -1 → gI h1 12 0 57 = 0 → sV τ 0 0 0 + d ≤ 60 → ok (g_X12_meals n 1 [x, k] h1) (fun r h' => r = sV τ 0 0 0 + d ∧ IR h' (itS d τ) ∧ Fr ReW h1 h') := by
        intro d
        induction d with
        | zero =>
          intro n h1 τ k hd k1 k2 hn wt qt t1 t3 ht
          refine s_X12_meals_1 (by omega) ?_
          unfold b_X12_meals_1
          exact ok_t (by omega) (ok_ck (by decide) (ok_some ⟨by rw [is_0 qt.2.2.1.1]; omega, qt, fr_rf⟩))
        | succ d ih =>
          intro n h1 τ k hd k1 k2 hn wt qt t1 t3 ht
          refine s_X12_meals_1 (by omega) ?_
          unfold b_X12_meals_1
          obtain ⟨r3, h3, e3, u1, u2, u3, u4⟩ := p_rMeal wt qt (by omega) t1 t3
          have em : sV (mlS τ) 0 0 0 = sV τ 0 0 0 + 1 := rfl
          obtain ⟨r4, h4, e4, -⟩ := p_keepNow wt qt
          rw [e4, bd_s] at e3
          refine ok_f (by omega) (ok_be e4 (ok_be e3 (ok_ck (by omega) (ok_mono (ih _ _ (mlS τ) _ (by omega) (by omega) (by omega) (by omega) (sw_ml wt (by omega)) u1 u2 u3 (by rw [em]; omega)) ?_))))
          intro r h' ⟨v1, v2, v3⟩
          exact ⟨by rw [v1, em]; omega, v2, fr_tr u4 v3⟩
      have q3 := pl_q w q2
      refine fuv_X12_meals (fun n hn => ?_)
      refine s_X12_meals_0 (by omega) ?_
      unfold b_X12_meals_0
      refine ok_lt ?_
      rw [is_0 (IR_0 w q2).2.2.1.1]
      refine ok_f (by omega) (ok_f (by omega) (ok_ck (by decide) (ok_ck (by omega) (ok_t (by omega) (ok_be p_X12_plain (ok_mono (key _ _ _ σ _ rfl (by omega) (by omega) (by omega) w q3 (pl_t (C := sC σ)).1 pl_s (by omega)) ?_))))))
      intro r h' ⟨v1, v2, v3⟩
      rw [show (x - 0).toNat = x.toNat by omega] at v1 v2
      exact ⟨by rw [v1]; omega, v2, fr_tr (fr_mo pl_f srw_Re) v3⟩
  · refine ⟨-1, σ, w, ok_rc q ?_, fun h2 q2 => ok_rr w q2 ?_⟩
    · refine ok_eq.mp (fuv_X11_meals (fun n hn => ?_))
      refine s_X11_meals_0 (by omega) ?_
      unfold b_X11_meals_0
      rw [e0]
      exact ok_if (fun u => ok_some ⟨rfl, rfl⟩) (fun u => ok_if (fun u2 => ok_some ⟨rfl, rfl⟩) (fun u2 => ok_ck (by omega) (ok_f (by omega) (ok_some ⟨rfl, rfl⟩))))
    · refine ok_eq.mp (fuv_X12_meals (fun n hn => ?_))
      refine s_X12_meals_0 (by omega) ?_
      unfold b_X12_meals_0
      refine ok_lt ?_
      rw [is_0 (IR_0 w q2).2.2.1.1]
      exact ok_if (fun u => ok_some ⟨rfl, rfl⟩) (fun u => ok_if (fun u2 => ok_some ⟨rfl, rfl⟩) (fun u2 => ok_ck (by decide) (ok_ck (by omega) (ok_f (by omega) (ok_some ⟨rfl, rfl⟩)))))
