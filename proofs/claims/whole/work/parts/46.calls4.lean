/-! CALLS, 4: images, meals undone -/
def kpX (X : Ch) : Ch := fun f i => match f with
  | 10 => X 0 i
  | 11 => X 1 i
  | 12 => X 2 i
  | 13 => X 3 i
  | 14 => X 4 i
  | 26 => 1
  | _ => X f i
def kpS (σ : Sg) : Sg := (σ.1, fun j => match j with
  | 0 => σ.2.1 0
  | 1 => σ.2.1 0
  | j + 2 => σ.2.1 (j + 2), kpX σ.2.2)
def bkX (X : Ch) : Ch := fun f i => match f with
  | 0 => X 10 i
  | 1 => X 11 i
  | 2 => X 12 i
  | 3 => X 13 i
  | 4 => X 14 i
  | 25 => 0
  | _ => X f i
def bkS (σ : Sg) : Sg := (σ.1, fun j => match j with
  | 0 => σ.2.1 1
  | j + 1 => σ.2.1 (j + 1), bkX σ.2.2)
def unX (X : Ch) : Ch := fun f i => match f with
  | 25 => X 25 0 - 1
  | _ => X f i
def unS (σ : Sg) : Sg := (σ.1, fun j => match j with
  | 0 => σ.2.1 ((σ.2.2 25 0 - 1).toNat + 2)
  | j + 1 => σ.2.1 (j + 1), unX σ.2.2)
theorem skS_c {N N2 : Ch} (h0 : N2 0 = N 0) (h2 : N2 2 = N 2) {m : Nat} : ∀ (t : Nat) (j : Int), skS N2 m t j = skS N m t j
  | 0, _ => rfl
  | t + 1, j => by
    unfold skS
    rw [skS_c h0 h2 t, skS_c h0 h2 t, h0, h2]
theorem rnV_c {C X Y : Ch} (h4 : Y 4 = X 4) {m : Int} : ∀ t : Nat, rnV C Y m t = rnV C X m t
  | 0 => rfl
  | t + 1 => by
    unfold rnV
    rw [rnV_c h4 t, h4]
theorem isFit_c {C X Y : Ch} {M r : Int} (h4 : Y 4 = X 4) (h20 : Y 20 = X 20) (h21 : Y 21 = X 21) (h22 : Y 22 = X 22) (h23 : Y 23 = X 23) (h24 : Y 24 = X 24) (q : isFit C X M r) : isFit C Y M r := by
  obtain ⟨q1, q2, q3⟩ := q
  refine ⟨q1, q2, fun m m1 m2 => ?_⟩
  have ek : xK Y = xK X := by unfold xK; rw [h23, h24]
  have ec : ∀ k, cnP (xN Y) (xK Y) k ↔ cnP (xN X) (xK X) k := fun k => by
    unfold cnP
    rw [ek, skS_c (N := xN X) (N2 := xN Y) h20 h22]
    show _ ∧ _ ∧ ¬ Y 20 k = 2 ↔ _ ∧ _ ∧ ¬ X 20 k = 2
    rw [h20]
  have er : ∀ t, rnc C Y m t = rnc C X m t := fun t => by unfold rnc; rw [rnV_c h4, h4]
  have ee : ∀ t, rne C Y m t = rne C X m t := fun t => by unfold rne; rw [rnV_c h4, h4]
  rw [q3 m m1 m2]
  unfold fitP
  simp only [ec, er, ee, h20, h21, h22]
theorem agr_keep : Agr f_X11_keep f_X12_keep := by
  intro h c σ w q
  have vm := vw_m (sw_V w).1
  have wC := sw_C w
  refine ⟨sV σ 0 0 0, kpS σ, ?_, ?_, fun h2 q2 => ?_⟩
  · obtain ⟨w1, w2, w3, w4, w5, w6, w7, w8, w9⟩ := w
    exact ⟨w1, w2, w3, w4, Or.inr rfl, fun _ => w2, w7, w8, w9⟩
  · refine fuv_X11_keep (fun n hn => ?_)
    refine s_X11_keep_0 (by omega) ?_
    unfold b_X11_keep_0
    refine ok_bq (p_X10_copyFrom (show (0 : Int) ≠ 21 by decide)) ?_
    intro _ h1 ⟨f1, f2, f3⟩
    refine ok_bq (p_X3_copyFrom (show (0 : Int) ≠ 1 by decide)) ?_
    intro _ h3 ⟨g1, g2⟩
    refine ok_lt ?_
    generalize hH : sI h3 11 0 13 1 = H
    have e : ∀ (r : Nat) (i k : Int), ¬ (((r = 10 ∨ r = 57) ∧ i = 21) ∨ (34 ≤ r ∧ r ≤ 38 ∧ i = 1) ∨ (r = 11 ∧ k = 13)) → gI H r i k = gI h r i k := by
      intro r i k z
      rw [← hH, gI_sI, if_neg (by omega), g1.1 r i k (by unfold LgW; omega), f1.1 r i k (by unfold VoW; omega)]
    have e2 : H.2 = h.2 := by rw [← hH]; exact g1.2.trans f1.2
    have kv := q.2.2.1
    refine ok_some ⟨(e 10 0 0 (by omega)).trans (iv_0 kv.1), ⟨c, ?_⟩, fun r i k z => e r i k (by unfold ClW at z; omega)⟩
    obtain ⟨q1, q2, q3, q4, q5, q6, q7, q8, q9, q10, q11⟩ := q
    have ni : kI H (kpS σ) := by
      refine ⟨by rw [← hH, gI_eq]; rfl, fun _ => ⟨?_, fun t t1 t2 => ?_⟩⟩
      · refine isVF_cp wC (u := 0) (h := h) (fun k k1 k2 => ?_) (fun k k1 k2 => ?_) q3
        · rw [← hH, gI_nr (by decide), g1.1 10 21 k (by unfold LgW; omega)]; exact f2 k k1 k2
        · rw [← hH, gI_nr (by decide), g1.1 57 21 k (by unfold LgW; omega)]; exact f3 k k1 k2
      · have t2 : t < sV σ 0 0 0 := t2
        have ee : ∀ r : Nat, 34 ≤ r → r ≤ 38 → gI H r 1 t = gI h r 0 t := fun r r1 r2 => by
          rw [← hH, gI_nr (by omega), g2 r t r1 r2 t1 (by omega)]
          exact f1.1 r 0 t (by unfold VoW; omega)
        obtain ⟨l0, l1, l2, l3, l4⟩ := q5 t t1 t2
        exact ⟨(ee 34 (by omega) (by omega)).trans l0, (ee 35 (by omega) (by omega)).trans l1, (ee 36 (by omega) (by omega)).trans l2, (ee 37 (by omega) (by omega)).trans l3, fun i i1 i2 => by rw [ee 38 (by omega) (by omega)]; exact l4 i i1 i2⟩
    have nq : kQ H (kpS σ) := by
      rcases q11 with z | z
      · exact Or.inl ((e 11 0 16 (by omega)).trans z)
      · refine Or.inr ?_
        rw [e 11 0 16 (by omega)]
        exact isFit_c (C := sC σ) (X := sX σ) (Y := kpX (sX σ)) (M := sV σ 0 0 0) rfl rfl rfl rfl rfl rfl z
    exact ⟨kA_e (fun r i k z => e r i k (by unfold inC at z; omega)) e2 q1, kR_e e2 q2, kV_e (fun k => e 10 0 k (by omega)) (fun k => e 57 0 k (by omega)) q3, kG_e (fun k z => e 2 0 k (by omega)) q4, kL_e (fun r k a b => e r 0 k (by omega)) q5, kU_e (e 11 0 10 (by omega)) (fun v k a b => e 10 v k (by omega)) (fun v k a b => e 57 v k (by omega)) q6, ni, kN_e (fun k z => e 5 0 k (by omega)) (fun r k a b => e r 0 k (by omega)) q8, kT_e (e 11 0 1 (by omega)) (fun k => e 58 0 k (by omega)) q9, kF_e (fun k z => e 7 0 k (by omega)) q10, nq⟩
  · have q := IR_0 w q2
    refine fuv_X12_keep (fun n hn => ?_)
    refine s_X12_keep_0 (by omega) ?_
    unfold b_X12_keep_0
    refine ok_lt (ok_bq (p_X12_copies q.2.1 (show (0 : Int) ≠ 2 by decide) (by decide) (by decide) (by decide) (by decide)) ?_)
    intro _ h1 ⟨f1, fb, f2, f3⟩
    refine ok_bq (p_X12_copiesLog (show (0 : Int) ≠ 2 by decide) (by decide) (by decide) (by decide) (by decide)) ?_
    intro _ h3 ⟨g1, g2⟩
    refine ok_lt (ok_ck (by decide) ?_)
    generalize hH : sI h3 12 0 53 1 = H
    have e : ∀ (r : Nat) (i k : Int), ¬ ((84 ≤ r ∧ r ≤ 90 ∧ k = 2) ∨ ((r = 91 ∨ r = 92) ∧ 18 ≤ k ∧ k < 27) ∨ (93 ≤ r ∧ r ≤ 97 ∧ 120 ≤ k ∧ k < 180) ∨ (r = 12 ∧ k = 53)) → gI H r i k = gI (sI h2 12 0 0 0) r i k := by
      intro r i k z
      rw [← hH, gI_sI, if_neg (by omega), g1.1 r i k (by unfold LsW; omega), f1.1 r i k (by unfold ShW; omega)]
    have hb : B92 H := fun k => by
      rw [← hH, gI_nr (by decide), g1.1 92 0 k (by unfold LsW; omega)]; exact fb k
    have kv := q.2.2.1
    refine ok_some ⟨(e 84 0 0 (by omega)).trans (is_0 kv.1), ?_, fr_0 (by rw [← hH]; exact fr_sI (fr_tr (fr_mo f1 (fun r i k z => by unfold ShW at z; unfold ReW; omega)) (fr_mo g1 (fun r i k z => by unfold LsW at z; unfold ReW; omega))) (Or.inl rfl))⟩
    obtain ⟨q1, q2, q3, q4, q5, q6, q7, q8, q9⟩ := q
    have ni : rI H (kpS σ) := by
      refine ⟨by rw [← hH, gI_eq]; rfl, fun _ => ⟨?_, fun t t1 t2 => ?_⟩⟩
      · refine isSF_cp wC (t := 0) (h := sI h2 12 0 0 0) (fun r r1 r2 => ?_) (fun m m1 m2 => ?_) q3
        · rw [← hH, gI_nr (by omega), g1.1 r 0 2 (by unfold LsW; omega)]; exact f2 r r1 r2
        · obtain ⟨x1, x2⟩ := f3 m m1 m2
          refine ⟨?_, ?_⟩
          · rw [← x1, ← hH, gI_nr (by decide)]; exact g1.1 91 0 _ (by unfold LsW; omega)
          · rw [← x2, ← hH, gI_nr (by decide)]; exact g1.1 92 0 _ (by unfold LsW; omega)
      · have t2 : t < sV σ 0 0 0 := t2
        have ee : ∀ r : Nat, 93 ≤ r → r ≤ 97 → gI H r 0 (60 * 2 + t) = gI (sI h2 12 0 0 0) r 0 (60 * 0 + t) := fun r r1 r2 => by
          rw [← hH, gI_nr (by omega), g2 r t r1 r2 t1 (by omega)]
          exact f1.1 r 0 _ (by unfold ShW; omega)
        obtain ⟨l0, l1, l2, l3, l4⟩ := q4 t t1 t2
        exact ⟨(ee 93 (by omega) (by omega)).trans l0, (ee 94 (by omega) (by omega)).trans l1, (ee 95 (by omega) (by omega)).trans l2, (ee 96 (by omega) (by omega)).trans l3, fun i i1 i2 => by rw [ee 97 (by omega) (by omega)]; exact l4 i i1 i2⟩
    exact ⟨isR_eq (fun r k a b => e r 0 k (by omega)) q1, hb, rV_e wC (fun r a b => e r 0 0 (by omega)) (fun m a b => ⟨e 91 0 m (by omega), e 92 0 m (by omega)⟩) q3, rL_e (fun r k a b z1 z2 => e r 0 k (by omega)) vm.2 q4, rU_e wC (sw_U w).2.1 (e 12 0 54 (by omega)) (fun r s a b z1 z2 => e r 0 s (by omega)) (fun m a b => ⟨e 91 0 m (by omega), e 92 0 m (by omega)⟩) q5, ni, rN_e (fun k z => e 12 0 k (by omega)) (fun r k a b => e r 0 k (by omega)) q7, rT_e (e 12 0 2 (by omega)) (fun k => e 60 0 k (by omega)) q8, rF_e (fun k z => e 12 0 k (by omega)) q9⟩
theorem agr_back : Agr f_X11_back f_X12_back := by
  intro h c σ w q
  have vm := vw_m (sw_V w).1
  have wC := sw_C w
  have e13 := q.2.2.2.2.2.2.1.1
  rcases sw_I w with z | z
  · refine ⟨-1, σ, w, ok_rc q ?_, fun h2 q2 => ok_rr w q2 ?_⟩
    · refine ok_eq.mp (fuv_X11_back (fun n hn => ?_))
      refine s_X11_back_0 (by omega) ?_
      unfold b_X11_back_0
      exact ok_t (e13.trans z) (ok_some ⟨rfl, rfl⟩)
    · have q3 := IR_0 w q2
      refine ok_eq.mp (fuv_X12_back (fun n hn => ?_))
      refine s_X12_back_0 (by omega) ?_
      unfold b_X12_back_0
      exact ok_lt (ok_t (q3.2.2.2.2.2.1.1.trans z) (ok_some ⟨rfl, rfl⟩))
  · have vw1 := sw_i w z
    have vm1 := vw_m vw1.1
    refine ⟨sV σ 1 0 0, bkS σ, ?_, ?_, fun h2 q2 => ?_⟩
    · obtain ⟨w1, w2, w3, w4, w5, w6, w7, w8, w9⟩ := w
      exact ⟨w1, vw1, (show (0 : Int) ≤ 0 ∧ (0 : Int) ≤ 20 ∧ (0 : Int) ≤ sV σ 1 0 0 from ⟨by decide, by decide, vm1.1⟩), fun k k1 => by have k1 : (k : Int) < 0 := k1; omega, w5, w6, w7, w8, w9⟩
    · refine fuv_X11_back (fun n hn => ?_)
      refine s_X11_back_0 (by omega) ?_
      unfold b_X11_back_0
      refine ok_f (by omega) (ok_bq (p_X10_copyFrom (show (21 : Int) ≠ 0 by decide)) ?_)
      intro _ h1 ⟨f1, f2, f3⟩
      refine ok_bq (p_X3_copyFrom (show (1 : Int) ≠ 0 by decide)) ?_
      intro _ h3 ⟨g1, g2⟩
      refine ok_lt (ok_lt ?_)
      generalize hH : sI (sI h3 11 0 10 0) 11 0 16 (-1) = H
      have e : ∀ (r : Nat) (i k : Int), ¬ (((r = 10 ∨ r = 57) ∧ i = 0) ∨ (34 ≤ r ∧ r ≤ 38 ∧ i = 0) ∨ (r = 11 ∧ (k = 10 ∨ k = 16))) → gI H r i k = gI h r i k := by
        intro r i k z
        rw [← hH, gI_sI, if_neg (by omega), gI_sI, if_neg (by omega), g1.1 r i k (by unfold LgW; omega), f1.1 r i k (by unfold VoW; omega)]
      have e2 : H.2 = h.2 := by rw [← hH]; exact g1.2.trans f1.2
      have t10 : ∀ (r : Nat) (i k : Int), r ≠ 11 → gI H r i k = gI h3 r i k := fun r i k z => by rw [← hH, gI_nr z, gI_nr z]
      have ki := q.2.2.2.2.2.2.1.2 z
      have nv : kV H (bkS σ) := by
        refine isVF_cp wC (u := 21) (h := h) (fun k k1 k2 => ?_) (fun k k1 k2 => ?_) ki.1
        · rw [t10 10 0 k (by decide), g1.1 10 0 k (by unfold LgW; omega)]; exact f2 k k1 k2
        · rw [t10 57 0 k (by decide), g1.1 57 0 k (by unfold LgW; omega)]; exact f3 k k1 k2
      refine ok_some ⟨iv_0 nv.1, ⟨c, ?_⟩, fun r i k z => e r i k (by unfold ClW at z; omega)⟩
      obtain ⟨q1, q2, q3, q4, q5, q6, q7, q8, q9, q10, q11⟩ := q
      have nl : kL H (bkS σ) := by
        intro t t1 t2
        have t2 : t < sV σ 1 0 0 := t2
        have ee : ∀ r : Nat, 34 ≤ r → r ≤ 38 → gI H r 0 t = gI h r 1 t := fun r r1 r2 => by
          rw [t10 r 0 t (by omega), g2 r t r1 r2 t1 (by omega)]
          exact f1.1 r 1 t (by unfold VoW; omega)
        obtain ⟨l0, l1, l2, l3, l4⟩ := ki.2 t t1 t2
        exact ⟨(ee 34 (by omega) (by omega)).trans l0, (ee 35 (by omega) (by omega)).trans l1, (ee 36 (by omega) (by omega)).trans l2, (ee 37 (by omega) (by omega)).trans l3, fun i i1 i2 => by rw [ee 38 (by omega) (by omega)]; exact l4 i i1 i2⟩
      have nu : kU H (bkS σ) := ⟨by rw [← hH, gI_nk (by decide), gI_eq]; rfl, fun k k1 => by have k1 : (k : Int) < 0 := k1; omega⟩
      have nq : kQ H (bkS σ) := Or.inl (by rw [← hH, gI_eq])
      exact ⟨kA_e (fun r i k z => e r i k (by unfold inC at z; omega)) e2 q1, kR_e e2 q2, nv, kG_e (fun k z => e 2 0 k (by omega)) q4, nl, nu, kI_e (e 11 0 13 (by omega)) (fun k => e 10 21 k (by omega)) (fun k => e 57 21 k (by omega)) (fun r k a b => e r 1 k (by omega)) q7, kN_e (fun k z => e 5 0 k (by omega)) (fun r k a b => e r 0 k (by omega)) q8, kT_e (e 11 0 1 (by omega)) (fun k => e 58 0 k (by omega)) q9, kF_e (fun k z => e 7 0 k (by omega)) q10, nq⟩
    · have q := IR_0 w q2
      refine fuv_X12_back (fun n hn => ?_)
      refine s_X12_back_0 (by omega) ?_
      unfold b_X12_back_0
      have ri := q.2.2.2.2.2.1
      have ri1 := ri.1
      refine ok_lt (ok_f (by omega) (ok_bq (p_X12_copies q.2.1 (show (2 : Int) ≠ 0 by decide) (by decide) (by decide) (by decide) (by decide)) ?_))
      intro _ h1 ⟨f1, fb, f2, f3⟩
      refine ok_bq (p_X12_copiesLog (show (2 : Int) ≠ 0 by decide) (by decide) (by decide) (by decide) (by decide)) ?_
      intro _ h3 ⟨g1, g2⟩
      refine ok_lt (ok_ck (by decide) ?_)
      generalize hH : sI h3 12 0 54 0 = H
      have e : ∀ (r : Nat) (i k : Int), ¬ ((84 ≤ r ∧ r ≤ 90 ∧ k = 0) ∨ ((r = 91 ∨ r = 92) ∧ 0 ≤ k ∧ k < 9) ∨ (93 ≤ r ∧ r ≤ 97 ∧ 0 ≤ k ∧ k < 60) ∨ (r = 12 ∧ k = 54)) → gI H r i k = gI (sI h2 12 0 0 0) r i k := by
        intro r i k z
        rw [← hH, gI_sI, if_neg (by omega), g1.1 r i k (by unfold LsW; omega), f1.1 r i k (by unfold ShW; omega)]
      have hb : B92 H := fun k => by
        rw [← hH, gI_nr (by decide), g1.1 92 0 k (by unfold LsW; omega)]; exact fb k
      have ki := ri.2 z
      have nv : rV H (bkS σ) := by
        refine isSF_cp wC (t := 2) (h := sI h2 12 0 0 0) (fun r r1 r2 => ?_) (fun m m1 m2 => ?_) ki.1
        · rw [← hH, gI_nr (by omega), g1.1 r 0 0 (by unfold LsW; omega)]; exact f2 r r1 r2
        · obtain ⟨x1, x2⟩ := f3 m m1 m2
          refine ⟨?_, ?_⟩
          · rw [← x1, ← hH, gI_nr (by decide)]; exact g1.1 91 0 _ (by unfold LsW; omega)
          · rw [← x2, ← hH, gI_nr (by decide)]; exact g1.1 92 0 _ (by unfold LsW; omega)
      refine ok_some ⟨is_0 nv.1, ?_, fr_0 (by rw [← hH]; exact fr_sI (fr_tr (fr_mo f1 (fun r i k z => by unfold ShW at z; unfold ReW; omega)) (fr_mo g1 (fun r i k z => by unfold LsW at z; unfold ReW; omega))) (Or.inl rfl))⟩
      obtain ⟨q1, q2, q3, q4, q5, q6, q7, q8, q9⟩ := q
      have nl : rL H (bkS σ) := by
        intro t t1 t2
        have t2 : t < sV σ 1 0 0 := t2
        have ee : ∀ r : Nat, 93 ≤ r → r ≤ 97 → gI H r 0 (60 * 0 + t) = gI (sI h2 12 0 0 0) r 0 (60 * 2 + t) := fun r r1 r2 => by
          rw [← hH, gI_nr (by omega), g2 r t r1 r2 t1 (by omega)]
          exact f1.1 r 0 _ (by unfold ShW; omega)
        obtain ⟨l0, l1, l2, l3, l4⟩ := ki.2 t t1 t2
        exact ⟨(ee 93 (by omega) (by omega)).trans l0, (ee 94 (by omega) (by omega)).trans l1, (ee 95 (by omega) (by omega)).trans l2, (ee 96 (by omega) (by omega)).trans l3, fun i i1 i2 => by rw [ee 97 (by omega) (by omega)]; exact l4 i i1 i2⟩
      have nu : rU H (bkS σ) := ⟨by rw [← hH, gI_eq]; rfl, fun k k1 => by have k1 : (k : Int) < 0 := k1; omega⟩
      exact ⟨isR_eq (fun r k a b => e r 0 k (by omega)) q1, hb, nv, nl, nu, rI_e wC (fun z => (vw_m (sw_i w z).1).2) (e 12 0 53 (by omega)) (fun r a b => e r 0 2 (by omega)) (fun m a b => ⟨e 91 0 m (by omega), e 92 0 m (by omega)⟩) (fun r k a b z1 z2 => e r 0 k (by omega)) q6, rN_e (fun k z => e 12 0 k (by omega)) (fun r k a b => e r 0 k (by omega)) q7, rT_e (e 12 0 2 (by omega)) (fun k => e 60 0 k (by omega)) q8, rF_e (fun k z => e 12 0 k (by omega)) q9⟩
theorem agr_undo : Agr f_X11_undo f_X12_undo := by
  intro h c σ w q
  have vm := vw_m (sw_V w).1
  have wC := sw_C w
  have uu := sw_U w
  have e0 := iv_0 q.2.2.1.1
  have e10 := q.2.2.2.2.2.1.1
  by_cases z : sX σ 25 0 = 0
  · refine ⟨-1, σ, w, ok_rc q ?_, fun h2 q2 => ok_rr w q2 ?_⟩
    · refine ok_eq.mp (fuv_X11_undo (fun n hn => ?_))
      refine s_X11_undo_0 (by omega) ?_
      unfold b_X11_undo_0
      exact ok_ck (by omega) (ok_lt (ok_t (by omega) (ok_some ⟨rfl, rfl⟩)))
    · have q3 := IR_0 w q2
      refine ok_eq.mp (fuv_X12_undo (fun n hn => ?_))
      refine s_X12_undo_0 (by omega) ?_
      unfold b_X12_undo_0
      exact ok_lt (ok_t (q3.2.2.2.2.1.1.trans z) (ok_some ⟨rfl, rfl⟩))
  · obtain ⟨vu, mu⟩ := sw_u w (sX σ 25 0 - 1).toNat (by omega)
    have mu2 : sV σ ((sX σ 25 0 - 1).toNat + 2) 0 0 = sV σ 0 0 0 - 1 := by rw [mu]; omega
    refine ⟨sX σ 25 0 - 1, unS σ, ?_, ?_, fun h2 q2 => ?_⟩
    · obtain ⟨w1, w2, w3, w4, w5, w6, w7, w8, w9⟩ := w
      refine ⟨w1, vu, ?_, fun k k1 => ?_, w5, w6, w7, w8, w9⟩
      · show 0 ≤ sX σ 25 0 - 1 ∧ sX σ 25 0 - 1 ≤ 20 ∧ sX σ 25 0 - 1 ≤ sV σ ((sX σ 25 0 - 1).toNat + 2) 0 0
        omega
      · have k1 : (k : Int) < sX σ 25 0 - 1 := k1
        show VWF (sC σ) (sV σ (k + 2)) ∧ sV σ (k + 2) 0 0 = sV σ ((sX σ 25 0 - 1).toNat + 2) 0 0 - (sX σ 25 0 - 1) + k
        obtain ⟨a, b⟩ := w4 k (by omega)
        exact ⟨a, by rw [b, mu2]; omega⟩
    · refine fuv_X11_undo (fun n hn => ?_)
      refine s_X11_undo_0 (by omega) ?_
      unfold b_X11_undo_0
      rw [e0]
      have rr := q.2.1.1 ((sV σ 0 0 0 - 1) % 20) (by omega) (by omega)
      refine ok_ck (by omega) (ok_lt (ok_f (by omega) (ok_t (by omega) (ok_ck (by omega) (ok_ck (by omega) (ok_rf rr (ok_bq (p_X10_copyFrom (by omega)) ?_)))))))
      intro _ h1 ⟨f1, f2, f3⟩
      rw [f1.1 11 0 10 (by unfold VoW; omega), e10]
      refine ok_ck (by omega) (ok_lt (ok_lt ?_))
      generalize hH : sI (sI h1 11 0 10 (sX σ 25 0 - 1)) 11 0 16 (-1) = H
      have e : ∀ (r : Nat) (i k : Int), ¬ (((r = 10 ∨ r = 57) ∧ i = 0) ∨ (r = 11 ∧ (k = 10 ∨ k = 16))) → gI H r i k = gI h r i k := by
        intro r i k z
        rw [← hH, gI_sI, if_neg (by omega), gI_sI, if_neg (by omega), f1.1 r i k (by unfold VoW; omega)]
      have e2 : H.2 = h.2 := by rw [← hH]; exact f1.2
      have t10 : ∀ (r : Nat) (i k : Int), r ≠ 11 → gI H r i k = gI h1 r i k := fun r i k z => by rw [← hH, gI_nr z, gI_nr z]
      have g10 : gI H 11 0 10 = sX σ 25 0 - 1 := by rw [← hH, gI_nk (by decide), gI_eq]
      refine ok_some ⟨g10, ⟨c, ?_⟩, fun r i k z => e r i k (by unfold ClW at z; omega)⟩
      obtain ⟨q1, q2, q3, q4, q5, q6, q7, q8, q9, q10, q11⟩ := q
      have su := q6.2 (sX σ 25 0 - 1).toNat (by omega)
      rw [show (1 + (sV σ 0 0 0 - sX σ 25 0 + ((sX σ 25 0 - 1).toNat : Int)) % 20) = 1 + (sV σ 0 0 0 - 1) % 20 by omega] at su
      have nv : kV H (unS σ) := by
        refine isVF_cp wC (u := 1 + (sV σ 0 0 0 - 1) % 20) (h := h) (fun k k1 k2 => ?_) (fun k k1 k2 => ?_) su
        · rw [t10 10 0 k (by decide)]; exact f2 k k1 k2
        · rw [t10 57 0 k (by decide)]; exact f3 k k1 k2
      have nl : kL H (unS σ) := by
        intro t t1 t2
        have t2 : t < sV σ ((sX σ 25 0 - 1).toNat + 2) 0 0 := t2
        exact lgC_e (fun r a b => e r 0 t (by omega)) (q5 t t1 (by omega))
      have nu : kU H (unS σ) := by
        refine ⟨g10, fun k k1 => ?_⟩
        have k1 : (k : Int) < sX σ 25 0 - 1 := k1
        show isVF (sC σ) H (1 + (sV σ ((sX σ 25 0 - 1).toNat + 2) 0 0 - (sX σ 25 0 - 1) + k) % 20) (sV σ (k + 2))
        rw [mu2, show (sV σ 0 0 0 - 1 - (sX σ 25 0 - 1) + (k : Int)) = sV σ 0 0 0 - sX σ 25 0 + k by omega]
        exact isVF_eq (fun j => e 10 _ j (by omega)) (fun j => e 57 _ j (by omega)) (q6.2 k (by omega))
      have nq : kQ H (unS σ) := Or.inl (by rw [← hH, gI_eq])
      exact ⟨kA_e (fun r i k z => e r i k (by unfold inC at z; omega)) e2 q1, kR_e e2 q2, nv, kG_e (fun k z => e 2 0 k (by omega)) q4, nl, nu, kI_e (e 11 0 13 (by omega)) (fun k => e 10 21 k (by omega)) (fun k => e 57 21 k (by omega)) (fun r k a b => e r 1 k (by omega)) q7, kN_e (fun k z => e 5 0 k (by omega)) (fun r k a b => e r 0 k (by omega)) q8, kT_e (e 11 0 1 (by omega)) (fun k => e 58 0 k (by omega)) q9, kF_e (fun k z => e 7 0 k (by omega)) q10, nq⟩
    · have q := IR_0 w q2
      refine fuv_X12_undo (fun n hn => ?_)
      refine s_X12_undo_0 (by omega) ?_
      unfold b_X12_undo_0
      have r54 := q.2.2.2.2.1.1
      refine ok_lt ?_
      rw [r54]
      refine ok_f z (ok_ck (by omega) (ok_lt ?_))
      rw [gI_eq]
      have b1 : B92 (sI (sI h2 12 0 0 0) 12 0 54 (sX σ 25 0 - 1)) := B92_e (fun k => gI_nr (by decide)) q.2.1
      refine ok_ck (by omega) (ok_bq (p_X12_copies b1 (show 3 + (sX σ 25 0 - 1) ≠ 0 by omega) (by decide) (by decide) (by omega) (by omega)) ?_)
      intro _ H ⟨f1, fb, f2, f3⟩
      have e : ∀ (r : Nat) (i k : Int), ¬ ((84 ≤ r ∧ r ≤ 90 ∧ k = 0) ∨ ((r = 91 ∨ r = 92) ∧ 0 ≤ k ∧ k < 9) ∨ (r = 12 ∧ k = 54)) → gI H r i k = gI (sI h2 12 0 0 0) r i k := by
        intro r i k z
        rw [f1.1 r i k (by unfold ShW; omega), gI_sI, if_neg (by omega)]
      have g54 : gI H 12 0 54 = sX σ 25 0 - 1 := (f1.1 12 0 54 (by unfold ShW; omega)).trans gI_eq
      refine ok_some ⟨g54, ?_, fr_0 (fr_tr (fr_sI fr_rf (Or.inl rfl)) (fr_mo f1 (fun r i k z => by unfold ShW at z; unfold ReW; omega)))⟩
      obtain ⟨q1, q2, q3, q4, q5, q6, q7, q8, q9⟩ := q
      have su := q5.2 (sX σ 25 0 - 1).toNat (by omega)
      rw [show (3 + ((sX σ 25 0 - 1).toNat : Int)) = 3 + (sX σ 25 0 - 1) by omega] at su
      have nv : rV H (unS σ) := by
        refine isSF_cp wC (t := 3 + (sX σ 25 0 - 1)) (h := sI h2 12 0 0 0) (fun r r1 r2 => ?_) (fun m m1 m2 => ?_) su
        · rw [f2 r r1 r2, gI_nr (by omega)]
        · obtain ⟨x1, x2⟩ := f3 m m1 m2
          rw [x1, x2, gI_nr (by decide), gI_nr (by decide)]; exact ⟨rfl, rfl⟩
      have nl : rL H (unS σ) := by
        intro t t1 t2
        have t2 : t < sV σ ((sX σ 25 0 - 1).toNat + 2) 0 0 := t2
        exact lgR_e (fun r a b => e r 0 _ (by omega)) (q4 t t1 (by omega))
      have nu : rU H (unS σ) := by
        refine ⟨g54, fun k k1 => ?_⟩
        have k1 : (k : Int) < sX σ 25 0 - 1 := k1
        exact isSF_eq wC (fun r a b => e r 0 _ (by omega)) (fun m m1 m2 => ⟨e 91 0 _ (by omega), e 92 0 _ (by omega)⟩) (q5.2 k (by omega))
      exact ⟨isR_eq (fun r k a b => e r 0 k (by omega)) q1, fb, nv, nl, nu, rI_e wC (fun z => (vw_m (sw_i w z).1).2) (e 12 0 53 (by omega)) (fun r a b => e r 0 2 (by omega)) (fun m a b => ⟨e 91 0 m (by omega), e 92 0 m (by omega)⟩) (fun r k a b z1 z2 => e r 0 k (by omega)) q6, rN_e (fun k z => e 12 0 k (by omega)) (fun r k a b => e r 0 k (by omega)) q7, rT_e (e 12 0 2 (by omega)) (fun k => e 60 0 k (by omega)) q8, rF_e (fun k z => e 12 0 k (by omega)) q9⟩
