/-! THE CLASS'S GALLEY, 2: the sea in C's words, E of a mouth, its wish -/
theorem b2i_c {p q : Prop} [Decidable p] [Decidable q] (e : p ↔ q) : b2i p = b2i q := by
  by_cases z : p
  · have z2 := e.mp z; simp [b2i, z, z2]
  · have z2 : ¬ q := fun y => z (e.mpr y)
    unfold b2i; rw [if_neg z, if_neg z2]
theorem seaB_of {h : Hp} {c : Int} {C : Ch} (q : isC h c C) (w : CW C) : seaB h c := by
  have := cw_W w
  unfold seaB
  rw [ic_0 q, ic_1 q]
  exact this
section
variable {h : Hp} {c v i x k p : Int} {C V : Ch} {F N : Int → Int}
theorem p9_step (q : isC h c C) (w : CW C) : f_X9_step c x k h = some (stC C x k, h) := by
  rw [p_X9_step (seaB_of q w), ic_0 q, ic_1 q]
theorem p9_isWater (q : isC h c C) (w : CW C) : f_X9_isWater c x h = some (b2i (wtC C x), h) := by
  rw [p_X9_isWater (seaB_of q w)]
  rw [b2i_c (lbit_w (x := x) q w)]
theorem p9_fromBahia (q : isC h c C) (x1 : 0 ≤ x) (x2 : x < 64) : f_X9_fromBahia c x h = some (C 35 x, h) := by
  rw [p_X9_fromBahia, if_pos ⟨x1, x2⟩, ic_35 q x x1 x2]
theorem p9_fromIsle (q : isC h c C) (w : CW C) (i1 : 0 ≤ i) (i2 : i < C 5 0) : f_X9_fromIsle c i x h = some (if 0 ≤ x ∧ x < 64 then C 36 (64 * i + x) else 99, h) := by
  have i3 := cw_I w
  have e := ic_36 q i x i1 (by omega) i2
  have e2 : i * 64 + x = 64 * i + x := by omega
  refine ok_eq.mp ?_
  unfold f_X9_fromIsle
  refine s_X9_fromIsle_0 (by decide) ?_
  unfold b_X9_fromIsle_0
  refine ok_if (fun q1 => ?_) (fun q1 => ?_)
  · refine s_X9_fromIsle_1 (by decide) ?_
    unfold b_X9_fromIsle_1
    refine s_X9_fromIsle_2 (by decide) ?_
    unfold b_X9_fromIsle_2
    refine ok_if (fun q2 => ?_) (fun q2 => ?_)
    · exact ok_some ⟨by (try rw [e2]); split <;> first | (exact e (by omega) (by omega)) | omega, rfl⟩
    · refine ok_ck (by omega) ?_
      refine ok_ck (by omega) ?_
      refine ok_ck (by omega) ?_
      exact ok_some ⟨by (try rw [e2]); split <;> first | (exact e (by omega) (by omega)) | omega, rfl⟩
  · refine ok_if (fun q3 => ?_) (fun q3 => ?_)
    · refine s_X9_fromIsle_1 (by decide) ?_
      unfold b_X9_fromIsle_1
      refine s_X9_fromIsle_2 (by decide) ?_
      unfold b_X9_fromIsle_2
      refine ok_if (fun q4 => ?_) (fun q4 => ?_)
      · exact ok_some ⟨by (try rw [e2]); split <;> first | (exact e (by omega) (by omega)) | omega, rfl⟩
      · refine ok_ck (by omega) ?_
        refine ok_ck (by omega) ?_
        refine ok_ck (by omega) ?_
        exact ok_some ⟨by (try rw [e2]); split <;> first | (exact e (by omega) (by omega)) | omega, rfl⟩
    · refine ok_if (fun q5 => ?_) (fun q5 => ?_)
      · refine s_X9_fromIsle_1 (by decide) ?_
        unfold b_X9_fromIsle_1
        refine s_X9_fromIsle_2 (by decide) ?_
        unfold b_X9_fromIsle_2
        refine ok_if (fun q6 => ?_) (fun q6 => ?_)
        · exact ok_some ⟨by (try rw [e2]); split <;> first | (exact e (by omega) (by omega)) | omega, rfl⟩
        · refine ok_ck (by omega) ?_
          refine ok_ck (by omega) ?_
          refine ok_ck (by omega) ?_
          exact ok_some ⟨by (try rw [e2]); split <;> first | (exact e (by omega) (by omega)) | omega, rfl⟩
      · refine ok_if (fun q7 => ?_) (fun q7 => ?_)
        · refine s_X9_fromIsle_1 (by decide) ?_
          unfold b_X9_fromIsle_1
          refine s_X9_fromIsle_2 (by decide) ?_
          unfold b_X9_fromIsle_2
          refine ok_if (fun q8 => ?_) (fun q8 => ?_)
          · exact ok_some ⟨by (try rw [e2]); split <;> first | (exact e (by omega) (by omega)) | omega, rfl⟩
          · refine ok_ck (by omega) ?_
            refine ok_ck (by omega) ?_
            refine ok_ck (by omega) ?_
            exact ok_some ⟨by (try rw [e2]); split <;> first | (exact e (by omega) (by omega)) | omega, rfl⟩
        · refine s_X9_fromIsle_2 (by decide) ?_
          unfold b_X9_fromIsle_2
          refine ok_if (fun q9 => ?_) (fun q9 => ?_)
          · exact ok_some ⟨by (try rw [e2]); split <;> first | (exact e (by omega) (by omega)) | omega, rfl⟩
          · refine ok_ck (by omega) ?_
            refine ok_ck (by omega) ?_
            refine ok_ck (by omega) ?_
            exact ok_some ⟨by (try rw [e2]); split <;> first | (exact e (by omega) (by omega)) | omega, rfl⟩
def nmF (C V : Ch) (i k x p : Int) : Int → Int := fun j => if j = 0 then k else if j = 1 then C 35 x else if j = 2 then (if wnF C (V 0 0) = k then 1 else 0) else if j = 3 then V 0 0 else if j = 4 then p else if j = 5 then V 8 i else V 2 0
def valF (C V : Ch) (i k x p : Int) : Option (List Int) := ev C (nmF C V i k x p) (C 31 i - C 30 i).toNat (C 30 i) []
theorem nm_b (w : CW C) (vw : VW C V) (i1 : 0 ≤ i) (i2 : i < sz C) (k1 : 0 ≤ k) (k2 : k < 4) (x1 : 0 ≤ x) (x2 : x < 64) (p1 : 0 ≤ p) (p2 : p ≤ 9) (j : Int) : bnd (nmF C V i k x p j) := by
  have a := farV_r (cw_F w x x1 x2)
  have b := vw_m vw
  have d := vw_o vw i i1 i2
  have e := vw_s vw
  unfold nmF bnd
  split
  · omega
  · split
    · omega
    · split
      · split <;> omega
      · split
        · omega
        · split
          · omega
          · split <;> omega
/-- what E leaves is in bounds -/
theorem ev_b (w : CW C) (bN : ∀ j, 0 ≤ j → j < 7 → bnd (N j)) : ∀ (t : Nat) (k : Int) (s s2 : List Int), 0 ≤ k → k + t ≤ C 32 0 → (∀ y ∈ s, bnd y) → ev C N t k s = some s2 → ∀ y ∈ s2, bnd y
  | 0, k, s, s2, _, _, a, b => by simp only [ev, Option.some.injEq] at b; rw [← b]; exact a
  | t + 1, k, s, s2, k1, k2, a, b => by
    obtain ⟨c1, c2, c3, c4⟩ := cw_k w k k1 (by omega)
    unfold ev at b
    by_cases z0 : C 33 k = 0
    · rw [if_pos z0] at b
      exact ev_b w bN t _ _ _ (by omega) (by omega) (List.forall_mem_cons.mpr ⟨by have := c3 z0; unfold bnd; omega, a⟩) b
    · rw [if_neg z0] at b
      by_cases z1 : C 33 k = 1
      · rw [if_pos z1] at b
        have d := c4 z1
        exact ev_b w bN t _ _ _ (by omega) (by omega) (List.forall_mem_cons.mpr ⟨bN _ d.1 d.2, a⟩) b
      · rw [if_neg z1] at b
        by_cases z4 : C 33 k = 4
        · rw [if_pos z4] at b
          match s, a, b with
          | [], a, b => simp at b
          | x :: s, a, b => exact ev_b w bN t _ _ _ (by omega) (by omega) (List.forall_mem_cons.mpr ⟨by unfold bnd; split <;> omega, fun y hy => a y (List.mem_cons_of_mem _ hy)⟩) b
        · rw [if_neg z4] at b
          match s, a, b with
          | [], a, b => simp at b
          | [x], a, b => simp at b
          | y :: x :: s, a, b =>
            simp only at b
            cases ej : jn (C 33 k) x y with
            | none => rw [ej] at b; cases b
            | some v => rw [ej] at b; exact ev_b w bN t _ (v :: s) _ (by omega) (by omega) (List.forall_mem_cons.mpr ⟨jn_b ej, fun y hy => a y (List.mem_cons_of_mem _ (List.mem_cons_of_mem _ hy))⟩) b
/-- the number of E, 0 for an ERROR -/
def vv (o : Option (List Int)) : Int := match o with
  | some (v :: _) => v
  | _ => 0
/-- what E is: one number in bounds, or an ERROR -/
theorem val_c (w : CW C) (vw : VW C V) (i1 : 0 ≤ i) (i2 : i < sz C) (k1 : 0 ≤ k) (k2 : k < 4) (x1 : 0 ≤ x) (x2 : x < 64) (p1 : 0 ≤ p) (p2 : p ≤ 9) : (valF C V i k x p = none ∧ evv (valF C V i k x p) = MIN ∧ vv (valF C V i k x p) = 0) ∨ ∃ y, bnd y ∧ valF C V i k x p = some [y] ∧ evv (valF C V i k x p) = y ∧ vv (valF C V i k x p) = y := by
  have m := cw_m w i i1 i2
  cases e : valF C V i k x p with
  | none => exact Or.inl ⟨rfl, rfl, rfl⟩
  | some s =>
    have a := ev_1 _ _ _ _ 1 (cw_v w i i1 i2) e
    have b := ev_b w (fun j _ _ => nm_b w vw i1 i2 k1 k2 x1 x2 p1 p2 j) _ _ _ _ (by omega) (by omega) (by simp) e
    match s, a, b with
    | [y], _, b => exact Or.inr ⟨y, b y (by simp), rfl, rfl, rfl⟩
def NmW : Nat → Int → Int → Prop := fun r _ _ => r = 27 ∨ r = 28
theorem nmw_C : ∀ (r : Nat) (i k : Int), inC r k → ¬ NmW r i k := by intro r i k; unfold inC NmW; omega
theorem cx_q {h : Hp} {c : Int} {C : Ch} (z : CX h c C) : isC h c C := z.2.1
set_option maxHeartbeats 8000000 in
theorem p_X2_value (hx : CX h c C) (hv : isV C h v V) (vw : VW C V) (i1 : 0 ≤ i) (i2 : i < sz C) (k1 : 0 ≤ k) (k2 : k < 4) (x1 : 0 ≤ x) (x2 : x < 64) (p1 : 0 ≤ p) (p2 : p ≤ 9) : ok (f_X2_value v i k x p h) (fun r h' => r = evv (valF C V i k x p) ∧ Fr NmW h h') := by
  have w := hx.2.2
  have q := hx.2.1
  have ez := sz_r w
  have vm := vw_m vw
  have e0 := iv_0 hv
  have e2 := iv_2 hv
  have e8 := iv_8 hv i i1 i2
  obtain ⟨m, hm, n0, n1, n2, n3, n4, n5, n6, n7, n8, n9⟩ := ic_22 q i i1 i2
  have mb := cw_m w i i1 i2
  have s1 : ∀ (h : Hp) (a b d : Int), CX h c C → CX (sI h 27 a b d) c C := fun h a b d z => CX_sI (by intro k; unfold inC; omega) z
  have hx1 := s1 _ c 0 k hx
  have hx2 := s1 _ c 1 (C 35 x) hx1
  have fin : ∀ (n : Nat) (y : Int), 5 ≤ n → y = (if wnF C (V 0 0) = k then 1 else 0) → ok (g_X2_value n 1 [v, i, p, c, y, 2, c] (sI (sI h 27 c 0 k) 27 c 1 (C 35 x))) (fun r h' => r = evv (valF C V i k x p) ∧ Fr NmW h h') := by
    intro n y hn hy
    refine s_X2_value_1 (by omega) ?_
    unfold b_X2_value_1
    refine ok_ck (by omega) (ok_lt (ok_ck (by omega) (ok_lt (ok_ck (by omega) (ok_lt (ok_ck (by omega) (ok_ck (by omega) (ok_lt (ok_ck (by omega) (ok_lt ?_))))))))))
    refine ok_rf (j := c) hx.1 (ok_rf (j := c) hx.1 (ok_ck (by omega) (ok_rf (j := m) hm (ok_rf (j := c) hx.1 (ok_ck (by omega) (ok_rf (j := m) hm ?_))))))
    simp only [gI_nr (show (4 : Nat) ≠ 27 by decide), gI_nr (show (10 : Nat) ≠ 27 by decide), gI_nr (show (57 : Nat) ≠ 27 by decide), n8, n9, e0, e2, e8]
    refine ok_bq (p_X1_work (C := C) (N := nmF C V i k x p) (cx_q (s1 _ c 6 _ (s1 _ c 5 _ (s1 _ c 4 p (s1 _ c 3 _ (s1 _ c 2 y hx2)))))) w (by omega) (by omega) (by omega) (cw_v w i i1 i2) ?_ (fun j _ _ => nm_b w vw i1 i2 k1 k2 x1 x2 p1 p2 j)) ?_
    · intro j j1 j2
      have ej : j = 0 ∨ j = 1 ∨ j = 2 ∨ j = 3 ∨ j = 4 ∨ j = 5 ∨ j = 6 := by omega
      simp only [gI_sI, nmF]
      rcases ej with e | e | e | e | e | e | e <;> subst e <;> simp [hy]
    · intro r h' z
      refine ok_some ⟨z.1, fr_tr ?_ (fr_mo z.2 (fun r i k y => Or.inr y))⟩
      repeat (first | exact fr_rf | refine fr_sI ?_ (Or.inl rfl))
  have ev0 : gI (sI (sI h 27 c 0 k) 27 c 1 (C 35 x)) 10 v 0 = V 0 0 := by rw [gI_nr (by decide), gI_nr (by decide)]; exact e0
  unfold f_X2_value
  refine s_X2_value_0 (by decide) ?_
  unfold b_X2_value_0
  refine ok_rf (j := c) hx.1 (ok_be (p_X0_isMouth q w) (ok_f (fun z => b2i_0.mp z ⟨i1, i2⟩) (ok_rf (j := c) hx.1 (ok_ck (by omega) (ok_lt (ok_rf (j := c) hx1.1 (ok_be (p9_fromBahia hx1.2.1 x1 x2) (ok_ck (by omega) (ok_lt (ok_rf (j := c) hx2.1 (ok_be (p_X0_windAt hx2.2.1 w (by rw [ev0]; omega)) ?_)))))))))))
  rw [ev0]
  refine ok_if (fun z => ?_) (fun z => ?_)
  · exact fin _ 1 (by decide) (by rw [if_pos z])
  · exact fin _ 0 (by decide) (by rw [if_neg z])
/-- the wish: best COURSE and its number among the first n -/
def wsh (C V : Ch) (i p : Int) : Nat → Int × Int
  | 0 => (-1, 0)
  | n + 1 => if wtC C (stC C (V 1 0) n) then (if (wsh C V i p n).1 = -1 ∨ (wsh C V i p n).2 < vv (valF C V i n (stC C (V 1 0) n) p) then ((n : Int), vv (valF C V i n (stC C (V 1 0) n) p)) else wsh C V i p n) else wsh C V i p n
def wsF (C V : Ch) (i p : Int) : Int := (wsh C V i p 4).1
theorem wsh_r {C V : Ch} {i p : Int} : ∀ n : Nat, -1 ≤ (wsh C V i p n).1 ∧ (wsh C V i p n).1 < n
  | 0 => by simp [wsh]
  | n + 1 => by
    have := wsh_r (C := C) (V := V) (i := i) (p := p) n
    unfold wsh
    split
    · split
      · show -1 ≤ (n : Int) ∧ (n : Int) < _; omega
      · omega
    · omega
theorem wsF_r {C V : Ch} {i p : Int} : -1 ≤ wsF C V i p ∧ wsF C V i p < 4 := wsh_r 4
/-- what is kept of wishes is so -/
def mmO (h : Hp) (C V : Ch) : Prop := gI h 2 0 10 = -1 ∨ ((gI h 2 0 10 = 0 ∨ gI h 2 0 10 = 90 ∨ gI h 2 0 10 = 180) ∧ ∀ i p, 0 ≤ i → i < sz C → 0 ≤ p → p ≤ 9 → gI h 33 0 (gI h 2 0 10 + i * 10 + p) = -2 ∨ gI h 33 0 (gI h 2 0 10 + i * 10 + p) = wsF C V i p)
theorem mmO_eq {h h2 : Hp} {C V : Ch} (e : gI h2 2 0 10 = gI h 2 0 10) (e2 : ∀ k, gI h2 33 0 k = gI h 33 0 k) (q : mmO h C V) : mmO h2 C V := by
  unfold mmO at q ⊢
  simp only [e, e2]
  exact q
def WiW (b : Int) : Nat → Int → Int → Prop := fun r _ k => r = 27 ∨ r = 28 ∨ (r = 33 ∧ 0 ≤ b ∧ b ≤ k ∧ k < b + 90)
theorem wiw_C {b : Int} : ∀ (r : Nat) (i k : Int), inC r k → ¬ WiW b r i k := by intro r i k; unfold inC WiW; omega
set_option maxHeartbeats 8000000 in
theorem p_X2_wishOf {h0 : Hp} (hx0 : CX h0 c C) (hv0 : isV C h0 v V) (vw : VW C V) (i1 : 0 ≤ i) (i2 : i < sz C) (p1 : 0 ≤ p) (p2 : p ≤ 9) (hm : mmO h0 C V) : ok (f_X2_wishOf v i p h0) (fun r h' => r = wsF C V i p ∧ Fr (WiW (gI h0 2 0 10)) h0 h' ∧ mmO h' C V) := by
  have w := hx0.2.2
  have ez := sz_r w
  have hmul := sea_mul (cw_W w)
  have key : ∀ (t n : Nat) (h : Hp) (z kp b m x : Int) (a : Nat), 4 - a = t → a ≤ 4 → x = (a : Int) → 5 * t + 5 ≤ n → Fr NmW h0 h → b = (wsh C V i p a).1 → m = (wsh C V i p a).2 → (kp = 0 ∨ (0 ≤ gI h0 2 0 10 ∧ z = gI h0 2 0 10 + i * 10 + p)) → ok (g_X2_wishOf n 4 [v, i, p, z, kp, b, m, x] h) (fun r h' => r = wsF C V i p ∧ Fr (WiW (gI h0 2 0 10)) h0 h' ∧ mmO h' C V) := by
    intro t
    induction t with
    | zero =>
      intro n h z kp b m x a ht ha hx hn hF hb hb2 hk
      have ha4 : a = 4 := by omega
      subst ha4
      refine s_X2_wishOf_4 (by omega) ?_
      unfold b_X2_wishOf_4
      have f2 : gI h 2 0 10 = gI h0 2 0 10 := hF.1 2 0 10 (by unfold NmW; omega)
      have f33 : ∀ k, gI h 33 0 k = gI h0 33 0 k := fun k => hF.1 33 0 k (by unfold NmW; omega)
      have hF2 : Fr (WiW (gI h0 2 0 10)) h0 h := fr_mo hF (fun r i k y => by unfold NmW at y; unfold WiW; omega)
      refine ok_t (by omega) (ok_if (fun y => ok_some ⟨hb, hF2, mmO_eq f2 f33 hm⟩) (fun y => ?_))
      have hk := hk.resolve_left y
      have hm2 : gI h0 2 0 10 = 0 ∨ gI h0 2 0 10 = 90 ∨ gI h0 2 0 10 = 180 := by
        rcases hm with z | z
        · omega
        · exact z.1
      refine ok_ck (by omega) (ok_lt (ok_some ⟨hb, fr_sI hF2 (by unfold WiW; omega), ?_⟩))
      rcases hm with hm | hm
      · omega
      · right
        have e2 : gI (sI h 33 0 z b) 2 0 10 = gI h0 2 0 10 := by rw [gI_nr (by decide)]; exact f2
        rw [e2]
        refine ⟨hm.1, fun j p' j1 j2 p3 p4 => ?_⟩
        rw [gI_sI]
        by_cases ee : gI h0 2 0 10 + j * 10 + p' = z
        · rw [if_pos ⟨rfl, rfl, ee⟩]
          have ej : j = i := by omega
          have ep : p' = p := by omega
          rw [ej, ep]
          right; exact hb
        · rw [if_neg (fun y => ee y.2.2), f33]
          exact hm.2 j p' j1 j2 p3 p4
    | succ t ih =>
      intro n h z kp b m x a ht ha hx hn hF hb hb2 hk
      subst hx
      have hxx : CX h c C := CX_fr hF nmw_C hx0
      have hv : isV C h v V := isV_fr hF (fun k => by unfold NmW; omega) hv0
      have e1 : wsh C V i p (a + 1) = if wtC C (stC C (V 1 0) a) then (if (wsh C V i p a).1 = -1 ∨ (wsh C V i p a).2 < vv (valF C V i a (stC C (V 1 0) a) p) then ((a : Int), vv (valF C V i a (stC C (V 1 0) a) p)) else wsh C V i p a) else wsh C V i p a := rfl
      have next : ∀ (m' : Nat) (h' : Hp) (b' mo' : Int), 5 * t + 6 ≤ m' → Fr NmW h0 h' → b' = (wsh C V i p (a + 1)).1 → mo' = (wsh C V i p (a + 1)).2 → ok (g_X2_wishOf m' 7 [v, i, p, z, kp, b', mo', (a : Int)] h') (fun r h' => r = wsF C V i p ∧ Fr (WiW (gI h0 2 0 10)) h0 h' ∧ mmO h' C V) := by
        intro m' h' b' mo' q1 q2 q3 q4
        refine s_X2_wishOf_7 (by omega) ?_
        unfold b_X2_wishOf_7
        exact ok_ck (by omega) (ih _ h' z kp b' mo' _ (a + 1) (by omega) (by omega) (by omega) (by omega) q2 q3 q4 hk)
      refine s_X2_wishOf_4 (by omega) ?_
      unfold b_X2_wishOf_4
      refine ok_f (by omega) (ok_rf (j := c) hxx.1 ?_)
      rw [iv_1 hv]
      refine ok_be (p9_step hxx.2.1 w) (ok_rf (j := c) hxx.1 (ok_be (p9_isWater hxx.2.1 w) ?_))
      refine ok_if (fun y => ?_) (fun y => ?_)
      · have y := b2i_0.mp y
        exact next _ _ _ _ (by omega) hF (by rw [e1, if_neg y]; exact hb) (by rw [e1, if_neg y]; exact hb2)
      · have y := b2i_n.mp y
        have y1 : 0 ≤ stC C (V 1 0) a := y.1.1
        have y2 : stC C (V 1 0) a < 64 := by have := y.1.2; omega
        refine ok_bq (p_X2_value hxx hv vw i1 i2 (by omega) (by omega) y1 y2 p1 p2) ?_
        intro v8 h9 ⟨r1, r2⟩
        have hF2 := fr_tr hF r2
        have go5 : ∀ (m' : Nat) (y0 : Int), 5 * t + 8 ≤ m' → y0 = vv (valF C V i a (stC C (V 1 0) a) p) → ok (g_X2_wishOf m' 5 [v, i, p, z, kp, b, m, (a : Int), y0] h9) (fun r h' => r = wsF C V i p ∧ Fr (WiW (gI h0 2 0 10)) h0 h' ∧ mmO h' C V) := by
          intro m' y0 q1 q2
          have go6 : ∀ (m' : Nat), 5 * t + 7 ≤ m' → ((wsh C V i p a).1 = -1 ∨ (wsh C V i p a).2 < vv (valF C V i a (stC C (V 1 0) a) p)) → ok (g_X2_wishOf m' 6 [v, i, p, z, kp, (a : Int), y0] h9) (fun r h' => r = wsF C V i p ∧ Fr (WiW (gI h0 2 0 10)) h0 h' ∧ mmO h' C V) := by
            intro m' q3 q4
            refine s_X2_wishOf_6 (by omega) ?_
            unfold b_X2_wishOf_6
            exact next _ _ _ _ (by omega) hF2 (by rw [e1, if_pos y, if_pos q4]) (by rw [e1, if_pos y, if_pos q4]; exact q2)
          refine s_X2_wishOf_5 (by omega) ?_
          unfold b_X2_wishOf_5
          refine ok_if (fun y3 => go6 _ (by omega) (Or.inl (by rw [← hb]; exact y3))) (fun y3 => ok_if (fun y4 => ?_) (fun y4 => go6 _ (by omega) (Or.inr ?_)))
          · have y4 := lc_le0.mp y4
            have nn : ¬ ((wsh C V i p a).1 = -1 ∨ (wsh C V i p a).2 < vv (valF C V i a (stC C (V 1 0) a) p)) := by rw [← hb, ← hb2, ← q2]; omega
            exact next _ _ _ _ (by omega) hF2 (by rw [e1, if_pos y, if_neg nn]; exact hb) (by rw [e1, if_pos y, if_neg nn]; exact hb2)
          · have y4 : ¬ y0 ≤ m := fun z => y4 (lc_le0.mpr z)
            rw [← hb2, ← q2]; omega
        have vc := val_c (V := V) w vw i1 i2 (k := (a : Int)) (by omega) (by omega) y1 y2 p1 p2
        refine ok_if (fun y3 => go5 _ 0 (by omega) ?_) (fun y3 => go5 _ v8 (by omega) ?_)
        · have y3 := lc_eq0.mp y3
          rcases vc with vc | ⟨y5, b5, vc1, vc2, vc3⟩
          · exact vc.2.2.symm
          · unfold bnd at b5; omega
        · have y3 : ¬ v8 = -9223372036854775808 := fun z => y3 (lc_eq0.mpr z)
          rcases vc with vc | ⟨y5, b5, vc1, vc2, vc3⟩
          · exact absurd (r1.trans vc.2.1) y3
          · rw [vc3, r1, vc2]
  have mb : -1 ≤ gI h0 2 0 10 ∧ gI h0 2 0 10 ≤ 180 := by rcases hm with z | z <;> omega
  have go3 : ∀ (n : Nat) (z kp : Int), 100 ≤ n → (kp = 0 ∨ (0 ≤ gI h0 2 0 10 ∧ z = gI h0 2 0 10 + i * 10 + p)) → ok (g_X2_wishOf n 3 [v, i, p, z, kp] h0) (fun r h' => r = wsF C V i p ∧ Fr (WiW (gI h0 2 0 10)) h0 h' ∧ mmO h' C V) := by
    intro n z kp hn hk
    refine s_X2_wishOf_3 (by omega) ?_
    unfold b_X2_wishOf_3
    exact key 4 _ _ _ _ _ _ _ 0 (by omega) (by omega) (by omega) (by omega) fr_rf rfl rfl hk
  have go1 : ∀ (n : Nat) (z : Int), 200 ≤ n → ok (g_X2_wishOf n 1 [v, i, p, z] h0) (fun r h' => r = wsF C V i p ∧ Fr (WiW (gI h0 2 0 10)) h0 h' ∧ mmO h' C V) := by
    intro n z hn
    refine s_X2_wishOf_1 (by omega) ?_
    unfold b_X2_wishOf_1
    refine s_X2_wishOf_2 (by omega) ?_
    unfold b_X2_wishOf_2
    exact ok_t rfl (go3 _ _ _ (by omega) (Or.inl rfl))
  unfold f_X2_wishOf
  refine s_X2_wishOf_0 (by decide) ?_
  unfold b_X2_wishOf_0
  refine ok_ck (by omega) (ok_ck (by omega) (ok_ck (by omega) (ok_lt ?_)))
  refine ok_if (fun y => go1 _ _ (by decide)) (fun y => ok_if (fun y => go1 _ _ (by decide)) (fun y => ok_if (fun y => go1 _ _ (by decide)) (fun y => ?_)))
  refine s_X2_wishOf_2 (by decide) ?_
  unfold b_X2_wishOf_2
  refine ok_f (by decide) (ok_ck (by omega) (ok_if (fun y => go3 _ _ _ (by decide) (Or.inr ⟨by omega, rfl⟩)) (fun y => ok_ck (by omega) (ok_some ⟨?_, fr_rf, hm⟩))))
  rcases hm with hm | hm
  · omega
  · exact (hm.2 i p i1 i2 p1 p2).resolve_left y
end
