/-! CALLS, 1 -/
/-- the two answer alike, and what they leave is alike -/
def Agr (fC fR : Hp → Option (Int × Hp)) : Prop := ∀ (h : Hp) (c : Int) (σ : Sg), SW σ → IC h c σ → ∃ (a : Int) (σ' : Sg), SW σ' ∧ ok (fC h) (fun r h' => r = a ∧ (∃ c', IC h' c' σ') ∧ FrX ClW h h') ∧ ∀ h2 : Hp, IR h2 σ → ok (fR h2) (fun r h' => r = a ∧ IR h' σ' ∧ Fr ReW h2 h')
theorem ok_rc {h : Hp} {c a : Int} {σ : Sg} {o : Option (Int × Hp)} (q : IC h c σ) (e : o = some (a, h)) : ok o (fun r h' => r = a ∧ (∃ c', IC h' c' σ) ∧ FrX ClW h h') := ⟨a, h, e, rfl, ⟨c, q⟩, cx_rf⟩
theorem ok_rr {h : Hp} {a : Int} {σ : Sg} {o : Option (Int × Hp)} (w : SW σ) (q : IR h σ) (e : o = some (a, sI h 12 0 0 0)) : ok o (fun r h' => r = a ∧ IR h' σ ∧ Fr ReW h h') := ⟨a, _, e, rfl, IR_0 w q, fr_sI fr_rf (Or.inl rfl)⟩
def stV (σ : Sg) (k : Nat) (V : Ch) : Sg := (σ.1, fun j => if j = k then V else σ.2.1 j, σ.2.2)
def stX (σ : Sg) (X : Ch) : Sg := (σ.1, σ.2.1, X)
theorem agr_fault {x : Int} : Agr (f_X11_fault x) (f_X12_fault x) := by
  intro h c σ w q
  refine ⟨if x = 0 then sX σ 27 0 else if x = 1 then sX σ 28 0 else -1, σ, w, ok_rc q ?_, fun h2 q2 => ok_rr w q2 ?_⟩
  · refine ok_eq.mp (fuv_X11_fault (fun n hn => ?_))
    refine s_X11_fault_0 (by omega) ?_
    unfold b_X11_fault_0
    have kf := q.2.2.2.2.2.2.2.2.2.1
    exact ok_if (fun y => ok_some ⟨by rw [if_pos y]; exact kf.1, rfl⟩) (fun y => ok_if (fun y2 => ok_some ⟨by rw [if_neg y, if_pos y2]; exact kf.2, rfl⟩) (fun y2 => ok_some ⟨by rw [if_neg y, if_neg y2], rfl⟩))
  · refine ok_eq.mp (fuv_X12_fault (fun n hn => ?_))
    refine s_X12_fault_0 (by omega) ?_
    unfold b_X12_fault_0
    have kf := q2.2.2.2.2.2.2.2.2
    refine ok_lt ?_
    rw [gI_nk (show (34 : Int) ≠ 0 by decide), gI_nk (show (35 : Int) ≠ 0 by decide), kf.1, kf.2.1]
    exact ok_if (fun y => ok_some ⟨by rw [if_pos y], rfl⟩) (fun y => ok_if (fun y2 => ok_some ⟨by rw [if_neg y, if_pos y2], rfl⟩) (fun y2 => ok_some ⟨by rw [if_neg y, if_neg y2], rfl⟩))
theorem agr_ship {x : Int} : Agr (f_X11_ship x) (f_X12_ship x) := by
  intro h c σ w q
  refine ⟨if x = 0 then sV σ 0 1 0 else if x = 1 then sC σ 4 0 else if x = 2 then sV σ 0 2 0 else if x = 3 then sV σ 0 7 0 else -1, σ, w, ok_rc q ?_, fun h2 q2 => ok_rr w q2 ?_⟩
  · refine ok_eq.mp (fuv_X11_ship (fun n hn => ?_))
    refine s_X11_ship_0 (by omega) ?_
    unfold b_X11_ship_0
    have kv := q.2.2.1.1
    rw [iv_1 kv, iv_2 kv, iv_7 kv]
    refine ok_if (fun y => ok_some ⟨by rw [if_pos y], rfl⟩) (fun y => ok_if (fun y2 => ok_rf (j := c) q.1.1 (ok_some ⟨?_, rfl⟩)) (fun y2 => ok_if (fun y3 => ok_some ⟨by rw [if_neg y, if_neg y2, if_pos y3], rfl⟩) (fun y3 => ok_if (fun y4 => ok_some ⟨by rw [if_neg y, if_neg y2, if_neg y3, if_pos y4], rfl⟩) (fun y4 => ok_some ⟨by rw [if_neg y, if_neg y2, if_neg y3, if_neg y4], rfl⟩))))
    rw [if_neg y, if_pos y2]; exact ic_4 q.1.2.2.2.2.1
  · refine ok_eq.mp (fuv_X12_ship (fun n hn => ?_))
    refine s_X12_ship_0 (by omega) ?_
    unfold b_X12_ship_0
    have rv := q2.2.2.1.1
    have ra := q2.1
    refine ok_lt ?_
    rw [gI_nr (show (85 : Nat) ≠ 12 by decide), gI_nr (show (61 : Nat) ≠ 12 by decide), gI_nr (show (86 : Nat) ≠ 12 by decide), gI_nr (show (88 : Nat) ≠ 12 by decide), is_1 rv, is_2 rv, is_7 rv, ir_4 ra]
    exact ok_if (fun y => ok_ck (by decide) (ok_some ⟨by rw [if_pos y], rfl⟩)) (fun y => ok_if (fun y2 => ok_ck (by decide) (ok_some ⟨by rw [if_neg y, if_pos y2], rfl⟩)) (fun y2 => ok_if (fun y3 => ok_ck (by decide) (ok_some ⟨by rw [if_neg y, if_neg y2, if_pos y3], rfl⟩)) (fun y3 => ok_if (fun y4 => ok_ck (by decide) (ok_some ⟨by rw [if_neg y, if_neg y2, if_neg y3, if_pos y4], rfl⟩)) (fun y4 => ok_some ⟨by rw [if_neg y, if_neg y2, if_neg y3, if_neg y4], rfl⟩))))
section
variable {h : Hp} {c x y : Int} {C : Ch}
theorem p9_isCell (q : isC h c C) (w : CW C) : f_X9_isCell c x h = some (b2i (cellP (C 0 0) (C 1 0) x), h) := by
  rw [p_X9_isCell (seaB_of q w), ic_0 q, ic_1 q]
theorem p9_isLand (q : isC h c C) (w : CW C) : f_X9_isLand c x h = some (b2i (cellP (C 0 0) (C 1 0) x ∧ C 2 x = 1), h) := by
  rw [p_X9_isLand (seaB_of q w)]
  have hm := sea_mul (cw_W w)
  refine congrArg (fun z => some (z, h)) (b2i_c ?_)
  rw [ic_0 q, ic_1 q]
  constructor
  · intro z; exact ⟨z.1, (ic_2 q x z.1.1 (by have := z.1.2; omega)).mp z.2⟩
  · intro z; exact ⟨z.1, (ic_2 q x z.1.1 (by have := z.1.2; omega)).mpr z.2⟩
theorem p12_isCell (q : isR h C) (w : CW C) : f_X12_isCell x h = some (b2i (cellP (C 0 0) (C 1 0) x), h) := by
  have hm := sea_mul (cw_W w)
  have ec : f_X12_cells h = some (C 0 0 * C 1 0, h) := by
    refine ok_eq.mp (fuv_X12_cells (fun n hn => ?_))
    refine s_X12_cells_0 (by omega) ?_
    unfold b_X12_cells_0
    rw [ir_0 q, ir_1 q]
    exact ok_ck (by decide) (ok_ck (by decide) (ok_ck (by omega) (ok_some ⟨rfl, rfl⟩)))
  refine ok_eq.mp (fuv_X12_isCell (fun n hn => ?_))
  refine s_X12_isCell_0 (by omega) ?_
  unfold b_X12_isCell_0 b2i
  refine ok_if (fun z => ok_some ⟨?_, rfl⟩) (fun z => ok_be ec (ok_if (fun z2 => ok_some ⟨?_, rfl⟩) (fun z2 => ok_some ⟨?_, rfl⟩)))
  · rw [if_neg (fun u => by have := u.1; omega)]
  · rw [if_neg (fun u => by have := u.2; omega)]
  · rw [if_pos ⟨by omega, by omega⟩]
end
theorem agr_land {x : Int} : Agr (f_X11_land x) (f_X12_land x) := by
  intro h c σ w q
  have wC := sw_C w
  have hm := sea_mul (cw_W wC)
  refine ⟨if cellP (sC σ 0 0) (sC σ 1 0) x then sC σ 2 x else -1, σ, w, ok_rc q ?_, fun h2 q2 => ok_rr w q2 ?_⟩
  · refine ok_eq.mp (fuv_X11_land (fun n hn => ?_))
    refine s_X11_land_0 (by omega) ?_
    unfold b_X11_land_0
    have qc := q.1.2.2.2.2.1
    refine ok_rf (j := c) q.1.1 (ok_be (p9_isCell qc wC) (ok_if (fun y => ok_some ⟨by rw [if_neg (b2i_0.mp y)], rfl⟩) (fun y => ok_rf (j := c) q.1.1 (ok_be (p9_isLand qc wC) (ok_if (fun y2 => ok_some ⟨?_, rfl⟩) (fun y2 => ok_some ⟨?_, rfl⟩))))))
    · have y := b2i_n.mp y
      have z := cw_L wC x y.1 (by have := y.2; omega)
      rw [if_pos y]
      rcases z with z | z
      · exact z.symm
      · exact absurd ⟨y, z⟩ (b2i_0.mp y2)
    · have y2 := b2i_n.mp y2
      rw [if_pos y2.1]; exact y2.2.symm
  · refine ok_eq.mp (fuv_X12_land (fun n hn => ?_))
    refine s_X12_land_0 (by omega) ?_
    unfold b_X12_land_0
    have ra : isR (sI h2 12 0 0 0) (sC σ) := (IR_0 w q2).1
    refine ok_lt (ok_be (p12_isCell ra wC) (ok_if (fun y => ok_some ⟨by rw [if_neg (b2i_0.mp y)], rfl⟩) (fun y => ?_)))
    have y := b2i_n.mp y
    have x6 : x < 64 := by have := y.2; omega
    have z := cw_L wC x y.1 x6
    rw [if_pos y, ir_l ra x y.1 x6]
    exact ok_ck ⟨y.1, by omega⟩ (ok_if (fun y2 => ok_some ⟨y2.symm, rfl⟩) (fun y2 => ok_some ⟨by omega, rfl⟩))
theorem IC_sp {h h2 : Hp} {c : Int} {σ : Sg} (f : Fr (SpW c (4 * 64)) h h2) (q : IC h c σ) : IC h2 c σ := by
  have e : ∀ (r : Nat) (i k : Int), r ≠ 56 → (r ≠ 55 ∨ k < 256) → gI h2 r i k = gI h r i k := fun r i k z1 z2 => f.1 r i k (by unfold SpW; omega)
  obtain ⟨q1, q2, q3, q4, q5, q6, q7, q8, q9, q10, q11⟩ := q
  exact ⟨kA_e (fun r i k z => e r i k (by unfold inC at z; omega) (by unfold inC at z; omega)) f.2 q1, kR_e f.2 q2, kV_e (fun k => e 10 0 k (by omega) (by omega)) (fun k => e 57 0 k (by omega) (by omega)) q3, kG_e (fun k _ => e 2 0 k (by omega) (by omega)) q4, kL_e (fun r k a b => e r 0 k (by omega) (by omega)) q5, kU_e (e 11 0 10 (by omega) (by omega)) (fun v k _ _ => e 10 v k (by omega) (by omega)) (fun v k _ _ => e 57 v k (by omega) (by omega)) q6, kI_e (e 11 0 13 (by omega) (by omega)) (fun k => e 10 21 k (by omega) (by omega)) (fun k => e 57 21 k (by omega) (by omega)) (fun r k a b => e r 1 k (by omega) (by omega)) q7, kN_e (fun k _ => e 5 0 k (by omega) (by omega)) (fun r k a b => e r 0 k (by omega) (by omega)) q8, kT_e (e 11 0 1 (by omega) (by omega)) (fun k => e 58 0 k (by omega) (by omega)) q9, kF_e (fun k _ => e 7 0 k (by omega) (by omega)) q10, kQ_e (e 11 0 16 (by omega) (by omega)) q11⟩
theorem agr_far {x y : Int} : Agr (f_X11_far x y) (f_X12_far x y) := by
  intro h c σ w q
  have wC := sw_C w
  have hm := sea_mul (cw_W wC)
  have qc := q.1.2.2.2.2.1
  by_cases z : cellP (sC σ 0 0) (sC σ 1 0) x ∧ cellP (sC σ 0 0) (sC σ 1 0) y
  · obtain ⟨zx, zy⟩ := z
    have x6 : x < 64 := by have := zx.2; omega
    have y6 : y < 64 := by have := zy.2; omega
    have wtq : ∀ u, wtr h c u ↔ wtC (sC σ) u := fun u => lbit_w qc wC
    have sp := p_X9_spread (h := h) (i := c) (a := x) (w := 4) (seaB_of qc wC) (by omega) (by omega)
    obtain ⟨v1, h1, e1, e2, e3, e4⟩ := sp
    have fv := e4 y zy.1 y6
    have fv2 : farV (stC (sC σ)) (wtC (sC σ)) x y (gI h1 55 c (256 + y)) := by
      have es : stp h c = stC (sC σ) := by unfold stp; rw [ic_0 qc, ic_1 qc]
      have ew : wtr h c = wtC (sC σ) := funext (fun u => propext (wtq u))
      rw [es, ew] at fv
      exact fv
    refine ⟨gI h1 55 c (256 + y), σ, w, ?_, fun h2 q2 => ok_rr w q2 ?_⟩
    · refine fuv_X11_far (fun n hn => ?_)
      refine s_X11_far_0 (by omega) ?_
      unfold b_X11_far_0
      refine ok_rf (j := c) q.1.1 (ok_be (p9_isCell qc wC) (ok_f (fun u => b2i_0.mp u zx) (ok_rf (j := c) q.1.1 (ok_be (p9_isCell qc wC) (ok_f (fun u => b2i_0.mp u zy) (ok_rf (j := c) q.1.1 ?_))))))
      have eb : f_X9_between c x y h = some (gI h1 55 c (256 + y), h1) := by
        refine ok_eq.mp (fuv_X9_between (fun n hn => ?_))
        refine s_X9_between_0 (by omega) ?_
        unfold b_X9_between_0
        have y0 := zy.1
        exact ok_be e1 (ok_f (by omega) (ok_f (by omega) (ok_ck (by omega) (ok_ck (by omega) (ok_some ⟨rfl, rfl⟩)))))
      refine ok_be eb (ok_some ⟨rfl, ⟨c, IC_sp e3 q⟩, cx_of e3 (fun r i k u => by unfold SpW at u; unfold ClW; omega)⟩)
    · refine ok_eq.mp (fuv_X12_far (fun n hn => ?_))
      refine s_X12_far_0 (by omega) ?_
      unfold b_X12_far_0
      have ra : isR (sI h2 12 0 0 0) (sC σ) := (IR_0 w q2).1
      have a0 := zx.1
      have a1 := zy.1
      refine ok_lt (ok_be (p12_isCell ra wC) (ok_f (fun u => b2i_0.mp u zx) (ok_be (p12_isCell ra wC) (ok_f (fun u => b2i_0.mp u zy) (ok_ck (by omega) (ok_ck (by omega) (ok_ck (by omega) (ok_some ⟨?_, rfl⟩))))))))
      exact farV_u (ir_f ra x y zx.1 x6 zy.1 y6) fv2
  · refine ⟨-1, σ, w, ok_rc q ?_, fun h2 q2 => ok_rr w q2 ?_⟩
    · refine ok_eq.mp (fuv_X11_far (fun n hn => ?_))
      refine s_X11_far_0 (by omega) ?_
      unfold b_X11_far_0
      refine ok_rf (j := c) q.1.1 (ok_be (p9_isCell qc wC) (ok_if (fun u => ok_some ⟨rfl, rfl⟩) (fun u => ok_rf (j := c) q.1.1 (ok_be (p9_isCell qc wC) (ok_t ?_ (ok_some ⟨rfl, rfl⟩))))))
      exact b2i_0.mpr (fun v => z ⟨b2i_n.mp u, v⟩)
    · refine ok_eq.mp (fuv_X12_far (fun n hn => ?_))
      refine s_X12_far_0 (by omega) ?_
      unfold b_X12_far_0
      have ra : isR (sI h2 12 0 0 0) (sC σ) := (IR_0 w q2).1
      refine ok_lt (ok_be (p12_isCell ra wC) (ok_if (fun u => ok_some ⟨rfl, rfl⟩) (fun u => ok_be (p12_isCell ra wC) (ok_t ?_ (ok_some ⟨rfl, rfl⟩)))))
      exact b2i_0.mpr (fun v => z ⟨b2i_n.mp u, v⟩)
section
variable {h : Hp} {c x y : Int} {C : Ch}
theorem p_X9_isleNamed (q : isC h c C) (w : CW C) : ok (f_X9_isleNamed c x h) (fun r h' => h' = h ∧ isF (fun k => C 6 k = x) (C 5 0) r) := by
  have e5 := ic_5 q
  have eI := cw_I w
  have key : ∀ (d n : Nat) (k : Int), (C 5 0 - k).toNat = d → 0 ≤ k → k ≤ C 5 0 → 2 * d + 2 ≤ n → (∀ j, 0 ≤ j → j < k → ¬ C 6 j = x) → ok (g_X9_isleNamed n 1 [c, x, k] h) (fun r h' => h' = h ∧ isF (fun k => C 6 k = x) (C 5 0) r) := by
    intro d
    induction d with
    | zero =>
      intro n k hd k1 k2 hn hj
      refine s_X9_isleNamed_1 (by omega) ?_
      unfold b_X9_isleNamed_1
      exact ok_t (by omega) (ok_some ⟨rfl, Or.inl ⟨rfl, fun j j1 j2 => hj j j1 (by omega)⟩⟩)
    | succ d ih =>
      intro n k hd k1 k2 hn hj
      refine s_X9_isleNamed_1 (by omega) ?_
      unfold b_X9_isleNamed_1
      rw [(ic_6 q k k1 (by omega)).1]
      refine ok_f (by omega) (ok_f (by omega) (ok_ck (by omega) (ok_if (fun z => ok_some ⟨rfl, Or.inr ⟨k1, by omega, z, hj⟩⟩) (fun z => ok_ck (by omega) (ih _ _ (by omega) (by omega) (by omega) (by omega) (fun j j1 j2 => ?_))))))
      by_cases u : j = k
      · rw [u]; exact z
      · exact hj j j1 (by omega)
  refine fuv_X9_isleNamed (fun n hn => ?_)
  refine s_X9_isleNamed_0 (by omega) ?_
  unfold b_X9_isleNamed_0
  exact key _ _ _ rfl (by omega) (by omega) (by omega) (fun j j1 j2 => by omega)
theorem p_X0_mouthNamed (q : isC h c C) (w : CW C) : ok (f_X0_mouthNamed c x h) (fun r h' => h' = h ∧ isF (fun k => C 22 k = x) (sz C) r) := by
  have ez := sz_r w
  have key : ∀ (d n : Nat) (k : Int), (sz C - k).toNat = d → 0 ≤ k → k ≤ sz C → 2 * d + 2 ≤ n → (∀ j, 0 ≤ j → j < k → ¬ C 22 j = x) → ok (g_X0_mouthNamed n 1 [c, x, k] h) (fun r h' => h' = h ∧ isF (fun k => C 22 k = x) (sz C) r) := by
    intro d
    induction d with
    | zero =>
      intro n k hd k1 k2 hn hj
      refine s_X0_mouthNamed_1 (by omega) ?_
      unfold b_X0_mouthNamed_1
      exact ok_be (p_X0_size q w) (ok_t (by omega) (ok_some ⟨rfl, Or.inl ⟨rfl, fun j j1 j2 => hj j j1 (by omega)⟩⟩))
    | succ d ih =>
      intro n k hd k1 k2 hn hj
      refine s_X0_mouthNamed_1 (by omega) ?_
      unfold b_X0_mouthNamed_1
      obtain ⟨m, hm, n0, -⟩ := ic_22 q k k1 (by omega)
      refine ok_be (p_X0_size q w) (ok_f (by omega) (ok_ck (by omega) (ok_rf (j := m) hm ?_)))
      rw [n0]
      refine ok_if (fun z => ok_some ⟨rfl, Or.inr ⟨k1, by omega, z, hj⟩⟩) (fun z => ok_ck (by omega) (ih _ _ (by omega) (by omega) (by omega) (by omega) (fun j j1 j2 => ?_)))
      by_cases u : j = k
      · rw [u]; exact z
      · exact hj j j1 (by omega)
  refine fuv_X0_mouthNamed (fun n hn => ?_)
  refine s_X0_mouthNamed_0 (by omega) ?_
  unfold b_X0_mouthNamed_0
  exact key _ _ _ rfl (by omega) (by omega) (by omega) (fun j j1 j2 => by omega)
theorem p_X12_found_r63 {a b : Int} (a1 : 0 ≤ a) (b1 : 0 ≤ b) (ab : a + b ≤ 6) : ok (f_X12_found_r63 a b x h) (fun r h' => h' = h ∧ isF (fun k => gI h 63 0 (a + k) = x) b r) := by
  have key : ∀ (d n : Nat) (k : Int), (b - k).toNat = d → 0 ≤ k → k ≤ b → 2 * d + 2 ≤ n → (∀ j, 0 ≤ j → j < k → ¬ gI h 63 0 (a + j) = x) → ok (g_X12_found_r63 n 1 [a, b, x, k] h) (fun r h' => h' = h ∧ isF (fun k => gI h 63 0 (a + k) = x) b r) := by
    intro d
    induction d with
    | zero =>
      intro n k hd k1 k2 hn hj
      refine s_X12_found_r63_1 (by omega) ?_
      unfold b_X12_found_r63_1
      exact ok_t (by omega) (ok_some ⟨rfl, Or.inl ⟨rfl, fun j j1 j2 => hj j j1 (by omega)⟩⟩)
    | succ d ih =>
      intro n k hd k1 k2 hn hj
      refine s_X12_found_r63_1 (by omega) ?_
      unfold b_X12_found_r63_1
      refine ok_f (by omega) (ok_ck (by omega) (ok_ck (by omega) (ok_if (fun z => ok_some ⟨rfl, Or.inr ⟨k1, by omega, z, hj⟩⟩) (fun z => ok_ck (by omega) (ih _ _ (by omega) (by omega) (by omega) (by omega) (fun j j1 j2 => ?_))))))
      by_cases u : j = k
      · rw [u]; exact z
      · exact hj j j1 (by omega)
  refine fuv_X12_found_r63 (fun n hn => ?_)
  refine s_X12_found_r63_0 (by omega) ?_
  unfold b_X12_found_r63_0
  exact key _ _ _ rfl (by omega) (by omega) (by omega) (fun j j1 j2 => by omega)
theorem p_X12_found_r71 {a b : Int} (a1 : 0 ≤ a) (b1 : 0 ≤ b) (ab : a + b ≤ 18) : ok (f_X12_found_r71 a b x h) (fun r h' => h' = h ∧ isF (fun k => gI h 71 0 (a + k) = x) b r) := by
  have key : ∀ (d n : Nat) (k : Int), (b - k).toNat = d → 0 ≤ k → k ≤ b → 2 * d + 2 ≤ n → (∀ j, 0 ≤ j → j < k → ¬ gI h 71 0 (a + j) = x) → ok (g_X12_found_r71 n 1 [a, b, x, k] h) (fun r h' => h' = h ∧ isF (fun k => gI h 71 0 (a + k) = x) b r) := by
    intro d
    induction d with
    | zero =>
      intro n k hd k1 k2 hn hj
      refine s_X12_found_r71_1 (by omega) ?_
      unfold b_X12_found_r71_1
      exact ok_t (by omega) (ok_some ⟨rfl, Or.inl ⟨rfl, fun j j1 j2 => hj j j1 (by omega)⟩⟩)
    | succ d ih =>
      intro n k hd k1 k2 hn hj
      refine s_X12_found_r71_1 (by omega) ?_
      unfold b_X12_found_r71_1
      refine ok_f (by omega) (ok_ck (by omega) (ok_ck (by omega) (ok_if (fun z => ok_some ⟨rfl, Or.inr ⟨k1, by omega, z, hj⟩⟩) (fun z => ok_ck (by omega) (ih _ _ (by omega) (by omega) (by omega) (by omega) (fun j j1 j2 => ?_))))))
      by_cases u : j = k
      · rw [u]; exact z
      · exact hj j j1 (by omega)
  refine fuv_X12_found_r71 (fun n hn => ?_)
  refine s_X12_found_r71_0 (by omega) ?_
  unfold b_X12_found_r71_0
  exact key _ _ _ rfl (by omega) (by omega) (by omega) (fun j j1 j2 => by omega)
end
theorem agr_named {x y : Int} : Agr (f_X11_named x y) (f_X12_named x y) := by
  intro h c σ w q
  have wC := sw_C w
  have ez := sz_r wC
  have eI := cw_I wC
  have qc := q.1.2.2.2.2.1
  by_cases x0 : x = 0
  · obtain ⟨r, h1, e1, e2, e3⟩ := p_X9_isleNamed (x := y) qc wC
    subst e2
    refine ⟨r, σ, w, ok_rc q ?_, fun h2 q2 => ok_rr w q2 ?_⟩
    · refine ok_eq.mp (fuv_X11_named (fun n hn => ?_))
      refine s_X11_named_0 (by omega) ?_
      unfold b_X11_named_0
      exact ok_t x0 (ok_rf (j := c) q.1.1 (ok_be e1 (ok_some ⟨rfl, rfl⟩)))
    · refine ok_eq.mp (fuv_X12_named (fun n hn => ?_))
      refine s_X12_named_0 (by omega) ?_
      unfold b_X12_named_0
      have ra : isR (sI h2 12 0 0 0) (sC σ) := (IR_0 w q2).1
      refine ok_lt (ok_t x0 (ok_ck (by decide) ?_))
      rw [ir_5 ra]
      refine ok_bq (p_X12_found_r63 (by omega) (by omega) (by omega)) ?_
      intro r2 h3 ⟨z1, z2⟩
      refine ok_some ⟨isF_u (isF_c (fun j j1 j2 => ?_) z2) e3, z1⟩
      rw [Int.zero_add, (ir_i ra j j1 j2).1]
  · by_cases x1 : x = 1
    · obtain ⟨r, h1, e1, e2, e3⟩ := p_X0_mouthNamed (x := y) qc wC
      subst e2
      refine ⟨r, σ, w, ok_rc q ?_, fun h2 q2 => ok_rr w q2 ?_⟩
      · refine ok_eq.mp (fuv_X11_named (fun n hn => ?_))
        refine s_X11_named_0 (by omega) ?_
        unfold b_X11_named_0
        exact ok_f x0 (ok_t x1 (ok_rf (j := c) q.1.1 (ok_be e1 (ok_some ⟨rfl, rfl⟩))))
      · refine ok_eq.mp (fuv_X12_named (fun n hn => ?_))
        refine s_X12_named_0 (by omega) ?_
        unfold b_X12_named_0
        have ra : isR (sI h2 12 0 0 0) (sC σ) := (IR_0 w q2).1
        refine ok_lt (ok_f x0 (ok_t x1 (ok_ck (by decide) ?_)))
        rw [ir_12 ra]
        refine ok_bq (p_X12_found_r71 (by omega) (by omega) (by omega)) ?_
        intro r2 h3 ⟨z1, z2⟩
        subst z1
        have n1 : ∀ j, 0 ≤ j → j < sC σ 20 0 → gI (sI h2 12 0 0 0) 71 0 (0 + j) = sC σ 22 j := fun j j1 j2 => by
          have := (ir_m ra j j1 (by omega)).1
          have es : sl (sC σ) j = 0 + j := by unfold sl; rw [if_pos j2]; omega
          rw [es] at this; exact this
        have n2 : ∀ j, 0 ≤ j → j < sC σ 21 0 → gI (sI h2 12 0 0 0) 71 0 (5 + j) = sC σ 22 (sC σ 20 0 + j) := fun j j1 j2 => by
          have := (ir_m ra (sC σ 20 0 + j) (by omega) (by omega)).1
          have es : sl (sC σ) (sC σ 20 0 + j) = 5 + j := by unfold sl; rw [if_neg (by omega)]; omega
          rw [es] at this; exact this
        rcases z2 with ⟨z2, z3⟩ | ⟨z2, z3, z4, z5⟩
        · refine ok_t z2 (ok_ck (by decide) ?_)
          rw [ir_13 ra]
          refine ok_bq (p_X12_found_r71 (by omega) (by omega) (by omega)) ?_
          intro r3 h4 ⟨y1, y2⟩
          subst y1
          rcases y2 with ⟨y2, y3⟩ | ⟨y2, y3, y4, y5⟩
          · refine ok_t y2 (ok_some ⟨isF_u (Or.inl ⟨rfl, fun j j1 j2 => ?_⟩) e3, rfl⟩)
            by_cases jj : j < sC σ 20 0
            · rw [← n1 j j1 jj]; exact z3 j j1 jj
            · have this : ¬ gI (sI h2 12 0 0 0) 71 0 (5 + (j - sC σ 20 0)) = y := y3 (j - sC σ 20 0) (by omega) (by omega)
              rw [n2 (j - sC σ 20 0) (by omega) (by omega), show sC σ 20 0 + (j - sC σ 20 0) = j by omega] at this
              exact this
          · refine ok_f (by omega) (ok_ck (by decide) ?_)
            rw [ir_12 ra]
            refine ok_ck (by omega) (ok_some ⟨isF_u (Or.inr ⟨by omega, by omega, ?_, fun j j1 j2 => ?_⟩) e3, rfl⟩)
            · rw [← n2 _ y2 y3]; exact y4
            · by_cases jj : j < sC σ 20 0
              · rw [← n1 j j1 jj]; exact z3 j j1 jj
              · have this : ¬ gI (sI h2 12 0 0 0) 71 0 (5 + (j - sC σ 20 0)) = y := y5 (j - sC σ 20 0) (by omega) (by omega)
                rw [n2 (j - sC σ 20 0) (by omega) (by omega), show sC σ 20 0 + (j - sC σ 20 0) = j by omega] at this
                exact this
        · refine ok_f (by omega) (ok_some ⟨isF_u (Or.inr ⟨z2, by omega, ?_, fun j j1 j2 => ?_⟩) e3, rfl⟩)
          · rw [← n1 _ z2 z3]; exact z4
          · rw [← n1 j j1 (by omega)]; exact z5 j j1 j2
    · refine ⟨-1, σ, w, ok_rc q ?_, fun h2 q2 => ok_rr w q2 ?_⟩
      · refine ok_eq.mp (fuv_X11_named (fun n hn => ?_))
        refine s_X11_named_0 (by omega) ?_
        unfold b_X11_named_0
        exact ok_f x0 (ok_f x1 (ok_some ⟨rfl, rfl⟩))
      · refine ok_eq.mp (fuv_X12_named (fun n hn => ?_))
        refine s_X12_named_0 (by omega) ?_
        unfold b_X12_named_0
        exact ok_lt (ok_f x0 (ok_f x1 (ok_some ⟨rfl, rfl⟩)))
