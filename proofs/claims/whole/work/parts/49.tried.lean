/-! TRIED OTHERWISE, FRAUD -/
abbrev sK (σ : Sg) : Nat := xK (sX σ)
def trS (C V : Ch) (tw ta : Int) (F : Int → Int) : Nat → Ch
  | 0 => V
  | n + 1 => hdV C (trS C V tw ta F n) tw ta F false
theorem trS_m {C V : Ch} {tw ta : Int} {F : Int → Int} : ∀ n : Nat, trS C V tw ta F n 0 0 = V 0 0 + n
  | 0 => by simp [trS]
  | n + 1 => by
    show trS C V tw ta F n 0 0 + 1 = _
    rw [trS_m n]; omega
theorem trS_w {C V : Ch} {tw ta : Int} {F : Int → Int} (w : CW C) (v : VWF C V) : ∀ n : Nat, V 0 0 + n ≤ 60 → VWF C (trS C V tw ta F n)
  | 0, _ => v
  | n + 1, h => by
    have a := trS_w (tw := tw) (ta := ta) (F := F) w v n (by omega)
    have m := trS_m (C := C) (V := V) (tw := tw) (ta := ta) (F := F) n
    exact ⟨slV_w w a.1 (by omega) _, rnF_r a.2.1 a.2.2⟩
theorem how_Sc {v : Int} (h : 22 ≤ v) : ∀ (r : Nat) (i k : Int), HoW v r i k → ScW r i k := by intro r i k z; unfold HoW at z; unfold ScW; omega
theorem paw_Sr {C V : Ch} (h1 : 0 ≤ V 0 0) (h2 : V 0 0 < 60) : ∀ (r : Nat) (i k : Int), PaW C V 1 r i k → SrW r i k := by
  intro r i k z
  unfold PaW at z
  unfold SrW
  rcases z with z | z | z | z | z | z | z | z | z <;> omega
set_option maxHeartbeats 4000000 in
theorem agr_tried {x y z : Int} : Agr (f_X11_tried x y z) (f_X12_tried x y z) := by
  intro h c σ w q
  have wC := sw_C w
  have ez := sz_r wC
  have vw := sw_V w
  have vm := vw_m vw.1
  have kv := q.2.2.1
  have kg := q.2.2.2.1
  have e0 := iv_0 kv.1
  have hx := q.1.2.2.2
  by_cases g : (0 ≤ x ∧ x ≤ 5) ∧ (0 ≤ z ∧ z ≤ 60 ∧ sV σ 0 0 0 + z ≤ 60) ∧ ((x = 3 ∧ 0 ≤ y ∧ y < sz (sC σ)) ∨ (¬ x = 3 ∧ y = 0))
  · obtain ⟨gx, gz, gy⟩ := g
    refine ⟨trS (sC σ) (sV σ 0) x y (sV σ 0 4) z.toNat 1 0, σ, w, ok_sc q ?_, fun h2 q2 => ok_sr w q2 ?_⟩
    · have key : ∀ (d n : Nat) (h1 : Hp) (k : Int) (a : Nat), (z - k).toNat = d → k = (a : Int) → k ≤ z → 2 * d + 2 ≤ n → Fr ScW h h1 → isV (sC σ) h1 22 (trS (sC σ) (sV σ 0) x y (sV σ 0 4) a) → gI h1 10 22 3 = trS (sC σ) (sV σ 0) x y (sV σ 0 4) a 3 0 → (∀ i, 0 ≤ i → i < sC σ 20 0 → bit (gI h1 10 22 4) i = sV σ 0 4 i) → gI h1 2 0 1 = x → gI h1 2 0 2 = y → gI h1 2 0 10 = -1 → ok (g_X11_tried n 2 [z, k] h1) (fun r h' => r = trS (sC σ) (sV σ 0) x y (sV σ 0 4) z.toNat 1 0 ∧ Fr ScW h h' ∧ kG h') := by
        intro d
        induction d with
        | zero =>
          intro n h1 k a hd hk k2 hn hF v1 v2 v3 t1 t2 t10
          refine s_X11_tried_2 (by omega) ?_
          unfold b_X11_tried_2
          have ea : a = z.toNat := by omega
          refine ok_t (by omega) (ok_lt (ok_some ⟨?_, fr_sI hF (by unfold ScW; omega), gI_eq, ?_⟩))
          · rw [gI_nr (by decide), iv_1 v1, ea]
          · rw [gI_nk (by decide)]; exact t10
        | succ d ih =>
          intro n h1 k a hd hk k2 hn hF v1 v2 v3 t1 t2 t10
          have tm := trS_m (C := sC σ) (V := sV σ 0) (tw := x) (ta := y) (F := sV σ 0 4) a
          have tv := trS_w (tw := x) (ta := y) (F := sV σ 0 4) wC vw a (by omega)
          have hx1 : CX h1 c (sC σ) := CX_fr hF (fun r i k z => by unfold inC at z; unfold ScW; omega) hx
          refine s_X11_tried_2 (by omega) ?_
          unfold b_X11_tried_2
          refine ok_f (by omega) (ok_bq (p_X2_hold (tw := x) (ta := y) (F := sV σ 0 4) hx1 v1 v2 tv.2.1 tv.2.2 tv.1 (by omega) v3 t1 (fun _ => t2)) ?_)
          intro _ h3 ⟨u1, u2, u3, u4, u5, u6, u7⟩
          refine ok_ck (by omega) (ih _ _ _ (a + 1) (by omega) (by omega) (by omega) (by omega) (fr_tr hF (fr_mo u2 (how_Sc (by decide)))) u3 u4 (fun i i1 i2 => ?_) ((u2.1 2 0 1 (by unfold HoW; omega)).trans t1) ((u2.1 2 0 2 (by unfold HoW; omega)).trans t2) u7)
          rw [u2.1 10 22 4 (by unfold HoW; omega)]
          exact v3 i i1 i2
      have one : ∀ n : Nat, 200 ≤ n → ok (g_X11_tried n 1 [x, y, z] h) (fun r h' => r = trS (sC σ) (sV σ 0) x y (sV σ 0 4) z.toNat 1 0 ∧ Fr ScW h h' ∧ kG h') := by
        intro n hn
        refine s_X11_tried_1 (by omega) ?_
        unfold b_X11_tried_1
        refine ok_bq (p_X10_copyFrom (show (0 : Int) ≠ 22 by decide)) ?_
        intro _ h3 ⟨f1, f2, f3⟩
        have v := isVF_cp wC f2 f3 kv
        refine ok_lt (ok_lt (key _ _ _ _ 0 rfl (by omega) (by omega) (by omega) (fr_sI (fr_sI (fr_mo f1 (fun r i k u => by unfold VoW at u; unfold ScW; omega)) (by unfold ScW; omega)) (by unfold ScW; omega)) ?_ ?_ (fun i i1 i2 => ?_) ?_ ?_ ?_))
        · exact isV_sI (by omega) (isV_sI (by omega) v.1)
        · rw [gI_nr (by decide), gI_nr (by decide)]; exact v.2.1
        · rw [gI_nr (by decide), gI_nr (by decide)]; exact v.2.2 i i1 i2
        · rw [gI_nk (by decide), gI_eq]
        · rw [gI_eq]
        · rw [gI_nk (by decide), gI_nk (by decide), f1.1 2 0 10 (by unfold VoW; omega)]; exact kg.2
      refine fuv_X11_tried (fun n hn => ?_)
      refine s_X11_tried_0 (by omega) ?_
      unfold b_X11_tried_0
      rw [e0]
      refine ok_f (by omega) (ok_f (by omega) (ok_f (by omega) (ok_f (by omega) (ok_ck (by omega) (ok_t (by omega) ?_)))))
      rcases gy with ⟨g1, g2⟩ | ⟨g1, g2⟩
      · exact ok_t g1 (ok_rf (j := c) q.1.1 (ok_be (p_X0_isMouth hx.2.1 wC) (ok_f (fun u => b2i_0.mp u g2) (one _ (by omega)))))
      · exact ok_f g1 (ok_t g2 (one _ (by omega)))
    · have q3 := pl_q w q2
      have key : ∀ (d n : Nat) (h1 : Hp) (k : Int) (a : Nat), (z - k).toNat = d → k = (a : Int) → k ≤ z → 2 * d + 2 ≤ n → Fr SrW h2 h1 → B92 h1 → isS (sC σ) h1 1 (trS (sC σ) (sV σ 0) x y (sV σ 0 4) a) → gI h1 87 0 1 = trS (sC σ) (sV σ 0) x y (sV σ 0 4) a 3 0 → (∀ i, 0 ≤ i → i < sC σ 20 0 → bit (gI h1 89 0 1) i = sV σ 0 4 i) → isT (sC σ) h1 x y → gI h1 12 0 57 = 0 → ok (g_X12_tried n 4 [z, k] h1) (fun r h' => r = trS (sC σ) (sV σ 0) x y (sV σ 0 4) z.toNat 1 0 ∧ Fr SrW h2 h' ∧ B92 h') := by
        intro d
        induction d with
        | zero =>
          intro n h1 k a hd hk k2 hn hF b v1 v2 v3 t1 t57
          refine s_X12_tried_4 (by omega) ?_
          unfold b_X12_tried_4
          have ea : a = z.toNat := by omega
          exact ok_t (by omega) (ok_ck (by decide) (ok_some ⟨by rw [is_1 v1, ea], hF, b⟩))
        | succ d ih =>
          intro n h1 k a hd hk k2 hn hF b v1 v2 v3 t1 t57
          have tm := trS_m (C := sC σ) (V := sV σ 0) (tw := x) (ta := y) (F := sV σ 0 4) a
          have tv := trS_w (tw := x) (ta := y) (F := sV σ 0 4) wC vw a (by omega)
          have r1 : isR h1 (sC σ) := isR_fr hF (fun r k a b => by unfold SrW; omega) q2.1
          refine s_X12_tried_4 (by omega) ?_
          unfold b_X12_tried_4
          refine ok_f (by omega) (ok_bq (p_X12_passes (tw := x) (ta := y) (st := false) (F := sV σ 0 4) r1 wC v1 tv.1 (by omega) v2 t1 t57 (by decide) (by decide) v3) ?_)
          intro _ h3 ⟨u1, u2, u3, u4, _⟩
          have bb := B92_pa wC (slV_w (tw := x) (ta := y) (F := sV σ 0 4) wC tv.1 (by omega) _) (by decide) u1 b u2
          refine ok_ck (by omega) (ih _ _ _ (a + 1) (by omega) (by omega) (by omega) (by omega) (fr_tr hF (fr_mo u1 (paw_Sr (by omega) (by omega)))) bb u2 u3 (fun i i1 i2 => ?_) (isT_eq (u1.1 12 0 55 (by unfold PaW; omega)) (u1.1 12 0 56 (by unfold PaW; omega)) t1) ((u1.1 12 0 57 (by unfold PaW; omega)).trans t57))
          rw [u1.1 89 0 1 (by unfold PaW; omega)]
          exact v3 i i1 i2
      have three : ∀ (n : Nat) (u : Int), 200 ≤ n → (x = 3 → u = sl (sC σ) y ∧ 0 ≤ y ∧ y < sz (sC σ)) → ok (g_X12_tried n 3 [z, u] (sI (sI (sI (sI (sI h2 12 0 0 0) 12 0 55 (-1)) 12 0 56 (-1)) 12 0 57 0) 12 0 55 x)) (fun r h' => r = trS (sC σ) (sV σ 0) x y (sV σ 0 4) z.toNat 1 0 ∧ Fr SrW h2 h' ∧ B92 h') := by
        intro n u hn hu
        refine s_X12_tried_3 (by omega) ?_
        unfold b_X12_tried_3
        have F5 : Fr SrW h2 (sI (sI (sI (sI (sI (sI h2 12 0 0 0) 12 0 55 (-1)) 12 0 56 (-1)) 12 0 57 0) 12 0 55 x) 12 0 56 u) := by
          repeat (first | exact fr_rf | refine fr_sI ?_ (by unfold SrW; omega))
        have b5 : B92 (sI (sI (sI (sI (sI (sI h2 12 0 0 0) 12 0 55 (-1)) 12 0 56 (-1)) 12 0 57 0) 12 0 55 x) 12 0 56 u) := B92_e (fun k => by rw [gI_nr (by decide), gI_nr (by decide), gI_nr (by decide), gI_nr (by decide), gI_nr (by decide), gI_nr (by decide)]) q2.2.1
        have q5 := IR_sc w F5 b5 q2
        refine ok_lt (ok_bq (p_X12_copies b5 (show (0 : Int) ≠ 1 by decide) (by decide) (by decide) (by decide) (by decide)) ?_)
        intro _ h3 ⟨f1, fb, f2, f3⟩
        have v := isSF_cp wC f2 f3 q5.2.2.1
        refine key _ _ _ _ 0 rfl (by omega) (by omega) (by omega) (fr_tr F5 (fr_mo f1 (fun r i k u => by unfold ShW at u; unfold SrW; omega))) fb v.1 v.2.1 v.2.2 ⟨?_, fun e => ?_⟩ ?_
        · rw [f1.1 12 0 55 (by unfold ShW; omega), gI_nk (by decide), gI_eq]
        · rw [f1.1 12 0 56 (by unfold ShW; omega), gI_eq]; exact hu e
        · rw [f1.1 12 0 57 (by unfold ShW; omega), gI_nk (by decide), gI_nk (by decide), gI_eq]
      have two : ∀ n : Nat, 300 ≤ n → ok (g_X12_tried n 2 [x, y, z, 1] (sI h2 12 0 0 0)) (fun r h' => r = trS (sC σ) (sV σ 0) x y (sV σ 0 4) z.toNat 1 0 ∧ Fr SrW h2 h' ∧ B92 h') := by
        intro n hn
        refine s_X12_tried_2 (by omega) ?_
        unfold b_X12_tried_2
        rw [is_0 (IR_0 w q2).2.2.1.1]
        refine ok_f (by decide) (ok_f (by omega) (ok_f (by omega) (ok_ck (by decide) (ok_ck (by omega) (ok_t (by omega) (ok_be p_X12_plain (ok_lt ?_)))))))
        rcases gy with ⟨g1, g2⟩ | ⟨g1, g2⟩
        · have r5 : isR (sI (sI (sI (sI (sI h2 12 0 0 0) 12 0 55 (-1)) 12 0 56 (-1)) 12 0 57 0) 12 0 55 x) (sC σ) := isR_sI (by omega) q3.1
          refine ok_t g1 (ok_be (p_X12_slot r5 wC) ?_)
          rw [if_pos g2]
          exact three _ _ (by omega) (fun _ => ⟨rfl, g2⟩)
        · exact ok_f g1 (three _ _ (by omega) (fun u => absurd u g1))
      refine fuv_X12_tried (fun n hn => ?_)
      refine s_X12_tried_0 (by omega) ?_
      unfold b_X12_tried_0
      refine ok_lt ?_
      rcases gy with ⟨g1, g2⟩ | ⟨g1, g2⟩
      · have sr := sl_r wC g2.1 g2.2
        refine ok_t g1 (ok_be (p_X12_slot (IR_0 w q2).1 wC) ?_)
        rw [if_pos g2]
        exact ok_f (by omega) (two _ (by omega))
      · exact ok_f g1 (ok_f (by omega) (ok_f (by omega) (ok_t g2 (two _ (by omega)))))
  · refine ⟨-1, σ, w, ok_rc q ?_, fun h2 q2 => ok_rr w q2 ?_⟩
    · refine ok_eq.mp (fuv_X11_tried (fun n hn => ?_))
      refine s_X11_tried_0 (by omega) ?_
      unfold b_X11_tried_0
      rw [e0]
      refine ok_if (fun u => ok_some ⟨rfl, rfl⟩) (fun u => ok_if (fun u2 => ok_some ⟨rfl, rfl⟩) (fun u2 => ok_if (fun u3 => ok_some ⟨rfl, rfl⟩) (fun u3 => ok_if (fun u4 => ok_some ⟨rfl, rfl⟩) (fun u4 => ok_ck (by omega) (ok_if (fun u5 => ok_if (fun u6 => ok_rf (j := c) q.1.1 (ok_be (p_X0_isMouth hx.2.1 wC) (ok_t ?_ (ok_some ⟨rfl, rfl⟩)))) (fun u6 => ok_f ?_ (ok_some ⟨rfl, rfl⟩))) (fun u5 => ok_some ⟨rfl, rfl⟩))))))
      · exact b2i_0.mpr (fun v => g ⟨by omega, by omega, Or.inl ⟨u6, v⟩⟩)
      · exact fun v => g ⟨by omega, by omega, Or.inr ⟨u6, v⟩⟩
    · have q3 := IR_0 w q2
      have two : ∀ (n : Nat) (u : Int), 5 ≤ n → (¬ u = 0 → (0 ≤ x ∧ x ≤ 5) ∧ ((x = 3 ∧ 0 ≤ y ∧ y < sz (sC σ)) ∨ (¬ x = 3 ∧ y = 0))) → ok (g_X12_tried n 2 [x, y, z, u] (sI h2 12 0 0 0)) (fun r h' => r = -1 ∧ h' = sI h2 12 0 0 0) := by
        intro n u hn hu
        refine s_X12_tried_2 (by omega) ?_
        unfold b_X12_tried_2
        rw [is_0 q3.2.2.1.1]
        refine ok_if (fun v => ok_some ⟨rfl, rfl⟩) (fun v => ok_if (fun v2 => ok_some ⟨rfl, rfl⟩) (fun v2 => ok_if (fun v3 => ok_some ⟨rfl, rfl⟩) (fun v3 => ok_ck (by decide) (ok_ck (by omega) (ok_f (fun v4 => g ⟨(hu v).1, by omega, (hu v).2⟩) (ok_some ⟨rfl, rfl⟩))))))
      have one : ∀ n : Nat, 10 ≤ n → ok (g_X12_tried n 1 [x, y, z] (sI h2 12 0 0 0)) (fun r h' => r = -1 ∧ h' = sI h2 12 0 0 0) := by
        intro n hn
        refine s_X12_tried_1 (by omega) ?_
        unfold b_X12_tried_1
        exact two _ _ (by omega) (fun v => absurd rfl v)
      refine ok_eq.mp (fuv_X12_tried (fun n hn => ?_))
      refine s_X12_tried_0 (by omega) ?_
      unfold b_X12_tried_0
      refine ok_lt (ok_if (fun u => ok_be (p_X12_slot q3.1 wC) ?_) (fun u => ok_if (fun u2 => one _ (by omega)) (fun u2 => ok_if (fun u3 => one _ (by omega)) (fun u3 => ok_if (fun u4 => two _ _ (by omega) (fun _ => ⟨by omega, Or.inr ⟨u, u4⟩⟩)) (fun u4 => one _ (by omega))))))
      by_cases yy : 0 ≤ y ∧ y < sz (sC σ)
      · have sr := sl_r wC yy.1 yy.2
        rw [if_pos yy]
        exact ok_f (by omega) (two _ _ (by omega) (fun _ => ⟨by omega, Or.inl ⟨u, yy⟩⟩))
      · rw [if_neg yy]
        exact ok_t rfl (two _ _ (by omega) (fun v => absurd rfl v))
/-! fraud -/
theorem isF_or {p q : Int → Prop} {n a b r : Int} (ha : isF p n a) (hb : isF q n b) (hr : (b = -1 ∧ r = a) ∨ (¬ b = -1 ∧ (a = -1 ∨ b < a) ∧ r = b) ∨ (¬ b = -1 ∧ ¬ a = -1 ∧ a ≤ b ∧ r = a)) : isF (fun k => p k ∨ q k) n r := by
  rcases hr with ⟨b1, e⟩ | ⟨b1, b2, e⟩ | ⟨b1, b2, b3, e⟩ <;> subst e
  · rcases hb with ⟨-, b2⟩ | ⟨b2, -⟩
    · rcases ha with ⟨a1, a2⟩ | ⟨a1, a2, a3, a4⟩
      · exact Or.inl ⟨a1, fun j j1 j2 z => z.elim (a2 j j1 j2) (b2 j j1 j2)⟩
      · exact Or.inr ⟨a1, a2, Or.inl a3, fun j j1 j2 z => z.elim (a4 j j1 j2) (b2 j j1 (by omega))⟩
    · omega
  · rcases hb with ⟨c1, -⟩ | ⟨c1, c2, c3, c4⟩
    · exact absurd c1 b1
    · rcases ha with ⟨a1, a2⟩ | ⟨a1, a2, a3, a4⟩
      · exact Or.inr ⟨c1, c2, Or.inr c3, fun j j1 j2 z => z.elim (a2 j j1 (by omega)) (c4 j j1 j2)⟩
      · exact Or.inr ⟨c1, c2, Or.inr c3, fun j j1 j2 z => z.elim (a4 j j1 (by omega)) (c4 j j1 j2)⟩
  · rcases hb with ⟨c1, -⟩ | ⟨c1, c2, c3, c4⟩
    · exact absurd c1 b1
    · rcases ha with ⟨a1, a2⟩ | ⟨a1, a2, a3, a4⟩
      · exact absurd a1 b2
      · exact Or.inr ⟨a1, a2, Or.inl a3, fun j j1 j2 z => z.elim (a4 j j1 j2) (c4 j j1 (by omega))⟩
theorem agr_fraud : Agr f_X11_fraud f_X12_fraud := by
  intro h c σ w q
  have vm := vw_m (sw_V w).1
  have wN := sw_N w
  have kr := kn_r wN
  have hK : ((xK (sX σ) : Nat) : Int) = kn (sX σ 23 0) (sX σ 24 0) := Int.toNat_of_nonneg kr.1
  have hK2 : ((sK σ : Nat) : Int) = kn (sX σ 23 0) (sX σ 24 0) := Int.toNat_of_nonneg kr.1
  have kv := q.2.2.1
  have kg := q.2.2.2.1
  have e0 := iv_0 kv.1
  have kN0 := q.2.2.2.2.2.2.2.1
  have kL0 := q.2.2.2.2.1
  have key : ∀ (d n : Nat) (h1 : Hp) (a m : Int), (sV σ 0 0 0 - m).toNat = d → 0 ≤ m → m ≤ sV σ 0 0 0 → 4 * d + 4 ≤ n → Fr W42 h h1 → sfO h1 (sN σ) (sX σ 23 0) (sX σ 24 0) → isF (fun k => cnP (sN σ) (sK σ) k ∧ (sV σ 0 0 0 ≤ sN σ 1 k ∨ (sN σ 1 k < m ∧ ¬ sN σ 2 k = if sN σ 0 k = 0 then sX σ 0 (sN σ 1 k) else sX σ 1 (sN σ 1 k)))) 32 a → ok (g_X11_fraud n 1 [a, m] h1) (fun r h' => (isF (fun k => cnP (sN σ) (sK σ) k ∧ (sV σ 0 0 0 ≤ sN σ 1 k ∨ (sN σ 1 k < sV σ 0 0 0 ∧ ¬ sN σ 2 k = if sN σ 0 k = 0 then sX σ 0 (sN σ 1 k) else sX σ 1 (sN σ 1 k)))) 32 r) ∧ Fr W42 h h') := by
    intro d
    induction d with
    | zero =>
      intro n h1 a m hd m1 m2 hn hF hs ha
      have em : m = sV σ 0 0 0 := by omega
      have e1 : gI h1 10 0 0 = sV σ 0 0 0 := (hF.1 10 0 0 (by unfold W42; omega)).trans e0
      rw [em] at ha
      refine s_X11_fraud_1 (by omega) ?_
      unfold b_X11_fraud_1
      rw [e1]
      exact ok_t (by omega) (ok_some ⟨ha, hF⟩)
    | succ d ih =>
      intro n h1 a m hd m1 m2 hn hF hs ha
      have e1 : gI h1 10 0 0 = sV σ 0 0 0 := (hF.1 10 0 0 (by unfold W42; omega)).trans e0
      have qN : isN h1 (sN σ) (sX σ 23 0) (sX σ 24 0) := isN_42 hF kN0
      obtain ⟨l0, l1, -⟩ := kL0 m m1 (by omega)
      have l0' : gI h1 34 0 m = sX σ 0 m := (hF.1 34 0 m (by unfold W42; omega)).trans l0
      have l1' : gI h1 35 0 m = sX σ 1 m := (hF.1 35 0 m (by unfold W42; omega)).trans l1
      have nxt : ∀ (m' : Nat) (r b : Int), 4 * d + 5 ≤ m' → isF (fun k => cnP (sN σ) (sK σ) k ∧ sN σ 1 k = m ∧ ¬ sN σ 2 k = if sN σ 0 k = 0 then sX σ 0 m else sX σ 1 m) 32 b → ((b = -1 ∧ r = a) ∨ (¬ b = -1 ∧ (a = -1 ∨ b < a) ∧ r = b) ∨ (¬ b = -1 ∧ ¬ a = -1 ∧ a ≤ b ∧ r = a)) → ok (g_X11_fraud m' 3 [r, m] h1) (fun r h' => (isF (fun k => cnP (sN σ) (sK σ) k ∧ (sV σ 0 0 0 ≤ sN σ 1 k ∨ (sN σ 1 k < sV σ 0 0 0 ∧ ¬ sN σ 2 k = if sN σ 0 k = 0 then sX σ 0 (sN σ 1 k) else sX σ 1 (sN σ 1 k)))) 32 r) ∧ Fr W42 h h') := by
        intro m' r b z1 z2 z3
        refine s_X11_fraud_3 (by omega) ?_
        unfold b_X11_fraud_3
        refine ok_ck (by omega) (ih _ _ _ _ (by omega) (by omega) (by omega) (by omega) hF hs (isF_c (fun j j1 j2 => ?_) (isF_or ha z2 z3)))
        constructor
        · intro u
          rcases u with ⟨u1, u2⟩ | ⟨u1, u2, u3⟩
          · rcases u2 with u2 | u2
            · exact ⟨u1, Or.inl u2⟩
            · exact ⟨u1, Or.inr ⟨by omega, u2.2⟩⟩
          · exact ⟨u1, Or.inr ⟨by omega, by rw [u2]; exact u3⟩⟩
        · intro u
          obtain ⟨u1, u2⟩ := u
          rcases u2 with u2 | ⟨u2, u3⟩
          · exact Or.inl ⟨u1, Or.inl u2⟩
          · by_cases y : sN σ 1 j = m
            · exact Or.inr ⟨u1, y, by rw [y] at u3; exact u3⟩
            · exact Or.inl ⟨u1, Or.inr ⟨by omega, u3⟩⟩
      have two : ∀ (m' : Nat) (b : Int), 4 * d + 6 ≤ m' → isF (fun k => cnP (sN σ) (sK σ) k ∧ sN σ 1 k = m ∧ ¬ sN σ 2 k = if sN σ 0 k = 0 then sX σ 0 m else sX σ 1 m) 32 b → ¬ b = -1 → (a = -1 ∨ b < a) → ok (g_X11_fraud m' 2 [m, b] h1) (fun r h' => (isF (fun k => cnP (sN σ) (sK σ) k ∧ (sV σ 0 0 0 ≤ sN σ 1 k ∨ (sN σ 1 k < sV σ 0 0 0 ∧ ¬ sN σ 2 k = if sN σ 0 k = 0 then sX σ 0 (sN σ 1 k) else sX σ 1 (sN σ 1 k)))) 32 r) ∧ Fr W42 h h') := by
        intro m' b z1 z2 z3 z4
        refine s_X11_fraud_2 (by omega) ?_
        unfold b_X11_fraud_2
        exact nxt _ _ b (by omega) z2 (Or.inr (Or.inl ⟨z3, z4, rfl⟩))
      refine s_X11_fraud_1 (by omega) ?_
      unfold b_X11_fraud_1
      rw [e1, l0', l1']
      refine ok_f (by omega) (ok_f (by omega) (ok_ck (by omega) (ok_ck (by omega) (ok_bq (p_X5_firstFalse qN wN hs) ?_))))
      intro b h3 ⟨u1, u2⟩
      subst u1
      exact ok_if (fun v => nxt _ _ b (by omega) u2 (Or.inl ⟨v, rfl⟩)) (fun v => ok_if (fun v2 => two _ b (by omega) u2 v (Or.inl v2)) (fun v2 => ok_if (fun v3 => nxt _ _ b (by omega) u2 (Or.inr (Or.inr ⟨v, v2, v3, rfl⟩))) (fun v3 => two _ b (by omega) u2 v (Or.inr (by omega)))))
  have cl : ok (f_X11_fraud h) (fun r h' => (isF (fun k => cnP (sN σ) (sK σ) k ∧ (sV σ 0 0 0 ≤ sN σ 1 k ∨ (sN σ 1 k < sV σ 0 0 0 ∧ ¬ sN σ 2 k = if sN σ 0 k = 0 then sX σ 0 (sN σ 1 k) else sX σ 1 (sN σ 1 k)))) 32 r) ∧ Fr W42 h h') := by
    refine fuv_X11_fraud (fun n hn => ?_)
    refine s_X11_fraud_0 (by omega) ?_
    unfold b_X11_fraud_0
    refine ok_bq (p_X5_sift kN0 wN) ?_
    intro _ h1 ⟨u1, u2⟩
    have e1 : gI h1 10 0 0 = sV σ 0 0 0 := (u1.1 10 0 0 (by unfold W42; omega)).trans e0
    rw [e1]
    refine ok_bq (p_X5_firstFrom (isN_42 u1 kN0) wN u2) ?_
    intro a h3 ⟨v1, v2⟩
    subst v1
    refine key _ _ _ _ _ rfl (by omega) (by omega) (by omega) u1 u2 (isF_c (fun j j1 j2 => ?_) v2)
    constructor
    · intro u; exact ⟨u.1, Or.inl u.2⟩
    · intro u
      obtain ⟨t1, t2⟩ := u
      refine ⟨t1, ?_⟩
      rcases t2 with t2 | t2
      · exact t2
      · have := (nw_k wN j j1 (by have := t1.1; omega)).2.2.2 t1.2.2
        have := t2.1
        omega
  obtain ⟨r, h1, c1, c2, c3⟩ := cl
  refine ⟨r, σ, w, ok_sc q ⟨r, h1, c1, rfl, fr_mo c3 (fun r i k u => by unfold W42 at u; unfold ScW; omega), (c3.1 2 0 1 (by unfold W42; omega)).trans kg.1, (c3.1 2 0 10 (by unfold W42; omega)).trans kg.2⟩, fun h2 q2 => ok_sr w q2 ?_⟩
  have q3 := IR_0 w q2
  refine fuv_X12_fraud (fun n hn => ?_)
  refine s_X12_fraud_0 (by omega) ?_
  unfold b_X12_fraud_0
  refine ok_lt (ok_bq (p_X12_strikes q3.2.2.2.2.2.2.1 wN) ?_)
  intro _ h4 ⟨u1, u2⟩
  have rl : ∀ t, 0 ≤ t → t < sV σ 0 0 0 → gI h4 93 0 (60 * 0 + t) = sX σ 0 t ∧ gI h4 94 0 (60 * 0 + t) = sX σ 1 t := fun t t1 t2 => by
    obtain ⟨a0, a1, -⟩ := q3.2.2.2.1 t t1 t2
    rw [u1.1 93 0 _ (by unfold W113; omega), u1.1 94 0 _ (by unfold W113; omega)]
    exact ⟨a0, a1⟩
  refine ok_bq (p_X12_firstWrong (M := sV σ 0 0 0) (Lc := sX σ 0) (Le := sX σ 1) (isNR_113 u1 q3.2.2.2.2.2.2.1) wN u2 (by decide) (by decide) ((u1.1 84 0 0 (by unfold W113; omega)).trans (is_0 q3.2.2.1.1)) vm.2 rl) ?_
  intro r2 h5 ⟨v1, v2⟩
  subst v1
  refine ok_some ⟨?_, fr_tr (fr_sI fr_rf (by unfold SrW; omega)) (fr_mo u1 (fun r i k u => by unfold W113 at u; unfold SrW; omega)), B92_e (fun k => u1.1 92 0 k (by unfold W113; omega)) q3.2.1⟩
  refine isF_u (isF_m kr.2.2 (fun j j1 j2 u => by have := u.1.1; omega) (isF_c (fun j j1 j2 => ?_) v2)) c2
  constructor
  · intro u
    refine ⟨u.1, ?_⟩
    by_cases y : sN σ 1 j < sV σ 0 0 0
    · exact Or.inr ⟨y, fun t => u.2 ⟨y, t.symm⟩⟩
    · exact Or.inl (by omega)
  · intro u
    refine ⟨u.1, fun t => ?_⟩
    rcases u.2 with u2 | u2
    · have := t.1; omega
    · exact u2.2 t.2.symm
