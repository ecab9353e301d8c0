/-! THE CLASS'S GALLEY, 1 -/
def wnF (C : Ch) (t : Int) : Int := if C 10 0 = 0 then 0 else C 11 (t % C 10 0)
abbrev abP (C V : Ch) (tw ta i : Int) : Prop := V 6 i = 0 ∧ ¬ (tw = 3 ∧ ta = i) ∧ (i < C 20 0 ∨ ¬ bit (V 5 0) (i - C 20 0) = 0) ∧ C 25 i ≤ V 0 0 ∧ V 0 0 ≤ C 26 i
abbrev fdP (C : Ch) (F : Int → Int) (i : Int) : Prop := C 20 0 ≤ i ∨ F i = 1
def poF (C V : Ch) (tw i : Int) : Int := if C 27 i ≤ V 0 0 ∧ V 0 0 ≤ C 28 i ∧ tw ≠ 0 then 0 else C 23 i
def plF (C V : Ch) (tw ta : Int) (F : Int → Int) (i l : Int) : Int := if fdP C F i ∧ abP C V tw ta i then min (poF C V tw i) l else 0
/-- soup left and soup eaten ahead of mouth n -/
def srv (C V : Ch) (tw ta : Int) (F : Int → Int) : Nat → Int × Int
  | 0 => (V 2 0, 0)
  | n + 1 => (if tw = 4 then (srv C V tw ta F n).1 else (srv C V tw ta F n).1 - plF C V tw ta F n (srv C V tw ta F n).1, (srv C V tw ta F n).2 + plF C V tw ta F n (srv C V tw ta F n).1)
def plt (C V : Ch) (tw ta : Int) (F : Int → Int) (i : Int) : Int := plF C V tw ta F i (srv C V tw ta F i.toNat).1
theorem plt_n {C V : Ch} {tw ta : Int} {F : Int → Int} (n : Nat) : plt C V tw ta F (n : Int) = plF C V tw ta F n (srv C V tw ta F n).1 := by simp [plt]
theorem srv_1 {C V : Ch} {tw ta : Int} {F : Int → Int} (n : Nat) : (srv C V tw ta F (n + 1)).1 = if tw = 4 then (srv C V tw ta F n).1 else (srv C V tw ta F n).1 - plF C V tw ta F n (srv C V tw ta F n).1 := rfl
theorem srv_2 {C V : Ch} {tw ta : Int} {F : Int → Int} (n : Nat) : (srv C V tw ta F (n + 1)).2 = (srv C V tw ta F n).2 + plF C V tw ta F n (srv C V tw ta F n).1 := rfl
section
variable {C V : Ch} {tw ta : Int} {F : Int → Int}
theorem poF_r {i : Int} (w : CW C) (i1 : 0 ≤ i) (i2 : i < sz C) : 0 ≤ poF C V tw i ∧ poF C V tw i ≤ 9 := by
  have := cw_m w i i1 i2
  unfold poF; split <;> omega
theorem plF_r {i l : Int} (w : CW C) (i1 : 0 ≤ i) (i2 : i < sz C) (l1 : 0 ≤ l) : 0 ≤ plF C V tw ta F i l ∧ plF C V tw ta F i l ≤ 9 ∧ plF C V tw ta F i l ≤ l := by
  have := poF_r (V := V) (tw := tw) w i1 i2
  unfold plF; split <;> omega
theorem srv_r (w : CW C) (v : VW C V) : ∀ n : Nat, (n : Int) ≤ sz C → 0 ≤ (srv C V tw ta F n).1 ∧ (srv C V tw ta F n).1 ≤ 9999 ∧ 0 ≤ (srv C V tw ta F n).2 ∧ (srv C V tw ta F n).2 ≤ 9 * n
  | 0, _ => by have := vw_s v; simp only [srv]; omega
  | n + 1, h => by
    have a := srv_r w v n (by omega)
    have b := plF_r (V := V) (tw := tw) (ta := ta) (F := F) (i := n) w (by omega) (by omega) a.1
    rw [srv_1, srv_2]
    split <;> omega
theorem srv_e (w : CW C) (v : VW C V) : ∀ n : Nat, (n : Int) ≤ sz C → tw ≠ 4 → (srv C V tw ta F n).1 + (srv C V tw ta F n).2 = V 2 0
  | 0, _, _ => by simp only [srv]; omega
  | n + 1, h, q => by
    have a := srv_e w v n (by omega) q
    rw [srv_1, srv_2, if_neg q]
    omega
end
section
variable {h : Hp} {c v i : Int} {C V : Ch}
theorem p_X0_size (q : isC h c C) (w : CW C) : f_X0_size c h = some (sz C, h) := by
  have e1 := ic_20 q
  have e2 := ic_21 q
  have e3 := sz_r w
  refine ok_eq.mp ?_
  unfold f_X0_size
  refine s_X0_size_0 (by decide) ?_
  unfold b_X0_size_0
  refine ok_ck (by omega) ?_
  exact ok_some ⟨by omega, rfl⟩
theorem p_X0_isMouth (q : isC h c C) (w : CW C) : f_X0_isMouth c i h = some (b2i (0 ≤ i ∧ i < sz C), h) := by
  refine ok_eq.mp ?_
  unfold f_X0_isMouth
  refine s_X0_isMouth_0 (by decide) ?_
  unfold b_X0_isMouth_0
  refine ok_if (fun q1 => ?_) (fun q1 => ?_)
  · exact ok_some ⟨by unfold b2i; split <;> omega, rfl⟩
  · refine ok_be (p_X0_size q w) ?_
    refine ok_if (fun q2 => ?_) (fun q2 => ?_)
    · exact ok_some ⟨by unfold b2i; split <;> omega, rfl⟩
    · exact ok_some ⟨by unfold b2i; split <;> omega, rfl⟩
theorem p_X0_windAt (q : isC h c C) (w : CW C) (i1 : 0 ≤ i) : f_X0_windAt c i h = some (wnF C i, h) := by
  have e1 := ic_10 q
  have e2 := cw_N w
  have e3 := ic_11 q (i % C 10 0)
  have m1 := Int.emod_nonneg i (b := C 10 0)
  have m2 := Int.emod_lt_of_pos i (b := C 10 0)
  unfold wnF
  rw [← e1] at *
  refine ok_eq.mp ?_
  unfold f_X0_windAt
  refine s_X0_windAt_0 (by decide) ?_
  unfold b_X0_windAt_0
  refine ok_if (fun q1 => ?_) (fun q1 => ?_)
  · exact ok_some ⟨by split <;> omega, rfl⟩
  · refine ok_if (fun q2 => ?_) (fun q2 => ?_)
    · exact ok_some ⟨by split <;> omega, rfl⟩
    · refine ok_if (fun q3 => ?_) (fun q3 => ?_)
      · refine ok_ck (by omega) ?_
        refine ok_ck (by omega) ?_
        exact ok_some ⟨by split <;> omega, rfl⟩
      · exact ok_some ⟨by split <;> omega, rfl⟩
end
section
variable {h : Hp} {c v i fed : Int} {C V : Ch} {F : Int → Int}
theorem p_X2_isAboard {tw ta : Int} (hx : CX h c C) (hv : isV C h v V) (t1 : gI h 2 0 1 = tw) (t2 : tw = 3 → gI h 2 0 2 = ta) (i1 : 0 ≤ i) (i2 : i < sz C) : f_X2_isAboard v i h = some (b2i (abP C V tw ta i), h) := by
  have w := hx.2.2
  have q := hx.2.1
  have ez := sz_r w
  obtain ⟨m, hm, n0, n1, n2, n3, n4, n5, n6, n7, n8, n9⟩ := ic_22 q i i1 i2
  have e20 := ic_20 q
  have v0 := iv_0 hv
  have v5 := iv_5 hv
  have v6 := iv_6 hv i i1 i2
  have b6 := bit01 (x := gI h 10 v 6) (i := i)
  refine ok_eq.mp ?_
  unfold f_X2_isAboard
  refine s_X2_isAboard_0 (by decide) ?_
  unfold b_X2_isAboard_0
  refine ok_rf (j := c) hx.1 ?_
  refine ok_be (p_X0_isMouth q w) ?_
  refine ok_if (fun q1 => ?_) (fun q1 => ?_)
  · exact ok_some ⟨by unfold bit at v6 b6; grind, rfl⟩
  · refine ok_if (fun q2 => ?_) (fun q2 => ?_)
    · exact ok_some ⟨by unfold bit at v6 b6; grind, rfl⟩
    · refine ok_if (fun q3 => ?_) (fun q3 => ?_)
      · refine ok_if (fun q4 => ?_) (fun q4 => ?_)
        · exact ok_some ⟨by unfold bit at v6 b6; grind, rfl⟩
        · refine s_X2_isAboard_1 (by decide) ?_
          unfold b_X2_isAboard_1
          refine ok_rf (j := c) hx.1 ?_
          refine ok_if (fun q5 => ?_) (fun q5 => ?_)
          · refine s_X2_isAboard_2 (by decide) ?_
            unfold b_X2_isAboard_2
            refine ok_rf (j := c) hx.1 ?_
            refine ok_ck (by omega) ?_
            refine ok_rf (j := m) hm ?_
            refine ok_if (fun q6 => ?_) (fun q6 => ?_)
            · exact ok_some ⟨by unfold bit at v6 b6; grind, rfl⟩
            · refine ok_if (fun q7 => ?_) (fun q7 => ?_)
              · exact ok_some ⟨by unfold bit at v6 b6; grind, rfl⟩
              · exact ok_some ⟨by unfold bit at v6 b6; grind, rfl⟩
          · refine ok_rf (j := c) hx.1 ?_
            refine ok_ck (by omega) ?_
            refine ok_if (fun q8 => ?_) (fun q8 => ?_)
            · exact ok_some ⟨by unfold bit at v6 b6; grind, rfl⟩
            · refine s_X2_isAboard_2 (by decide) ?_
              unfold b_X2_isAboard_2
              refine ok_rf (j := c) hx.1 ?_
              refine ok_ck (by omega) ?_
              refine ok_rf (j := m) hm ?_
              refine ok_if (fun q9 => ?_) (fun q9 => ?_)
              · exact ok_some ⟨by unfold bit at v6 b6; grind, rfl⟩
              · refine ok_if (fun q10 => ?_) (fun q10 => ?_)
                · exact ok_some ⟨by unfold bit at v6 b6; grind, rfl⟩
                · exact ok_some ⟨by unfold bit at v6 b6; grind, rfl⟩
      · refine s_X2_isAboard_1 (by decide) ?_
        unfold b_X2_isAboard_1
        refine ok_rf (j := c) hx.1 ?_
        refine ok_if (fun q11 => ?_) (fun q11 => ?_)
        · refine s_X2_isAboard_2 (by decide) ?_
          unfold b_X2_isAboard_2
          refine ok_rf (j := c) hx.1 ?_
          refine ok_ck (by omega) ?_
          refine ok_rf (j := m) hm ?_
          refine ok_if (fun q12 => ?_) (fun q12 => ?_)
          · exact ok_some ⟨by unfold bit at v6 b6; grind, rfl⟩
          · refine ok_if (fun q13 => ?_) (fun q13 => ?_)
            · exact ok_some ⟨by unfold bit at v6 b6; grind, rfl⟩
            · exact ok_some ⟨by unfold bit at v6 b6; grind, rfl⟩
        · refine ok_rf (j := c) hx.1 ?_
          refine ok_ck (by omega) ?_
          refine ok_if (fun q14 => ?_) (fun q14 => ?_)
          · exact ok_some ⟨by unfold bit at v6 b6; grind, rfl⟩
          · refine s_X2_isAboard_2 (by decide) ?_
            unfold b_X2_isAboard_2
            refine ok_rf (j := c) hx.1 ?_
            refine ok_ck (by omega) ?_
            refine ok_rf (j := m) hm ?_
            refine ok_if (fun q15 => ?_) (fun q15 => ?_)
            · exact ok_some ⟨by unfold bit at v6 b6; grind, rfl⟩
            · refine ok_if (fun q16 => ?_) (fun q16 => ?_)
              · exact ok_some ⟨by unfold bit at v6 b6; grind, rfl⟩
              · exact ok_some ⟨by unfold bit at v6 b6; grind, rfl⟩
theorem p_X2_isFed (hx : CX h c C) (i1 : 0 ≤ i) (hf : i < C 20 0 → bit fed i = F i) : f_X2_isFed i fed h = some (b2i (fdP C F i), h) := by
  have e20 := ic_20 hx.2.1
  refine ok_eq.mp ?_
  unfold f_X2_isFed
  unfold bit at hf
  refine s_X2_isFed_0 (by decide) ?_
  unfold b_X2_isFed_0
  refine ok_rf (j := c) hx.1 ?_
  refine ok_if (fun q1 => ?_) (fun q1 => ?_)
  · refine s_X2_isFed_1 (by decide) ?_
    unfold b_X2_isFed_1
    exact ok_some ⟨by grind, rfl⟩
  · refine ok_if (fun q2 => ?_) (fun q2 => ?_)
    · refine s_X2_isFed_1 (by decide) ?_
      unfold b_X2_isFed_1
      exact ok_some ⟨by grind, rfl⟩
    · exact ok_some ⟨by grind, rfl⟩
theorem p_X2_portion (hx : CX h c C) (hv : isV C h v V) (i1 : 0 ≤ i) (i2 : i < sz C) : f_X2_portion v i h = some (poF C V (gI h 2 0 1) i, h) := by
  have w := hx.2.2
  have q := hx.2.1
  have ez := sz_r w
  obtain ⟨m, hm, n0, n1, n2, n3, n4, n5, n6, n7, n8, n9⟩ := ic_22 q i i1 i2
  have e20 := ic_20 q
  have v0 := iv_0 hv
  unfold poF
  refine ok_eq.mp ?_
  unfold f_X2_portion
  refine s_X2_portion_0 (by decide) ?_
  unfold b_X2_portion_0
  refine ok_rf (j := c) hx.1 ?_
  refine ok_be (p_X0_isMouth q w) ?_
  refine ok_if (fun q1 => ?_) (fun q1 => ?_)
  · exact ok_some ⟨by grind, rfl⟩
  · refine ok_rf (j := c) hx.1 ?_
    refine ok_ck (by omega) ?_
    refine ok_rf (j := m) hm ?_
    refine ok_if (fun q2 => ?_) (fun q2 => ?_)
    · refine s_X2_portion_1 (by decide) ?_
      unfold b_X2_portion_1
      refine s_X2_portion_2 (by decide) ?_
      unfold b_X2_portion_2
      refine ok_if (fun q3 => ?_) (fun q3 => ?_)
      · exact ok_some ⟨by grind, rfl⟩
      · refine ok_if (fun q4 => ?_) (fun q4 => ?_)
        · exact ok_some ⟨by grind, rfl⟩
        · exact ok_some ⟨by grind, rfl⟩
    · refine ok_if (fun q5 => ?_) (fun q5 => ?_)
      · refine s_X2_portion_1 (by decide) ?_
        unfold b_X2_portion_1
        refine s_X2_portion_2 (by decide) ?_
        unfold b_X2_portion_2
        refine ok_if (fun q6 => ?_) (fun q6 => ?_)
        · exact ok_some ⟨by grind, rfl⟩
        · refine ok_if (fun q7 => ?_) (fun q7 => ?_)
          · exact ok_some ⟨by grind, rfl⟩
          · exact ok_some ⟨by grind, rfl⟩
      · refine s_X2_portion_2 (by decide) ?_
        unfold b_X2_portion_2
        refine ok_if (fun q8 => ?_) (fun q8 => ?_)
        · exact ok_some ⟨by grind, rfl⟩
        · refine ok_if (fun q9 => ?_) (fun q9 => ?_)
          · exact ok_some ⟨by grind, rfl⟩
          · exact ok_some ⟨by grind, rfl⟩
def SvW : Nat → Int → Int → Prop := fun r _ k => r = 29 ∨ (r = 2 ∧ k = 7)
theorem svw_C : ∀ (r : Nat) (i k : Int), inC r k → ¬ SvW r i k := by intro r i k; unfold inC SvW; omega
set_option maxHeartbeats 4000000 in
theorem p_X2_serve {h0 : Hp} (hx0 : CX h0 c C) (hv0 : isV C h0 v V) (vw : VW C V) {tw ta : Int} (htw : gI h0 2 0 1 = tw) (hta : tw = 3 → gI h0 2 0 2 = ta) (hf : ∀ i, 0 ≤ i → i < C 20 0 → bit fed i = F i) : ok (f_X2_serve v fed h0) (fun _ h' => Fr SvW h0 h' ∧ (∀ i, 0 ≤ i → i < sz C → gI h' 29 0 i = plt C V tw ta F i) ∧ gI h' 2 0 7 = (srv C V tw ta F (sz C).toNat).2) := by
  have w := hx0.2.2
  have ez := sz_r w
  have key : ∀ (t n : Nat) (h : Hp) (x l : Int) (a : Nat), (sz C).toNat - a = t → (a : Int) ≤ sz C → x = (a : Int) → 5 * t + 5 ≤ n → Fr SvW h0 h → (∀ j, 0 ≤ j → j < (a : Int) → gI h 29 0 j = plt C V tw ta F j) → gI h 2 0 7 = (srv C V tw ta F a).2 → l = (srv C V tw ta F a).1 → ok (g_X2_serve n 1 [v, fed, l, x] h) (fun _ h' => Fr SvW h0 h' ∧ (∀ i, 0 ≤ i → i < sz C → gI h' 29 0 i = plt C V tw ta F i) ∧ gI h' 2 0 7 = (srv C V tw ta F (sz C).toNat).2) := by
    intro t
    induction t with
    | zero =>
      intro n h x l a ht ha hxa hn hF hp he hl
      subst hxa
      have hx : CX h c C := CX_fr hF svw_C hx0
      have ea : a = (sz C).toNat := by omega
      refine s_X2_serve_1 (by omega) ?_
      unfold b_X2_serve_1
      refine ok_rf (j := c) hx.1 (ok_be (p_X0_size hx.2.1 w) (ok_t (by omega) (ok_some ⟨hF, fun j j1 j2 => hp j j1 (by omega), ?_⟩)))
      rw [he, ea]
    | succ t ih =>
      intro n h x l a ht ha hxa hn hF hp he hl
      subst hxa
      have hx : CX h c C := CX_fr hF svw_C hx0
      have hv : isV C h v V := isV_fr hF (fun k => by unfold SvW; omega) hv0
      have tw1 : gI h 2 0 1 = tw := (hF.1 2 0 1 (by unfold SvW; omega)).trans htw
      have tw2 : tw = 3 → gI h 2 0 2 = ta := fun z => (hF.1 2 0 2 (by unfold SvW; omega)).trans (hta z)
      have r0 := srv_r (tw := tw) (ta := ta) (F := F) w vw a (by omega)
      have s1 := srv_1 (C := C) (V := V) (tw := tw) (ta := ta) (F := F) a
      have s2 := srv_2 (C := C) (V := V) (tw := tw) (ta := ta) (F := F) a
      have pk := plt_n (C := C) (V := V) (tw := tw) (ta := ta) (F := F) a
      rw [← hl] at s1 s2 pk
      have pr := plF_r (V := V) (tw := tw) (ta := ta) (F := F) (i := (a : Int)) (l := l) w (by omega) (by omega) (by omega)
      have a9 : (0 : Int) ≤ a ∧ (a : Int) < 9 := by omega
      have F1 : Fr SvW h0 (sI h 29 0 a 0) := fr_sI hF (by unfold SvW; omega)
      have hx1 : CX (sI h 29 0 a 0) c C := CX_fr F1 svw_C hx0
      have hv1 : isV C (sI h 29 0 a 0) v V := isV_fr F1 (fun k => by unfold SvW; omega) hv0
      have tw3 : gI (sI h 29 0 a 0) 2 0 1 = tw := (gI_nr (by decide)).trans tw1
      have tw4 : tw = 3 → gI (sI h 29 0 a 0) 2 0 2 = ta := fun z => (gI_nr (by decide)).trans (tw2 z)
      have next : ∀ (m' : Nat) (h' : Hp) (l' : Int), 5 * t + 6 ≤ m' → Fr SvW h0 h' → gI h' 29 0 a = plt C V tw ta F a → (∀ j, j ≠ (a : Int) → gI h' 29 0 j = gI h 29 0 j) → gI h' 2 0 7 = (srv C V tw ta F (a + 1)).2 → l' = (srv C V tw ta F (a + 1)).1 → ok (g_X2_serve m' 3 [v, fed, l', (a : Int)] h') (fun _ h' => Fr SvW h0 h' ∧ (∀ i, 0 ≤ i → i < sz C → gI h' 29 0 i = plt C V tw ta F i) ∧ gI h' 2 0 7 = (srv C V tw ta F (sz C).toNat).2) := by
        intro m' h' l' q1 q2 q3 q4 q5 q6
        refine s_X2_serve_3 (by omega) ?_
        unfold b_X2_serve_3
        refine ok_ck (by omega) (ih _ _ _ _ (a + 1) (by omega) (by omega) (by omega) (by omega) q2 (fun j j1 j2 => ?_) q5 q6)
        by_cases y : j = (a : Int)
        · rw [y]; exact q3
        · rw [q4 j y]; exact hp j j1 (by omega)
      have no : ¬ (fdP C F a ∧ abP C V tw ta a) → ∀ m' : Nat, 5 * t + 6 ≤ m' → ok (g_X2_serve m' 3 [v, fed, l, (a : Int)] (sI h 29 0 a 0)) (fun _ h' => Fr SvW h0 h' ∧ (∀ i, 0 ≤ i → i < sz C → gI h' 29 0 i = plt C V tw ta F i) ∧ gI h' 2 0 7 = (srv C V tw ta F (sz C).toNat).2) := by
        intro z m' hm'
        have pz : plF C V tw ta F a l = 0 := by unfold plF; rw [if_neg z]
        refine next _ _ _ hm' F1 (by rw [gI_eq, pk, pz]) (fun j y => gI_nk y) ?_ ?_
        · rw [gI_nr (by decide), he, s2, pz]; omega
        · rw [s1, pz]; split <;> omega
      refine s_X2_serve_1 (by omega) ?_
      unfold b_X2_serve_1
      refine ok_rf (j := c) hx.1 (ok_be (p_X0_size hx.2.1 w) (ok_f (by omega) (ok_ck a9 (ok_lt (ok_be (p_X2_isFed (F := F) hx1 (by omega) (hf a (by omega))) (ok_if (fun y => no (fun z => b2i_0.mp y z.1) _ (by omega)) (fun y => ?_)))))))
      replace y := b2i_n.mp y
      refine ok_be (p_X2_isAboard hx1 hv1 tw3 tw4 (by omega) (by omega)) ?_
      refine ok_if (fun y2 => no (fun z => b2i_0.mp y2 z.2) _ (by omega)) (fun y2 => ?_)
      replace y2 := b2i_n.mp y2
      refine ok_be (p_X2_portion hx1 hv1 (by omega) (by omega)) ?_
      rw [tw3]
      have pz : plF C V tw ta F a l = min (poF C V tw a) l := by unfold plF; rw [if_pos ⟨y, y2⟩]
      rw [← pz]
      clear pz y y2
      refine ok_ck a9 (ok_lt (ok_ck a9 ?_))
      rw [gI_eq, gI_nr (show (2 : Nat) ≠ 29 by decide), gI_nr (show (2 : Nat) ≠ 29 by decide), he]
      refine ok_ck (by omega) (ok_lt ?_)
      rw [gI_nk (show (1 : Int) ≠ 7 by decide), gI_nr (show (2 : Nat) ≠ 29 by decide), gI_nr (show (2 : Nat) ≠ 29 by decide), tw1, gI_nr (show (29 : Nat) ≠ 2 by decide), gI_eq]
      have F3 : Fr SvW h0 (sI (sI (sI h 29 0 a 0) 29 0 a (plF C V tw ta F a l)) 2 0 7 ((srv C V tw ta F a).2 + plF C V tw ta F a l)) := fr_sI (fr_sI F1 (by unfold SvW; omega)) (by unfold SvW; omega)
      have go : ∀ (m' : Nat) (y0 : Int), 5 * t + 7 ≤ m' → l - y0 = (srv C V tw ta F (a + 1)).1 → 0 ≤ y0 → y0 ≤ 9 → ok (g_X2_serve m' 2 [v, fed, (a : Int), y0, l] (sI (sI (sI h 29 0 a 0) 29 0 a (plF C V tw ta F a l)) 2 0 7 ((srv C V tw ta F a).2 + plF C V tw ta F a l))) (fun _ h' => Fr SvW h0 h' ∧ (∀ i, 0 ≤ i → i < sz C → gI h' 29 0 i = plt C V tw ta F i) ∧ gI h' 2 0 7 = (srv C V tw ta F (sz C).toNat).2) := by
        intro m' y0 z1 z2 z3 z4
        refine s_X2_serve_2 (by omega) ?_
        unfold b_X2_serve_2
        refine ok_ck (by omega) (ok_lt (next _ _ _ (by omega) F3 ?_ (fun j z => ?_) ?_ z2))
        · rw [gI_nr (by decide), gI_eq, pk]
        · rw [gI_nr (by decide), gI_nk z, gI_nk z]
        · rw [gI_eq, s2]
      refine ok_if (fun y3 => go _ _ (by omega) (by rw [s1, if_pos y3]; omega) (by omega) (by omega)) (fun y3 => ok_ck a9 (go _ _ (by omega) (by rw [s1, if_neg y3]) (by omega) (by omega)))
  unfold f_X2_serve
  refine s_X2_serve_0 (by decide) ?_
  unfold b_X2_serve_0
  refine ok_lt (ok_lt ?_)
  rw [iv_2 hv0]
  exact key _ _ _ _ _ 0 rfl (by omega) (by omega) (by unfold FU; omega) (fr_sI fr_rf (by unfold SvW; omega)) (fun j j1 j2 => by omega) (by rw [gI_eq]; rfl) rfl
end
