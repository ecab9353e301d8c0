/-! THE CLASS'S GALLEY, 1 -/
def wnF (C : Ch) (t : Int) : Int := if C 10 0 = 0 then 0 else C 11 (t % C 10 0)
abbrev abP (C V : Ch) (tw ta i : Int) : Prop := V 6 i = 0 ∧ ¬ (tw = 3 ∧ ta = i) ∧ (i < C 20 0 ∨ ¬ bit (V 5 0) (i - C 20 0) = 0) ∧ C 25 i ≤ V 0 0 ∧ V 0 0 ≤ C 26 i
abbrev fdP (C : Ch) (F : Int → Int) (i : Int) : Prop := C 20 0 ≤ i ∨ F i = 1
def poF (C V : Ch) (tw i : Int) : Int := if C 27 i ≤ V 0 0 ∧ V 0 0 ≤ C 28 i ∧ tw ≠ 0 then 0 else C 23 i
def plF (C V : Ch) (tw ta : Int) (F : Int → Int) (i l : Int) : Int := if fdP C F i ∧ abP C V tw ta i then min (poF C V tw i) l else 0
/-- soup left and soup eaten ahead of mouth n -/
def srv (C V : Ch) (tw ta : Int) (F : Int → Int) : Nat → Int × Int
  | 0 => (V 2 0, 0)
  | n + 1 => (if tw = 4 then (srv C V tw ta F n).1 else (srv C V tw ta F n).1 - plF C V tw ta F n (srv C V tw ta F n).1, (srv C V tw ta F n).2 + plF C V tw ta F n (srv C V tw ta F n).1)
def plt (C V : Ch) (tw ta : Int) (F : Int → Int) (i : Int) : Int := plF C V tw ta F i (srv C V tw ta F i.toNat).1
theorem plt_n {C V : Ch} {tw ta : Int} {F : Int → Int} (n : Nat) : plt C V tw ta F (n : Int) = plF C V tw ta F n (srv C V tw ta F n).1 := by simp [plt]
theorem srv_1 {C V : Ch} {tw ta : Int} {F : Int → Int} (n : Nat) : (srv C V tw ta F (n + 1)).1 = if tw = 4 then (srv C V tw ta F n).1 else (srv C V tw ta F n).1 - plF C V tw ta F n (srv C V tw ta F n).1 := rfl
theorem srv_2 {C V : Ch} {tw ta : Int} {F : Int → Int} (n : Nat) : (srv C V tw ta F (n + 1)).2 = (srv C V tw ta F n).2 + plF C V tw ta F n (srv C V tw ta F n).1 := rfl
section
variable {C V : Ch} {tw ta : Int} {F : Int → Int}
theorem poF_r {i : Int} (w : CW C) (i1 : 0 ≤ i) (i2 : i < sz C) : 0 ≤ poF C V tw i ∧ poF C V tw i ≤ 9 := by
  have := cw_m w i i1 i2
  unfold poF; split <;> omega
theorem plF_r {i l : Int} (w : CW C) (i1 : 0 ≤ i) (i2 : i < sz C) (l1 : 0 ≤ l) : 0 ≤ plF C V tw ta F i l ∧ plF C V tw ta F i l ≤ 9 ∧ plF C V tw ta F i l ≤ l := by
  have := poF_r (V := V) (tw := tw) w i1 i2
  unfold plF; split <;> omega
theorem srv_r (w : CW C) (v : VW C V) : ∀ n : Nat, (n : Int) ≤ sz C → 0 ≤ (srv C V tw ta F n).1 ∧ (srv C V tw ta F n).1 ≤ 9999 ∧ 0 ≤ (srv C V tw ta F n).2 ∧ (srv C V tw ta F n).2 ≤ 9 * n
  | 0, _ => by have := vw_s v; simp only [srv]; omega
  | n + 1, h => by
    have a := srv_r w v n (by omega)
    have b := plF_r (V := V) (tw := tw) (ta := ta) (F := F) (i := n) w (by omega) (by omega) a.1
    rw [srv_1, srv_2]
    split <;> omega
theorem srv_e (w : CW C) (v : VW C V) : ∀ n : Nat, (n : Int) ≤ sz C → tw ≠ 4 → (srv C V tw ta F n).1 + (srv C V tw ta F n).2 = V 2 0
  | 0, _, _ => by simp only [srv]; omega
  | n + 1, h, q => by
    have a := srv_e w v n (by omega) q
    rw [srv_1, srv_2, if_neg q]
    omega
end
section
variable {h : Hp} {c v i : Int} {C V : Ch}
theorem p_X0_size (q : isC h c C) (w : CW C) : f_X0_size c h = some (sz C, h) := by
  have e1 := ic_20 q
  have e2 := ic_21 q
  have e3 := sz_r w
  refine ok_eq.mp ?_
  unfold f_X0_size
  refine s_X0_size_0 (by decide) ?_
  unfold b_X0_size_0
  refine ok_ck (by omega) ?_
  exact ok_some ⟨by omega, rfl⟩
theorem p_X0_isMouth (q : isC h c C) (w : CW C) : f_X0_isMouth c i h = some (b2i (0 ≤ i ∧ i < sz C), h) := by
  refine ok_eq.mp ?_
  unfold f_X0_isMouth
  refine s_X0_isMouth_0 (by decide) ?_
  unfold b_X0_isMouth_0
  refine ok_if (fun q1 => ?_) (fun q1 => ?_)
  · exact ok_some ⟨by unfold b2i; split <;> omega, rfl⟩
  · refine ok_be (p_X0_size q w) ?_
    refine ok_if (fun q2 => ?_) (fun q2 => ?_)
    · exact ok_some ⟨by unfold b2i; split <;> omega, rfl⟩
    · exact ok_some ⟨by unfold b2i; split <;> omega, rfl⟩
theorem p_X0_windAt (q : isC h c C) (w : CW C) (i1 : 0 ≤ i) : f_X0_windAt c i h = some (wnF C i, h) := by
  have e1 := ic_10 q
  have e2 := cw_N w
  have e3 := ic_11 q (i % C 10 0)
  have m1 := Int.emod_nonneg i (b := C 10 0)
  have m2 := Int.emod_lt_of_pos i (b := C 10 0)
  unfold wnF
  rw [← e1] at *
  refine ok_eq.mp ?_
  unfold f_X0_windAt
  refine s_X0_windAt_0 (by decide) ?_
  unfold b_X0_windAt_0
  refine ok_if (fun q1 => ?_) (fun q1 => ?_)
  · exact ok_some ⟨by split <;> omega, rfl⟩
  · refine ok_if (fun q2 => ?_) (fun q2 => ?_)
    · exact ok_some ⟨by split <;> omega, rfl⟩
    · refine ok_if (fun q3 => ?_) (fun q3 => ?_)
      · refine ok_ck (by omega) ?_
        refine ok_ck (by omega) ?_
        exact ok_some ⟨by split <;> omega, rfl⟩
      · exact ok_some ⟨by split <;> omega, rfl⟩
end
section
variable {h : Hp} {c v i fed : Int} {C V : Ch} {F : Int → Int}
theorem p_X2_isAboard (hx : CX h c C) (hv : isV C h v V) (i1 : 0 ≤ i) (i2 : i < sz C) : f_X2_isAboard v i h = some (b2i (abP C V (gI h 2 0 1) (gI h 2 0 2) i), h) := by
  have w := hx.2.2
  have q := hx.2.1
  have ez := sz_r w
  obtain ⟨m, hm, n0, n1, n2, n3, n4, n5, n6, n7, n8, n9⟩ := ic_22 q i i1 i2
  have e20 := ic_20 q
  have v0 := iv_0 hv
  have v5 := iv_5 hv
  have v6 := iv_6 hv i i1 i2
  have b6 := bit01 (x := gI h 10 v 6) (i := i)
  refine ok_eq.mp ?_
  unfold f_X2_isAboard
  refine s_X2_isAboard_0 (by decide) ?_
  unfold b_X2_isAboard_0
  refine ok_rf (j := c) hx.1 ?_
  refine ok_be (p_X0_isMouth q w) ?_
  refine ok_if (fun q1 => ?_) (fun q1 => ?_)
  · exact ok_some ⟨by unfold bit at v6 b6; grind, rfl⟩
  · refine ok_if (fun q2 => ?_) (fun q2 => ?_)
    · exact ok_some ⟨by unfold bit at v6 b6; grind, rfl⟩
    · refine ok_if (fun q3 => ?_) (fun q3 => ?_)
      · refine ok_if (fun q4 => ?_) (fun q4 => ?_)
        · exact ok_some ⟨by unfold bit at v6 b6; grind, rfl⟩
        · refine s_X2_isAboard_1 (by decide) ?_
          unfold b_X2_isAboard_1
          refine ok_rf (j := c) hx.1 ?_
          refine ok_if (fun q5 => ?_) (fun q5 => ?_)
          · refine s_X2_isAboard_2 (by decide) ?_
            unfold b_X2_isAboard_2
            refine ok_rf (j := c) hx.1 ?_
            refine ok_ck (by omega) ?_
            refine ok_rf (j := m) hm ?_
            refine ok_if (fun q6 => ?_) (fun q6 => ?_)
            · exact ok_some ⟨by unfold bit at v6 b6; grind, rfl⟩
            · refine ok_if (fun q7 => ?_) (fun q7 => ?_)
              · exact ok_some ⟨by unfold bit at v6 b6; grind, rfl⟩
              · exact ok_some ⟨by unfold bit at v6 b6; grind, rfl⟩
          · refine ok_rf (j := c) hx.1 ?_
            refine ok_ck (by omega) ?_
            refine ok_if (fun q8 => ?_) (fun q8 => ?_)
            · exact ok_some ⟨by unfold bit at v6 b6; grind, rfl⟩
            · refine s_X2_isAboard_2 (by decide) ?_
              unfold b_X2_isAboard_2
              refine ok_rf (j := c) hx.1 ?_
              refine ok_ck (by omega) ?_
              refine ok_rf (j := m) hm ?_
              refine ok_if (fun q9 => ?_) (fun q9 => ?_)
              · exact ok_some ⟨by unfold bit at v6 b6; grind, rfl⟩
              · refine ok_if (fun q10 => ?_) (fun q10 => ?_)
                · exact ok_some ⟨by unfold bit at v6 b6; grind, rfl⟩
                · exact ok_some ⟨by unfold bit at v6 b6; grind, rfl⟩
      · refine s_X2_isAboard_1 (by decide) ?_
        unfold b_X2_isAboard_1
        refine ok_rf (j := c) hx.1 ?_
        refine ok_if (fun q11 => ?_) (fun q11 => ?_)
        · refine s_X2_isAboard_2 (by decide) ?_
          unfold b_X2_isAboard_2
          refine ok_rf (j := c) hx.1 ?_
          refine ok_ck (by omega) ?_
          refine ok_rf (j := m) hm ?_
          refine ok_if (fun q12 => ?_) (fun q12 => ?_)
          · exact ok_some ⟨by unfold bit at v6 b6; grind, rfl⟩
          · refine ok_if (fun q13 => ?_) (fun q13 => ?_)
            · exact ok_some ⟨by unfold bit at v6 b6; grind, rfl⟩
            · exact ok_some ⟨by unfold bit at v6 b6; grind, rfl⟩
        · refine ok_rf (j := c) hx.1 ?_
          refine ok_ck (by omega) ?_
          refine ok_if (fun q14 => ?_) (fun q14 => ?_)
          · exact ok_some ⟨by unfold bit at v6 b6; grind, rfl⟩
          · refine s_X2_isAboard_2 (by decide) ?_
            unfold b_X2_isAboard_2
            refine ok_rf (j := c) hx.1 ?_
            refine ok_ck (by omega) ?_
            refine ok_rf (j := m) hm ?_
            refine ok_if (fun q15 => ?_) (fun q15 => ?_)
            · exact ok_some ⟨by unfold bit at v6 b6; grind, rfl⟩
            · refine ok_if (fun q16 => ?_) (fun q16 => ?_)
              · exact ok_some ⟨by unfold bit at v6 b6; grind, rfl⟩
              · exact ok_some ⟨by unfold bit at v6 b6; grind, rfl⟩
theorem p_X2_isFed (hx : CX h c C) (i1 : 0 ≤ i) (hf : i < C 20 0 → bit fed i = F i) : f_X2_isFed i fed h = some (b2i (fdP C F i), h) := by
  have e20 := ic_20 hx.2.1
  refine ok_eq.mp ?_
  unfold f_X2_isFed
  unfold bit at hf
  refine s_X2_isFed_0 (by decide) ?_
  unfold b_X2_isFed_0
  refine ok_rf (j := c) hx.1 ?_
  refine ok_if (fun q1 => ?_) (fun q1 => ?_)
  · refine s_X2_isFed_1 (by decide) ?_
    unfold b_X2_isFed_1
    exact ok_some ⟨by grind, rfl⟩
  · refine ok_if (fun q2 => ?_) (fun q2 => ?_)
    · refine s_X2_isFed_1 (by decide) ?_
      unfold b_X2_isFed_1
      exact ok_some ⟨by grind, rfl⟩
    · exact ok_some ⟨by grind, rfl⟩
theorem p_X2_portion (hx : CX h c C) (hv : isV C h v V) (i1 : 0 ≤ i) (i2 : i < sz C) : f_X2_portion v i h = some (poF C V (gI h 2 0 1) i, h) := by
  have w := hx.2.2
  have q := hx.2.1
  have ez := sz_r w
  obtain ⟨m, hm, n0, n1, n2, n3, n4, n5, n6, n7, n8, n9⟩ := ic_22 q i i1 i2
  have e20 := ic_20 q
  have v0 := iv_0 hv
  unfold poF
  refine ok_eq.mp ?_
  unfold f_X2_portion
  refine s_X2_portion_0 (by decide) ?_
  unfold b_X2_portion_0
  refine ok_rf (j := c) hx.1 ?_
  refine ok_be (p_X0_isMouth q w) ?_
  refine ok_if (fun q1 => ?_) (fun q1 => ?_)
  · exact ok_some ⟨by grind, rfl⟩
  · refine ok_rf (j := c) hx.1 ?_
    refine ok_ck (by omega) ?_
    refine ok_rf (j := m) hm ?_
    refine ok_if (fun q2 => ?_) (fun q2 => ?_)
    · refine s_X2_portion_1 (by decide) ?_
      unfold b_X2_portion_1
      refine s_X2_portion_2 (by decide) ?_
      unfold b_X2_portion_2
      refine ok_if (fun q3 => ?_) (fun q3 => ?_)
      · exact ok_some ⟨by grind, rfl⟩
      · refine ok_if (fun q4 => ?_) (fun q4 => ?_)
        · exact ok_some ⟨by grind, rfl⟩
        · exact ok_some ⟨by grind, rfl⟩
    · refine ok_if (fun q5 => ?_) (fun q5 => ?_)
      · refine s_X2_portion_1 (by decide) ?_
        unfold b_X2_portion_1
        refine s_X2_portion_2 (by decide) ?_
        unfold b_X2_portion_2
        refine ok_if (fun q6 => ?_) (fun q6 => ?_)
        · exact ok_some ⟨by grind, rfl⟩
        · refine ok_if (fun q7 => ?_) (fun q7 => ?_)
          · exact ok_some ⟨by grind, rfl⟩
          · exact ok_some ⟨by grind, rfl⟩
      · refine s_X2_portion_2 (by decide) ?_
        unfold b_X2_portion_2
        refine ok_if (fun q8 => ?_) (fun q8 => ?_)
        · exact ok_some ⟨by grind, rfl⟩
        · refine ok_if (fun q9 => ?_) (fun q9 => ?_)
          · exact ok_some ⟨by grind, rfl⟩
          · exact ok_some ⟨by grind, rfl⟩
def SvW : Nat → Int → Int → Prop := fun r _ k => r = 29 ∨ (r = 2 ∧ k = 7)
theorem svw_C : ∀ (r : Nat) (i k : Int), inC r k → ¬ SvW r i k := by intro r i k; unfold inC SvW; omega
theorem p_X2_serve {h0 : Hp} (hx0 : CX h0 c C) (hv0 : isV C h0 v V) (vw : VW C V) (hf : ∀ i, 0 ≤ i → i < C 20 0 → bit fed i = F i) : ok (f_X2_serve v fed h0) (fun _ h' => Fr SvW h0 h' ∧ (∀ i, 0 ≤ i → i < sz C → gI h' 29 0 i = plt C V (gI h0 2 0 1) (gI h0 2 0 2) F i) ∧ gI h' 2 0 7 = (srv C V (gI h0 2 0 1) (gI h0 2 0 2) F (sz C).toNat).2) := by
  have w := hx0.2.2
  have ez := sz_r w
  have key : ∀ (t n : Nat) (h : Hp) (i l : Int) (k : Nat), (sz C - i).toNat = t → i = (k : Int) → i ≤ sz C → 5 * t + 5 ≤ n → Fr SvW h0 h → (∀ j, 0 ≤ j → j < i → gI h 29 0 j = plt C V (gI h0 2 0 1) (gI h0 2 0 2) F j) → gI h 2 0 7 = (srv C V (gI h0 2 0 1) (gI h0 2 0 2) F k).2 → l = (srv C V (gI h0 2 0 1) (gI h0 2 0 2) F k).1 → ok (g_X2_serve n 1 [v, fed, l, i] h) (fun _ h' => Fr SvW h0 h' ∧ (∀ i, 0 ≤ i → i < sz C → gI h' 29 0 i = plt C V (gI h0 2 0 1) (gI h0 2 0 2) F i) ∧ gI h' 2 0 7 = (srv C V (gI h0 2 0 1) (gI h0 2 0 2) F (sz C).toNat).2) := by
    intro t
    induction t using Nat.strongRecOn with
    | _ t ih =>
    intro n h i l k ht hi hi2 hn hF ha he hl
    have hx : CX h c C := CX_fr hF svw_C hx0
    have hv : isV C h v V := isV_fr hF (fun k => by unfold SvW; omega) hv0
    have i1 : 0 ≤ i := by omega
    have tw1 : gI h 2 0 1 = gI h0 2 0 1 := hF.1 2 0 1 (by unfold SvW; omega)
    have tw2 : gI h 2 0 2 = gI h0 2 0 2 := hF.1 2 0 2 (by unfold SvW; omega)
    have r0 := srv_r (tw := gI h0 2 0 1) (ta := gI h0 2 0 2) (F := F) w vw k (by omega)
    have s1 := srv_1 (C := C) (V := V) (tw := gI h0 2 0 1) (ta := gI h0 2 0 2) (F := F) k
    have s2 := srv_2 (C := C) (V := V) (tw := gI h0 2 0 1) (ta := gI h0 2 0 2) (F := F) k
    have pk := plt_n (C := C) (V := V) (tw := gI h0 2 0 1) (ta := gI h0 2 0 2) (F := F) k
    rw [← hi, ← hl] at s1 s2 pk
    have pd : plF C V (gI h0 2 0 1) (gI h0 2 0 2) F i l = if fdP C F i ∧ abP C V (gI h0 2 0 1) (gI h0 2 0 2) i then min (poF C V (gI h0 2 0 1) i) l else 0 := rfl
    have ff : ∀ r0 k0 x0, SvW r0 0 k0 → Fr SvW h0 (sI h r0 0 k0 x0) := fun r0 k0 x0 z => fr_sI hF z
    refine s_X2_serve_1 (by omega) ?_
    unfold b_X2_serve_1
    refine ok_rf (j := c) hx.1 ?_
    refine ok_be (p_X0_size hx.2.1 w) ?_
    refine ok_if (fun q1 => ?_) (fun q1 => ?_)
    · exact ok_some ⟨hF, fun j j1 j2 => ha j j1 (by omega), by rw [he]; congr 3; omega⟩
    · refine ok_ck (by (first | omega | (simp only [gI_sI]; have pr := poF_r (V := V) (tw := gI h0 2 0 1) w i1 (by omega); have := pr.1; grind) | grind)) ?_
      refine ok_lt ?_
      have hx2 := CX_sI (r := 29) (i := 0) (k := i) (v := 0) (by intro k; unfold inC; omega) hx
      have hv2 := isV_sI (r := 29) (i := 0) (k := i) (x := 0) (by omega) hv
      refine ok_be (p_X2_isFed (F := F) hx2 i1 (hf i i1)) ?_
      refine ok_if (fun q2 => ?_) (fun q2 => ?_)
      · refine s_X2_serve_3 (by omega) ?_
        unfold b_X2_serve_3
        refine ok_ck (by (first | omega | (simp only [gI_sI]; have pr := poF_r (V := V) (tw := gI h0 2 0 1) w i1 (by omega); have := pr.1; grind) | grind)) ?_
        refine ih (sz C - (i + 1)).toNat (by omega) _ _ (i + 1) _ (k + 1) rfl (by omega) (by omega) (by omega) ?_ ?_ ?_ ?_
        · repeat (first | exact hF | refine fr_sI ?_ (by unfold SvW; omega))
        · intro j j1 j2
          simp only [gI_sI]
          have := ha j j1
          by_cases z : j = i
          · subst z; grind
          · grind
        · simp only [gI_sI]; grind
        · simp only [gI_sI]; grind
      · refine ok_be (p_X2_isAboard hx2 hv2 i1 (by omega)) ?_
        refine ok_if (fun q3 => ?_) (fun q3 => ?_)
        · refine s_X2_serve_3 (by omega) ?_
          unfold b_X2_serve_3
          refine ok_ck (by (first | omega | (simp only [gI_sI]; have pr := poF_r (V := V) (tw := gI h0 2 0 1) w i1 (by omega); have := pr.1; grind) | grind)) ?_
          refine ih (sz C - (i + 1)).toNat (by omega) _ _ (i + 1) _ (k + 1) rfl (by omega) (by omega) (by omega) ?_ ?_ ?_ ?_
          · repeat (first | exact hF | refine fr_sI ?_ (by unfold SvW; omega))
          · intro j j1 j2
            simp only [gI_sI]
            have := ha j j1
            by_cases z : j = i
            · subst z; grind
            · grind
          · simp only [gI_sI]; grind
          · simp only [gI_sI]; grind
        · refine ok_be (p_X2_portion hx2 hv2 i1 (by omega)) ?_
          have pr := poF_r (V := V) (tw := gI h0 2 0 1) w i1 (by omega)
          rw [gI_nr (by decide), tw1]
          refine ok_ck (by (first | omega | (simp only [gI_sI]; have pr := poF_r (V := V) (tw := gI h0 2 0 1) w i1 (by omega); have := pr.1; grind) | grind)) ?_
          refine ok_lt ?_
          refine ok_ck (by (first | omega | (simp only [gI_sI]; have pr := poF_r (V := V) (tw := gI h0 2 0 1) w i1 (by omega); have := pr.1; grind) | grind)) ?_
          refine ok_ck (by (first | omega | (simp only [gI_sI]; have pr := poF_r (V := V) (tw := gI h0 2 0 1) w i1 (by omega); have := pr.1; grind) | grind)) ?_
          refine ok_lt ?_
          refine ok_if (fun q4 => ?_) (fun q4 => ?_)
          · refine s_X2_serve_2 (by omega) ?_
            unfold b_X2_serve_2
            refine ok_ck (by (first | omega | (simp only [gI_sI]; have pr := poF_r (V := V) (tw := gI h0 2 0 1) w i1 (by omega); have := pr.1; grind) | grind)) ?_
            refine ok_lt ?_
            refine s_X2_serve_3 (by omega) ?_
            unfold b_X2_serve_3
            refine ok_ck (by (first | omega | (simp only [gI_sI]; have pr := poF_r (V := V) (tw := gI h0 2 0 1) w i1 (by omega); have := pr.1; grind) | grind)) ?_
            refine ih (sz C - (i + 1)).toNat (by omega) _ _ (i + 1) _ (k + 1) rfl (by omega) (by omega) (by omega) ?_ ?_ ?_ ?_
            · repeat (first | exact hF | refine fr_sI ?_ (by unfold SvW; omega))
            · intro j j1 j2
              simp only [gI_sI]
              have := ha j j1
              by_cases z : j = i
              · subst z; grind
              · grind
            · simp only [gI_sI]; grind
            · simp only [gI_sI]; grind
          · refine ok_ck (by (first | omega | (simp only [gI_sI]; have pr := poF_r (V := V) (tw := gI h0 2 0 1) w i1 (by omega); have := pr.1; grind) | grind)) ?_
            refine s_X2_serve_2 (by omega) ?_
            unfold b_X2_serve_2
            refine ok_ck (by (first | omega | (simp only [gI_sI]; have pr := poF_r (V := V) (tw := gI h0 2 0 1) w i1 (by omega); have := pr.1; grind) | grind)) ?_
            refine ok_lt ?_
            refine s_X2_serve_3 (by omega) ?_
            unfold b_X2_serve_3
            refine ok_ck (by (first | omega | (simp only [gI_sI]; have pr := poF_r (V := V) (tw := gI h0 2 0 1) w i1 (by omega); have := pr.1; grind) | grind)) ?_
            refine ih (sz C - (i + 1)).toNat (by omega) _ _ (i + 1) _ (k + 1) rfl (by omega) (by omega) (by omega) ?_ ?_ ?_ ?_
            · repeat (first | exact hF | refine fr_sI ?_ (by unfold SvW; omega))
            · intro j j1 j2
              simp only [gI_sI]
              have := ha j j1
              by_cases z : j = i
              · subst z; grind
              · grind
            · simp only [gI_sI]; grind
            · simp only [gI_sI]; grind
  unfold f_X2_serve
  refine s_X2_serve_0 (by decide) ?_
  unfold b_X2_serve_0
  refine ok_lt (ok_lt ?_)
  have e2 := iv_2 hv0
  exact key _ _ _ _ _ 0 rfl rfl (by omega) (by unfold FU; omega) (fr_sI fr_rf (by unfold SvW; omega)) (fun j j1 j2 => by omega) (by rw [gI_eq]; rfl) (by rw [e2]; rfl)
end
