/-! THE CLASS'S GALLEY, 1 -/
def wnF (C : Ch) (t : Int) : Int := if C 10 0 = 0 then 0 else C 11 (t % C 10 0)
abbrev abP (C V : Ch) (tw ta i : Int) : Prop := V 6 i = 0 ∧ ¬ (tw = 3 ∧ ta = i) ∧ (i < C 20 0 ∨ ¬ bit (V 5 0) (i - C 20 0) = 0) ∧ C 25 i ≤ V 0 0 ∧ V 0 0 ≤ C 26 i
abbrev fdP (C : Ch) (F : Int → Int) (i : Int) : Prop := C 20 0 ≤ i ∨ F i = 1
def poF (C V : Ch) (tw i : Int) : Int := if C 27 i ≤ V 0 0 ∧ V 0 0 ≤ C 28 i ∧ tw ≠ 0 then 0 else C 23 i
def plF (C V : Ch) (tw ta : Int) (F : Int → Int) (i l : Int) : Int := if fdP C F i ∧ abP C V tw ta i then min (poF C V tw i) l else 0
/-- soup left and soup eaten ahead of mouth n -/
def srv (C V : Ch) (tw ta : Int) (F : Int → Int) : Nat → Int × Int
  | 0 => (V 2 0, 0)
  | n + 1 => (if tw = 4 then (srv C V tw ta F n).1 else (srv C V tw ta F n).1 - plF C V tw ta F n (srv C V tw ta F n).1, (srv C V tw ta F n).2 + plF C V tw ta F n (srv C V tw ta F n).1)
def plt (C V : Ch) (tw ta : Int) (F : Int → Int) (i : Int) : Int := plF C V tw ta F i (srv C V tw ta F i.toNat).1
theorem plt_n {C V : Ch} {tw ta : Int} {F : Int → Int} (n : Nat) : plt C V tw ta F (n : Int) = plF C V tw ta F n (srv C V tw ta F n).1 := by simp [plt]
theorem srv_1 {C V : Ch} {tw ta : Int} {F : Int → Int} (n : Nat) : (srv C V tw ta F (n + 1)).1 = if tw = 4 then (srv C V tw ta F n).1 else (srv C V tw ta F n).1 - plF C V tw ta F n (srv C V tw ta F n).1 := rfl
theorem srv_2 {C V : Ch} {tw ta : Int} {F : Int → Int} (n : Nat) : (srv C V tw ta F (n + 1)).2 = (srv C V tw ta F n).2 + plF C V tw ta F n (srv C V tw ta F n).1 := rfl
section
variable {C V : Ch} {tw ta : Int} {F : Int → Int}
theorem poF_r {i : Int} (w : CW C) (i1 : 0 ≤ i) (i2 : i < sz C) : 0 ≤ poF C V tw i ∧ poF C V tw i ≤ 9 := by
  have := cw_m w i i1 i2
  unfold poF; split <;> omega
theorem plF_r {i l : Int} (w : CW C) (i1 : 0 ≤ i) (i2 : i < sz C) (l1 : 0 ≤ l) : 0 ≤ plF C V tw ta F i l ∧ plF C V tw ta F i l ≤ 9 ∧ plF C V tw ta F i l ≤ l := by
  have := poF_r (V := V) (tw := tw) w i1 i2
  unfold plF; split <;> omega
theorem srv_r (w : CW C) (v : VW C V) : ∀ n : Nat, (n : Int) ≤ sz C → 0 ≤ (srv C V tw ta F n).1 ∧ (srv C V tw ta F n).1 ≤ 9999 ∧ 0 ≤ (srv C V tw ta F n).2 ∧ (srv C V tw ta F n).2 ≤ 9 * n
  | 0, _ => by have := vw_s v; simp only [srv]; omega
  | n + 1, h => by
    have a := srv_r w v n (by omega)
    have b := plF_r (V := V) (tw := tw) (ta := ta) (F := F) (i := n) w (by omega) (by omega) a.1
    rw [srv_1, srv_2]
    split <;> omega
theorem srv_e (w : CW C) (v : VW C V) : ∀ n : Nat, (n : Int) ≤ sz C → tw ≠ 4 → (srv C V tw ta F n).1 + (srv C V tw ta F n).2 = V 2 0
  | 0, _, _ => by simp only [srv]; omega
  | n + 1, h, q => by
    have a := srv_e w v n (by omega) q
    rw [srv_1, srv_2, if_neg q]
    omega
end
section
variable {h : Hp} {c v i : Int} {C V : Ch}
theorem p_X0_size (q : isC h c C) (w : CW C) : f_X0_size c h = some (sz C, h) := by
  have e1 := ic_20 q
  have e2 := ic_21 q
  have e3 := sz_r w
  refine ok_eq.mp ?_
  unfold f_X0_size
  refine s_X0_size_0 (by decide) ?_
  unfold b_X0_size_0
  refine ok_ck (by omega) ?_
  exact ok_some ⟨by omega, rfl⟩
theorem p_X0_isMouth (q : isC h c C) (w : CW C) : f_X0_isMouth c i h = some (b2i (0 ≤ i ∧ i < sz C), h) := by
  refine ok_eq.mp ?_
  unfold f_X0_isMouth
  refine s_X0_isMouth_0 (by decide) ?_
  unfold b_X0_isMouth_0
  refine ok_if (fun q1 => ?_) (fun q1 => ?_)
  · exact ok_some ⟨by unfold b2i; split <;> omega, rfl⟩
  · refine ok_be (p_X0_size q w) ?_
    refine ok_if (fun q2 => ?_) (fun q2 => ?_)
    · exact ok_some ⟨by unfold b2i; split <;> omega, rfl⟩
    · exact ok_some ⟨by unfold b2i; split <;> omega, rfl⟩
theorem p_X0_windAt (q : isC h c C) (w : CW C) (i1 : 0 ≤ i) : f_X0_windAt c i h = some (wnF C i, h) := by
  have e1 := ic_10 q
  have e2 := cw_N w
  have e3 := ic_11 q (i % C 10 0)
  have m1 := Int.emod_nonneg i (b := C 10 0)
  have m2 := Int.emod_lt_of_pos i (b := C 10 0)
  unfold wnF
  rw [← e1] at *
  refine ok_eq.mp ?_
  unfold f_X0_windAt
  refine s_X0_windAt_0 (by decide) ?_
  unfold b_X0_windAt_0
  refine ok_if (fun q1 => ?_) (fun q1 => ?_)
  · exact ok_some ⟨by split <;> omega, rfl⟩
  · refine ok_if (fun q2 => ?_) (fun q2 => ?_)
    · exact ok_some ⟨by split <;> omega, rfl⟩
    · refine ok_if (fun q3 => ?_) (fun q3 => ?_)
      · refine ok_ck (by omega) ?_
        refine ok_ck (by omega) ?_
        exact ok_some ⟨by split <;> omega, rfl⟩
      · exact ok_some ⟨by split <;> omega, rfl⟩
end
