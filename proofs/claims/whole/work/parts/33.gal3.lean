/-! THE CLASS'S GALLEY, 2: the sea in C's words, E of a mouth, its wish -/
theorem b2i_c {p q : Prop} [Decidable p] [Decidable q] (e : p ↔ q) : b2i p = b2i q := by
  by_cases z : p
  · have z2 := e.mp z; simp [b2i, z, z2]
  · have z2 := fun y => z (e.mpr y); simp [b2i, z, z2]
theorem seaB_of {h : Hp} {c : Int} {C : Ch} (q : isC h c C) (w : CW C) : seaB h c := by
  have := cw_W w
  unfold seaB
  rw [ic_0 q, ic_1 q]
  exact this
section
variable {h : Hp} {c v i x k p : Int} {C V : Ch} {F N : Int → Int}
theorem p9_step (q : isC h c C) (w : CW C) : f_X9_step c x k h = some (stC C x k, h) := by
  rw [p_X9_step (seaB_of q w), ic_0 q, ic_1 q]
theorem p9_isWater (q : isC h c C) (w : CW C) : f_X9_isWater c x h = some (b2i (wtC C x), h) := by
  rw [p_X9_isWater (seaB_of q w)]
  rw [b2i_c (lbit_w (x := x) q w)]
theorem p9_fromBahia (q : isC h c C) (x1 : 0 ≤ x) (x2 : x < 64) : f_X9_fromBahia c x h = some (C 35 x, h) := by
  rw [p_X9_fromBahia, if_pos ⟨x1, x2⟩, ic_35 q x x1 x2]
theorem p9_fromIsle (q : isC h c C) (w : CW C) (i1 : 0 ≤ i) (i2 : i < C 5 0) : f_X9_fromIsle c i x h = some (if 0 ≤ x ∧ x < 64 then C 36 (64 * i + x) else 99, h) := by
  have i3 := cw_I w
  have e := ic_36 q i x i1 (by omega) i2
  have e2 : i * 64 + x = 64 * i + x := by omega
  refine ok_eq.mp ?_
  unfold f_X9_fromIsle
  refine s_X9_fromIsle_0 (by decide) ?_
  unfold b_X9_fromIsle_0
  refine ok_if (fun q1 => ?_) (fun q1 => ?_)
  · refine s_X9_fromIsle_1 (by decide) ?_
    unfold b_X9_fromIsle_1
    refine s_X9_fromIsle_2 (by decide) ?_
    unfold b_X9_fromIsle_2
    refine ok_if (fun q2 => ?_) (fun q2 => ?_)
    · exact ok_some ⟨by (try rw [e2]); split <;> first | (exact e (by omega) (by omega)) | omega, rfl⟩
    · refine ok_ck (by omega) ?_
      refine ok_ck (by omega) ?_
      refine ok_ck (by omega) ?_
      exact ok_some ⟨by (try rw [e2]); split <;> first | (exact e (by omega) (by omega)) | omega, rfl⟩
  · refine ok_if (fun q3 => ?_) (fun q3 => ?_)
    · refine s_X9_fromIsle_1 (by decide) ?_
      unfold b_X9_fromIsle_1
      refine s_X9_fromIsle_2 (by decide) ?_
      unfold b_X9_fromIsle_2
      refine ok_if (fun q4 => ?_) (fun q4 => ?_)
      · exact ok_some ⟨by (try rw [e2]); split <;> first | (exact e (by omega) (by omega)) | omega, rfl⟩
      · refine ok_ck (by omega) ?_
        refine ok_ck (by omega) ?_
        refine ok_ck (by omega) ?_
        exact ok_some ⟨by (try rw [e2]); split <;> first | (exact e (by omega) (by omega)) | omega, rfl⟩
    · refine ok_if (fun q5 => ?_) (fun q5 => ?_)
      · refine s_X9_fromIsle_1 (by decide) ?_
        unfold b_X9_fromIsle_1
        refine s_X9_fromIsle_2 (by decide) ?_
        unfold b_X9_fromIsle_2
        refine ok_if (fun q6 => ?_) (fun q6 => ?_)
        · exact ok_some ⟨by (try rw [e2]); split <;> first | (exact e (by omega) (by omega)) | omega, rfl⟩
        · refine ok_ck (by omega) ?_
          refine ok_ck (by omega) ?_
          refine ok_ck (by omega) ?_
          exact ok_some ⟨by (try rw [e2]); split <;> first | (exact e (by omega) (by omega)) | omega, rfl⟩
      · refine ok_if (fun q7 => ?_) (fun q7 => ?_)
        · refine s_X9_fromIsle_1 (by decide) ?_
          unfold b_X9_fromIsle_1
          refine s_X9_fromIsle_2 (by decide) ?_
          unfold b_X9_fromIsle_2
          refine ok_if (fun q8 => ?_) (fun q8 => ?_)
          · exact ok_some ⟨by (try rw [e2]); split <;> first | (exact e (by omega) (by omega)) | omega, rfl⟩
          · refine ok_ck (by omega) ?_
            refine ok_ck (by omega) ?_
            refine ok_ck (by omega) ?_
            exact ok_some ⟨by (try rw [e2]); split <;> first | (exact e (by omega) (by omega)) | omega, rfl⟩
        · refine s_X9_fromIsle_2 (by decide) ?_
          unfold b_X9_fromIsle_2
          refine ok_if (fun q9 => ?_) (fun q9 => ?_)
          · exact ok_some ⟨by (try rw [e2]); split <;> first | (exact e (by omega) (by omega)) | omega, rfl⟩
          · refine ok_ck (by omega) ?_
            refine ok_ck (by omega) ?_
            refine ok_ck (by omega) ?_
            exact ok_some ⟨by (try rw [e2]); split <;> first | (exact e (by omega) (by omega)) | omega, rfl⟩
def nmF (C V : Ch) (i k x p : Int) : Int → Int := fun j => if j = 0 then k else if j = 1 then C 35 x else if j = 2 then (if wnF C (V 0 0) = k then 1 else 0) else if j = 3 then V 0 0 else if j = 4 then p else if j = 5 then V 8 i else V 2 0
def valF (C V : Ch) (i k x p : Int) : Option (List Int) := ev C (nmF C V i k x p) (C 31 i - C 30 i).toNat (C 30 i) []
theorem nm_b (w : CW C) (vw : VW C V) (i1 : 0 ≤ i) (i2 : i < sz C) (k1 : 0 ≤ k) (k2 : k < 4) (x1 : 0 ≤ x) (x2 : x < 64) (p1 : 0 ≤ p) (p2 : p ≤ 9) (j : Int) : bnd (nmF C V i k x p j) := by
  have a := farV_r (cw_F w x x1 x2)
  have b := vw_m vw
  have d := vw_o vw i i1 i2
  have e := vw_s vw
  unfold nmF bnd
  split
  · omega
  · split
    · omega
    · split
      · split <;> omega
      · split
        · omega
        · split
          · omega
          · split <;> omega
/-- what E leaves is in bounds -/
theorem ev_b (w : CW C) (bN : ∀ j, 0 ≤ j → j < 7 → bnd (N j)) : ∀ (t : Nat) (k : Int) (s s2 : List Int), 0 ≤ k → k + t ≤ C 32 0 → (∀ y ∈ s, bnd y) → ev C N t k s = some s2 → ∀ y ∈ s2, bnd y
  | 0, k, s, s2, _, _, a, b => by simp only [ev, Option.some.injEq] at b; rw [← b]; exact a
  | t + 1, k, s, s2, k1, k2, a, b => by
    obtain ⟨c1, c2, c3, c4⟩ := cw_k w k k1 (by omega)
    unfold ev at b
    by_cases z0 : C 33 k = 0
    · rw [if_pos z0] at b
      exact ev_b w bN t _ _ _ (by omega) (by omega) (List.forall_mem_cons.mpr ⟨by have := c3 z0; unfold bnd; omega, a⟩) b
    · rw [if_neg z0] at b
      by_cases z1 : C 33 k = 1
      · rw [if_pos z1] at b
        have d := c4 z1
        exact ev_b w bN t _ _ _ (by omega) (by omega) (List.forall_mem_cons.mpr ⟨bN _ d.1 d.2, a⟩) b
      · rw [if_neg z1] at b
        by_cases z4 : C 33 k = 4
        · rw [if_pos z4] at b
          match s, a, b with
          | [], a, b => simp at b
          | x :: s, a, b => exact ev_b w bN t _ _ _ (by omega) (by omega) (List.forall_mem_cons.mpr ⟨by unfold bnd; split <;> omega, fun y hy => a y (List.mem_cons_of_mem _ hy)⟩) b
        · rw [if_neg z4] at b
          match s, a, b with
          | [], a, b => simp at b
          | [x], a, b => simp at b
          | y :: x :: s, a, b =>
            simp only at b
            cases ej : jn (C 33 k) x y with
            | none => rw [ej] at b; cases b
            | some v => rw [ej] at b; exact ev_b w bN t _ (v :: s) _ (by omega) (by omega) (List.forall_mem_cons.mpr ⟨jn_b ej, fun y hy => a y (List.mem_cons_of_mem _ (List.mem_cons_of_mem _ hy))⟩) b
/-- the number of E, 0 for an ERROR -/
def vv (o : Option (List Int)) : Int := match o with
  | some (v :: _) => v
  | _ => 0
/-- what E is: one number in bounds, or an ERROR -/
theorem val_c (w : CW C) (vw : VW C V) (i1 : 0 ≤ i) (i2 : i < sz C) (k1 : 0 ≤ k) (k2 : k < 4) (x1 : 0 ≤ x) (x2 : x < 64) (p1 : 0 ≤ p) (p2 : p ≤ 9) : (valF C V i k x p = none ∧ evv (valF C V i k x p) = MIN ∧ vv (valF C V i k x p) = 0) ∨ ∃ y, bnd y ∧ valF C V i k x p = some [y] ∧ evv (valF C V i k x p) = y ∧ vv (valF C V i k x p) = y := by
  have m := cw_m w i i1 i2
  cases e : valF C V i k x p with
  | none => exact Or.inl ⟨rfl, rfl, rfl⟩
  | some s =>
    have a := ev_1 _ _ _ _ 1 (cw_v w i i1 i2) e
    have b := ev_b w (fun j _ _ => nm_b w vw i1 i2 k1 k2 x1 x2 p1 p2 j) _ _ _ _ (by omega) (by omega) (by simp) e
    match s, a, b with
    | [y], _, b => exact Or.inr ⟨y, b y (by simp), rfl, rfl, rfl⟩
def NmW : Nat → Int → Int → Prop := fun r _ _ => r = 27 ∨ r = 28
theorem nmw_C : ∀ (r : Nat) (i k : Int), inC r k → ¬ NmW r i k := by intro r i k; unfold inC NmW; omega
theorem p_X2_value (hx : CX h c C) (hv : isV C h v V) (vw : VW C V) (i1 : 0 ≤ i) (i2 : i < sz C) (k1 : 0 ≤ k) (k2 : k < 4) (x1 : 0 ≤ x) (x2 : x < 64) (p1 : 0 ≤ p) (p2 : p ≤ 9) : ok (f_X2_value v i k x p h) (fun r h' => r = evv (valF C V i k x p) ∧ Fr NmW h h') := by
  have w := hx.2.2
  have q := hx.2.1
  have ez := sz_r w
  have vm := vw_m vw
  have e0 := iv_0 hv
  have e2 := iv_2 hv
  have e8 := iv_8 hv i i1 i2
  obtain ⟨m, hm, n0, n1, n2, n3, n4, n5, n6, n7, n8, n9⟩ := ic_22 q i i1 i2
  have mb := cw_m w i i1 i2
  have s1 : ∀ (h : Hp) (a b d : Int), CX h c C → CX (sI h 27 a b d) c C := fun h a b d z => CX_sI (by intro k; unfold inC; omega) z
  have hx1 := s1 _ c 0 k hx
  have hx2 := s1 _ c 1 (C 35 x) hx1
  have fin : ∀ (n : Nat) (y : Int), 5 ≤ n → y = (if wnF C (V 0 0) = k then 1 else 0) → ok (g_X2_value n 1 [v, i, p, c, y, 2, c] (sI (sI h 27 c 0 k) 27 c 1 (C 35 x))) (fun r h' => r = evv (valF C V i k x p) ∧ Fr NmW h h') := by
    intro n y hn hy
    refine s_X2_value_1 (by omega) ?_
    unfold b_X2_value_1
    refine ok_ck (by omega) (ok_lt (ok_ck (by omega) (ok_lt (ok_ck (by omega) (ok_lt (ok_ck (by omega) (ok_ck (by omega) (ok_lt (ok_ck (by omega) (ok_lt ?_))))))))))
    refine ok_rf (j := c) hx.1 (ok_rf (j := c) hx.1 (ok_ck (by omega) (ok_rf (j := m) hm (ok_rf (j := c) hx.1 (ok_ck (by omega) (ok_rf (j := m) hm ?_))))))
    have hx3 := s1 _ c 6 _ (s1 _ c 5 _ (s1 _ c 4 p (s1 _ c 3 _ (s1 _ c 2 y hx2))))
    rw [show ∀ a b d e f g : Hp → Int, True from fun _ _ _ _ _ _ => trivial] <;> skip
    refine ok_bq (p_X1_work (C := C) (N := nmF C V i k x p) (hx3 _ _ _).2.1 w ?_ ?_ ?_ ?_ ?_ ?_) ?_
    all_goals sorry
  sorry
end
