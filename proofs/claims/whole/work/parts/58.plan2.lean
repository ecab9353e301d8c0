/-! PLAN, 2: the meals of a plan -/
def fsQ (C : Ch) (s : Int) : Int → Int := fun i => if 0 ≤ i ∧ i < C 20 0 then bit s i else 0
def goQ (C V : Ch) (s : Nat) : Ch := hdV C V (-1) (-1) (fsQ C s) true
def eaQ (C V : Ch) (s : Nat) : Int := eaF C V (-1) (-1) (fsQ C s)
def haQ (C V : Ch) : Bool := decide (V 1 0 = C 4 0)
def iQ (C : Ch) (m : Nat) (V : Ch) : Prop := VW C V ∧ V 0 0 + m ≤ 60
def dQ (C V : Ch) : Int := if wtC C (V 1 0) then C 35 (V 1 0) else 0
section
variable {C V : Ch} {tw ta : Int} {F G : Int → Int} {st : Bool}
theorem srv_n0 (v2 : 0 ≤ V 2 0) : ∀ n : Nat, 0 ≤ (srv C V tw ta F n).1
  | 0 => v2
  | n + 1 => by
    have ih := srv_n0 v2 n
    rw [srv_1]
    split
    · exact ih
    · unfold plF
      split
      · have := Int.min_le_right (poF C V tw n) (srv C V tw ta F n).1
        omega
      · omega
theorem srv_c (v2 : 0 ≤ V 2 0) (hP : ∀ i l : Int, 0 ≤ l → plF C V tw ta F i l = plF C V tw ta G i l) : ∀ n : Nat, srv C V tw ta F n = srv C V tw ta G n
  | 0 => rfl
  | n + 1 => by
    have ih := srv_c v2 hP n
    have e := hP n _ (srv_n0 (C := C) (tw := tw) (ta := ta) (F := F) v2 n)
    simp only [srv]
    rw [← ih, e]
theorem plt_c (v2 : 0 ≤ V 2 0) (hP : ∀ i l : Int, 0 ≤ l → plF C V tw ta F i l = plF C V tw ta G i l) : plt C V tw ta F = plt C V tw ta G := funext fun i => by
  unfold plt
  rw [← srv_c v2 hP i.toNat]
  exact hP _ _ (srv_n0 v2 _)
theorem wi_c (e : plt C V tw ta F = plt C V tw ta G) : wi C V tw ta F = wi C V tw ta G := funext fun i => by
  unfold wi; rw [e]
theorem vA_c (e : plt C V tw ta F = plt C V tw ta G) (c : Int) : ∀ n : Nat, vA C V tw ta F c n = vA C V tw ta G c n
  | 0 => rfl
  | n + 1 => by
    simp only [vA]
    rw [vA_c e c n, wi_c e, e]
theorem vt_c (e : plt C V tw ta F = plt C V tw ta G) : vt C V tw ta F = vt C V tw ta G := funext fun c => by
  unfold vt; rw [vA_c e]
theorem vS_c (e : plt C V tw ta F = plt C V tw ta G) : vS C V tw ta F st = vS C V tw ta G st := funext fun c => by
  unfold vS; rw [vt_c e]
theorem wnr_c (e : plt C V tw ta F = plt C V tw ta G) : wnr C V tw ta F st = wnr C V tw ta G st := by
  unfold wnr; rw [vS_c e]
theorem loF_c (e : plt C V tw ta F = plt C V tw ta G) (k : Int) : loF C V tw ta F k = loF C V tw ta G k := funext fun i => by
  unfold loF; rw [wi_c e]
theorem leF_c (e : plt C V tw ta F = plt C V tw ta G) (k : Int) : leF C V tw ta F k = leF C V tw ta G k := funext fun i => by
  unfold leF; rw [wi_c e, loF_c e]
theorem eaF_c (v2 : 0 ≤ V 2 0) (hP : ∀ i l : Int, 0 ≤ l → plF C V tw ta F i l = plF C V tw ta G i l) : eaF C V tw ta F = eaF C V tw ta G := by
  unfold eaF; rw [srv_c v2 hP]
theorem hdV_c (v2 : 0 ≤ V 2 0) (hP : ∀ i l : Int, 0 ≤ l → plF C V tw ta F i l = plF C V tw ta G i l) : hdV C V tw ta F st = hdV C V tw ta G st := by
  have e := plt_c v2 hP
  unfold hdV slV
  rw [wnr_c e, eaF_c v2 hP, loF_c e, leF_c e]
theorem wnS_c {w : Int} {f g : Int → Int} : ∀ n : Nat, (∀ c : Nat, c < n → f c = g c) → wnS w f n = wnS w g n
  | 0, _ => rfl
  | n + 1, q => by
    have ih := wnS_c (w := w) n (fun c hc => q c (by omega))
    simp only [wnS]
    rw [ih, q n (by omega)]
theorem stF_still : stF C V tw true = -1 := by
  unfold stF
  exact if_neg (fun z => by have := z.1.2.2; cases this)
theorem rnF_still : rnF C V tw true = V 3 0 := by
  unfold rnF
  exact if_neg (fun z => by have := z.2.2; cases this)
theorem wnr_still : wnr C V tw ta F true = (wnS (wnF C (V 0 0)) (vt C V tw ta F) 4).1 := by
  unfold wnr
  rw [wnS_c (g := vt C V tw ta F) 4 (fun c hc => ?_)]
  unfold vS
  rw [stF_still, if_neg (by omega)]
  omega
theorem fs_c {s t : Int} (w : CW C) (hb : ∀ i : Int, 0 ≤ i → i < C 20 0 → abP C V tw ta i → 0 < poF C V tw i → bit s i = bit t i) : ∀ i l : Int, 0 ≤ l → plF C V tw ta (fsQ C s) i l = plF C V tw ta (fsQ C t) i l := by
  intro i l hl
  by_cases a : fsQ C s i = fsQ C t i
  · unfold plF fdP
    rw [a]
  · have r : 0 ≤ i ∧ i < C 20 0 := by
      by_cases y : 0 ≤ i ∧ i < C 20 0
      · exact y
      · exfalso
        refine a ?_
        unfold fsQ
        rw [if_neg y, if_neg y]
    by_cases ab : abP C V tw ta i
    · have n0 : ¬ 0 < poF C V tw i := fun z => a (by
        unfold fsQ
        rw [if_pos r, if_pos r]
        exact hb i r.1 r.2 ab z)
      have m := cw_M w
      have c := (cw_m w i r.1 (by unfold sz; omega)).1
      have p0 : poF C V tw i = 0 := by
        have : 0 ≤ poF C V tw i := by
          unfold poF
          split <;> omega
        omega
      have z : min (0 : Int) l = 0 := Int.min_eq_left hl
      unfold plF
      rw [p0, z]
      split <;> split <;> rfl
    · unfold plF
      rw [if_neg (fun z => ab z.2), if_neg (fun z => ab z.2)]
theorem go_c {s t : Nat} (w : CW C) (vw : VW C V) (hb : ∀ i : Int, 0 ≤ i → i < C 20 0 → abP C V (-1) (-1) i → 0 < poF C V (-1) i → bit s i = bit t i) : goQ C V s = goQ C V t ∧ eaQ C V s = eaQ C V t :=
  ⟨hdV_c (vw_s vw).1 (fs_c w hb), eaF_c (vw_s vw).1 (fs_c w hb)⟩
theorem ce64 (w : CW C) {x : Int} (q : cellP (C 0 0) (C 1 0) x) : 0 ≤ x ∧ x < 64 := by
  have a := cw_W w
  refine ⟨q.1, ?_⟩
  have : C 0 0 * C 1 0 ≤ 8 * 8 := Int.mul_le_mul a.2.1 a.2.2.2 (by omega) (by omega)
  have := q.2
  omega
theorem far_st (w : CW C) {x k : Int} (hx : wtC C x) (hy : wtC C (stC C x k)) (k1 : 0 ≤ k) (k2 : k < 4) : C 35 x ≤ C 35 (stC C x k) + 1 := by
  obtain ⟨j, j1, j2, e⟩ := stC_s w x k k1 k2 hx hy
  have cx := ce64 w hx.1
  have cy := ce64 w hy.1
  have fx := cw_F w x cx.1 cx.2
  have fy := cw_F w _ cy.1 cy.2
  have rx := farV_r fx
  rcases fy with ⟨a, b⟩ | ⟨a, b, c, d⟩
  · omega
  · have p : pth (stC C) (wtC C) ((C 35 (stC C x k)).toNat + 1) (C 4 0) x := ⟨stC C x k, j, c, j1, j2, e, hx⟩
    rcases fx with ⟨_, q⟩ | ⟨_, _, _, q⟩
    · exact absurd p (q _)
    · have := q _ p
      omega
theorem hQ1 (w : CW C) : ∀ (m : Nat) (V : Ch) (s : Nat), iQ C (m + 1) V → ¬ haQ C V = true → s < 2 ^ (C 20 0).toNat → iQ C m (goQ C V s) := fun m V s q _ _ => by
  have a := q.2
  exact ⟨slV_w w q.1 (by omega) _, by show V 0 0 + 1 + (m : Int) ≤ 60; omega⟩
theorem hQ2 (w : CW C) : ∀ (m : Nat) (V : Ch) (s : Nat), iQ C (m + 1) V → ¬ haQ C V = true → s < 2 ^ (C 20 0).toNat → 0 ≤ eaQ C V s := fun _ _ _ q _ _ => (eaF_r w q.1).1
theorem hQ3 (w : CW C) : ∀ (m : Nat) (V : Ch), iQ C m V → haQ C V = true → dQ C V ≤ 0 := fun m V q y => by
  have e : V 1 0 = C 4 0 := of_decide_eq_true y
  unfold dQ
  split
  · rename_i z
    rw [e] at z ⊢
    have c := ce64 w z.1
    rcases cw_F w _ c.1 c.2 with ⟨_, b⟩ | ⟨_, _, _, d⟩
    · exact absurd (show pth (stC C) (wtC C) 0 (C 4 0) (C 4 0) from ⟨rfl, z⟩) (b 0)
    · have := d 0 ⟨rfl, z⟩
      omega
  · omega
theorem hQ4 (w : CW C) : ∀ (m : Nat) (V : Ch) (s : Nat), iQ C (m + 1) V → ¬ haQ C V = true → s < 2 ^ (C 20 0).toNat → dQ C V ≤ dQ C (goQ C V s) + 1 := fun m V s q u1 u2 => by
  have r := wnr_r (tw := -1) (ta := -1) (F := fsQ C s) (st := true) w q.1
  have e : goQ C V s 1 0 = ctF C V (wnr C V (-1) (-1) (fsQ C s) true) := rfl
  have n0 : ∀ U : Ch, VW C U → 0 ≤ dQ C U := fun U u => by
    unfold dQ
    have c := ce64 w (vw_c u)
    have := farV_r (cw_F w _ c.1 c.2)
    split <;> omega
  by_cases y : wtC C (V 1 0)
  · have a : dQ C V = C 35 (V 1 0) := if_pos y
    by_cases z : wtC C (stC C (V 1 0) (wnr C V (-1) (-1) (fsQ C s) true))
    · have b : goQ C V s 1 0 = stC C (V 1 0) (wnr C V (-1) (-1) (fsQ C s) true) := by rw [e]; exact if_pos z
      have d : dQ C (goQ C V s) = C 35 (stC C (V 1 0) (wnr C V (-1) (-1) (fsQ C s) true)) := by
        unfold dQ
        rw [b]; exact if_pos z
      rw [a, d]
      exact far_st w y z r.1 r.2
    · have b : goQ C V s 1 0 = V 1 0 := by rw [e]; exact if_neg z
      have d : dQ C (goQ C V s) = C 35 (V 1 0) := by
        unfold dQ
        rw [b]; exact if_pos y
      omega
  · have a : dQ C V = 0 := if_neg y
    have := n0 (goQ C V s) (hQ1 w m V s q u1 u2).1
    omega
end
