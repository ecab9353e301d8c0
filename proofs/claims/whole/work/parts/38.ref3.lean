/-! THE REFERENCE, 3: a meal's votes -/
/-- how many there are ahead of place m -/
def cnt (C : Ch) (m : Int) : Int := if m ≤ 5 then min m (C 20 0) else C 20 0 + min (m - 5) (C 21 0)
theorem cnt_th {C : Ch} {m : Int} (w : CW C) (m1 : 0 ≤ m) (t : thP C m) : cnt C (m + 1) = cnt C m + 1 ∧ ix C m = cnt C m := by
  have := sz_r w
  unfold thP at t
  unfold cnt ix
  split <;> split <;> split <;> omega
theorem cnt_no {C : Ch} {m : Int} (w : CW C) (m1 : 0 ≤ m) (t : ¬ thP C m) : cnt C (m + 1) = cnt C m := by
  have := sz_r w
  unfold thP at t
  unfold cnt
  split <;> split <;> omega
theorem cnt_r {C : Ch} {m : Int} (w : CW C) (m1 : 0 ≤ m) (m2 : m ≤ 9) : 0 ≤ cnt C m ∧ cnt C m ≤ sz C := by
  have := sz_r w
  unfold cnt
  split <;> omega
theorem cnt_0 {C : Ch} (w : CW C) : cnt C 0 = 0 := by have := sz_r w; unfold cnt; split <;> omega
theorem cnt_9 {C : Ch} (w : CW C) : cnt C 9 = sz C := by have := sz_r w; unfold cnt; split <;> omega
def haF (C V : Ch) (tw ta : Int) (F : Int → Int) (m : Int) : Int := if thP C m then plt C V tw ta F (ix C m) else 0
def chF (C V : Ch) (tw ta : Int) (F : Int → Int) (m : Int) : Int := if thP C m then wi C V tw ta F (ix C m) else -1
def StW : Nat → Int → Int → Prop := fun r _ k => r = 98 ∨ r = 99 ∨ r = 100 ∨ r = 101 ∨ r = 102 ∨ (r = 12 ∧ (k = 60 ∨ k = 64))
theorem stw_R : ∀ (r : Nat) (k : Int), 61 ≤ r → r ≤ 83 → ¬ StW r 0 k := by intro r k a b; unfold StW; omega
theorem stw_S : ∀ (r : Nat) (k : Int), 84 ≤ r → r ≤ 92 → r ≠ 87 → r ≠ 89 → ¬ StW r 0 k := by intro r k a b c d; unfold StW; omega
section
variable {h : Hp} {s m i x k p tw ta a b : Int} {C V : Ch} {F : Int → Int}
theorem haF_r (w : CW C) (vw : VW C V) (m1 : 0 ≤ m) : 0 ≤ haF C V tw ta F m ∧ haF C V tw ta F m ≤ 9 := by
  unfold haF
  split
  · rename_i y
    obtain ⟨i1, i2, -⟩ := ix_r w m1 y
    exact plt_r w vw i1 i2
  · omega
theorem chF_r : -1 ≤ chF C V tw ta F m ∧ chF C V tw ta F m < 4 := by
  unfold chF
  split
  · exact wi_r
  · omega
/-- one vote more, in a row of votes -/
theorem vt_add {h : Hp} {x p : Int} {A B : Int → Int} (x1 : 0 ≤ x) (x2 : x < 4) (e : ∀ c, 0 ≤ c → c < 4 → gI h 102 0 c = A c) (z : ∀ c, 0 ≤ c → c < 4 → B c = A c + if x = c then p else 0) : ∀ c, 0 ≤ c → c < 4 → gI (sI h 102 0 x (gI h 102 0 x + p)) 102 0 c = B c := by
  intro c c1 c2
  rw [z c c1 c2, ← e c c1 c2, gI_sI]
  by_cases y2 : x = c
  · subst y2; rw [if_pos ⟨rfl, rfl, rfl⟩, if_pos rfl]
  · rw [if_neg (fun q => y2 q.2.2.symm), if_neg y2]; omega
set_option maxHeartbeats 8000000 in
theorem p_X12_sits {h0 : Hp} (q0 : isR h0 C) (w : CW C) (hs0 : isS C h0 s V) (vw : VW C V) (ht0 : isT C h0 tw ta) (s1 : 0 ≤ s) (s2 : s < 23) (hf : ∀ i, 0 ≤ i → i < C 20 0 → bit (gI h0 89 0 s) i = F i) : ok (f_X12_sits s h0) (fun _ h' => Fr StW h0 h' ∧ (∀ c, 0 ≤ c → c < 4 → gI h' 102 0 c = vt C V tw ta F c) ∧ (∀ m, 0 ≤ m → m < 9 → gI h' 101 0 m = chF C V tw ta F m) ∧ (∀ m, 0 ≤ m → m < 9 → gI h' 100 0 m = haF C V tw ta F m) ∧ gI h' 12 0 64 = eaF C V tw ta F) := by
  have ez := sz_r w
  have eI := cw_I w
  have eG := cw_G w
  have vc := vw_c vw
  have vc2 := vc.2
  have vs := vw_s vw
  have hmul := sea_mul (cw_W w)
  have k10 : ∀ (t n : Nat) (h : Hp) (x : Int) (a : Nat), (C 12 0).toNat - a = t → (a : Int) ≤ C 12 0 → x = (a : Int) → 3 * t + 3 ≤ n → (tw = 2 → a = 0) → Fr StW h0 h → (∀ c, 0 ≤ c → c < 4 → gI h 102 0 c = vA C V tw ta F c (sz C).toNat + (if tw = 1 then 0 else vB C V c (C 5 0).toNat) + vG C V c a) → (∀ m, 0 ≤ m → m < 9 → gI h 101 0 m = chF C V tw ta F m) → (∀ m, 0 ≤ m → m < 9 → gI h 100 0 m = haF C V tw ta F m) → gI h 12 0 64 = eaF C V tw ta F → ok (g_X12_sits n 10 [s, x] h) (fun _ h' => Fr StW h0 h' ∧ (∀ c, 0 ≤ c → c < 4 → gI h' 102 0 c = vt C V tw ta F c) ∧ (∀ m, 0 ≤ m → m < 9 → gI h' 101 0 m = chF C V tw ta F m) ∧ (∀ m, 0 ≤ m → m < 9 → gI h' 100 0 m = haF C V tw ta F m) ∧ gI h' 12 0 64 = eaF C V tw ta F) := by
    intro t
    induction t with
    | zero =>
      intro n h x a ht' ha hxa hn h2 hF hvt hwi hha hea
      subst hxa
      have q := isR_fr hF stw_R q0
      have hs := isS_fr hF stw_S hs0
      have ht : isT C h tw ta := isT_eq (hF.1 12 0 55 (by unfold StW; omega)) (hF.1 12 0 56 (by unfold StW; omega)) ht0
      have fin : ∀ c, 0 ≤ c → c < 4 → gI h 102 0 c = vt C V tw ta F c := by
        intro c c1 c2
        rw [hvt c c1 c2]
        unfold vt
        have : a = (C 12 0).toNat := by omega
        subst this
        by_cases y : tw = 2
        · rw [if_pos y, h2 y]; simp only [vG]
        · rw [if_neg y]
      refine s_X12_sits_10 (by omega) ?_
      unfold b_X12_sits_10
      have e7 := ir_7 q
      exact ok_ck (by omega) (ok_t (by omega) (ok_some ⟨hF, fin, hwi, hha, hea⟩))
    | succ t ih =>
      intro n h x a ht' ha hxa hn h2 hF hvt hwi hha hea
      subst hxa
      have q := isR_fr hF stw_R q0
      have hs := isS_fr hF stw_S hs0
      have ht : isT C h tw ta := isT_eq (hF.1 12 0 55 (by unfold StW; omega)) (hF.1 12 0 56 (by unfold StW; omega)) ht0
      have e7 := ir_7 q
      obtain ⟨g1, g2, g3⟩ := ir_g q a (by omega) (by omega)
      obtain ⟨g4, g5, g6, g7⟩ := cw_g w a (by omega) (by omega)
      have e0 := is_0 hs
      have eg : ∀ c, vG C V c (a + 1) = vG C V c a + (if C 13 a = V 0 0 ∧ C 14 a = c then C 15 a else 0) := fun _ => rfl
      have next : ∀ (m' : Nat) (h' : Hp), 3 * t + 4 ≤ m' → ¬ tw = 2 → Fr StW h0 h' → (∀ c, 0 ≤ c → c < 4 → gI h' 102 0 c = vA C V tw ta F c (sz C).toNat + (if tw = 1 then 0 else vB C V c (C 5 0).toNat) + vG C V c (a + 1)) → (∀ m, 0 ≤ m → m < 9 → gI h' 101 0 m = chF C V tw ta F m) → (∀ m, 0 ≤ m → m < 9 → gI h' 100 0 m = haF C V tw ta F m) → gI h' 12 0 64 = eaF C V tw ta F → ok (g_X12_sits m' 11 [s, (a : Int)] h') (fun _ h' => Fr StW h0 h' ∧ (∀ c, 0 ≤ c → c < 4 → gI h' 102 0 c = vt C V tw ta F c) ∧ (∀ m, 0 ≤ m → m < 9 → gI h' 101 0 m = chF C V tw ta F m) ∧ (∀ m, 0 ≤ m → m < 9 → gI h' 100 0 m = haF C V tw ta F m) ∧ gI h' 12 0 64 = eaF C V tw ta F) := by
        intro m' h' q1 q2 q3 q4 q5 q6 q7
        refine s_X12_sits_11 (by omega) ?_
        unfold b_X12_sits_11
        exact ok_ck (by omega) (ih _ _ _ (a + 1) (by omega) (by omega) (by omega) (by omega) (fun y => absurd y q2) q3 q4 q5 q6 q7)
      refine s_X12_sits_10 (by omega) ?_
      unfold b_X12_sits_10
      rw [ht.1, g1, g2, g3, e0]
      refine ok_ck (by omega) (ok_f (by omega) (ok_if (fun y => ok_some ⟨hF, ?_, hwi, hha, hea⟩) (fun y => ok_ck (by omega) (ok_ck (by omega) ?_))))
      · intro c c1 c2
        rw [hvt c c1 c2, h2 y]
        unfold vt
        rw [if_pos y]; simp only [vG]
      · refine ok_if (fun y2 => ?_) (fun y2 => next _ _ (by omega) y hF (fun c c1 c2 => ?_) hwi hha hea)
        · have bA : ∀ c, 0 ≤ vA C V tw ta F c (sz C).toNat ∧ vA C V tw ta F c (sz C).toNat ≤ 100 := fun c => by have := vA_r (c := c) (tw := tw) (ta := ta) (F := F) w vw (sz C).toNat (by omega); omega
          have bB : ∀ c, 0 ≤ vB C V c (C 5 0).toNat ∧ vB C V c (C 5 0).toNat ≤ 100 := fun c => by have := vB_r (c := c) (V := V) w (C 5 0).toNat (by omega); omega
          have bG : ∀ c, 0 ≤ vG C V c a ∧ vG C V c a ≤ 1000 := fun c => by have := vG_r (c := c) (V := V) w a (by omega); omega
          have hb : 0 ≤ gI h 102 0 (C 14 a) ∧ gI h 102 0 (C 14 a) ≤ 2000 := by
            rw [hvt _ g4 g5]
            have := bA (C 14 a); have := bB (C 14 a); have := bG (C 14 a)
            split <;> omega
          refine ok_ck (by omega) (ok_ck (by omega) (ok_ck (by omega) (ok_ck (by omega) (ok_ck (by omega) (ok_lt ?_)))))
          refine next _ _ (by omega) y (fr_sI hF (by unfold StW; omega)) (vt_add g4 g5 hvt (fun c c1 c2 => ?_)) (fun m m1 m2 => by rw [gI_nr (by decide)]; exact hwi m m1 m2) (fun m m1 m2 => by rw [gI_nr (by decide)]; exact hha m m1 m2) (by rw [gI_nr (by decide)]; exact hea)
          rw [eg]
          by_cases y3 : C 14 a = c
          · have y4 : C 13 a = V 0 0 ∧ C 14 a = c := ⟨y2, y3⟩
            rw [if_pos y4, if_pos y3]; omega
          · have y4 : ¬ (C 13 a = V 0 0 ∧ C 14 a = c) := fun q => y3 q.2
            rw [if_neg y4, if_neg y3]; omega
        · have y4 : ¬ (C 13 a = V 0 0 ∧ C 14 a = c) := fun q => y2 q.1
          rw [hvt c c1 c2, eg, if_neg y4]; omega
  have k7 : ∀ (t n : Nat) (h : Hp) (x : Int) (a : Nat), (C 5 0).toNat - a = t → (a : Int) ≤ C 5 0 → x = (a : Int) → 3 * t + 30 ≤ n → (tw = 1 → a = 0) → Fr StW h0 h → (∀ c, 0 ≤ c → c < 4 → gI h 102 0 c = vA C V tw ta F c (sz C).toNat + vB C V c a) → (∀ m, 0 ≤ m → m < 9 → gI h 101 0 m = chF C V tw ta F m) → (∀ m, 0 ≤ m → m < 9 → gI h 100 0 m = haF C V tw ta F m) → gI h 12 0 64 = eaF C V tw ta F → ok (g_X12_sits n 7 [s, x] h) (fun _ h' => Fr StW h0 h' ∧ (∀ c, 0 ≤ c → c < 4 → gI h' 102 0 c = vt C V tw ta F c) ∧ (∀ m, 0 ≤ m → m < 9 → gI h' 101 0 m = chF C V tw ta F m) ∧ (∀ m, 0 ≤ m → m < 9 → gI h' 100 0 m = haF C V tw ta F m) ∧ gI h' 12 0 64 = eaF C V tw ta F) := by
    intro t
    induction t with
    | zero =>
      intro n h x a ht' ha hxa hn h2 hF hvt hwi hha hea
      subst hxa
      have q := isR_fr hF stw_R q0
      have hs := isS_fr hF stw_S hs0
      have ht : isT C h tw ta := isT_eq (hF.1 12 0 55 (by unfold StW; omega)) (hF.1 12 0 56 (by unfold StW; omega)) ht0
      have e5 := ir_5 q
      refine s_X12_sits_7 (by omega) ?_
      unfold b_X12_sits_7
      refine ok_ck (by omega) (ok_t (by omega) ?_)
      refine s_X12_sits_9 (by omega) ?_
      unfold b_X12_sits_9
      refine k10 _ _ _ _ 0 rfl (by omega) (by omega) (by omega) (fun _ => rfl) hF (fun c c1 c2 => ?_) hwi hha hea
      rw [hvt c c1 c2]
      have : a = (C 5 0).toNat := by omega
      subst this
      by_cases y : tw = 1
      · rw [if_pos y, h2 y]; simp [vG, vB]
      · rw [if_neg y]; simp [vG]
    | succ t ih =>
      intro n h x a ht' ha hxa hn h2 hF hvt hwi hha hea
      subst hxa
      have q := isR_fr hF stw_R q0
      have hs := isS_fr hF stw_S hs0
      have ht : isT C h tw ta := isT_eq (hF.1 12 0 55 (by unfold StW; omega)) (hF.1 12 0 56 (by unfold StW; omega)) ht0
      have e5 := ir_5 q
      have e1 := is_1 hs
      obtain ⟨g0, g1, g2, g3⟩ := ir_i q a (by omega) (by omega)
      obtain ⟨g4, g5, g6, g7, g8⟩ := cw_i w a (by omega) (by omega)
      have g41 := g4.1.1
      have g42 := g4.1.2
      have eb : ∀ c, vB C V c (a + 1) = vB C V c a + (if C 36 (64 * a + V 1 0) ≤ C 8 a ∧ brF C V a = c then C 9 a else 0) := fun _ => rfl
      have next : ∀ (m' : Nat) (h' : Hp), 3 * t + 31 ≤ m' → ¬ tw = 1 → Fr StW h0 h' → (∀ c, 0 ≤ c → c < 4 → gI h' 102 0 c = vA C V tw ta F c (sz C).toNat + vB C V c (a + 1)) → (∀ m, 0 ≤ m → m < 9 → gI h' 101 0 m = chF C V tw ta F m) → (∀ m, 0 ≤ m → m < 9 → gI h' 100 0 m = haF C V tw ta F m) → gI h' 12 0 64 = eaF C V tw ta F → ok (g_X12_sits m' 8 [s, (a : Int)] h') (fun _ h' => Fr StW h0 h' ∧ (∀ c, 0 ≤ c → c < 4 → gI h' 102 0 c = vt C V tw ta F c) ∧ (∀ m, 0 ≤ m → m < 9 → gI h' 101 0 m = chF C V tw ta F m) ∧ (∀ m, 0 ≤ m → m < 9 → gI h' 100 0 m = haF C V tw ta F m) ∧ gI h' 12 0 64 = eaF C V tw ta F) := by
        intro m' h' q1 q2 q3 q4 q5 q6 q7
        refine s_X12_sits_8 (by omega) ?_
        unfold b_X12_sits_8
        exact ok_ck (by omega) (ih _ _ _ (a + 1) (by omega) (by omega) (by omega) (by omega) (fun y => absurd y q2) q3 q4 q5 q6 q7)
      refine s_X12_sits_7 (by omega) ?_
      unfold b_X12_sits_7
      rw [ht.1, g1, e1, far_i q w (by omega) (by omega) vc.1 (by omega)]
      refine ok_ck (by omega) (ok_f (by omega) (ok_if (fun y => ?_) (fun y => ?_)))
      · refine s_X12_sits_9 (by omega) ?_
        unfold b_X12_sits_9
        refine k10 _ _ _ _ 0 rfl (by omega) (by omega) (by omega) (fun _ => rfl) hF (fun c c1 c2 => ?_) hwi hha hea
        rw [hvt c c1 c2, h2 y, if_pos y]; simp [vG, vB]
      · refine ok_ck (by omega) (ok_ck (by omega) (ok_ck (by omega) (ok_ck (by omega) (ok_ck (by omega) (ok_lt (ok_ck (by omega) (ok_be (p_X12_nearest q w hs vw s1 s2 (by omega) (by omega)) ?_)))))))
        rw [g2, g3]
        have skip : ¬ (C 36 (64 * a + V 1 0) ≤ C 8 a ∧ brF C V a ≠ -1) → ∀ m' : Nat, 3 * t + 31 ≤ m' → ok (g_X12_sits m' 8 [s, (a : Int)] h) (fun _ h' => Fr StW h0 h' ∧ (∀ c, 0 ≤ c → c < 4 → gI h' 102 0 c = vt C V tw ta F c) ∧ (∀ m, 0 ≤ m → m < 9 → gI h' 101 0 m = chF C V tw ta F m) ∧ (∀ m, 0 ≤ m → m < 9 → gI h' 100 0 m = haF C V tw ta F m) ∧ gI h' 12 0 64 = eaF C V tw ta F) := by
          intro z m' hm'
          refine next _ _ hm' y hF (fun c c1 c2 => ?_) hwi hha hea
          have y4 : ¬ (C 36 (64 * a + V 1 0) ≤ C 8 a ∧ brF C V a = c) := fun q => z ⟨q.1, by rw [q.2]; omega⟩
          rw [hvt c c1 c2, eb, if_neg y4]; omega
        have br := brF_r (C := C) (V := V) (k := a)
        refine ok_if (fun y2 => skip (fun z => by have := z.1; omega) _ (by omega)) (fun y2 => ok_ck (by omega) (ok_if (fun y3 => skip (fun z => by have := z.1; omega) _ (by omega)) (fun y3 => ok_if (fun y4 => skip (fun z => z.2 y4) _ (by omega)) (fun y4 => ?_))))
        have bA : ∀ c, 0 ≤ vA C V tw ta F c (sz C).toNat ∧ vA C V tw ta F c (sz C).toNat ≤ 100 := fun c => by have := vA_r (c := c) (tw := tw) (ta := ta) (F := F) w vw (sz C).toNat (by omega); omega
        have bB : ∀ c, 0 ≤ vB C V c a ∧ vB C V c a ≤ 100 := fun c => by have := vB_r (c := c) (V := V) w a (by omega); omega
        have hb : 0 ≤ gI h 102 0 (brF C V a) ∧ gI h 102 0 (brF C V a) ≤ 2000 := by
          rw [hvt _ (by omega) (by omega)]
          have := bA (brF C V a); have := bB (brF C V a)
          omega
        refine ok_ck (by omega) (ok_ck (by omega) (ok_ck (by omega) (ok_ck (by omega) (ok_lt ?_))))
        refine next _ _ (by omega) y (fr_sI hF (by unfold StW; omega)) (vt_add (by omega) (by omega) hvt (fun c c1 c2 => ?_)) (fun m m1 m2 => by rw [gI_nr (by decide)]; exact hwi m m1 m2) (fun m m1 m2 => by rw [gI_nr (by decide)]; exact hha m m1 m2) (by rw [gI_nr (by decide)]; exact hea)
        rw [eb]
        by_cases y5 : brF C V a = c
        · have y6 : C 36 (64 * a + V 1 0) ≤ C 8 a ∧ brF C V a = c := ⟨by omega, y5⟩
          rw [if_pos y6, if_pos y5]; omega
        · have y6 : ¬ (C 36 (64 * a + V 1 0) ≤ C 8 a ∧ brF C V a = c) := fun q => y5 q.2
          rw [if_neg y6, if_neg y5]; omega
  have k5 : ∀ (t n : Nat) (h : Hp) (x : Int), (9 - x).toNat = t → 0 ≤ x → x ≤ 9 → 3 * t + 60 ≤ n → Fr StW h0 h → (∀ c, 0 ≤ c → c < 4 → gI h 102 0 c = vA C V tw ta F c (cnt C x).toNat) → (∀ m, 0 ≤ m → m < 9 → gI h 101 0 m = if m < x then chF C V tw ta F m else -1) → (∀ m, 0 ≤ m → m < 9 → gI h 100 0 m = haF C V tw ta F m) → gI h 12 0 64 = eaF C V tw ta F → ok (g_X12_sits n 5 [s, x] h) (fun _ h' => Fr StW h0 h' ∧ (∀ c, 0 ≤ c → c < 4 → gI h' 102 0 c = vt C V tw ta F c) ∧ (∀ m, 0 ≤ m → m < 9 → gI h' 101 0 m = chF C V tw ta F m) ∧ (∀ m, 0 ≤ m → m < 9 → gI h' 100 0 m = haF C V tw ta F m) ∧ gI h' 12 0 64 = eaF C V tw ta F) := by
    intro t
    induction t with
    | zero =>
      intro n h x ht' x1 x2 hn hF hvt hwi hha hea
      have e9 : x = 9 := by omega
      subst e9
      refine s_X12_sits_5 (by omega) ?_
      unfold b_X12_sits_5
      refine ok_t (by omega) (k7 _ _ _ _ 0 rfl (by omega) (by omega) (by omega) (fun _ => rfl) hF (fun c c1 c2 => ?_) (fun m m1 m2 => by rw [hwi m m1 m2, if_pos m2]) hha hea)
      rw [hvt c c1 c2, cnt_9 w]; simp [vB]
    | succ t ih =>
      intro n h x ht' x1 x2 hn hF hvt hwi hha hea
      have q := isR_fr hF stw_R q0
      have hs := isS_fr hF stw_S hs0
      have ht : isT C h tw ta := isT_eq (hF.1 12 0 55 (by unfold StW; omega)) (hF.1 12 0 56 (by unfold StW; omega)) ht0
      have hr := haF_r (tw := tw) (ta := ta) (F := F) w vw x1
      have cr := cnt_r w x1 (by omega)
      have next : ∀ (m' : Nat) (h' : Hp), 3 * t + 61 ≤ m' → Fr StW h0 h' → (∀ c, 0 ≤ c → c < 4 → gI h' 102 0 c = vA C V tw ta F c (cnt C (x + 1)).toNat) → gI h' 101 0 x = chF C V tw ta F x → (∀ m, 0 ≤ m → m < 9 → m ≠ x → gI h' 101 0 m = gI h 101 0 m) → (∀ m, 0 ≤ m → m < 9 → gI h' 100 0 m = haF C V tw ta F m) → gI h' 12 0 64 = eaF C V tw ta F → ok (g_X12_sits m' 6 [s, x] h') (fun _ h' => Fr StW h0 h' ∧ (∀ c, 0 ≤ c → c < 4 → gI h' 102 0 c = vt C V tw ta F c) ∧ (∀ m, 0 ≤ m → m < 9 → gI h' 101 0 m = chF C V tw ta F m) ∧ (∀ m, 0 ≤ m → m < 9 → gI h' 100 0 m = haF C V tw ta F m) ∧ gI h' 12 0 64 = eaF C V tw ta F) := by
        intro m' h' q1 q2 q3 q4 q5 q6 q7
        refine s_X12_sits_6 (by omega) ?_
        unfold b_X12_sits_6
        refine ok_ck (by omega) (ih _ _ _ (by omega) (by omega) (by omega) (by omega) q2 q3 (fun m m1 m2 => ?_) q6 q7)
        by_cases y : m = x
        · rw [y, if_pos (by omega)]; exact q4
        · rw [q5 m m1 m2 y, hwi m m1 m2]
          by_cases y2 : m < x
          · rw [if_pos y2, if_pos (by omega)]
          · rw [if_neg y2, if_neg (by omega)]
      refine s_X12_sits_5 (by omega) ?_
      unfold b_X12_sits_5
      rw [hha x x1 (by omega), is_2 hs]
      refine ok_f (by omega) (ok_ck (by omega) (ok_if (fun y => next _ _ (by omega) hF (fun c c1 c2 => ?_) ?_ (fun _ _ _ _ => rfl) hha hea) (fun y => ?_)))
      · rw [hvt c c1 c2]
        by_cases y2 : thP C x
        · obtain ⟨n1, n2⟩ := cnt_th w x1 y2
          have e1 : (cnt C (x + 1)).toNat = (cnt C x).toNat + 1 := by omega
          have e2 : plt C V tw ta F (cnt C x) = 0 := by unfold haF at y; rw [if_pos y2, n2] at y; exact y
          rw [e1]
          have e3 : vA C V tw ta F c ((cnt C x).toNat + 1) = vA C V tw ta F c (cnt C x).toNat + (if wi C V tw ta F ((cnt C x).toNat : Int) = c then plt C V tw ta F ((cnt C x).toNat : Int) else 0) := rfl
          have e4 : ((cnt C x).toNat : Int) = cnt C x := by omega
          rw [e3, e4, e2]; simp
        · rw [cnt_no w x1 y2]
      · rw [hwi x x1 (by omega), if_neg (by omega)]
        unfold chF
        by_cases y2 : thP C x
        · rw [if_pos y2]
          unfold haF at y
          rw [if_pos y2] at y
          unfold wi
          rw [if_neg (by omega)]
        · rw [if_neg y2]
      · have y2 : thP C x := by
          by_cases y2 : thP C x
          · exact y2
          · unfold haF at y; rw [if_neg y2] at y; exact absurd rfl y
        obtain ⟨i1, i2, i3⟩ := ix_r w x1 y2
        obtain ⟨n1, n2⟩ := cnt_th w x1 y2
        have eh : haF C V tw ta F x = plt C V tw ta F (ix C x) := by unfold haF; rw [if_pos y2]
        have ec : chF C V tw ta F x = wsF C V (ix C x) (haF C V tw ta F x) := by unfold chF wi; rw [if_pos y2, if_pos (by omega), eh]
        have vf := p_X12_votesFor (p := haF C V tw ta F x) q w hs vw s1 s2 i1 i2 hr.1 hr.2
        rw [i3] at vf
        refine ok_ck (by omega) (ok_ck (by omega) (ok_bq vf ?_))
        intro r h' ⟨r1, r2⟩
        rw [← ec] at r1
        have crr := chF_r (C := C) (V := V) (tw := tw) (ta := ta) (F := F) (m := x)
        have F2 : Fr StW h0 (sI h' 101 0 x r) := fr_sI (fr_tr hF (fr_mo r2 (fun r i k y => by unfold SyW at y; unfold StW; omega))) (by unfold StW; omega)
        have e3 : ∀ c, vA C V tw ta F c (cnt C (x + 1)).toNat = vA C V tw ta F c (cnt C x).toNat + (if r = c then haF C V tw ta F x else 0) := by
          intro c
          have e1 : (cnt C (x + 1)).toNat = (cnt C x).toNat + 1 := by omega
          have e3 : vA C V tw ta F c ((cnt C x).toNat + 1) = vA C V tw ta F c (cnt C x).toNat + (if wi C V tw ta F ((cnt C x).toNat : Int) = c then plt C V tw ta F ((cnt C x).toNat : Int) else 0) := rfl
          have e4 : ((cnt C x).toNat : Int) = cnt C x := by omega
          have e5 : chF C V tw ta F x = wi C V tw ta F (ix C x) := by unfold chF; rw [if_pos y2]
          rw [e1, e3, e4, ← n2, ← e5, ← eh, ← r1]
        have f102 : ∀ k, gI (sI h' 101 0 x r) 102 0 k = gI h 102 0 k := fun k => (gI_nr (by decide)).trans (r2.1 102 0 k (by unfold SyW; omega))
        have f101 : ∀ m, m ≠ x → gI (sI h' 101 0 x r) 101 0 m = gI h 101 0 m := fun m z => (gI_nk z).trans (r2.1 101 0 m (by unfold SyW; omega))
        have f100 : ∀ m, gI (sI h' 101 0 x r) 100 0 m = gI h 100 0 m := fun m => (gI_nr (by decide)).trans (r2.1 100 0 m (by unfold SyW; omega))
        have f64 : gI (sI h' 101 0 x r) 12 0 64 = gI h 12 0 64 := (gI_nr (by decide)).trans (r2.1 12 0 64 (by unfold SyW; omega))
        have hvt2 : ∀ c, 0 ≤ c → c < 4 → gI (sI h' 101 0 x r) 102 0 c = vA C V tw ta F c (cnt C x).toNat := fun c c1 c2 => (f102 c).trans (hvt c c1 c2)
        refine ok_ck (by omega) (ok_lt (ok_ck (by omega) ?_))
        rw [gI_eq]
        refine ok_if (fun y3 => next _ _ (by omega) F2 (fun c c1 c2 => ?_) (by rw [gI_eq]; exact r1) (fun m m1 m2 m3 => f101 m m3) (fun m m1 m2 => (f100 m).trans (hha m m1 m2)) (f64.trans hea)) (fun y3 => ?_)
        · rw [hvt2 c c1 c2, e3, if_neg (by omega)]; omega
        · have hb : 0 ≤ gI (sI h' 101 0 x r) 102 0 r ∧ gI (sI h' 101 0 x r) 102 0 r ≤ 2000 := by
            rw [hvt2 _ (by omega) (by omega)]
            have := vA_r (c := r) (tw := tw) (ta := ta) (F := F) w vw (cnt C x).toNat (by omega)
            omega
          have fh : gI (sI h' 101 0 x r) 100 0 x = haF C V tw ta F x := (f100 x).trans (hha x x1 (by omega))
          rw [fh]
          refine ok_ck (by omega) (ok_ck (by omega) (ok_ck (by omega) (ok_ck (by omega) (ok_ck (by omega) (ok_lt ?_)))))
          refine next _ _ (by omega) (fr_sI F2 (by unfold StW; omega)) (vt_add (by omega) (by omega) hvt2 (fun c c1 c2 => e3 c)) (by rw [gI_nr (by decide), gI_eq]; exact r1) (fun m m1 m2 m3 => (gI_nr (by decide)).trans (f101 m m3)) (fun m m1 m2 => (gI_nr (by decide)).trans ((f100 m).trans (hha m m1 m2))) ((gI_nr (by decide)).trans (f64.trans hea))
  have k2 : ∀ (t n : Nat) (h : Hp) (x l : Int), (9 - x).toNat = t → 0 ≤ x → x ≤ 9 → 4 * t + 120 ≤ n → Fr StW h0 h → (∀ c, 0 ≤ c → c < 4 → gI h 102 0 c = 0) → (∀ m, 0 ≤ m → m < x → gI h 101 0 m = -1) → (∀ m, 0 ≤ m → m < x → gI h 100 0 m = haF C V tw ta F m) → gI h 12 0 64 = (srv C V tw ta F (cnt C x).toNat).2 → l = (srv C V tw ta F (cnt C x).toNat).1 → ok (g_X12_sits n 2 [s, l, x] h) (fun _ h' => Fr StW h0 h' ∧ (∀ c, 0 ≤ c → c < 4 → gI h' 102 0 c = vt C V tw ta F c) ∧ (∀ m, 0 ≤ m → m < 9 → gI h' 101 0 m = chF C V tw ta F m) ∧ (∀ m, 0 ≤ m → m < 9 → gI h' 100 0 m = haF C V tw ta F m) ∧ gI h' 12 0 64 = eaF C V tw ta F) := by
    intro t
    induction t with
    | zero =>
      intro n h x l ht' x1 x2 hn hF hvt hwi hha hea hl
      have e9 : x = 9 := by omega
      subst e9
      refine s_X12_sits_2 (by omega) ?_
      unfold b_X12_sits_2
      refine ok_t (by omega) (k5 _ _ _ _ rfl (by omega) (by omega) (by omega) hF (fun c c1 c2 => ?_) (fun m m1 m2 => by rw [hwi m m1 m2, if_neg (by omega)]) hha ?_)
      · rw [hvt c c1 c2, cnt_0 w]; rfl
      · rw [hea, cnt_9 w]; rfl
    | succ t ih =>
      intro n h x l ht' x1 x2 hn hF hvt hwi hha hea hl
      have cr := cnt_r w x1 (by omega)
      have F1 : Fr StW h0 (sI (sI h 100 0 x 0) 101 0 x (-1)) := fr_sI (fr_sI hF (by unfold StW; omega)) (by unfold StW; omega)
      have q := isR_fr F1 stw_R q0
      have hs := isS_fr F1 stw_S hs0
      have ht : isT C (sI (sI h 100 0 x 0) 101 0 x (-1)) tw ta := isT_eq (F1.1 12 0 55 (by unfold StW; omega)) (F1.1 12 0 56 (by unfold StW; omega)) ht0
      have f89 : gI (sI (sI h 100 0 x 0) 101 0 x (-1)) 89 0 s = gI h0 89 0 s := F1.1 89 0 s (by unfold StW; omega)
      have next : ∀ (m' : Nat) (h' : Hp) (l' : Int), 4 * t + 121 ≤ m' → Fr StW h0 h' → (∀ c, gI h' 102 0 c = gI h 102 0 c) → gI h' 101 0 x = -1 → (∀ m, m ≠ x → gI h' 101 0 m = gI h 101 0 m) → gI h' 100 0 x = haF C V tw ta F x → (∀ m, m ≠ x → gI h' 100 0 m = gI h 100 0 m) → gI h' 12 0 64 = (srv C V tw ta F (cnt C (x + 1)).toNat).2 → l' = (srv C V tw ta F (cnt C (x + 1)).toNat).1 → ok (g_X12_sits m' 4 [s, l', x] h') (fun _ h' => Fr StW h0 h' ∧ (∀ c, 0 ≤ c → c < 4 → gI h' 102 0 c = vt C V tw ta F c) ∧ (∀ m, 0 ≤ m → m < 9 → gI h' 101 0 m = chF C V tw ta F m) ∧ (∀ m, 0 ≤ m → m < 9 → gI h' 100 0 m = haF C V tw ta F m) ∧ gI h' 12 0 64 = eaF C V tw ta F) := by
        intro m' h' l' q1 q2 q3 q4 q4b q5 q5b q6 q7
        refine s_X12_sits_4 (by omega) ?_
        unfold b_X12_sits_4
        refine ok_ck (by omega) (ih _ _ _ _ (by omega) (by omega) (by omega) (by omega) q2 (fun c c1 c2 => by rw [q3]; exact hvt c c1 c2) (fun m m1 m2 => ?_) (fun m m1 m2 => ?_) q6 q7)
        · by_cases y : m = x
          · rw [y]; exact q4
          · rw [q4b m y]; exact hwi m m1 (by omega)
        · by_cases y : m = x
          · rw [y]; exact q5
          · rw [q5b m y]; exact hha m m1 (by omega)
      have none : ¬ (thP C x ∧ fdP C F (ix C x) ∧ abP C V tw ta (ix C x)) → ∀ m' : Nat, 4 * t + 121 ≤ m' → ok (g_X12_sits m' 4 [s, l, x] (sI (sI h 100 0 x 0) 101 0 x (-1))) (fun _ h' => Fr StW h0 h' ∧ (∀ c, 0 ≤ c → c < 4 → gI h' 102 0 c = vt C V tw ta F c) ∧ (∀ m, 0 ≤ m → m < 9 → gI h' 101 0 m = chF C V tw ta F m) ∧ (∀ m, 0 ≤ m → m < 9 → gI h' 100 0 m = haF C V tw ta F m) ∧ gI h' 12 0 64 = eaF C V tw ta F) := by
        intro z m' hm'
        have hz : haF C V tw ta F x = 0 := by
          unfold haF
          by_cases y : thP C x
          · rw [if_pos y]; unfold plt plF; rw [if_neg (fun q => z ⟨y, q⟩)]
          · rw [if_neg y]
        have ez2 : srv C V tw ta F (cnt C (x + 1)).toNat = srv C V tw ta F (cnt C x).toNat := by
          by_cases y : thP C x
          · obtain ⟨n1, n2⟩ := cnt_th w x1 y
            have e1 : (cnt C (x + 1)).toNat = (cnt C x).toNat + 1 := by omega
            have e4 : ((cnt C x).toNat : Int) = ix C x := by omega
            have pz : plF C V tw ta F ((cnt C x).toNat : Int) (srv C V tw ta F (cnt C x).toNat).1 = 0 := by rw [e4]; unfold plF; rw [if_neg (fun q => z ⟨y, q⟩)]
            rw [e1]
            refine Prod.ext ?_ ?_
            · rw [srv_1, pz]; split <;> omega
            · rw [srv_2, pz]; omega
          · rw [cnt_no w x1 y]
        refine next _ _ _ hm' F1 (fun c => by rw [gI_nr (by decide), gI_nr (by decide)]) gI_eq (fun m z => by rw [gI_nk z, gI_nr (by decide)]) (by rw [gI_nr (by decide), gI_eq, hz]) (fun m z => by rw [gI_nr (by decide), gI_nk z]) ?_ ?_
        · rw [gI_nr (by decide), gI_nr (by decide), hea, ez2]
        · rw [hl, ez2]
      have some3 : thP C x → fdP C F (ix C x) → abP C V tw ta (ix C x) → ∀ m' : Nat, 4 * t + 122 ≤ m' → ok (g_X12_sits m' 3 [s, l, x] (sI (sI h 100 0 x 0) 101 0 x (-1))) (fun _ h' => Fr StW h0 h' ∧ (∀ c, 0 ≤ c → c < 4 → gI h' 102 0 c = vt C V tw ta F c) ∧ (∀ m, 0 ≤ m → m < 9 → gI h' 101 0 m = chF C V tw ta F m) ∧ (∀ m, 0 ≤ m → m < 9 → gI h' 100 0 m = haF C V tw ta F m) ∧ gI h' 12 0 64 = eaF C V tw ta F) := by
        intro y1 y2 y3 m' hm'
        obtain ⟨n1, n2⟩ := cnt_th w x1 y1
        have e1 : (cnt C (x + 1)).toNat = (cnt C x).toNat + 1 := by omega
        have e4 : ((cnt C x).toNat : Int) = ix C x := by omega
        have sr := srv_r (tw := tw) (ta := ta) (F := F) w vw (cnt C x).toNat (by omega)
        have ph : haF C V tw ta F x = min l (poF C V tw (ix C x)) := by
          unfold haF; rw [if_pos y1]; unfold plt plF; rw [if_pos ⟨y2, y3⟩]
          have e5 : (ix C x).toNat = (cnt C x).toNat := by omega
          rw [e5, ← hl]; omega
        have ph2 : plF C V tw ta F ((cnt C x).toNat : Int) (srv C V tw ta F (cnt C x).toNat).1 = haF C V tw ta F x := by
          rw [ph, e4, ← hl]; unfold plF; rw [if_pos ⟨y2, y3⟩]; omega
        have hr := haF_r (tw := tw) (ta := ta) (F := F) w vw x1
        refine s_X12_sits_3 (by omega) ?_
        unfold b_X12_sits_3
        refine ok_be (p_X12_platesOf q w hs vw ht s1 s2 x1 (by omega) y1) (ok_ck (by omega) (ok_lt (ok_ck (by omega) ?_)))
        rw [← ph, gI_eq]
        have e64 : gI (sI (sI (sI h 100 0 x 0) 101 0 x (-1)) 100 0 x (haF C V tw ta F x)) 12 0 64 = (srv C V tw ta F (cnt C x).toNat).2 := by rw [gI_nr (by decide), gI_nr (by decide), gI_nr (by decide)]; exact hea
        rw [e64]
        refine ok_ck (by omega) (ok_lt ?_)
        have e55 : gI (sI (sI (sI (sI h 100 0 x 0) 101 0 x (-1)) 100 0 x (haF C V tw ta F x)) 12 0 64 ((srv C V tw ta F (cnt C x).toNat).2 + haF C V tw ta F x)) 12 0 55 = tw := by rw [gI_nk (by decide), gI_nr (by decide)]; exact ht.1
        have F4 : Fr StW h0 (sI (sI (sI (sI h 100 0 x 0) 101 0 x (-1)) 100 0 x (haF C V tw ta F x)) 12 0 64 ((srv C V tw ta F (cnt C x).toNat).2 + haF C V tw ta F x)) := fr_sI (fr_sI F1 (by unfold StW; omega)) (by unfold StW; omega)
        rw [e55]
        have go : ∀ (m' : Nat) (l' : Int), 4 * t + 121 ≤ m' → l' = (srv C V tw ta F (cnt C (x + 1)).toNat).1 → ok (g_X12_sits m' 4 [s, l', x] (sI (sI (sI (sI h 100 0 x 0) 101 0 x (-1)) 100 0 x (haF C V tw ta F x)) 12 0 64 ((srv C V tw ta F (cnt C x).toNat).2 + haF C V tw ta F x))) (fun _ h' => Fr StW h0 h' ∧ (∀ c, 0 ≤ c → c < 4 → gI h' 102 0 c = vt C V tw ta F c) ∧ (∀ m, 0 ≤ m → m < 9 → gI h' 101 0 m = chF C V tw ta F m) ∧ (∀ m, 0 ≤ m → m < 9 → gI h' 100 0 m = haF C V tw ta F m) ∧ gI h' 12 0 64 = eaF C V tw ta F) := by
          intro m' l' z1 z2
          refine next _ _ _ z1 F4 (fun c => by rw [gI_nr (by decide), gI_nr (by decide), gI_nr (by decide), gI_nr (by decide)]) (by rw [gI_nr (by decide), gI_nr (by decide), gI_eq]) (fun m z => by rw [gI_nr (by decide), gI_nr (by decide), gI_nk z, gI_nr (by decide)]) (by rw [gI_nr (by decide), gI_eq]) (fun m z => by rw [gI_nr (by decide), gI_nk z, gI_nr (by decide), gI_nk z]) ?_ z2
          rw [gI_eq, e1, srv_2, ph2]
        have e100 : gI (sI (sI (sI (sI h 100 0 x 0) 101 0 x (-1)) 100 0 x (haF C V tw ta F x)) 12 0 64 ((srv C V tw ta F (cnt C x).toNat).2 + haF C V tw ta F x)) 100 0 x = haF C V tw ta F x := by rw [gI_nr (by decide), gI_eq]
        rw [e100]
        refine ok_if (fun y => go _ _ (by omega) (by rw [e1, srv_1, if_pos y]; exact hl)) (fun y => ok_ck (by omega) (ok_ck (by omega) (ok_lt (go _ _ (by omega) ?_))))
        rw [e1, srv_1, if_neg y, ph2, ← hl]
      refine s_X12_sits_2 (by omega) ?_
      unfold b_X12_sits_2
      refine ok_f (by omega) (ok_ck (by omega) (ok_lt (ok_ck (by omega) (ok_lt (ok_be (p_X12_isAboard q w hs vw ht s1 s2 x1 (by omega)) ?_)))))
      rw [f89]
      refine ok_if (fun y => none (fun z => b2i_0.mp y ⟨z.1, z.2.2⟩) _ (by omega)) (fun y => ?_)
      obtain ⟨y1, y2⟩ := b2i_n.mp y
      have bm : (x < 5 → ix C x = x ∧ x < C 20 0) ∧ (5 ≤ x → C 20 0 ≤ ix C x) := by
        unfold thP at y1
        unfold ix
        split <;> omega
      refine ok_if (fun y3 => some3 y1 (Or.inl (bm.2 y3)) y2 _ (by omega)) (fun y3 => ok_ck (by omega) ?_)
      obtain ⟨b1, b2⟩ := bm.1 (by omega)
      have hfx := hf x x1 b2
      have b01 := bit01 (x := gI h0 89 0 s) (i := x)
      refine ok_if (fun y4 => none (fun z => ?_) _ (by omega)) (fun y4 => some3 y1 (Or.inr ?_) y2 _ (by omega))
      · rcases z.2.1 with z | z
        · omega
        · rw [b1, ← hfx] at z; unfold bit at z; omega
      · rw [b1, ← hfx]; unfold bit at b01 ⊢; omega
  have k1 : ∀ (t n : Nat) (h : Hp) (x : Int) (a : Nat), 4 - a = t → a ≤ 4 → x = (a : Int) → t + 200 ≤ n → Fr StW h0 h → gI h 12 0 64 = 0 → (∀ c, 0 ≤ c → c < (a : Int) → gI h 102 0 c = 0) → ok (g_X12_sits n 1 [s, V 2 0, x] h) (fun _ h' => Fr StW h0 h' ∧ (∀ c, 0 ≤ c → c < 4 → gI h' 102 0 c = vt C V tw ta F c) ∧ (∀ m, 0 ≤ m → m < 9 → gI h' 101 0 m = chF C V tw ta F m) ∧ (∀ m, 0 ≤ m → m < 9 → gI h' 100 0 m = haF C V tw ta F m) ∧ gI h' 12 0 64 = eaF C V tw ta F) := by
    intro t
    induction t with
    | zero =>
      intro n h x a ht ha hxa hn hF h64 hvt
      subst hxa
      refine s_X12_sits_1 (by omega) ?_
      unfold b_X12_sits_1
      refine ok_t (by omega) (k2 _ _ _ _ _ rfl (by omega) (by omega) (by omega) hF (fun c c1 c2 => hvt c c1 (by omega)) (fun m m1 m2 => by omega) (fun m m1 m2 => by omega) ?_ ?_)
      · rw [h64, cnt_0 w]; rfl
      · rw [cnt_0 w]; rfl
    | succ t ih =>
      intro n h x a ht ha hxa hn hF h64 hvt
      subst hxa
      refine s_X12_sits_1 (by omega) ?_
      unfold b_X12_sits_1
      refine ok_f (by omega) (ok_ck (by omega) (ok_lt (ok_ck (by omega) (ih _ _ _ (a + 1) (by omega) (by omega) (by omega) (by omega) (fr_sI hF (by unfold StW; omega)) (by rw [gI_nr (by decide)]; exact h64) (fun c c1 c2 => ?_)))))
      rw [gI_sI]
      by_cases y : c = a
      · rw [if_pos ⟨rfl, rfl, y⟩]
      · rw [if_neg (fun q => y q.2.2)]; exact hvt c c1 (by omega)
  refine fuv_X12_sits (fun nFU hFU => ?_)
  refine s_X12_sits_0 (by first | omega | decide) ?_
  unfold b_X12_sits_0
  rw [is_2 hs0]
  exact ok_ck (by omega) (ok_lt (ok_lt (k1 4 _ _ _ 0 (by omega) (by omega) (by omega) (by omega) (fr_sI fr_rf (by unfold StW; omega)) gI_eq (fun c c1 c2 => by omega))))
end
