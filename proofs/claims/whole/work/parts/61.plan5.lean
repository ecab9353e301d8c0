/-! PLAN, 5: the reference -/
def PlW (q : Int) : Nat → Int → Int → Prop := fun r _ j => (98 ≤ r ∧ r ≤ 102) ∨ r = 104 ∨ (r = 12 ∧ (j = 60 ∨ j = 64 ∨ j = 67 ∨ j = 68)) ∨ (84 ≤ r ∧ r ≤ 89 ∧ j = 1) ∨ ((r = 91 ∨ r = 92) ∧ 9 ≤ j ∧ j < 18) ∨ (93 ≤ r ∧ r ≤ 97 ∧ 60 ≤ j ∧ j < 120) ∨ (r = 103 ∧ q ≤ j) ∨ (105 ≤ r ∧ r ≤ 107 ∧ q ≤ j) ∨ ((r = 108 ∨ r = 109) ∧ 9 * q ≤ j)
abbrev sQ (C : Ch) (m : Nat) (k sm : Int) (V : Ch) (p : Int → Int) : List Pc := soQ (haQ C) (goQ C) (eaQ C) (2 ^ (C 20 0).toNat) m k sm V p
theorem bR_eq {h h2 : Hp} {B : Option Pc} (e1 : gI h2 12 0 67 = gI h 12 0 67) (e2 : gI h2 12 0 68 = gI h 12 0 68) (e3 : ∀ i, gI h2 104 0 i = gI h 104 0 i) (q : bR h B) : bR h2 B := by
  cases B with
  | none => exact e1.trans q
  | some b => exact ⟨e1.trans q.1, q.2.1, e2.trans q.2.2.1, fun i i1 i2 => (e3 i).trans (q.2.2.2 i i1 i2)⟩
theorem pgR_eq {h h2 : Hp} {C V : Ch} {k : Int} (w : CW C) (e : ∀ (r : Nat) (j : Int), 105 ≤ r → r ≤ 107 → j = k → gI h2 r 0 j = gI h r 0 j) (e2 : ∀ (r : Nat) (j : Int), (r = 108 ∨ r = 109) → 9 * k ≤ j → j < 9 * k + 9 → gI h2 r 0 j = gI h r 0 j) (e3 : gI h2 90 0 1 = gI h 90 0 1) (q : pgR h C V k) : pgR h2 C V k := by
  obtain ⟨⟨g0, g1, g2⟩, g5, g3, g4⟩ := q
  refine ⟨⟨(e 105 k (by omega) (by omega) rfl).trans g0, (e 106 k (by omega) (by omega) rfl).trans g1, (e 107 k (by omega) (by omega) rfl).trans g2⟩, e3.trans g5, fun i i1 i2 => ?_, fun m m1 m2 => ?_⟩
  · obtain ⟨a1, a2, _⟩ := sl_r w i1 i2
    rw [e2 108 _ (by omega) (by omega) (by omega), e2 109 _ (by omega) (by omega) (by omega)]
    exact g3 i i1 i2
  · rw [e2 109 _ (by omega) (by omega) (by omega)]
    exact g4 m m1 m2
theorem tk_pl {k : Int} : ∀ (r : Nat) (i j : Int), TkW r i j → PlW k r i j := by intro r i j; unfold TkW PlW; omega
theorem pl_mo {k : Int} : ∀ (r : Nat) (i j : Int), PlW (k + 1) r i j → PlW k r i j := by
  intro r i j z
  unfold PlW at z ⊢
  rcases z with z | z | z | z | z | z | z | z | z <;> omega
theorem pa_pl {C V : Ch} {k y : Int} (v1 : 0 ≤ V 0 0) (v2 : V 0 0 < 60) : ∀ (r : Nat) (i j : Int), PaW C (v7 V y) 1 r i j → PlW k r i j := by
  intro r i j z
  have e : v7 V y 0 0 = V 0 0 := rfl
  unfold PaW at z
  rw [e] at z
  unfold PlW
  rcases z with z | z | z | z | z | z | z | z | z
  · omega
  · omega
  · omega
  · omega
  · omega
  · omega
  · omega
  · have a := z.1
    have b := z.2.1
    have c := z.2.2.1
    clear z
    omega
  · omega
section
variable {C : Ch}
theorem rP_be {h h' : Hp} {x3 : Int} (f : Fr BeW h h') (q : rP h C x3) : rP h' C x3 := by
  obtain ⟨q1, q2, q3, q4, q5, q6, q7⟩ := q
  have f88 : gI h' 88 0 1 = gI h 88 0 1 := f.1 88 0 1 (by unfold BeW; omega)
  exact ⟨isR_fr f (by intro r j a b; unfold BeW; omega) q1, (f.1 12 0 55 (by unfold BeW; omega)).trans q2, (f.1 12 0 57 (by unfold BeW; omega)).trans q3, fun j => by rw [f.1 92 0 j (by unfold BeW; omega)]; exact q4 j, (f.1 87 0 1 (by unfold BeW; omega)).trans q5, by rw [f88]; exact q6, by rw [f88]; exact q7⟩
theorem pl_ha {h : Hp} {k sm x3 : Int} {V : Ch} {p : Int → Int} {B : Option Pc} {n : Nat} {m : Nat} (hn : 10 ≤ n) (hs : 0 ≤ sm) (k1 : 0 ≤ k) (k2 : k ≤ 3) (q : rP h C x3) (hp : ∀ i, 0 ≤ i → i < k → gI h 103 0 i = p i) (hb : bR h B) (z : V 1 0 = C 4 0) : ok (if gI h 12 0 67 = -1 then g_grpP n 1 [k, sm] h else if gI h 12 0 67 < sm then some (0, h) else if sm = gI h 12 0 67 then (if k < gI h 12 0 68 then g_grpP n 1 [k, sm] h else some (0, h)) else g_grpP n 1 [k, sm] h) (fun _ h' => Fr (PlW k) h h' ∧ rP h' C x3 ∧ bR h' (foQ B (sQ C m k sm V p))) := by
  have ha : haQ C V = true := decide_eq_true z
  have es : foQ B (sQ C m k sm V p) = upQ B (sm, k, p) := by
    show foQ B (soQ (haQ C) (goQ C) (eaQ C) (2 ^ (C 20 0).toNat) m k sm V p) = _
    rw [soQ_ha ha]; rfl
  rw [es]
  have go : ¬ leQ B sm k → ok (g_grpP n 1 [k, sm] h) (fun _ h' => Fr (PlW k) h h' ∧ rP h' C x3 ∧ bR h' (upQ B (sm, k, p))) := fun y => by
    rw [upQ_nle (c := (sm, k, p)) y]
    exact ok_mono (be_S hn hs k1 k2 hp) (fun _ h' t => ⟨fr_mo t.1 (by intro r i j; unfold BeW PlW; omega), rP_be t.1 q, t.2⟩)
  have st : leQ B sm k → ok (some ((0 : Int), h)) (fun _ h' => Fr (PlW k) h h' ∧ rP h' C x3 ∧ bR h' (upQ B (sm, k, p))) := fun y => by
    rw [upQ_le (c := (sm, k, p)) y]
    exact ok_some ⟨fr_rf, q, hb⟩
  cases B with
  | none => exact ok_t hb (go (fun t => t))
  | some b =>
    obtain ⟨b1, b2, b3, _⟩ := hb
    have lq : leQ (some b) sm k ↔ (b.1 < sm ∨ (sm = b.1 ∧ b.2.1 ≤ k)) := Iff.rfl
    refine ok_f (by omega) (ok_if (fun y => st (lq.mpr (by omega))) (fun y => ok_if (fun y2 => ok_if (fun y3 => go (fun t => ?_)) (fun y3 => st (lq.mpr (by omega)))) (fun y2 => go (fun t => ?_))))
    · have := lq.mp t; omega
    · have := lq.mp t; omega
set_option maxHeartbeats 2000000 in
theorem pl_meal {h5 : Hp} {k : Int} {x m : Nat} {V : Ch} (w : CW C) (q5 : rP h5 C (V 3 0)) (s5 : isS C h5 1 (v7 V (gI h5 88 0 1))) (hi : iQ C (m + 1) V) : ok (f_X12_passes 1 (sI (sI h5 89 0 1 x) 103 0 k x)) (fun _ h8 => Fr (PlW k) h5 h8 ∧ rP h8 C (V 3 0) ∧ (∃ y2, isS C h8 1 (v7 (goQ C V x) y2)) ∧ gI h8 12 0 64 = eaQ C V x ∧ (∀ (r : Nat) (j : Int), r = 12 ∧ (j = 55 ∨ j = 57 ∨ j = 67 ∨ j = 68) ∨ 103 ≤ r ∨ r = 90 → gI h8 r 0 j = gI (sI (sI h5 89 0 1 x) 103 0 k x) r 0 j)) := by
  obtain ⟨c1, c2, c3, c4, c5, c6, c7⟩ := q5
  have i2 := hi.2
  have vw7 : VW C (v7 V (gI h5 88 0 1)) := VW_7 hi.1 c6 c7
  have s6 : isS C (sI (sI h5 89 0 1 x) 103 0 k x) 1 (v7 V (gI h5 88 0 1)) := isS_eq (fun r j r1 r2 r3 r4 => by rw [gI_nr (by omega), gI_nr (by omega)]) s5
  have r6 : isR (sI (sI h5 89 0 1 x) 103 0 k x) C := isR_eq (fun r j r1 r2 => by rw [gI_nr (by omega), gI_nr (by omega)]) c1
  refine ok_mono (p_X12_passes (tw := -1) (ta := -1) (st := true) (F := fsQ C x) r6 w s6 vw7 (show V 0 0 < 60 by omega) (by rw [gI_nr (by decide), gI_nr (by decide)]; exact c5) ⟨by rw [gI_nr (by decide), gI_nr (by decide)]; exact c2, fun u => by omega⟩ (by rw [gI_nr (by decide), gI_nr (by decide)]; exact c3) (by decide) (by decide) (fun i i1 i2 => by rw [gI_nr (by decide), gI_eq]; unfold fsQ; rw [if_pos ⟨i1, i2⟩])) ?_
  intro _ h8 ⟨f8, s8, e87, e64, _⟩
  have vm := vw_m hi.1
  have p8 : ∀ (r : Nat) (j : Int), r = 12 ∧ (j = 55 ∨ j = 57 ∨ j = 67 ∨ j = 68) ∨ 103 ≤ r ∨ r = 90 → gI h8 r 0 j = gI (sI (sI h5 89 0 1 x) 103 0 k x) r 0 j := fun r j y => f8.1 r 0 j (by unfold PaW; omega)
  have F8 : Fr (PlW k) h5 h8 := fr_tr (fr_sI (fr_sI fr_rf (by unfold PlW; omega)) (by unfold PlW; omega)) (fr_mo f8 (pa_pl vm.1 (by omega)))
  have a87 : gI h8 87 0 1 = V 3 0 := e87.trans (rnF_still (C := C) (V := v7 V (gI h5 88 0 1)) (tw := -1))
  have vw8 : VW C (hdV C (v7 V (gI h5 88 0 1)) (-1) (-1) (fsQ C x) true) := slV_w w vw7 (show V 0 0 < 60 by omega) _
  have b8 : B92 h8 := B92_pa w vw8 (by decide) f8 (fun j => by rw [gI_nr (by decide), gI_nr (by decide)]; exact c4 j) s8
  have e88 : gI h8 88 0 1 = hdV C (v7 V (gI h5 88 0 1)) (-1) (-1) (fsQ C x) true 7 0 := s8.2.2.2.2.1
  have y8 : -1 ≤ hdV C (v7 V (gI h5 88 0 1)) (-1) (-1) (fsQ C x) true 7 0 ∧ hdV C (v7 V (gI h5 88 0 1)) (-1) (-1) (fsQ C x) true 7 0 ≤ 60 := vw8.2.2.2.2.2.1
  rw [← e88] at y8
  rw [hdV_7] at s8
  rw [eaF_7] at e64
  have r8 : rP h8 C (V 3 0) := ⟨isR_fr f8 paw_R r6, (p8 12 55 (by omega)).trans (by rw [gI_nr (by decide), gI_nr (by decide)]; exact c2), (p8 12 57 (by omega)).trans (by rw [gI_nr (by decide), gI_nr (by decide)]; exact c3), b8, a87, y8.1, y8.2⟩
  exact ⟨F8, r8, ⟨_, s8⟩, e64, p8⟩
set_option maxHeartbeats 8000000 in
theorem pl_R (w : CW C) : ∀ (m nn : Nat) (h : Hp) (k n sm y : Int) (V : Ch) (p : Int → Int) (B : Option Pc), 40 * m + 20 ≤ nn → n = k + m → 0 ≤ k → n ≤ 3 → 0 ≤ sm → sm ≤ 81 * k → iQ C m V → rP h C (V 3 0) → isS C h 1 (v7 V y) → (∀ i, 0 ≤ i → i < k → gI h 103 0 i = p i) → bR h B → ok (g_grpP nn 0 [k, n, sm] h) (fun _ h' => Fr (PlW k) h h' ∧ rP h' C (V 3 0) ∧ bR h' (foQ B (sQ C m k sm V p))) := by
  have mo := cw_M w
  have sh : bshl 1 (C 20 0) = ((2 ^ (C 20 0).toNat : Nat) : Int) := by rw [bshl1 (by omega) (by omega)]; exact (Int.natCast_pow 2 _).symm
  have N5 : 2 ^ (C 20 0).toNat ≤ 32 := Nat.pow_le_pow_right (n := 2) (by decide) (show (C 20 0).toNat ≤ 5 by omega)
  intro m
  induction m with
  | zero =>
    intro nn h k n sm y V p B hn en k1 n3 s1 s2 hi q s hp hb
    have e85 : gI h 85 0 1 = V 1 0 := s.2.1
    refine s_grpP_0 (by omega) ?_
    unfold b_grpP_0
    rw [e85, ir_4 q.1]
    refine ok_ck (by decide) (ok_ck (by decide) (ok_if (fun z => pl_ha (by omega) s1 k1 (by omega) q hp hb z) (fun z => ok_t (by omega) (ok_some ⟨fr_rf, q, ?_⟩))))
    have : sQ C 0 k sm V p = [] := soQ_0 (fun t => z (of_decide_eq_true t))
    rw [this]; exact hb
  | succ m ih =>
    intro nn h k n sm y V p B hn en k1 n3 s1 s2 hi q s hp hb
    have e85 : gI h 85 0 1 = V 1 0 := s.2.1
    refine s_grpP_0 (by omega) ?_
    unfold b_grpP_0
    rw [e85, ir_4 q.1]
    refine ok_ck (by decide) (ok_ck (by decide) (ok_if (fun z => pl_ha (by omega) s1 k1 (by omega) q hp hb z) (fun z => ok_f (by omega) ?_)))
    have nh : ¬ haQ C V = true := fun t => z (of_decide_eq_true t)
    have es : sQ C (m + 1) k sm V p = caQ (fun s => sQ C m (k + 1) (sm + eaQ C V s) (goQ C V s) (fun i => if i = k then (s : Int) else p i)) (2 ^ (C 20 0).toNat) := soQ_s nh
    have loop : ∀ (t n4 : Nat) (h4 : Hp) (x : Nat), 2 ^ (C 20 0).toNat - x = t → x ≤ 2 ^ (C 20 0).toNat → t + 40 * m + 21 ≤ n4 → Fr (PlW k) h h4 → rP h4 C (V 3 0) → pgR h4 C V k → bR h4 (foQ B (caQ (fun s => sQ C m (k + 1) (sm + eaQ C V s) (goQ C V s) (fun i => if i = k then (s : Int) else p i)) x)) → ok (g_grpP n4 4 [k, n, sm, (x : Int)] h4) (fun _ h' => Fr (PlW k) h h' ∧ rP h' C (V 3 0) ∧ bR h' (foQ B (sQ C (m + 1) k sm V p))) := by
      intro t
      induction t with
      | zero =>
        intro n4 h4 x ht hx hn4 f4 q4 g4 b4
        refine s_grpP_4 (by omega) ?_
        unfold b_grpP_4
        rw [ir_12 q4.1, sh]
        refine ok_ck (by decide) (ok_t (by omega) (ok_bq (tk_S w q4 g4 k1 (by omega)) ?_))
        intro _ h5 ⟨f5, q5, _⟩
        refine ok_some ⟨fr_tr f4 (fr_mo f5 tk_pl), q5, ?_⟩
        rw [es, show 2 ^ (C 20 0).toNat = x by omega]
        exact bR_eq (f5.1 12 0 67 (by unfold TkW; omega)) (f5.1 12 0 68 (by unfold TkW; omega)) (fun i => f5.1 104 0 i (by unfold TkW; omega)) b4
      | succ t ih2 =>
        intro n4 h4 x ht hx hn4 f4 q4 g4 b4
        refine s_grpP_4 (by omega) ?_
        unfold b_grpP_4
        rw [ir_12 q4.1, sh]
        refine ok_ck (by decide) (ok_f (by omega) (ok_bq (tk_S w q4 g4 k1 (by omega)) ?_))
        intro _ h5 ⟨f5, q5, s5⟩
        have xi : iQ C m (goQ C V x) := hQ1 w m V x hi nh (by omega)
        have F5 : Fr (PlW k) h h5 := fr_tr f4 (fr_mo f5 tk_pl)
        refine ok_ck (by decide) (ok_lt (ok_ck (by omega) (ok_lt (ok_bq (pl_meal w q5 s5 hi) ?_))))
        intro _ h8 ⟨f8, r8, ⟨y2, s8⟩, e64, p8⟩
        have g3 : goQ C V x 3 0 = V 3 0 := rnF_still
        have er := hQ2 w m V x hi nh (by omega)
        have er2 := (eaF_r (tw := -1) (ta := -1) (F := fsQ C x) w hi.1).2
        change eaQ C V x ≤ 81 at er2
        have F8 : Fr (PlW k) h h8 := fr_tr F5 f8
        rw [← g3] at r8
        rw [e64]
        refine ok_ck (by omega) (ok_ck (by omega) (ok_bq (ih _ h8 (k + 1) n (sm + eaQ C V x) _ (goQ C V x) (fun i => if i = k then (x : Int) else p i) (foQ B (caQ (fun s => sQ C m (k + 1) (sm + eaQ C V s) (goQ C V s) (fun i => if i = k then (s : Int) else p i)) x)) (by omega) (by omega) (by omega) n3 (by omega) (by omega) xi r8 s8 (fun i i1 i2 => ?_) (bR_eq ?_ ?_ (fun i => ?_) b4)) ?_))
        · show gI h8 103 0 i = if i = k then (x : Int) else p i
          rw [p8 103 i (by omega)]
          by_cases y : i = k
          · rw [y, gI_eq, if_pos rfl]
          · rw [gI_nk (by omega), gI_nr (by decide), if_neg y, F5.1 103 0 i (by unfold PlW; omega)]
            exact hp i i1 (by omega)
        · rw [p8 12 67 (by omega), gI_nr (by decide), gI_nr (by decide)]
          exact f5.1 12 0 67 (by unfold TkW; omega)
        · rw [p8 12 68 (by omega), gI_nr (by decide), gI_nr (by decide)]
          exact f5.1 12 0 68 (by unfold TkW; omega)
        · rw [p8 104 i (by omega), gI_nr (by decide), gI_nr (by decide)]
          exact f5.1 104 0 i (by unfold TkW; omega)
        · intro _ h9 ⟨f9, q9, b9⟩
          rw [g3] at q9
          refine ok_ck (by omega) ?_
          rw [show (x : Int) + 1 = ((x + 1 : Nat) : Int) by omega]
          refine ih2 _ h9 (x + 1) (by omega) (by omega) (by omega) (fr_tr F8 (fr_mo f9 pl_mo)) q9 (pgR_eq w (fun r j r1 r2 r3 => ?_) (fun r j r1 r2 r3 => ?_) ?_ g4) (by rw [foQ_ca]; exact b9)
          · rw [f9.1 r 0 j (by unfold PlW; omega), p8 r j (by omega), gI_nr (by omega), gI_nr (by omega)]
            exact f5.1 r 0 j (by unfold TkW; omega)
          · rw [f9.1 r 0 j (by unfold PlW; omega), p8 r j (by omega), gI_nr (by omega), gI_nr (by omega)]
            exact f5.1 r 0 j (by unfold TkW; omega)
          · rw [f9.1 90 0 1 (by unfold PlW; omega), p8 90 1 (by omega), gI_nr (by decide), gI_nr (by decide)]
            exact f5.1 90 0 1 (by unfold TkW; omega)
    have go3 : ok (g_grpP (nn - 1) 3 [k, n, sm] h) (fun _ h' => Fr (PlW k) h h' ∧ rP h' C (V 3 0) ∧ bR h' (foQ B (sQ C (m + 1) k sm V p))) := by
      refine s_grpP_3 (by omega) ?_
      unfold b_grpP_3
      refine ok_bq (pu_S w q s k1 (by omega)) ?_
      intro _ h5 ⟨f5, q5, g5⟩
      exact loop (2 ^ (C 20 0).toNat) _ h5 0 (Nat.sub_zero _) (Nat.zero_le _) (by omega) (fr_mo f5 (by intro r i j; unfold PuW PlW; omega)) q5 g5 (bR_eq (f5.1 12 0 67 (by unfold PuW; omega)) (f5.1 12 0 68 (by unfold PuW; omega)) (fun i => f5.1 104 0 i (by unfold PuW; omega)) hb)
    cases B with
    | none => exact ok_t hb go3
    | some b =>
      have b1 := hb.1
      have b2 := hb.2.1
      refine ok_f (by omega) (ok_if (fun _ => go3) (fun y => ok_some ⟨fr_rf, q, ?_⟩))
      have e : foQ (some b) (sQ C (m + 1) k sm V p) = some b := soQ_worse (hQ1 w) (hQ2 w) hi (Or.inl (by omega))
      rw [e]; exact hb
end
