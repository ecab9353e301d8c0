/-! PLAN, 7: the class's search -/
def PsW (q : Int) : Nat → Int → Int → Prop := fun r i j => (27 ≤ r ∧ r ≤ 31) ∨ (r = 2 ∧ (j = 7 ∨ j = 10)) ∨ (r = 33 ∧ q * 90 ≤ j) ∨ (r = 44 ∧ q ≤ j) ∨ r = 45 ∨ (r = 6 ∧ (j = 4 ∨ j = 5)) ∨ ((r = 10 ∨ r = 57) ∧ 24 + q ≤ i)
def cP (h : Hp) (c : Int) (C : Ch) : Prop := CX h c C ∧ (∀ j, 0 ≤ j → j < 4 → gR h 43 0 j = some (10, 23 + j)) ∧ gI h 2 0 1 = -1
def mmP (h : Hp) (C V : Ch) (k : Int) : Prop := ∀ i p, 0 ≤ i → i < sz C → 0 ≤ p → p ≤ 9 → gI h 33 0 (k * 90 + i * 10 + p) = -2 ∨ gI h 33 0 (k * 90 + i * 10 + p) = wsF C V i p
def fQ (C : Ch) (m : Nat) (k sm : Int) (V : Ch) (p : Int → Int) : Nat → List Pc := fun s => sQ C m (k + 1) (sm + eaQ C V s) (goQ C V s) (fun i => if i = k then (s : Int) else p i)
theorem fQ_0 {C V : Ch} {m x : Nat} {k sm : Int} {p : Int → Int} (m0 : m = 0) (nh : ¬ haQ C (goQ C V x) = true) : fQ C m k sm V p x = [] := by
  subst m0; exact soQ_0 (go := goQ C) (ea := eaQ C) (N := 2 ^ (C 20 0).toNat) nh
theorem ps_mo {k : Int} : ∀ (r : Nat) (i j : Int), PsW (k + 1) r i j → PsW k r i j := by intro r i j; unfold PsW; omega
section
variable {h h2 : Hp} {c k : Int} {C V : Ch}
theorem cP_fr {q : Int} (f : Fr (PsW q) h h2) (a : cP h c C) : cP h2 c C := ⟨CX_fr f (by intro r i j z; unfold inC at z; unfold PsW; omega) a.1, fun j j1 j2 => by rw [fr_R f]; exact a.2.1 j j1 j2, (f.1 2 0 1 (by unfold PsW; omega)).trans a.2.2⟩
theorem vP_fr (f : Fr (PsW k) h h2) (a : isV C h (23 + k) V) : isV C h2 (23 + k) V := isV_fr f (fun j => ⟨by unfold PsW; omega, by unfold PsW; omega⟩) a
theorem mmP_e (w : CW C) (e : ∀ j, k * 90 ≤ j → j < k * 90 + 90 → gI h2 33 0 j = gI h 33 0 j) (q : mmP h C V k) : mmP h2 C V k := by
  intro i p i1 i2 p1 p2
  have ez := sz_r w
  rw [e _ (by omega) (by omega)]
  exact q i p i1 i2 p1 p2
theorem pc_serve {x : Nat} (q : cP h c C) (v : isV C h (23 + k) V) (vw : VW C V) : ok (f_X2_serve (23 + k) x (sI h 2 0 10 (k * 90))) (fun _ h' => Fr (PsW k) h h' ∧ (∀ i, 0 ≤ i → i < sz C → gI h' 29 0 i = plt C V (-1) (-1) (fsQ C x) i) ∧ gI h' 2 0 7 = eaQ C V x ∧ gI h' 2 0 10 = k * 90 ∧ (∀ (r : Nat) (j : Int), r = 6 ∨ r = 33 ∨ r = 44 ∨ r = 45 → gI h' r 0 j = gI h r 0 j)) := by
  have hx : CX (sI h 2 0 10 (k * 90)) c C := CX_sI (by intro j; unfold inC; omega) q.1
  have hv : isV C (sI h 2 0 10 (k * 90)) (23 + k) V := isV_sI (Or.inl ⟨by decide, by decide⟩) v
  refine ok_mono (p_X2_serve (tw := -1) (ta := -1) (F := fsQ C x) hx hv vw (by rw [gI_nk (by decide)]; exact q.2.2) (fun u => by omega) (fun i i1 i2 => by unfold fsQ; rw [if_pos ⟨i1, i2⟩])) ?_
  intro _ h' ⟨f, p1, e⟩
  refine ⟨fr_tr (fr_sI fr_rf (by unfold PsW; omega)) (fr_mo f (by intro r i j; unfold SvW PsW; omega)), p1, e, (f.1 2 0 10 (by unfold SvW; omega)).trans gI_eq, fun r j y => ?_⟩
  rw [f.1 r 0 j (by unfold SvW; omega), gI_nr (by omega)]
theorem pc_poll {x : Nat} (w : CW C) (k1 : 0 ≤ k) (k2 : k < 3) (q : cP h c C) (v : isV C h (23 + k) V) (vw : VW C V) (p1 : ∀ i, 0 ≤ i → i < sz C → gI h 29 0 i = plt C V (-1) (-1) (fsQ C x) i) (g1 : gI h 2 0 10 = k * 90) (mm : mmP h C V k) : ok (f_X2_poll (23 + k) h) (fun _ h' => Fr (PsW k) h h' ∧ (∀ c, 0 ≤ c → c < 4 → gI h' 31 0 c = vt C V (-1) (-1) (fsQ C x) c) ∧ (∀ i, 0 ≤ i → i < sz C → gI h' 30 0 i = wi C V (-1) (-1) (fsQ C x) i) ∧ mmP h' C V k ∧ (∀ (r : Nat) (j : Int), r = 6 ∨ r = 44 ∨ r = 45 ∨ r = 2 → gI h' r 0 j = gI h r 0 j)) := by
  have t1 := q.2.2
  have mo : mmO h C V := Or.inr ⟨by rw [g1]; omega, by rw [g1]; exact mm⟩
  have o := p_X2_poll (ta := -1) (F := fsQ C x) q.1 v vw (by rw [t1]; exact p1) mo
  rw [t1, g1] at o
  refine ok_mono o ?_
  intro _ h' ⟨f, a, b, m2⟩
  have g2 : gI h' 2 0 10 = k * 90 := (f.1 2 0 10 (by unfold PoW; omega)).trans g1
  refine ⟨fr_mo f (by intro r i j; unfold PoW PsW; omega), a, b, ?_, fun r j y => f.1 r 0 j (by unfold PoW; omega)⟩
  rcases m2 with m3 | m3
  · rw [g2] at m3; omega
  · rw [g2] at m3; exact m3.2
end
section
variable {C : Ch}
set_option maxHeartbeats 8000000 in
theorem pl_C (w : CW C) {c : Int} : ∀ (m nn : Nat) (h : Hp) (k n sm : Int) (V : Ch) (p : Int → Int) (B : Option Pc), 70 * m + 10 ≤ nn → n = k + m → 0 ≤ k → n ≤ 3 → 0 ≤ sm → sm ≤ 81 * k → iQ C m V → ¬ haQ C V = true → cP h c C → isV C h (23 + k) V → (∀ i, 0 ≤ i → i < k → gI h 44 0 i = p i) → bC h B → ok (g_grpS nn 0 [k, n, sm] h) (fun _ h' => Fr (PsW k) h h' ∧ bC h' (foQ B (sQ C m k sm V p))) := by
  have mo := cw_M w
  have N5 : 2 ^ (C 20 0).toNat ≤ 32 := Nat.pow_le_pow_right (n := 2) (by decide) (show (C 20 0).toNat ≤ 5 by omega)
  intro m
  induction m with
  | zero =>
    intro nn h k n sm V p B hn en k1 n3 s1 s2 hi nh q hv hp hb
    refine s_grpS_0 (by omega) ?_
    unfold b_grpS_0
    refine ok_f (by omega) (ok_t (by omega) (ok_some ⟨fr_rf, ?_⟩))
    have : sQ C 0 k sm V p = [] := soQ_0 nh
    rw [this]; exact hb
  | succ m ih =>
    intro nn h k n sm V p B hn en k1 n3 s1 s2 hi nh q hv hp hb
    have k3 : k < 3 := by omega
    refine s_grpS_0 (by omega) ?_
    unfold b_grpS_0
    refine ok_f (by omega) (ok_f (by omega) (ok_f (by omega) (ok_ck (by omega) (ok_rf (q.2.1 k k1 (by omega)) (ok_ck (by omega) (ok_be (p_X6_isTooFar q.1 hv hi.1) (ok_if (fun u => ?_) (fun u => ok_some ⟨fr_rf, ?_⟩))))))))
    rotate_left
    · replace u := b2i_n.mp u
      have u2 := u.2
      have : sQ C (m + 1) k sm V p = [] := soQ_far (hQ1 w) (dQ C) (hQ3 w) (hQ4 w) (m + 1) k sm V p hi (by unfold dQ; rw [if_pos u.1]; omega)
      rw [this]; exact hb
    have es : sQ C (m + 1) k sm V p = caQ (fQ C m k sm V p) (2 ^ (C 20 0).toNat) := soQ_s nh
    generalize hN : 2 ^ (C 20 0).toNat = N at es N5
    refine ok_ck (by omega) (ok_rf (q.2.1 k k1 (by omega)) (ok_bq (p_X2_hungry q.1 hv q.2.2) ?_))
    intro r h6 ⟨e6, r1, r2, hu⟩
    rw [e6]
    refine ok_bq (p_X2_openPage k1 k3) ?_
    intro _ h8 ⟨f8, g8, m8⟩
    have loop : ∀ (t n4 : Nat) (h4 : Hp) (x : Nat), 32 - x = t → x ≤ 32 → 2 * t + 70 * m + 12 ≤ n4 → Fr (PsW k) h h4 → mmP h4 C V k → bC h4 (foQ B (caQ (fQ C m k sm V p) (min x N))) → ok (g_grpS n4 1 [k, n, sm, 23 + k, r, (x : Int)] h4) (fun _ h' => Fr (PsW k) h h' ∧ bC h' (foQ B (sQ C (m + 1) k sm V p))) := by
      intro t
      induction t with
      | zero =>
        intro n4 h4 x ht hx hn4 f4 g4 b4
        refine s_grpS_1 (by omega) ?_
        unfold b_grpS_1
        refine ok_t (by omega) (ok_some ⟨f4, ?_⟩)
        rw [es]
        rw [Nat.min_eq_right (by omega)] at b4
        exact b4
      | succ t ih2 =>
        intro n4 h4 x ht hx hn4 f4 g4 b4
        have x32 : x < 32 := by omega
        have nxt : ∀ (n5 : Nat) (h5 : Hp), 2 * t + 70 * m + 13 ≤ n5 → Fr (PsW k) h h5 → mmP h5 C V k → bC h5 (foQ B (caQ (fQ C m k sm V p) (min (x + 1) N))) → ok (g_grpS n5 2 [k, n, sm, 23 + k, r, (x : Int)] h5) (fun _ h' => Fr (PsW k) h h' ∧ bC h' (foQ B (sQ C (m + 1) k sm V p))) := by
          intro n5 h5 hn5 a b d
          refine s_grpS_2 (by omega) ?_
          unfold b_grpS_2
          refine ok_ck (by omega) ?_
          rw [show (x : Int) + 1 = ((x + 1 : Nat) : Int) by omega]
          exact ih2 _ h5 (x + 1) (by omega) (by omega) (by omega) a b d
        clear ih2
        have q4 := cP_fr f4 q
        have v4 := vP_fr f4 hv
        refine s_grpS_1 (by omega) ?_
        unfold b_grpS_1
        refine ok_f (by omega) (ok_if (fun z => ?_) (fun z => nxt _ h4 (by omega) f4 g4 ?_))
        rotate_left
        · by_cases xN : x < N
          · obtain ⟨s, y1, y2, y3⟩ := set_out w hi.1 x32 r1 r2 hu z
            rw [Nat.min_eq_left (by omega)] at b4 ⊢
            have e : foQ (foQ B (caQ (fQ C m k sm V p) x)) (fQ C m k sm V p x) = foQ B (caQ (fQ C m k sm V p) x) := soQ_skip y1 y2 y3
            rw [foQ_ca, e]; exact b4
          · rw [Nat.min_eq_right (by omega)] at b4 ⊢; exact b4
        have xN : x < N := by rw [← hN]; exact set_in w x32 hu z
        have xi : iQ C m (goQ C V x) := hQ1 w m V x hi nh (by rw [hN]; exact xN)
        have er1 : 0 ≤ eaQ C V x := (eaF_r w hi.1).1
        have er2 : eaQ C V x ≤ 81 := (eaF_r w hi.1).2
        rw [Nat.min_eq_left (by omega)] at b4
        rw [Nat.min_eq_left (by omega)] at nxt
        generalize hB : foQ B (caQ (fQ C m k sm V p) x) = B2 at b4
        have eB : foQ B (caQ (fQ C m k sm V p) (x + 1)) = foQ B2 (fQ C m k sm V p x) := by rw [foQ_ca, hB]
        rw [eB] at nxt
        clear eB hB z hu
        refine ok_be (p_X2_usePage k1 k3) (ok_bq (pc_serve q4 v4 hi.1) ?_)
        intro _ h5 ⟨f5, pl5, e5, g5, o5⟩
        have F5 := fr_tr f4 f5
        have q5 := cP_fr f5 q4
        have v5 := vP_fr f5 v4
        have mm5 : mmP h5 C V k := mmP_e w (fun j _ _ => o5 33 j (by omega)) g4
        have b5 : bC h5 B2 := bC_eq (o5 6 5 (by omega)) (o5 6 4 (by omega)) (fun i => o5 45 i (by omega)) b4
        rw [e5]
        refine ok_ck (by omega) (ok_lt (ok_ck (by omega) (ok_bq (p_X6_isWorse (by omega) b5) ?_)))
        intro v6 h7 ⟨e7, iw⟩
        rw [e7]
        refine ok_if (fun u => ?_) (fun u => nxt _ h5 (by omega) F5 mm5 ?_)
        rotate_left
        · have lq : leQ B2 (sm + eaQ C V x) (k + 1) := Classical.byContradiction (fun t => u (iw.mpr t))
          have e : foQ B2 (fQ C m k sm V p x) = B2 := soQ_worse (hQ1 w) (hQ2 w) xi lq
          rw [e]; exact b5
        have nl := iw.mp u
        clear iw u e7
        refine ok_bq (pc_poll w k1 k3 q5 v5 hi.1 pl5 g5 mm5) ?_
        intro _ h9 ⟨f9, vt9, wi9, mm9, o9⟩
        have F9 := fr_tr F5 f9
        have q9 := cP_fr f9 q5
        have v9 := vP_fr f9 v5
        have b9 : bC h9 B2 := bC_eq (o9 6 5 (by omega)) (o9 6 4 (by omega)) (fun i => o9 45 i (by omega)) b5
        refine ok_be (p_X2_winner q9.1 v9 hi.1 vt9) ?_
        rw [← wnr_still (tw := -1) (ta := -1) (F := fsQ C x)]
        have fz : Fr (PsW k) h9 (sI h9 44 0 k x) := fr_sI fr_rf (by unfold PsW; omega)
        have q12 := cP_fr fz q9
        have v12 := vP_fr fz v9
        have mm12 : mmP (sI h9 44 0 k x) C V k := mmP_e w (fun j _ _ => gI_nr (by decide)) mm9
        have b12 : bC (sI h9 44 0 k x) B2 := bC_eq (gI_nr (by decide)) (gI_nr (by decide)) (fun i => gI_nr (by decide)) b9
        have p12 : ∀ i, 0 ≤ i → i < k + 1 → gI (sI h9 44 0 k x) 44 0 i = (fun i => if i = k then (x : Int) else p i) i := by
          intro i i1 i2
          show _ = if i = k then (x : Int) else p i
          by_cases y : i = k
          · rw [y, gI_eq, if_pos rfl]
          · rw [gI_nk (by omega), if_neg y, F9.1 44 0 i (by unfold PsW; omega)]
            exact hp i i1 (by omega)
        have wi12 : ∀ i, 0 ≤ i → i < sz C → gI (sI h9 44 0 k x) 30 0 i = wi C V (-1) (-1) (fsQ C x) i := fun i i1 i2 => (gI_nr (by decide)).trans (wi9 i i1 i2)
        have e12 : gI (sI h9 44 0 k x) 2 0 7 = eaF C V (-1) (-1) (fsQ C x) := (gI_nr (by decide)).trans ((o9 2 7 (by omega)).trans e5)
        have F12 := fr_tr F9 fz
        refine ok_ck ⟨k1, k3⟩ (ok_lt ?_)
        generalize sI h9 44 0 k x = h12 at q12 v12 mm12 b12 p12 wi12 e12 F12
        clear fz mm9 b9 wi9 vt9 o9 f9 q9 v9 F9 mm5 b5 v5 q5 F5 f5 pl5 g5 o5 e5 b4 g4 f4 q4 v4
        refine ok_be (p_X2_comesTo q12.1 v12) (ok_rf q12.1.1 ?_)
        rw [ic_4 q12.1.2.1]
        refine ok_if (fun y => ?_) (fun y => ok_ck (by omega) (ok_if (fun y2 => nxt _ h12 (by omega) F12 mm12 ?_) (fun y2 => ?_)))
        · have ha : haQ C (goQ C V x) = true := decide_eq_true y
          refine ok_ck (by omega) (ok_bq (p_X6_take (p := fun i => if i = k then (x : Int) else p i) (by omega) (by omega) p12) ?_)
          intro _ h17 ⟨f17, b17⟩
          refine nxt _ h17 (by omega) (fr_tr F12 (fr_mo f17 (by intro r i j; unfold TaW PsW; omega))) (mmP_e w (fun j _ _ => f17.1 33 0 j (by unfold TaW; omega)) mm12) ?_
          have e : foQ B2 (fQ C m k sm V p x) = some (sm + eaQ C V x, k + 1, fun i => if i = k then (x : Int) else p i) := by
            show foQ B2 (soQ (haQ C) (goQ C) (eaQ C) (2 ^ (C 20 0).toNat) m (k + 1) (sm + eaQ C V x) (goQ C V x) (fun i => if i = k then (x : Int) else p i)) = _
            rw [soQ_ha ha]
            exact upQ_nle (c := (sm + eaQ C V x, k + 1, fun i => if i = k then (x : Int) else p i)) nl
          rw [e]; exact b17
        · rw [fQ_0 (by omega) (fun t => y (of_decide_eq_true t))]
          exact b12
        · have nh2 : ¬ haQ C (goQ C V x) = true := fun t => y (of_decide_eq_true t)
          have hi2 := hi.2
          refine ok_ck (by omega) (ok_ck (by omega) (ok_rf (q12.2.1 (k + 1) (by omega) (by omega)) (ok_bq (p_X10_copyFrom (by omega)) ?_)))
          intro _ h20 ⟨f20, a20, b20⟩
          have G20 : Fr (PsW k) h12 h20 := fr_mo f20 (by intro r i j; unfold VoW PsW; omega)
          have q20 := cP_fr G20 q12
          have v20 : isV C h20 (23 + (k + 1)) V := isV_cp w a20 b20 v12
          refine ok_ck (by omega) (ok_ck (by omega) (ok_rf (q20.2.1 (k + 1) (by omega) (by omega)) (ok_bq (p_X2_sail (tw := -1) (ta := -1) (F := fsQ C x) q20.1 v20 hi.1 (by omega) q20.2.2 (fun i i1 i2 => (f20.1 30 0 i (by unfold VoW; omega)).trans (wi12 i i1 i2)) ((f20.1 2 0 7 (by unfold VoW; omega)).trans e12) (rnF C V (-1) true)) ?_)))
          intro _ h23 ⟨f23, v23⟩
          have G23 : Fr (PsW k) h12 h23 := fr_tr G20 (fr_mo f23 (by intro r i j; unfold VyW PsW; omega))
          have o23 : ∀ (r : Nat) (j : Int), r = 6 ∨ r = 33 ∨ r = 44 ∨ r = 45 → gI h23 r 0 j = gI h12 r 0 j := fun r j z => (f23.1 r 0 j (by unfold VyW; omega)).trans (f20.1 r 0 j (by unfold VoW; omega))
          have b23 : bC h23 B2 := bC_eq (o23 6 5 (by omega)) (o23 6 4 (by omega)) (fun i => o23 45 i (by omega)) b12
          refine ok_ck (by omega) (ok_bq (ih _ h23 (k + 1) n (sm + eaQ C V x) (goQ C V x) (fun i => if i = k then (x : Int) else p i) B2 (by omega) (by omega) (by omega) n3 (by omega) (by omega) xi nh2 (cP_fr G23 q12) v23 (fun i i1 i2 => (o23 44 i (by omega)).trans (p12 i i1 i2)) b23) ?_)
          intro _ h25 ⟨f25, b25⟩
          exact nxt _ h25 (by omega) (fr_tr F12 (fr_tr G23 (fr_mo f25 ps_mo))) (mmP_e w (fun j j1 j2 => (f25.1 33 0 j (by unfold PsW; omega)).trans (o23 33 j (by omega))) mm12) b25
    refine loop 32 _ h8 0 (by omega) (by omega) (by omega) (fr_mo f8 (by intro r i j; unfold OpW PsW; omega)) (fun i y i1 i2 y1 y2 => Or.inl (m8 _ ?_ ?_)) (bC_eq (f8.1 6 0 5 (by unfold OpW; omega)) (f8.1 6 0 4 (by unfold OpW; omega)) (fun i => f8.1 45 0 i (by unfold OpW; omega)) ?_)
    · omega
    · have ez := sz_r w
      omega
    · rw [Nat.zero_min]; exact hb
end
