/-! WHO FITS, the reference -/
set_option maxHeartbeats 8000000 in
theorem p_X12_fits {h : Hp} {σ : Sg} (w : SW σ) (q : IR h σ) : ok (f_X12_fits h) (fun r h' => isFit (sC σ) (sX σ) (sV σ 0 0 0) r ∧ IR h' σ ∧ Fr ReW h h') := by
  have wC := sw_C w
  have ez := sz_r wC
  have vm := vw_m (sw_V w).1
  have wN := sw_N w
  have kr := kn_r wN
  have hK : ((xK (sX σ) : Nat) : Int) = kn (sX σ 23 0) (sX σ 24 0) := Int.toNat_of_nonneg kr.1
  have hK2 : ((sK σ : Nat) : Int) = kn (sX σ 23 0) (sX σ 24 0) := Int.toNat_of_nonneg kr.1
  have p16 := pw16 wC
  have q3 := pl_q w q
  have main : ok (f_X12_fits h) (fun r h' => isFit (sC σ) (sX σ) (sV σ 0 0 0) r ∧ Fr SrW h h' ∧ B92 h') := by
    have key : ∀ (d n : Nat) (H : Hp) (r x : Int), (bshl 1 (sC σ 21 0) - x).toNat = d → 0 ≤ x → x ≤ bshl 1 (sC σ 21 0) → 500 * d + 500 ≤ n → Fr SrW h H → B92 H → gI H 12 0 55 = -1 → gI H 12 0 57 = 0 → (∀ j, 0 ≤ j → j < kn (sX σ 23 0) (sX σ 24 0) → gI H 113 0 j = skS (sN σ) (sK σ) (sK σ) j) → acF (sC σ) (sX σ) (sV σ 0 0 0) x r → ok (g_X12_fits n 1 [r, x] H) (fun r h' => isFit (sC σ) (sX σ) (sV σ 0 0 0) r ∧ Fr SrW h h' ∧ B92 h') := by
      intro d
      induction d with
      | zero =>
        intro n H r x hd x1 x2 hn hF hB t55 t57 hs ha
        have qH := IR_sc w hF hB q
        refine s_X12_fits_1 (by omega) ?_
        unfold b_X12_fits_1
        rw [ir_13 qH.1]
        have ex : x = bshl 1 (sC σ 21 0) := by omega
        rw [ex] at ha
        exact ok_ck (by decide) (ok_t (by omega) (ok_some ⟨ha, hF, hB⟩))
      | succ d ih =>
        intro n H r x hd x1 x2 hn hF hB t55 t57 hs ha
        have qH := IR_sc w hF hB q
        have inn : ∀ (e m : Nat) (H : Hp) (t : Int) (a : Nat), (sV σ 0 0 0 - t).toNat = e → t = (a : Int) → t ≤ sV σ 0 0 0 → 500 * d + 510 + 3 * e ≤ m → Fr SrW h H → B92 H → gI H 12 0 55 = -1 → gI H 12 0 57 = 0 → (∀ j, 0 ≤ j → j < kn (sX σ 23 0) (sX σ 24 0) → gI H 113 0 j = skS (sN σ) (sK σ) (sK σ) j) → isS (sC σ) H 1 (rnV (sC σ) (sX σ) x a) → gI H 87 0 1 = rnV (sC σ) (sX σ) x a 3 0 → (∀ u, 0 ≤ u → u < t → gI H 93 0 (60 * 1 + u) = rnc (sC σ) (sX σ) x u ∧ gI H 94 0 (60 * 1 + u) = rne (sC σ) (sX σ) x u) → ok (g_X12_fits m 2 [r, x, t] H) (fun r h' => isFit (sC σ) (sX σ) (sV σ 0 0 0) r ∧ Fr SrW h h' ∧ B92 h') := by
          intro e
          induction e with
          | zero =>
            intro m H t a he ht t2 hm z2 z3 t55 t57 z4 v1 v2 lg
            have qH := IR_sc w z2 z3 q
            have et : t = sV σ 0 0 0 := by omega
            have tm := rnV_m (C := sC σ) (X := sX σ) (m := x) a
            refine s_X12_fits_2 (by omega) ?_
            unfold b_X12_fits_2
            rw [is_0 qH.2.2.1.1]
            refine ok_ck (by decide) (ok_t (by omega) (ok_bq (p_X12_firstWrong (M := sV σ 0 0 0) (Lc := rnc (sC σ) (sX σ) x) (Le := rne (sC σ) (sX σ) x) qH.2.2.2.2.2.2.1 wN z4 (by decide) (by decide) (by rw [is_0 v1, tm]; omega) vm.2 (fun u u1 u2 => lg u u1 (by omega))) ?_))
            intro b h3 ⟨w1, w2⟩
            subst w1
            have three : ∀ (m : Nat) (r' : Int), 500 * d + 505 ≤ m → acF (sC σ) (sX σ) (sV σ 0 0 0) (x + 1) r' → ok (g_X12_fits m 3 [r', x] h3) (fun r h' => isFit (sC σ) (sX σ) (sV σ 0 0 0) r ∧ Fr SrW h h' ∧ B92 h') := by
              intro m r' y1 y2
              refine s_X12_fits_3 (by omega) ?_
              unfold b_X12_fits_3
              exact ok_ck (by omega) (ih _ _ _ _ (by omega) (by omega) (by omega) (by omega) z2 z3 t55 t57 z4 y2)
            refine ok_if (fun y => ok_lt (three _ _ (by omega) (acF_y x1 (by omega) ha (fun k k1 k2 => ?_)))) (fun y => three _ _ (by omega) (acF_n x1 ha (fun f => ?_)))
            · rcases w2 with ⟨-, w3⟩ | ⟨w3, -⟩
              · by_cases y5 : sX σ 21 k < sV σ 0 0 0 ∧ (if sX σ 20 k = 0 then rnc (sC σ) (sX σ) x (sX σ 21 k) else rne (sC σ) (sX σ) x (sX σ 21 k)) = sX σ 22 k
                · exact ⟨y5.1, y5.2.symm⟩
                · exact absurd ⟨k2, y5⟩ (w3 k k1 (by have := k2.1; omega))
              · omega
            · rcases w2 with ⟨w3, -⟩ | ⟨w3, w4, ⟨w5, w6⟩, -⟩
              · exact y w3
              · have := f b w3 w5
                exact w6 ⟨this.1, this.2.symm⟩
          | succ e ihe =>
            intro m H t a he ht t2 hm z2 z3 t55 t57 z4 v1 v2 lg
            have qH := IR_sc w z2 z3 q
            have tm := rnV_m (C := sC σ) (X := sX σ) (m := x) a
            have tv := rnV_w (X := sX σ) wC x1 (by omega) a (by omega)
            obtain ⟨-, -, -, -, lf⟩ := qH.2.2.2.1 t (by omega) (by omega)
            rw [show (60 : Int) * 0 + t = t by omega] at lf
            have F4 : Fr SrW h (sI H 89 0 1 (gI H 97 0 t)) := fr_sI z2 (by unfold SrW; omega)
            have B4 : B92 (sI H 89 0 1 (gI H 97 0 t)) := B92_e (fun k => gI_nr (by decide)) z3
            have R4 : isR (sI H 89 0 1 (gI H 97 0 t)) (sC σ) := isR_sI (by omega) qH.1
            have S4 : isS (sC σ) (sI H 89 0 1 (gI H 97 0 t)) 1 (rnV (sC σ) (sX σ) x a) := isS_eq (fun r k a b c1 c2 => gI_nr c2) v1
            refine s_X12_fits_2 (by omega) ?_
            unfold b_X12_fits_2
            rw [is_0 qH.2.2.1.1]
            refine ok_ck (by decide) (ok_f (by omega) (ok_ck (by omega) (ok_ck (by decide) (ok_lt (ok_bq (p_X12_passes (tw := -1) (ta := -1) (st := false) (F := fun i => sX σ 4 (8 * t + i)) R4 wC S4 tv.1 (by omega) ((gI_nr (by decide)).trans v2) ⟨(gI_nr (by decide)).trans t55, fun u => by omega⟩ ((gI_nr (by decide)).trans t57) (by decide) (by decide) (fun i i1 i2 => by rw [gI_eq]; exact lf i i1 i2)) ?_)))))
            intro _ h3 ⟨u1, u2, u3, u4, u5, u6, _⟩
            have ea : rnV (sC σ) (sX σ) x (a + 1) = hdV (sC σ) (rnV (sC σ) (sX σ) x a) (-1) (-1) (fun i => sX σ 4 (8 * t + i)) false := by rw [ht]; rfl
            have bb := B92_pa wC (slV_w (tw := -1) (ta := -1) (F := fun i => sX σ 4 (8 * t + i)) wC tv.1 (by omega) _) (by decide) u1 B4 u2
            have e1 : ∀ (r : Nat) (k : Int), ¬ (PaW (sC σ) (rnV (sC σ) (sX σ) x a) 1 r 0 k) → r ≠ 89 → gI h3 r 0 k = gI H r 0 k := fun r k y1 y2 => (u1.1 r 0 k y1).trans (gI_nr y2)
            refine ok_ck (by omega) (ihe _ _ _ (a + 1) (by omega) (by omega) (by omega) (by omega) (fr_tr F4 (fr_mo u1 (paw_Sr (by omega) (by omega)))) bb ((e1 12 55 (by unfold PaW; omega) (by decide)).trans t55) ((e1 12 57 (by unfold PaW; omega) (by decide)).trans t57) (fun j j1 j2 => (e1 113 j (by unfold PaW; omega) (by decide)).trans (z4 j j1 j2)) (by rw [ea]; exact u2) (by rw [ea]; exact u3) (fun v y1 y2 => ?_))
            rw [tm, ← ht] at u5 u6
            by_cases y : v = t
            · rw [y, u5, u6]
              unfold rnc rne
              rw [show t.toNat = a by omega]
              exact ⟨rfl, rfl⟩
            · rw [e1 93 _ (by unfold PaW; omega) (by decide), e1 94 _ (by unfold PaW; omega) (by decide)]
              exact lg v y1 (by omega)
        refine s_X12_fits_1 (by omega) ?_
        unfold b_X12_fits_1
        rw [ir_13 qH.1]
        refine ok_ck (by decide) (ok_f (by omega) (ok_bq (p_X12_begins hB qH.1 wC (by decide) (by decide)) ?_))
        intro _ h4 ⟨b1, b2, b3, b4, b5⟩
        have e1 : ∀ (r : Nat) (k : Int), ¬ ShW 1 r 0 k → r ≠ 90 → gI (sI h4 90 0 1 x) r 0 k = gI H r 0 k := fun r k y1 y2 => (gI_nr y2).trans (b1.1 r 0 k y1)
        refine ok_ck (by decide) (ok_lt (inn _ _ _ _ 0 rfl (by omega) (by omega) (by omega) (fr_sI (fr_tr hF (fr_mo b1 (fun r i k u => by unfold ShW at u; unfold SrW; omega))) (by unfold SrW; omega)) (B92_e (fun k => gI_nr (by decide)) b2) ((e1 12 55 (by unfold ShW; omega) (by decide)).trans t55) ((e1 12 57 (by unfold ShW; omega) (by decide)).trans t57) (fun j j1 j2 => (e1 113 j (by unfold ShW; omega) (by decide)).trans (hs j j1 j2)) ?_ ?_ (fun v y1 y2 => by omega)))
        · obtain ⟨a0, a1, a2, a5, a7, a8, a6⟩ := b3
          exact ⟨(gI_nr (by decide)).trans a0, (gI_nr (by decide)).trans a1, (gI_nr (by decide)).trans a2, gI_eq, (gI_nr (by decide)).trans a7, fun i i1 i2 => (gI_nr (by decide)).trans (a8 i i1 i2), fun i i1 i2 => (gI_nr (by decide)).trans (a6 i i1 i2)⟩
        · exact (gI_nr (by decide)).trans b4
    refine fuv_X12_fits (fun n hn => ?_)
    refine s_X12_fits_0 (by omega) ?_
    unfold b_X12_fits_0
    refine ok_lt (ok_be p_X12_plain (ok_bq (p_X12_strikes q3.2.2.2.2.2.2.1 wN) ?_))
    intro _ h5 ⟨u1, u2⟩
    exact key _ _ _ _ _ rfl (by omega) (by omega) (by omega) (fr_tr pl_f (fr_mo u1 (fun r i k u => by unfold W113 at u; unfold SrW; omega))) (B92_e (fun k => u1.1 92 0 k (by unfold W113; omega)) q3.2.1) ((u1.1 12 0 55 (by unfold W113; omega)).trans (pl_t (C := sC σ)).1) ((u1.1 12 0 57 (by unfold W113; omega)).trans pl_s) u2 acF_0
  exact ok_mono main (fun r h' z => ⟨z.1, IR_sc w z.2.1 z.2.2 q, fr_mo z.2.1 srw_Re⟩)
theorem agr_fits : Agr f_X11_fits f_X12_fits := by
  intro h c σ w q
  obtain ⟨r, h1, e1, e2, e3, e4⟩ := p_fitting w q
  refine ⟨r, σ, w, ?_, fun h2 q2 => ?_⟩
  · refine fuv_X11_fits (fun n hn => ?_)
    refine s_X11_fits_0 (by omega) ?_
    unfold b_X11_fits_0
    exact ok_be e1 (ok_some ⟨rfl, ⟨c, e3⟩, e4⟩)
  · exact ok_mono (p_X12_fits w q2) (fun r2 h' z => ⟨isFit_u z.1 e2, z.2⟩)
/-! sure -/
/-- some set that fits has the bit i as b -/
def hasF (r i b n : Int) : Prop := ∃ m, 0 ≤ m ∧ m < n ∧ bit r m = 1 ∧ bit m i = b
theorem hasF_s {r i b n : Int} (n1 : 0 ≤ n) : hasF r i b (n + 1) ↔ (hasF r i b n ∨ (bit r n = 1 ∧ bit n i = b)) := by
  constructor
  · rintro ⟨m, m1, m2, m3, m4⟩
    by_cases y : m = n
    · subst y; exact Or.inr ⟨m3, m4⟩
    · exact Or.inl ⟨m, m1, by omega, m3, m4⟩
  · rintro (⟨m, m1, m2, m3, m4⟩ | ⟨m3, m4⟩)
    · exact ⟨m, m1, by omega, m3, m4⟩
    · exact ⟨n, n1, by omega, m3, m4⟩
theorem hasF_0 {r i b : Int} : ¬ hasF r i b 0 := fun ⟨m, m1, m2, _⟩ => by omega
def surA (a b : Prop) (r : Int) : Prop := (¬ a ∧ ¬ b ∧ r = -2) ∨ (a ∧ ¬ b ∧ r = 1) ∨ (¬ a ∧ b ∧ r = 0) ∨ (a ∧ b ∧ r = 2)
theorem surA_u {a b : Prop} {r r2 : Int} (p : surA a b r) (q : surA a b r2) : r = r2 := by
  unfold surA at p q
  rcases p with ⟨p1, p2, p3⟩ | ⟨p1, p2, p3⟩ | ⟨p1, p2, p3⟩ | ⟨p1, p2, p3⟩ <;> rcases q with ⟨q1, q2, q3⟩ | ⟨q1, q2, q3⟩ | ⟨q1, q2, q3⟩ | ⟨q1, q2, q3⟩ <;> first | (exact p3.trans q3.symm) | (exact absurd q1 p1) | (exact absurd p1 q1) | (exact absurd q2 p2) | (exact absurd p2 q2)
theorem p_X12_isMay {h : Hp} {C : Ch} {x : Int} (q : isR h C) : f_X12_isMay x h = some (b2i (0 ≤ x ∧ x < C 21 0), h) := by
  refine ok_eq.mp (fuv_X12_isMay (fun n hn => ?_))
  refine s_X12_isMay_0 (by omega) ?_
  unfold b_X12_isMay_0 b2i
  rw [ir_13 q]
  exact ok_if (fun y => ok_some ⟨by rw [if_neg (by omega)], rfl⟩) (fun y => ok_ck (by decide) (ok_if (fun y2 => ok_some ⟨by rw [if_neg (by omega)], rfl⟩) (fun y2 => ok_some ⟨by rw [if_pos (by omega)], rfl⟩)))
theorem agr_sure {x : Int} : Agr (f_X11_sure x) (f_X12_sure x) := by
  intro h c σ w q
  have wC := sw_C w
  have cM := cw_M wC
  have p16 := pw16 wC
  have e21 := ic_21 q.1.2.2.2.2.1
  by_cases z : 0 ≤ x ∧ x < sC σ 21 0
  · obtain ⟨r, h1, e1, e2, e3, e4⟩ := p_fitting w q
    have gc := e3.1.1
    have e21b := ic_21 e3.1.2.2.2.2.1
    have key : ∀ (d n : Nat) (a b m : Int), (bshl 1 (sC σ 21 0) - m).toNat = d → 0 ≤ m → m ≤ bshl 1 (sC σ 21 0) → 3 * d + 3 ≤ n → 0 ≤ a → a ≤ m → 0 ≤ b → b ≤ m → (¬ a = 0 ↔ hasF r x 1 m) → (¬ b = 0 ↔ hasF r x 0 m) → (hasF r x 1 (bshl 1 (sC σ 21 0)) ∨ hasF r x 0 (bshl 1 (sC σ 21 0))) → ok (g_X11_sure n 1 [x, r, a, b, m] h1) (fun s h' => surA (hasF r x 1 (bshl 1 (sC σ 21 0))) (hasF r x 0 (bshl 1 (sC σ 21 0))) s ∧ h' = h1) := by
      intro d
      induction d with
      | zero =>
        intro n a b m hd m1 m2 hn a1 a2 b1 b2 ha hb hh
        have em : m = bshl 1 (sC σ 21 0) := by omega
        subst em
        refine s_X11_sure_1 (by omega) ?_
        unfold b_X11_sure_1
        refine ok_rf (j := c) gc ?_
        rw [e21b]
        refine ok_t (by omega) (ok_if (fun y => ok_some ⟨?_, rfl⟩) (fun y => ok_if (fun y2 => ok_some ⟨?_, rfl⟩) (fun y2 => ok_some ⟨?_, rfl⟩)))
        · have nb : ¬ hasF r x 0 (bshl 1 (sC σ 21 0)) := fun u => (hb.mpr u) y
          exact Or.inr (Or.inl ⟨hh.resolve_right nb, nb, rfl⟩)
        · exact Or.inr (Or.inr (Or.inl ⟨fun u => (ha.mpr u) y2, hb.mp y, rfl⟩))
        · exact Or.inr (Or.inr (Or.inr ⟨ha.mp y2, hb.mp y, rfl⟩))
      | succ d ih =>
        intro n a b m hd m1 m2 hn a1 a2 b1 b2 ha hb hh
        have br := bit01 (x := r) (i := m)
        have bm := bit01 (x := m) (i := x)
        refine s_X11_sure_1 (by omega) ?_
        unfold b_X11_sure_1
        refine ok_rf (j := c) gc ?_
        rw [e21b]
        have nx : ∀ (m' : Nat) (a' b' : Int), 3 * d + 4 ≤ m' → 0 ≤ a' → a' ≤ m + 1 → 0 ≤ b' → b' ≤ m + 1 → (¬ a' = 0 ↔ hasF r x 1 (m + 1)) → (¬ b' = 0 ↔ hasF r x 0 (m + 1)) → ok (g_X11_sure m' 2 [x, r, a', b', m] h1) (fun s h' => surA (hasF r x 1 (bshl 1 (sC σ 21 0))) (hasF r x 0 (bshl 1 (sC σ 21 0))) s ∧ h' = h1) := by
          intro m' a' b' y1 y2 y3 y4 y5 y6 y7
          refine s_X11_sure_2 (by omega) ?_
          unfold b_X11_sure_2
          exact ok_ck (by omega) (ih _ _ _ _ (by omega) (by omega) (by omega) (by omega) y2 y3 y4 y5 y6 y7 hh)
        refine ok_f (by omega) (ok_lt (ok_if (fun y => ok_ck ?_ (ok_lt (nx _ _ _ (by omega) ?_ ?_ (by omega) (by omega) ?_ ?_))) (fun y => ok_ck ?_ (ok_lt (nx _ _ _ (by omega) (by omega) (by omega) ?_ ?_ ?_ ?_)))))
        · show -2147483648 ≤ a + bit r m ∧ a + bit r m < 2147483648; omega
        · show 0 ≤ a + bit r m; omega
        · show a + bit r m ≤ m + 1; omega
        · rw [hasF_s m1, ← ha]
          show ¬ a + bit r m = 0 ↔ _
          have y : bit m x = 1 := y
          rcases br with t | t
          · rw [t]; constructor
            · intro u; exact Or.inl (by omega)
            · rintro (u | u)
              · omega
              · omega
          · rw [t]; exact ⟨fun _ => Or.inr ⟨rfl, y⟩, fun _ => by omega⟩
        · rw [hasF_s m1, ← hb]
          have y : bit m x = 1 := y
          exact ⟨fun u => Or.inl u, fun u => u.elim id (fun v => by have := v.2; omega)⟩
        · show -2147483648 ≤ b + bit r m ∧ b + bit r m < 2147483648; omega
        · show 0 ≤ b + bit r m; omega
        · show b + bit r m ≤ m + 1; omega
        · rw [hasF_s m1, ← ha]
          have y : ¬ bit m x = 1 := y
          exact ⟨fun u => Or.inl u, fun u => u.elim id (fun v => absurd v.2 y)⟩
        · rw [hasF_s m1, ← hb]
          show ¬ b + bit r m = 0 ↔ _
          have y : ¬ bit m x = 1 := y
          have y0 : bit m x = 0 := by omega
          rcases br with t | t
          · rw [t]; constructor
            · intro u; exact Or.inl (by omega)
            · rintro (u | u)
              · omega
              · omega
          · rw [t]; exact ⟨fun _ => Or.inr ⟨rfl, y0⟩, fun _ => by omega⟩
    have ex : ¬ r = 0 → (hasF r x 1 (bshl 1 (sC σ 21 0)) ∨ hasF r x 0 (bshl 1 (sC σ 21 0))) := by
      intro y
      by_cases u : ∃ m, 0 ≤ m ∧ m < 16 ∧ bit r m = 1
      · obtain ⟨m, m1, m2, m3⟩ := u
        have m4 := ((e2.2.2 m m1 m2).mp m3).1
        rcases bit01 (x := m) (i := x) with t | t
        · exact Or.inr ⟨m, m1, m4, m3, t⟩
        · exact Or.inl ⟨m, m1, m4, m3, t⟩
      · refine absurd (bits_u e2.1 e2.2.1 (Int.le_refl 0) (by decide) (fun m m1 m2 => ⟨fun t => absurd ⟨m, m1, m2, t⟩ u, fun t => ?_⟩)) y
        rw [bit0 m1 (by omega)] at t; omega
    have cl : ok (f_X11_sure x h) (fun s h' => surA (hasF r x 1 (bshl 1 (sC σ 21 0))) (hasF r x 0 (bshl 1 (sC σ 21 0))) s ∧ h' = h1) := by
      refine fuv_X11_sure (fun n hn => ?_)
      refine s_X11_sure_0 (by omega) ?_
      unfold b_X11_sure_0
      refine ok_f (by omega) (ok_rf (j := c) q.1.1 ?_)
      rw [e21]
      refine ok_t z.2 (ok_be e1 (ok_if (fun y => ok_some ⟨Or.inl ⟨?_, ?_, rfl⟩, rfl⟩) (fun y => key _ _ _ _ _ rfl (by omega) (by omega) (by omega) (by omega) (by omega) (by omega) (by omega) ⟨fun u => absurd rfl u, fun u => absurd u hasF_0⟩ ⟨fun u => absurd rfl u, fun u => absurd u hasF_0⟩ (ex y))))
      · rintro ⟨m, m1, m2, m3, -⟩
        rw [y, bit0 m1 (by omega)] at m3; omega
      · rintro ⟨m, m1, m2, m3, -⟩
        rw [y, bit0 m1 (by omega)] at m3; omega
    obtain ⟨s, h1', c1, c2, c3⟩ := cl
    subst c3
    refine ⟨s, σ, w, ⟨s, h1', c1, rfl, ⟨c, e3⟩, e4⟩, fun h2 q2 => ?_⟩
    have q3 := IR_0 w q2
    refine fuv_X12_sure (fun n hn => ?_)
    refine s_X12_sure_0 (by omega) ?_
    unfold b_X12_sure_0
    refine ok_lt (ok_be (p_X12_isMay q3.1) (ok_f (fun u => b2i_0.mp u z) (ok_bq (p_X12_fits w q3) ?_)))
    intro r2 h5 ⟨u1, u2, u3⟩
    have er : r2 = r := isFit_u u1 e2
    subst er
    have e13 := ir_13 u2.1
    have k2 : ∀ (d n : Nat) (a m : Int), (bshl 1 (sC σ 21 0) - m).toNat = d → 0 ≤ m → m ≤ bshl 1 (sC σ 21 0) → 5 * d + 5 ≤ n → surA (hasF r2 x 1 m) (hasF r2 x 0 m) a → ok (g_X12_sure n 1 [x, r2, a, m] h5) (fun s' h' => s' = s ∧ h' = h5) := by
      intro d
      induction d with
      | zero =>
        intro n a m hd m1 m2 hn ha
        have em : m = bshl 1 (sC σ 21 0) := by omega
        subst em
        refine s_X12_sure_1 (by omega) ?_
        unfold b_X12_sure_1
        rw [e13]
        exact ok_ck (by decide) (ok_t (by omega) (ok_some ⟨surA_u ha c2, rfl⟩))
      | succ d ih =>
        intro n a m hd m1 m2 hn ha
        have br := bit01 (x := r2) (i := m)
        have bm := bit01 (x := m) (i := x)
        have four : ∀ (m' : Nat) (a' : Int), 5 * d + 6 ≤ m' → surA (hasF r2 x 1 (m + 1)) (hasF r2 x 0 (m + 1)) a' → ok (g_X12_sure m' 4 [x, r2, a', m] h5) (fun s' h' => s' = s ∧ h' = h5) := by
          intro m' a' y1 y2
          refine s_X12_sure_4 (by omega) ?_
          unfold b_X12_sure_4
          exact ok_ck (by omega) (ih _ _ _ (by omega) (by omega) (by omega) (by omega) y2)
        have three : ∀ (m' : Nat) (a' : Int), 5 * d + 7 ≤ m' → surA (hasF r2 x 1 (m + 1)) (hasF r2 x 0 (m + 1)) a' → ok (g_X12_sure m' 3 [x, r2, m, a'] h5) (fun s' h' => s' = s ∧ h' = h5) := by
          intro m' a' y1 y2
          refine s_X12_sure_3 (by omega) ?_
          unfold b_X12_sure_3
          exact four _ _ (by omega) y2
        have two : ∀ (m' : Nat) (a' : Int), 5 * d + 8 ≤ m' → surA (hasF r2 x 1 (m + 1)) (hasF r2 x 0 (m + 1)) a' → ok (g_X12_sure m' 2 [x, r2, m, a'] h5) (fun s' h' => s' = s ∧ h' = h5) := by
          intro m' a' y1 y2
          refine s_X12_sure_2 (by omega) ?_
          unfold b_X12_sure_2
          exact three _ _ (by omega) y2
        rw [hasF_s m1, hasF_s m1] at four three two
        refine s_X12_sure_1 (by omega) ?_
        unfold b_X12_sure_1
        rw [e13]
        refine ok_ck (by decide) (ok_f (by omega) (ok_if (fun y => four _ _ (by omega) ?_) (fun y => ok_lt (ok_if (fun y2 => two _ _ (by omega) ?_) (fun y2 => ok_if (fun y3 => two _ _ (by omega) ?_) (fun y3 => three _ _ (by omega) ?_))))))
        · have y : bit r2 m = 0 := y
          unfold surA at ha ⊢
          have n1 : ∀ b, ¬ (bit r2 m = 1 ∧ bit m x = b) := fun b v => by have := v.1; omega
          simp only [n1, or_false]
          exact ha
        · have y : ¬ bit r2 m = 0 := y
          have y4 : bit r2 m = 1 := by omega
          show surA _ _ (bit m x)
          unfold surA at ha ⊢
          rcases ha with ⟨p1, p2, p3⟩ | ⟨p1, p2, p3⟩ | ⟨p1, p2, p3⟩ | ⟨p1, p2, p3⟩
          · rcases bm with t | t
            · exact Or.inr (Or.inr (Or.inl ⟨fun u => u.elim p1 (fun v => by have := v.2; omega), Or.inr ⟨y4, t⟩, t⟩))
            · exact Or.inr (Or.inl ⟨Or.inr ⟨y4, t⟩, fun u => u.elim p2 (fun v => by have := v.2; omega), t⟩)
          · omega
          · omega
          · omega
        · have y : ¬ bit r2 m = 0 := y
          have y4 : bit r2 m = 1 := by omega
          have y3 : a = bit m x := y3
          show surA _ _ (bit m x)
          unfold surA at ha ⊢
          rcases ha with ⟨p1, p2, p3⟩ | ⟨p1, p2, p3⟩ | ⟨p1, p2, p3⟩ | ⟨p1, p2, p3⟩
          · omega
          · exact Or.inr (Or.inl ⟨Or.inl p1, fun u => u.elim p2 (fun v => by have := v.2; omega), by omega⟩)
          · exact Or.inr (Or.inr (Or.inl ⟨fun u => u.elim p1 (fun v => by have := v.2; omega), Or.inl p2, by omega⟩))
          · omega
        · have y : ¬ bit r2 m = 0 := y
          have y4 : bit r2 m = 1 := by omega
          have y3 : ¬ a = bit m x := y3
          unfold surA at ha ⊢
          rcases ha with ⟨p1, p2, p3⟩ | ⟨p1, p2, p3⟩ | ⟨p1, p2, p3⟩ | ⟨p1, p2, p3⟩
          · omega
          · exact Or.inr (Or.inr (Or.inr ⟨Or.inl p1, Or.inr ⟨y4, by omega⟩, rfl⟩))
          · exact Or.inr (Or.inr (Or.inr ⟨Or.inr ⟨y4, by omega⟩, Or.inl p2, rfl⟩))
          · exact Or.inr (Or.inr (Or.inr ⟨Or.inl p1, Or.inl p2, rfl⟩))
    refine ok_mono (k2 _ _ _ _ rfl (by omega) (by omega) (by omega) (Or.inl ⟨hasF_0, hasF_0, rfl⟩)) ?_
    intro s' h' ⟨v1, v2⟩
    subst v2
    exact ⟨v1, u2, fr_0 u3⟩
  · refine ⟨-1, σ, w, ok_rc q ?_, fun h2 q2 => ok_rr w q2 ?_⟩
    · refine ok_eq.mp (fuv_X11_sure (fun n hn => ?_))
      refine s_X11_sure_0 (by omega) ?_
      unfold b_X11_sure_0
      refine ok_if (fun u => ok_some ⟨rfl, rfl⟩) (fun u => ok_rf (j := c) q.1.1 ?_)
      rw [e21]
      exact ok_f (fun v => z ⟨by omega, v⟩) (ok_some ⟨rfl, rfl⟩)
    · have q3 := IR_0 w q2
      refine ok_eq.mp (fuv_X12_sure (fun n hn => ?_))
      refine s_X12_sure_0 (by omega) ?_
      unfold b_X12_sure_0
      exact ok_lt (ok_be (p_X12_isMay q3.1) (ok_t (b2i_0.mpr z) (ok_some ⟨rfl, rfl⟩)))
