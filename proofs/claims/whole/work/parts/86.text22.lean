/-! TEXT, 22: the reference's lines: land, isle, wind -/
section
variable {h h0 h2 : Hp} {b : Int → Int} {n t : Nat} {S I N G T M : Ch} {W W2 : Int → Int} {e : Int × Int}
theorem bor01 {x y : Int} (a : x = 0 ∨ x = 1) (c : y = 0 ∨ y = 1) : bor x y = if x = 1 ∨ y = 1 then 1 else 0 := by
  rcases a with a | a <;> rcases c with c | c <;> rw [a, c] <;> decide +kernel
/-- the loop over the isles leaves the heap as it is and comes to its end with whether x2 or one of them is there -/
theorem lan_loop {x y0 : Int} {Q : Int → Hp → Prop} (q : gI h 61 0 20 = I 0 0) (i0 : 0 ≤ I 0 0) (i3 : I 0 0 ≤ 3) (qc : ∀ i, 0 ≤ i → i < I 0 0 → gI h 64 0 (3 + i) = I 2 i)
    (k : ∀ (g : Nat) (y : Int), 3 ≤ g → (y = 0 ∨ y = 1) → (y = 1 ↔ (y0 = 1 ∨ nmP (I 2) (I 0 0) x)) → ok (if gI h 12 0 32 = 0 then (if y = 0 then g_X12_landLine g 8 [x] h else bd (f_X12_wrong 5 h) fun _ h4 => g_X12_landLine g 8 [x] h4) else g_X12_landLine g 8 [x] h) Q) (y01 : y0 = 0 ∨ y0 = 1) : ∀ g : Nat, 20 ≤ g → ok (g_X12_landLine g 6 [x, y0, 0] h) Q := by
  have key : ∀ (d g : Nat) (j y : Int), (I 0 0 - j).toNat = d → 0 ≤ j → j ≤ I 0 0 → 2 * d + 5 ≤ g → (y = 0 ∨ y = 1) → (y = 1 ↔ (y0 = 1 ∨ nmP (I 2) j x)) → ok (g_X12_landLine g 6 [x, y, j] h) Q := by
    intro d
    induction d with
    | zero =>
      intro g j y hd j1 j2 hg yy hy
      have ej : j = I 0 0 := by omega
      rw [ej] at hy
      refine s_X12_landLine_6 (by omega) ?_
      unfold b_X12_landLine_6
      refine ok_be (p_fr (k := 20) (by decide) (by decide) (by decide)) ?_
      rw [q]
      exact ok_t (by omega) (k _ y (by omega) yy hy)
    | succ d ih =>
      intro g j y hd j1 j2 hg yy hy
      refine s_X12_landLine_6 (by omega) ?_
      unfold b_X12_landLine_6
      refine ok_be (p_fr (k := 20) (by decide) (by decide) (by decide)) ?_
      rw [q]
      refine ok_f (by omega) (ok_ck (by omega) (ok_ck (by omega) ?_))
      rw [qc j j1 (by omega)]
      have sev : ∀ w : Int, (w = 0 ∨ w = 1) → (w = 1 ↔ I 2 j = x) → ok (g_X12_landLine (g - 1) 7 [x, j, w, y] h) Q := by
        intro w ww hw
        refine s_X12_landLine_7 (by omega) ?_
        unfold b_X12_landLine_7
        rw [bor01 yy ww]
        refine ok_lt (ok_ck (by omega) (ih _ _ _ (by omega) (by omega) (by omega) (by omega) (by split; exact Or.inr rfl; exact Or.inl rfl) ?_))
        have st : nmP (I 2) (j + 1) x ↔ (nmP (I 2) j x ∨ I 2 j = x) := by
          constructor
          · rintro ⟨k, k1, k2, k3⟩
            by_cases kj : k = j
            · rw [kj] at k3; exact Or.inr k3
            · exact Or.inl ⟨k, k1, by omega, k3⟩
          · rintro (⟨k, k1, k2, k3⟩ | k3)
            · exact ⟨k, k1, by omega, k3⟩
            · exact ⟨j, j1, by omega, k3⟩
        rw [st]
        by_cases a1 : y = 1
        · rw [if_pos (Or.inl a1)]
          exact ⟨fun _ => (hy.mp a1).elim Or.inl (fun z => Or.inr (Or.inl z)), fun _ => rfl⟩
        · by_cases a2 : w = 1
          · rw [if_pos (Or.inr a2)]
            exact ⟨fun _ => Or.inr (Or.inr (hw.mp a2)), fun _ => rfl⟩
          · rw [if_neg (by omega)]
            refine ⟨fun z => absurd z (by decide), fun z => ?_⟩
            rcases z with z | z | z
            · exact absurd (hy.mpr (Or.inl z)) a1
            · exact absurd (hy.mpr (Or.inr z)) a1
            · exact absurd (hw.mpr z) a2
      exact ok_if (fun u => sev 1 (Or.inr rfl) ⟨fun _ => u, fun _ => rfl⟩) (fun u => sev 0 (Or.inl rfl) ⟨fun z => absurd z (by decide), fun z => absurd z u⟩)
  intro g hg
  refine key _ g 0 y0 rfl (by omega) (by omega) (by omega) y01 ⟨fun z => Or.inl z, fun z => ?_⟩
  rcases z with z | ⟨k, k1, k2, -⟩
  · exact z
  · omega
theorem cel_fr (q : rdE h b n t) (qs : drS h S) (ws : sW S) : ok (f_X12_cellAtHand h) (fun _ h' => Fr (fun r _ k => r = 12 ∧ 28 ≤ k) h h') := by
  obtain ⟨⟨w1, w2, w3, w4⟩, -, -⟩ := ws
  refine fuv_X12_cellAtHand (fun m hm => ?_)
  refine s_X12_cellAtHand_0 (by omega) ?_
  unfold b_X12_cellAtHand_0
  refine ok_be (p_fr (k := 15) (by decide) (by decide) (by decide)) ?_
  rw [qs.1]
  refine ok_ck (by omega) (ok_bq (p_X12_numeral (lo := 0) (hi := S 0 0 - 1) q.1 q.2.1 (by omega)) ?_)
  intro v3 h4 z
  refine ok_be (p_fr (k := 16) (by decide) (by decide) (by decide)) ?_
  cases eN : numF b n 0 (S 0 0 - 1) t with
  | error e =>
    rw [eN] at z
    have f4 := fl_ft (h0 := h) fr_rf q z.2.1 z.2.2
    have z1 := z.1
    have c1 := f4.2 16 (by decide) (by decide)
    have c0 := f4.2 15 (by decide) (by decide)
    exact ok_ck (by omega) (ok_be (p_hand_f (ba_0 f4.1)) (ok_be (p_fr (k := 15) (by decide) (by decide) (by decide)) (ok_ck (by omega) (ok_ck (by omega) (ok_some (fr_mo z.2.1.1 (by intro r i k; omega)))))))
  | ok x =>
    rw [eN] at z
    obtain ⟨z1, f4, r4⟩ := z
    obtain ⟨-, x1, x2⟩ := num_ok eN
    have F4 : Fr (fun r _ k => r = 12 ∧ 28 ≤ k) h h4 := fr_mo f4 (by intro r i k; unfold ToW; omega)
    have f0 : gI h4 12 0 32 = 0 := (f4.1 12 0 32 (by unfold ToW; omega)).trans q.2.1
    rw [f4.1 61 0 16 (by unfold ToW; omega), qs.2.1]
    refine ok_ck (by omega) (ok_bq (p_X12_hand (lo := 0) (hi := S 1 0 - 1) r4 f0 (by omega)) ?_)
    intro v7 h8 z8
    refine ok_be (p_fr (k := 15) (by decide) (by decide) (by decide)) ?_
    cases eM : numF b n 0 (S 1 0 - 1) (t + 1) with
    | error e =>
      rw [eM] at z8
      have F8 : Fr (fun r _ k => r = 12 ∧ 28 ≤ k) h4 h8 := fr_mo z8.2.1.1 (by intro r i k; omega)
      have e15 : gI h8 61 0 15 = S 0 0 := (F8.1 61 0 15 (by omega)).trans ((F4.1 61 0 15 (by omega)).trans qs.1)
      have z81 := z8.1
      rw [z81, e15]
      exact ok_ck (by omega) (ok_ck (by omega) (ok_some (fr_tr F4 F8)))
    | ok y =>
      rw [eM] at z8
      obtain ⟨-, y1, y2⟩ := num_ok eM
      have cm := cel_m (W := S 0 0) (H := S 1 0) ⟨w1, w2, w3, w4⟩ x1 x2 y1 y2
      rw [z8.1, z8.2, (F4.1 61 0 15 (by omega)), qs.1]
      exact ok_ck (by omega) (ok_ck (by omega) (ok_some F4))
/-- the cell, with what it leaves even behind a fault -/
theorem r_cel_h (F0 : Fr TxR h0 h) (q : rdE h b n t) (qs : drS h S) (ws : sW S) : ok (f_X12_cellAtHand h) (fun r h' => endX (celF b n S t) (ftR h0 h') (fun x => r = x ∧ Fr ToW h h' ∧ Fr TxR h0 h' ∧ rdE h' b n (t + 1) ∧ cellP (S 0 0) (S 1 0) x ∧ x < 64) ∧ ∀ (r : Nat) (k : Int), r ≠ 12 ∨ k < 28 → gI h' r 0 k = gI h r 0 k) := by
  obtain ⟨v, h', ev, z⟩ := r_cel (h0 := h0) F0 q qs ws
  refine ⟨v, h', ev, z, ?_⟩
  obtain ⟨v2, h2, ev2, f⟩ := cel_fr q qs ws
  rw [ev] at ev2
  injection ev2 with e1
  injection e1 with e2 e3
  intro r k d
  rw [e3]
  exact f.1 r 0 k (by omega)
theorem r_land (F0 : Fr TxR h0 h) (q : rdE h b n t) (qs : drS h S) (ws : sW S) (s20 : S 5 0 < 20) (qi : drI h I) (i0 : 0 ≤ I 0 0) (i3 : I 0 0 ≤ 3) (qw : drW h W2) (w2 : W2 2 = W 2) (w3 : W2 3 = W 3) : ok (f_X12_landLine h) (fun _ h' => endX (exB (celF b n S t) fun c => if S 2 c = 1 then .error (3, (tkP b n (t + 1) : Int)) else @ite _ (onL W S I c) (Classical.propDecidable _) (.error (5, (tkP b n (t + 1) : Int))) (.ok (W2, ud (ud S 2 c 1) 5 0 (S 5 0 + 1), t + 2))) (baR h0 h') (fun a => Fr RSe h h' ∧ Fr TxR h0 h' ∧ rdE h' b n a.2.2 ∧ drS h' a.2.1 ∧ a.1 = W2)) := by
  have ws' := ws
  obtain ⟨⟨wa, wb, wc, wd⟩, wl, w5, w6⟩ := ws
  -- the three tests, whatever the heap: h1 is a heap as h but for token and fault
  have tests : ∀ (g : Nat) (x : Int) (h1 : Hp) (Q : Int → Hp → Prop), 40 ≤ g → gI h1 61 0 18 = S 3 0 → gI h1 61 0 19 = S 4 0 → drI h1 I → drW h1 W2 → (∀ (g2 : Nat) (y : Int), 3 ≤ g2 → (y = 0 ∨ y = 1) → (y = 1 ↔ onL W S I x) → ok (if gI h1 12 0 32 = 0 then (if y = 0 then g_X12_landLine g2 8 [x] h1 else bd (f_X12_wrong 5 h1) fun _ h4 => g_X12_landLine g2 8 [x] h4) else g_X12_landLine g2 8 [x] h1) Q) → ok (g_X12_landLine g 1 [x] h1) Q := by
    intro g x h1 Q hg e3 e4 di dw k
    have five : ∀ (g2 : Nat) (y0 : Int), 25 ≤ g2 → (y0 = 0 ∨ y0 = 1) → (y0 = 1 ↔ ((W 2 = 1 ∧ S 3 0 = x) ∨ (W 3 = 1 ∧ S 4 0 = x))) → ok (g_X12_landLine g2 5 [x, y0] h1) Q := by
      intro g2 y0 hg2 y01 hy
      refine s_X12_landLine_5 (by omega) ?_
      unfold b_X12_landLine_5
      refine lan_loop (y0 := y0) di.1 i0 i3 (fun i i1 i2 => (di.2 i i1 i2).2.1) (fun g3 y hg3 yy hyy => k g3 y hg3 yy ?_) y01 _ (by omega)
      rw [hyy, hy]
      unfold onL nmP
      exact or_assoc
    have three : ∀ g2 : Nat, 26 ≤ g2 → ((W 2 = 1 ∧ S 3 0 = x) ∨ (W 3 = 1 ∧ S 4 0 = x)) → ok (g_X12_landLine g2 3 [x] h1) Q := by
      intro g2 hg2 z
      refine s_X12_landLine_3 (by omega) ?_
      unfold b_X12_landLine_3
      exact five _ 1 (by omega) (Or.inr rfl) ⟨fun _ => z, fun _ => rfl⟩
    have four : ∀ g2 : Nat, 26 ≤ g2 → ¬ ((W 2 = 1 ∧ S 3 0 = x) ∨ (W 3 = 1 ∧ S 4 0 = x)) → ok (g_X12_landLine g2 4 [x] h1) Q := by
      intro g2 hg2 z
      refine s_X12_landLine_4 (by omega) ?_
      unfold b_X12_landLine_4
      exact five _ 0 (by omega) (Or.inl rfl) ⟨fun y => absurd y (by decide), fun y => absurd y z⟩
    have two : ∀ g2 : Nat, 28 ≤ g2 → ¬ (W 2 = 1 ∧ S 3 0 = x) → ok (g_X12_landLine g2 2 [x] h1) Q := by
      intro g2 hg2 z
      refine s_X12_landLine_2 (by omega) ?_
      unfold b_X12_landLine_2
      refine ok_be (p12_isTold (w := 3) dw (by decide) (by decide) (by decide)) (ok_if (fun u => ?_) (fun u => ok_be (p_fr (k := 19) (by decide) (by decide) (by decide)) ?_))
      · have u := b2i_0.mp u
        rw [w3] at u
        exact four _ (by omega) (fun y => y.elim z (fun y2 => u y2.1))
      · have u := b2i_n.mp u
        rw [w3] at u
        rw [e4]
        exact ok_if (fun y => three _ (by omega) (Or.inr ⟨u, y⟩)) (fun y => four _ (by omega) (fun y2 => y2.elim z (fun y3 => y y3.2)))
    refine s_X12_landLine_1 (by omega) ?_
    unfold b_X12_landLine_1
    refine ok_be (p12_isTold (w := 2) dw (by decide) (by decide) (by decide)) (ok_if (fun u => ?_) (fun u => ok_be (p_fr (k := 18) (by decide) (by decide) (by decide)) ?_))
    · have u := b2i_0.mp u
      rw [w2] at u
      exact two _ (by omega) (fun y => u y.1)
    · have u := b2i_n.mp u
      rw [w2] at u
      rw [e3]
      exact ok_if (fun y => three _ (by omega) (Or.inl ⟨u, y⟩)) (fun y => two _ (by omega) (fun y2 => y y2.2))
  -- behind a fault
  have flt : ∀ (g : Nat) (x : Int) (h1 : Hp) (e : Int × Int), 40 ≤ g → ftR h0 h1 e → gI h1 61 0 18 = S 3 0 → gI h1 61 0 19 = S 4 0 → drI h1 I → drW h1 W2 → ok (g_X12_landLine g 1 [x] h1) (fun _ h' => baR h0 h' e) := by
    intro g x h1 e hg f e3 e4 di dw
    refine tests g x h1 _ hg e3 e4 di dw (fun g2 y hg2 _ _ => ok_f (ba_0 f.1) ?_)
    refine s_X12_landLine_8 (by omega) ?_
    unfold b_X12_landLine_8
    exact ok_f (ba_0 f.1) (ok_some f.1)
  refine fuv_X12_landLine (fun m hm => ?_)
  refine s_X12_landLine_0 (by omega) ?_
  unfold b_X12_landLine_0
  refine ok_bq (r_cel_h F0 q qs ws') ?_
  intro v1 h2 z
  have c2 := z.2
  have z := z.1
  have di2 : drI h2 I := drI_e (c2 61 20 (by omega)) (fun r k r1 r2 => c2 r k (by omega)) qi
  have dw2 : drW h2 W2 := drW_e (c2 12 25 (by omega)) qw
  have e3 : gI h2 61 0 18 = S 3 0 := (c2 61 18 (by omega)).trans qs.2.2.1
  have e4 : gI h2 61 0 19 = S 4 0 := (c2 61 19 (by omega)).trans qs.2.2.2.1
  cases eN : celF b n S t with
  | error e =>
    rw [eN] at z
    exact ok_f (ba_0 z.1) (flt _ _ h2 e (by omega) z e3 e4 di2 dw2)
  | ok x =>
    rw [eN] at z
    obtain ⟨z1, f2, G2, q2, cp, x6⟩ := z
    have x0 := cp.1
    show ok _ (fun _ h' => endX (if S 2 x = 1 then .error (3, (tkP b n (t + 1) : Int)) else @ite _ (onL W S I x) (Classical.propDecidable _) (.error (5, (tkP b n (t + 1) : Int))) (.ok (W2, ud (ud S 2 x 1) 5 0 (S 5 0 + 1), t + 2))) (baR h0 h') (fun a => Fr RSe h h' ∧ Fr TxR h0 h' ∧ rdE h' b n a.2.2 ∧ drS h' a.2.1 ∧ a.1 = W2))
    have e62 : gI h2 62 0 (64 + x) = S 2 x := (f2.1 62 0 _ (by unfold ToW; omega)).trans (qs.2.2.2.2.2 x x0 x6)
    rw [z1]
    refine ok_t q2.2.1 (ok_ck (by omega) (ok_ck (by omega) ?_))
    rw [e62]
    have wx := wl x x0 x6
    refine ok_if (fun u => ?_) (fun u => ?_)
    · rw [if_neg (show ¬ S 2 x = 1 by omega)]
      refine tests _ x h2 _ (by omega) e3 e4 di2 dw2 (fun g2 y hg2 yy hy => ok_t q2.2.1 ?_)
      refine ok_if (fun y0 => ?_) (fun y0 => ?_)
      · rw [if_neg (fun z => by have := hy.mpr z; omega : ¬ onL W S I x)]
        refine s_X12_landLine_8 (by omega) ?_
        unfold b_X12_landLine_8
        refine ok_t q2.2.1 (ok_ck (by omega) (ok_ck (by omega) (ok_lt (ok_be (p_fr (k := 17) (by decide) (by decide) (by decide)) ?_))))
        rw [gI_nr (show (61 : Nat) ≠ 62 by decide), f2.1 61 0 17 (by unfold ToW; omega), qs.2.2.2.2.1]
        refine ok_ck (by omega) (ok_be (p_rd (k := 17) (by decide) (by decide) (by decide)) ?_)
        have e5 : Fr (fun r _ k => (r = 62 ∧ k = 64 + x) ∨ (r = 61 ∧ k = 17)) h2 (sI (sI h2 62 0 (64 + x) 1) 61 0 17 (S 5 0 + 1)) := fr_sI (fr_sI fr_rf (by omega)) (by omega)
        have q5 : rdE (sI (sI h2 62 0 (64 + x) 1) 61 0 17 (S 5 0 + 1)) b n (t + 1) := rdE_w (by omega) (by omega) (rdE_v (by decide) q2)
        have g62 : gI (sI (sI h2 62 0 (64 + x) 1) 61 0 17 (S 5 0 + 1)) 62 0 (64 + x) = 1 := by rw [gI_nr (by decide), gI_eq]
        have g17 : gI (sI (sI h2 62 0 (64 + x) 1) 61 0 17 (S 5 0 + 1)) 61 0 17 = S 5 0 + 1 := gI_eq
        generalize sI (sI h2 62 0 (64 + x) 1) 61 0 17 (S 5 0 + 1) = h5 at e5 q5 g62 g17
        refine tR (fr_tr G2 (fr_mo e5 (by intro r i k; unfold TxR; omega))) q5 ?_
        intro _ h7 f7 G7 q7
        have FF : Fr (fun r _ k => (r = 12 ∧ 28 ≤ k ∧ k ≤ 31) ∨ (r = 62 ∧ k = 64 + x) ∨ (r = 61 ∧ k = 17)) h h7 := fr_tr (fr_mo f2 (by intro r i k; unfold ToW; omega)) (fr_tr (fr_mo e5 (by intro r i k; omega)) (fr_mo f7 (by intro r i k; unfold ToW; omega)))
        refine ok_some (eX_o ⟨fr_mo FF (by intro r i k; unfold RSe; omega), G7, q7, ⟨(FF.1 61 0 15 (by omega)).trans qs.1, (FF.1 61 0 16 (by omega)).trans qs.2.1, (FF.1 61 0 18 (by omega)).trans qs.2.2.1, (FF.1 61 0 19 (by omega)).trans qs.2.2.2.1, (f7.1 61 0 17 (by unfold ToW; omega)).trans g17, fun x' x1 x2 => ?_⟩, rfl⟩)
        show _ = (ud (ud S 2 x 1) 5 0 (S 5 0 + 1)) 2 x'
        rw [ud_nf (by decide)]
        by_cases y : x' = x
        · rw [y, ud_eq, f7.1 62 0 _ (by unfold ToW; omega)]; exact g62
        · rw [ud_nk y, FF.1 62 0 _ (by omega)]; exact qs.2.2.2.2.2 x' x1 x2
      · rw [if_pos (hy.mp (by omega))]
        refine wR G2 q2 (by decide) ?_
        intro _ h4 f4
        refine s_X12_landLine_8 (by omega) ?_
        unfold b_X12_landLine_8
        exact ok_f (ba_0 f4.1) (ok_some (eX_e f4.1))
    · rw [if_pos (show S 2 x = 1 by omega)]
      refine ok_bq (p_X12_wrong (x := 3) q2.1 q2.2.1) ?_
      intro _ h4 f4
      have c4 : ∀ (r : Nat) (k : Int), r ≠ 12 ∨ k < 32 → gI h4 r 0 k = gI h2 r 0 k := fun r k z => f4.1.1 r 0 k (by omega)
      exact flt _ _ h4 (3, (tkP b n (t + 1) : Int)) (by omega) (fl_ft G2 q2 f4 (by show (3 : Int) ≠ 0; decide)) ((c4 61 18 (by omega)).trans e3) ((c4 61 19 (by omega)).trans e4) (drI_e (c4 61 20 (by omega)) (fun r k r1 r2 => c4 r k (by omega)) di2) (drW_e (c4 12 25 (by omega)) dw2)
end
