/-! THE REFERENCE, 4: a meal -/
def tpS (f : Int → Int) : Nat → Int
  | 0 => -1
  | n + 1 => if 0 < f n ∧ (tpS f n = -1 ∨ f (tpS f n) < f n) then (n : Int) else tpS f n
theorem tpS_r {f : Int → Int} : ∀ n : Nat, -1 ≤ tpS f n ∧ tpS f n < n
  | 0 => by simp [tpS]
  | n + 1 => by
    have := tpS_r (f := f) n
    unfold tpS
    split <;> omega
theorem tpS_w {f : Int → Int} {w : Int} (w1 : 0 ≤ w) : ∀ n : Nat, (tpS f n = -1 ∧ wnS w f n = (w, 0)) ∨ (¬ tpS f n = -1 ∧ wnS w f n = (tpS f n, f (tpS f n)) ∧ 0 < f (tpS f n))
  | 0 => Or.inl ⟨rfl, rfl⟩
  | n + 1 => by
    have e1 : tpS f (n + 1) = if 0 < f n ∧ (tpS f n = -1 ∨ f (tpS f n) < f n) then (n : Int) else tpS f n := rfl
    have e2 : wnS w f (n + 1) = if (wnS w f n).2 < f n then ((n : Int), f n) else wnS w f n := rfl
    rcases tpS_w (f := f) w1 n with ⟨a, b⟩ | ⟨a, b, c⟩
    · rw [e1, e2, b]
      by_cases y : 0 < f n
      · rw [if_pos ⟨y, Or.inl a⟩, if_pos y]
        exact Or.inr ⟨by omega, rfl, y⟩
      · rw [if_neg (fun z => y z.1), if_neg y]
        exact Or.inl ⟨a, rfl⟩
    · rw [e1, e2, b]
      by_cases y : f (tpS f n) < f n
      · rw [if_pos ⟨by omega, Or.inr y⟩, if_pos y]
        exact Or.inr ⟨by omega, rfl, by omega⟩
      · rw [if_neg (fun z => by rcases z.2 with z | z; exact a z; exact y z), if_neg y]
        exact Or.inr ⟨a, rfl, c⟩
def PaW (C V : Ch) (s : Int) : Nat → Int → Int → Prop := fun r _ k => r = 98 ∨ r = 99 ∨ r = 100 ∨ r = 101 ∨ r = 102 ∨ (r = 12 ∧ (k = 60 ∨ k = 64)) ∨ (k = s ∧ (r = 84 ∨ r = 85 ∨ r = 86 ∨ r = 87 ∨ r = 88)) ∨ ((r = 91 ∨ r = 92) ∧ 9 * s ≤ k ∧ k < 9 * s + 9 ∧ thP C (k - 9 * s)) ∨ (93 ≤ r ∧ r ≤ 97 ∧ k = 60 * s + V 0 0)
theorem paw_R {C V : Ch} {s : Int} : ∀ (r : Nat) (k : Int), 61 ≤ r → r ≤ 83 → ¬ PaW C V s r 0 k := by intro r k a b; unfold PaW; omega
section
variable {h : Hp} {s m i x k p tw ta a b : Int} {C V : Ch} {F : Int → Int} {st : Bool}
theorem p_X12_draw (s1 : 0 ≤ s) (s2 : s < 23) (p1 : 0 < p) : f_X12_draw s p h = some (lcg (gI h 87 0 s) / 65536 % p, sI h 87 0 s (lcg (gI h 87 0 s))) := by
  refine ok_eq.mp ?_
  refine fuv_X12_draw (fun nFU hFU => ?_)
  refine s_X12_draw_0 (by first | omega | decide) ?_
  unfold b_X12_draw_0
  have e : band (w32 (w32 (gI h 87 0 s * 1103515245) + 12345)) 2147483647 = lcg (gI h 87 0 s) := by
    rw [band31, w32_m]
    have := w32_m (gI h 87 0 s * 1103515245)
    unfold lcg
    omega
  have r := lcg_r (gI h 87 0 s)
  have e2 : bshr (lcg (gI h 87 0 s)) 16 = lcg (gI h 87 0 s) / 65536 := bshr_d (by omega) 16 (by first | omega | decide)
  rw [e]
  refine ok_ck (by omega) (ok_ck (by omega) (ok_lt ?_))
  rw [gI_eq, e2]
  exact ok_ck (by omega) (ok_ck (by omega) (ok_some ⟨rfl, rfl⟩))
theorem p_X12_top {f : Int → Int} (hvt : ∀ c, 0 ≤ c → c < 4 → gI h 102 0 c = f c) : f_X12_top h = some (tpS f 4, h) := by
  have key : ∀ (t n : Nat) (b x : Int) (a : Nat), 4 - a = t → a ≤ 4 → x = (a : Int) → 4 * t + 4 ≤ n → b = tpS f a → ok (g_X12_top n 1 [b, x] h) (fun r h' => r = tpS f 4 ∧ h' = h) := by
    intro t
    induction t with
    | zero =>
      intro n b x a ht ha hx' hn hb
      have e : a = 4 := by omega
      subst e
      refine s_X12_top_1 (by omega) ?_
      unfold b_X12_top_1
      exact ok_t (by omega) (ok_some ⟨hb, rfl⟩)
    | succ t ih =>
      intro n b x a ht ha hx' hn hb
      subst hx'
      have e1 : tpS f (a + 1) = if 0 < f a ∧ (tpS f a = -1 ∨ f (tpS f a) < f a) then (a : Int) else tpS f a := rfl
      have tr := tpS_r (f := f) a
      have next : ∀ (m' : Nat) (b' : Int), 4 * t + 5 ≤ m' → b' = tpS f (a + 1) → ok (g_X12_top m' 3 [b', (a : Int)] h) (fun r h' => r = tpS f 4 ∧ h' = h) := by
        intro m' b' q1 q2
        refine s_X12_top_3 (by omega) ?_
        unfold b_X12_top_3
        exact ok_ck (by omega) (ih _ _ _ (a + 1) (by omega) (by omega) (by omega) (by omega) q2)
      have two : ∀ (m' : Nat), 4 * t + 6 ≤ m' → (0 < f a ∧ (tpS f a = -1 ∨ f (tpS f a) < f a)) → ok (g_X12_top m' 2 [(a : Int)] h) (fun r h' => r = tpS f 4 ∧ h' = h) := by
        intro m' q1 q2
        refine s_X12_top_2 (by omega) ?_
        unfold b_X12_top_2
        exact next _ _ (by omega) (by rw [e1, if_pos q2])
      refine s_X12_top_1 (by omega) ?_
      unfold b_X12_top_1
      rw [hvt a (by omega) (by omega)]
      refine ok_f (by omega) (ok_ck (by omega) (ok_if (fun y => next _ _ (by omega) (by rw [e1, if_neg (fun z => by have := z.1; omega)]; exact hb)) (fun y => ok_if (fun y2 => two _ (by omega) ⟨by omega, Or.inl (by rw [← hb]; exact y2)⟩) (fun y2 => ok_ck (by omega) (ok_ck (by omega) ?_)))))
      rw [hvt b (by omega) (by omega)]
      refine ok_if (fun y3 => next _ _ (by omega) (by rw [e1, if_neg (fun z => by rw [← hb] at z; rcases z.2 with z | z; exact y2 z; omega)]; exact hb)) (fun y3 => two _ (by omega) ⟨by omega, Or.inr (by rw [← hb]; omega)⟩)
  refine ok_eq.mp ?_
  refine fuv_X12_top (fun nFU hFU => ?_)
  refine s_X12_top_0 (by first | omega | decide) ?_
  unfold b_X12_top_0
  exact key 4 _ _ _ 0 (by omega) (by omega) (by omega) (by omega) rfl
set_option maxHeartbeats 8000000 in
theorem p_X12_passes {h0 : Hp} (q0 : isR h0 C) (w : CW C) (hs0 : isS C h0 s V) (vw : VW C V) (hm : V 0 0 < 60) (hr0 : gI h0 87 0 s = V 3 0) (ht0 : isT C h0 tw ta) (hst : gI h0 12 0 57 = if st then 1 else 0) (s1 : 0 ≤ s) (s2 : s < 3) (hf : ∀ i, 0 ≤ i → i < C 20 0 → bit (gI h0 89 0 s) i = F i) : ok (f_X12_passes s h0) (fun _ h' => Fr (PaW C V s) h0 h' ∧ isS C h' s (hdV C V tw ta F st) ∧ gI h' 87 0 s = rnF C V tw st ∧ gI h' 12 0 64 = eaF C V tw ta F ∧ gI h' 93 0 (60 * s + V 0 0) = wnr C V tw ta F st ∧ gI h' 94 0 (60 * s + V 0 0) = eaF C V tw ta F ∧ gI h' 95 0 (60 * s + V 0 0) = ctF C V (wnr C V tw ta F st) ∧ gI h' 96 0 (60 * s + V 0 0) = stF C V tw st ∧ gI h' 97 0 (60 * s + V 0 0) = gI h0 89 0 s) := by
  have ez := sz_r w
  have vm := vw_m vw
  have vs := vw_s vw
  have er := eaF_r (tw := tw) (ta := ta) (F := F) w vw
  have kr := wnr_r (tw := tw) (ta := ta) (F := F) (st := st) w vw
  have hmul := sea_mul (cw_W w)
  obtain ⟨k, hk⟩ : ∃ k, wnr C V tw ta F st = k := ⟨_, rfl⟩
  rw [hk] at kr
  have isS_ex : ∀ (H : Hp), gI H 84 0 s = V 0 0 + 1 → gI H 85 0 s = ctF C V k → gI H 86 0 s = (if tw = 4 then V 2 0 else V 2 0 - eaF C V tw ta F) → gI H 90 0 s = V 5 0 → gI H 88 0 s = (if V 7 0 = -1 ∧ ctF C V k = C 4 0 then V 0 0 + 1 else V 7 0) → (∀ i, 0 ≤ i → i < sz C → gI H 91 0 (9 * s + sl C i) = loF C V tw ta F k i) → (∀ i, 0 ≤ i → i < sz C → gI H 92 0 (9 * s + sl C i) = leF C V tw ta F k i) → isS C H s (hdV C V tw ta F st) := by
    intro H y0 y1 y2 y5 y7 y8 y6
    unfold hdV
    rw [hk]
    exact ⟨y0, y1, y2, y5, y7, y8, y6⟩
  have k7 : ∀ (n : Nat) (h : Hp), 5 ≤ n → Fr (PaW C V s) h0 h → gI h 84 0 s = V 0 0 → gI h 85 0 s = ctF C V k → gI h 86 0 s = (if tw = 4 then V 2 0 else V 2 0 - eaF C V tw ta F) → gI h 88 0 s = V 7 0 → (∀ i, 0 ≤ i → i < sz C → gI h 91 0 (9 * s + sl C i) = loF C V tw ta F k i) → (∀ i, 0 ≤ i → i < sz C → gI h 92 0 (9 * s + sl C i) = leF C V tw ta F k i) → gI h 87 0 s = rnF C V tw st → gI h 12 0 64 = eaF C V tw ta F → ok (g_X12_passes n 7 [s, V 0 0, stF C V tw st, k] h) (fun _ h' => Fr (PaW C V s) h0 h' ∧ isS C h' s (hdV C V tw ta F st) ∧ gI h' 87 0 s = rnF C V tw st ∧ gI h' 12 0 64 = eaF C V tw ta F ∧ gI h' 93 0 (60 * s + V 0 0) = wnr C V tw ta F st ∧ gI h' 94 0 (60 * s + V 0 0) = eaF C V tw ta F ∧ gI h' 95 0 (60 * s + V 0 0) = ctF C V (wnr C V tw ta F st) ∧ gI h' 96 0 (60 * s + V 0 0) = stF C V tw st ∧ gI h' 97 0 (60 * s + V 0 0) = gI h0 89 0 s) := by
    intro n h hn hF f0 f1 f2 f7 g1 g2 f3 f64
    have f5 : gI h 90 0 s = V 5 0 := (hF.1 90 0 s (by unfold PaW; omega)).trans (is_5 hs0)
    have f89 : gI h 89 0 s = gI h0 89 0 s := hF.1 89 0 s (by unfold PaW; omega)
    have q := isR_fr hF paw_R q0
    have e4 := ir_4 q
    refine s_X12_passes_7 (by omega) ?_
    unfold b_X12_passes_7
    refine ok_ck (by omega) (ok_ck (by omega) (ok_ck (by omega) (ok_lt (ok_ck (by omega) (ok_ck (by omega) (ok_ck (by omega) (ok_lt (ok_ck (by omega) (ok_ck (by omega) (ok_ck (by omega) (ok_ck (by omega) (ok_lt (ok_ck (by omega) (ok_ck (by omega) (ok_ck (by omega) (ok_lt (ok_ck (by omega) (ok_ck (by omega) (ok_ck (by omega) (ok_ck (by omega) (ok_lt ?_)))))))))))))))))))))
    simp only [gI_nr (show (12 : Nat) ≠ 93 by decide), gI_nr (show (85 : Nat) ≠ 93 by decide), gI_nr (show (85 : Nat) ≠ 94 by decide), gI_nr (show (89 : Nat) ≠ 93 by decide), gI_nr (show (89 : Nat) ≠ 94 by decide), gI_nr (show (89 : Nat) ≠ 95 by decide), gI_nr (show (89 : Nat) ≠ 96 by decide), f64, f1, f89]
    generalize hH : sI (sI (sI (sI (sI h 93 0 (60 * s + V 0 0) k) 94 0 (60 * s + V 0 0) (eaF C V tw ta F)) 95 0 (60 * s + V 0 0) (ctF C V k)) 96 0 (60 * s + V 0 0) (stF C V tw st)) 97 0 (60 * s + V 0 0) (gI h0 89 0 s) = H
    have HF : Fr (PaW C V s) h0 H := by
      rw [← hH]
      repeat (first | exact hF | refine fr_sI ?_ (by unfold PaW; omega))
    have oth : ∀ (r : Nat) (k : Int), r < 93 → gI H r 0 k = gI h r 0 k := by
      intro r k hr
      rw [← hH, gI_nr (by omega), gI_nr (by omega), gI_nr (by omega), gI_nr (by omega), gI_nr (by omega)]
    have l93 : gI H 93 0 (60 * s + V 0 0) = k := by rw [← hH, gI_nr (by decide), gI_nr (by decide), gI_nr (by decide), gI_nr (by decide), gI_eq]
    have l94 : gI H 94 0 (60 * s + V 0 0) = eaF C V tw ta F := by rw [← hH, gI_nr (by decide), gI_nr (by decide), gI_nr (by decide), gI_eq]
    have l95 : gI H 95 0 (60 * s + V 0 0) = ctF C V k := by rw [← hH, gI_nr (by decide), gI_nr (by decide), gI_eq]
    have l96 : gI H 96 0 (60 * s + V 0 0) = stF C V tw st := by rw [← hH, gI_nr (by decide), gI_eq]
    have l97 : gI H 97 0 (60 * s + V 0 0) = gI h0 89 0 s := by rw [← hH, gI_eq]
    clear hH
    have h84 : gI H 84 0 s = V 0 0 := (oth 84 s (by decide)).trans f0
    rw [h84]
    refine ok_ck (by omega) (ok_ck (by omega) (ok_ck (by omega) (ok_lt (ok_ck (by omega) ?_))))
    have F2 : Fr (PaW C V s) h0 (sI H 84 0 s (V 0 0 + 1)) := fr_sI HF (by unfold PaW; omega)
    simp only [gI_nr (show (88 : Nat) ≠ 84 by decide), gI_nr (show (85 : Nat) ≠ 84 by decide), gI_nr (show (61 : Nat) ≠ 84 by decide), oth 88 s (by decide), oth 85 s (by decide), oth 61 4 (by decide), f7, f1, e4, gI_eq]
    have fin : ∀ (H2 : Hp), Fr (PaW C V s) h0 H2 → (∀ (r : Nat) (k : Int), r ≠ 84 → r ≠ 88 → gI H2 r 0 k = gI H r 0 k) → gI H2 84 0 s = V 0 0 + 1 → gI H2 88 0 s = (if V 7 0 = -1 ∧ ctF C V k = C 4 0 then V 0 0 + 1 else V 7 0) → ok (some ((0 : Int), H2)) (fun _ h' => Fr (PaW C V s) h0 h' ∧ isS C h' s (hdV C V tw ta F st) ∧ gI h' 87 0 s = rnF C V tw st ∧ gI h' 12 0 64 = eaF C V tw ta F ∧ gI h' 93 0 (60 * s + V 0 0) = wnr C V tw ta F st ∧ gI h' 94 0 (60 * s + V 0 0) = eaF C V tw ta F ∧ gI h' 95 0 (60 * s + V 0 0) = ctF C V (wnr C V tw ta F st) ∧ gI h' 96 0 (60 * s + V 0 0) = stF C V tw st ∧ gI h' 97 0 (60 * s + V 0 0) = gI h0 89 0 s) := by
      intro H2 z1 z2 z3 z4
      have o2 : ∀ (r : Nat) (k : Int), r < 93 → r ≠ 84 → r ≠ 88 → gI H2 r 0 k = gI h r 0 k := fun r k a b c => (z2 r k b c).trans (oth r k a)
      refine ok_some ⟨z1, isS_ex H2 z3 ((o2 85 s (by decide) (by decide) (by decide)).trans f1) ((o2 86 s (by decide) (by decide) (by decide)).trans f2) ((o2 90 s (by decide) (by decide) (by decide)).trans f5) z4 (fun i i1 i2 => (o2 91 _ (by decide) (by decide) (by decide)).trans (g1 i i1 i2)) (fun i i1 i2 => (o2 92 _ (by decide) (by decide) (by decide)).trans (g2 i i1 i2)), (o2 87 s (by decide) (by decide) (by decide)).trans f3, (o2 12 64 (by decide) (by decide) (by decide)).trans f64, ?_, ?_, ?_, ?_, ?_⟩
      · rw [z2 93 _ (by decide) (by decide), l93, hk]
      · rw [z2 94 _ (by decide) (by decide), l94]
      · rw [z2 95 _ (by decide) (by decide), l95, hk]
      · rw [z2 96 _ (by decide) (by decide), l96]
      · rw [z2 97 _ (by decide) (by decide), l97]
    refine ok_if (fun y => ok_ck (by omega) (ok_ck (by omega) (ok_if (fun y2 => ok_ck (by omega) (ok_ck (by omega) (ok_lt ?_))) (fun y2 => ?_)))) (fun y => ?_)
    · refine fin _ (fr_sI F2 (by unfold PaW; omega)) (fun r k a b => by rw [gI_nr b, gI_nr a]) ?_ ?_
      · rw [gI_nr (by decide), gI_eq]
      · rw [gI_eq, if_pos ⟨y, y2⟩]
    · refine fin _ F2 (fun r k a b => gI_nr a) gI_eq ?_
      rw [gI_nr (by decide), oth 88 s (by decide), f7, if_neg (fun z => y2 z.2)]
    · refine fin _ F2 (fun r k a b => gI_nr a) gI_eq ?_
      rw [gI_nr (by decide), oth 88 s (by decide), f7, if_neg (fun z => y z.1)]
  have k4 : ∀ (t n : Nat) (h : Hp) (x : Int), (9 - x).toNat = t → 0 ≤ x → x ≤ 9 → 4 * t + 10 ≤ n → Fr (PaW C V s) h0 h → gI h 84 0 s = V 0 0 → gI h 85 0 s = ctF C V k → gI h 86 0 s = V 2 0 → gI h 88 0 s = V 7 0 → (∀ m, 0 ≤ m → m < 9 → gI h 101 0 m = chF C V tw ta F m) → (∀ i, 0 ≤ i → i < sz C → gI h 91 0 (9 * s + sl C i) = (if sl C i < x then loF C V tw ta F k i else V 8 i) ∧ gI h 92 0 (9 * s + sl C i) = (if sl C i < x then leF C V tw ta F k i else V 6 i)) → gI h 87 0 s = rnF C V tw st → gI h 12 0 64 = eaF C V tw ta F → gI h 12 0 55 = tw → ok (g_X12_passes n 4 [s, V 0 0, stF C V tw st, k, x] h) (fun _ h' => Fr (PaW C V s) h0 h' ∧ isS C h' s (hdV C V tw ta F st) ∧ gI h' 87 0 s = rnF C V tw st ∧ gI h' 12 0 64 = eaF C V tw ta F ∧ gI h' 93 0 (60 * s + V 0 0) = wnr C V tw ta F st ∧ gI h' 94 0 (60 * s + V 0 0) = eaF C V tw ta F ∧ gI h' 95 0 (60 * s + V 0 0) = ctF C V (wnr C V tw ta F st) ∧ gI h' 96 0 (60 * s + V 0 0) = stF C V tw st ∧ gI h' 97 0 (60 * s + V 0 0) = gI h0 89 0 s) := by
    intro t
    induction t with
    | zero =>
      intro n h x ht x1 x2 hn hF f0 f1 f2 f7 hch g1 f3 f64 f55
      have e9 : x = 9 := by omega
      subst e9
      have g8 : ∀ i, 0 ≤ i → i < sz C → gI h 91 0 (9 * s + sl C i) = loF C V tw ta F k i := fun i i1 i2 => by rw [(g1 i i1 i2).1, if_pos (sl_r w i1 i2).2.1]
      have g6 : ∀ i, 0 ≤ i → i < sz C → gI h 92 0 (9 * s + sl C i) = leF C V tw ta F k i := fun i i1 i2 => by rw [(g1 i i1 i2).2, if_pos (sl_r w i1 i2).2.1]
      refine s_X12_passes_4 (by omega) ?_
      unfold b_X12_passes_4
      rw [f55, f2, f64]
      refine ok_t (by omega) (ok_if (fun y => k7 _ _ (by omega) hF f0 f1 (by rw [f2, if_pos y]) f7 g8 g6 f3 f64) (fun y => ok_ck (by omega) (ok_ck (by omega) (ok_ck (by omega) (ok_lt (k7 _ _ (by omega) (fr_sI hF (by unfold PaW; omega)) (by rw [gI_nr (by decide)]; exact f0) (by rw [gI_nr (by decide)]; exact f1) (by rw [gI_eq, if_neg y]) (by rw [gI_nr (by decide)]; exact f7) (fun i i1 i2 => by rw [gI_nr (by decide)]; exact g8 i i1 i2) (fun i i1 i2 => by rw [gI_nr (by decide)]; exact g6 i i1 i2) (by rw [gI_nr (by decide)]; exact f3) (by rw [gI_nr (by decide)]; exact f64)))))))
    | succ t ih =>
      intro n h x ht x1 x2 hn hF f0 f1 f2 f7 hch g1 f3 f64 f55
      have q := isR_fr hF paw_R q0
      have next : ∀ (m' : Nat) (h' : Hp), 4 * t + 11 ≤ m' → Fr (PaW C V s) h0 h' → (∀ (r : Nat) (j k : Int), r ≠ 91 → r ≠ 92 → gI h' r j k = gI h r j k) → (∀ k, k ≠ 9 * s + x → gI h' 91 0 k = gI h 91 0 k ∧ gI h' 92 0 k = gI h 92 0 k) → (∀ i, 0 ≤ i → i < sz C → sl C i = x → gI h' 91 0 (9 * s + x) = loF C V tw ta F k i ∧ gI h' 92 0 (9 * s + x) = leF C V tw ta F k i) → ok (g_X12_passes m' 6 [s, V 0 0, stF C V tw st, k, x] h') (fun _ h' => Fr (PaW C V s) h0 h' ∧ isS C h' s (hdV C V tw ta F st) ∧ gI h' 87 0 s = rnF C V tw st ∧ gI h' 12 0 64 = eaF C V tw ta F ∧ gI h' 93 0 (60 * s + V 0 0) = wnr C V tw ta F st ∧ gI h' 94 0 (60 * s + V 0 0) = eaF C V tw ta F ∧ gI h' 95 0 (60 * s + V 0 0) = ctF C V (wnr C V tw ta F st) ∧ gI h' 96 0 (60 * s + V 0 0) = stF C V tw st ∧ gI h' 97 0 (60 * s + V 0 0) = gI h0 89 0 s) := by
        intro m' h' z1 z2 z3 z4 z5
        refine s_X12_passes_6 (by omega) ?_
        unfold b_X12_passes_6
        refine ok_ck (by omega) (ih _ _ _ (by omega) (by omega) (by omega) (by omega) z2 (by rw [z3 _ _ _ (by decide) (by decide)]; exact f0) (by rw [z3 _ _ _ (by decide) (by decide)]; exact f1) (by rw [z3 _ _ _ (by decide) (by decide)]; exact f2) (by rw [z3 _ _ _ (by decide) (by decide)]; exact f7) (fun m m1 m2 => by rw [z3 _ _ _ (by decide) (by decide)]; exact hch m m1 m2) (fun i i1 i2 => ?_) (by rw [z3 _ _ _ (by decide) (by decide)]; exact f3) (by rw [z3 _ _ _ (by decide) (by decide)]; exact f64) (by rw [z3 _ _ _ (by decide) (by decide)]; exact f55))
        by_cases y : sl C i = x
        · rw [y, if_pos (by omega), if_pos (by omega)]; exact z5 i i1 i2 y
        · obtain ⟨u1, u2⟩ := z4 (9 * s + sl C i) (by omega)
          obtain ⟨u3, u4⟩ := g1 i i1 i2
          rw [u1, u2, u3, u4]
          by_cases y2 : sl C i < x
          · rw [if_pos y2, if_pos y2, if_pos (by omega), if_pos (by omega)]; exact ⟨rfl, rfl⟩
          · rw [if_neg y2, if_neg y2, if_neg (by omega), if_neg (by omega)]; exact ⟨rfl, rfl⟩
      refine s_X12_passes_4 (by omega) ?_
      unfold b_X12_passes_4
      rw [hch x x1 (by omega)]
      refine ok_f (by omega) (ok_ck (by omega) (ok_if (fun y => next _ _ (by omega) hF (fun _ _ _ _ _ => rfl) (fun _ _ => ⟨rfl, rfl⟩) (fun i i1 i2 z => ?_)) (fun y => ?_)))
      · have sr := sl_r w i1 i2
        have e : wi C V tw ta F i = -1 := by unfold chF at y; rw [← z, if_pos sr.2.2.1, sr.2.2.2] at y; exact y
        obtain ⟨u3, u4⟩ := g1 i i1 i2
        rw [z, if_neg (by omega)] at u3 u4
        rw [u3, u4]
        unfold loF leF
        rw [if_pos e, if_neg (fun q => q.1 e)]
        exact ⟨rfl, rfl⟩
      · have th : thP C x := by
          by_cases z : thP C x
          · exact z
          · unfold chF at y; rw [if_neg z] at y; exact absurd rfl y
        obtain ⟨i1, i2, i3⟩ := ix_r w x1 th
        have ec : chF C V tw ta F x = wi C V tw ta F (ix C x) := by unfold chF; rw [if_pos th]
        rw [ec] at y ⊢
        obtain ⟨u3, u4⟩ := g1 _ i1 i2
        rw [i3, if_neg (by omega)] at u3 u4
        obtain ⟨-, -, -, -, -, n6, -, -⟩ := ir_m q _ i1 i2
        rw [i3] at n6
        have lr := vw_o vw _ i1 i2
        have go5 : ∀ (m' : Nat) (y0 : Int), 4 * t + 12 ≤ m' → y0 = loF C V tw ta F k (ix C x) → ok (g_X12_passes m' 5 [s, V 0 0, stF C V tw st, k, x, 9 * s + x, y0, 9 * s + x] h) (fun _ h' => Fr (PaW C V s) h0 h' ∧ isS C h' s (hdV C V tw ta F st) ∧ gI h' 87 0 s = rnF C V tw st ∧ gI h' 12 0 64 = eaF C V tw ta F ∧ gI h' 93 0 (60 * s + V 0 0) = wnr C V tw ta F st ∧ gI h' 94 0 (60 * s + V 0 0) = eaF C V tw ta F ∧ gI h' 95 0 (60 * s + V 0 0) = ctF C V (wnr C V tw ta F st) ∧ gI h' 96 0 (60 * s + V 0 0) = stF C V tw st ∧ gI h' 97 0 (60 * s + V 0 0) = gI h0 89 0 s) := by
          intro m' y0 z1 z2
          refine s_X12_passes_5 (by omega) ?_
          unfold b_X12_passes_5
          have th2 : thP C (9 * s + x - 9 * s) := by rw [show 9 * s + x - 9 * s = x by omega]; exact th
          have F1 : Fr (PaW C V s) h0 (sI h 91 0 (9 * s + x) y0) := fr_sI hF (Or.inr (Or.inr (Or.inr (Or.inr (Or.inr (Or.inr (Or.inr (Or.inl ⟨Or.inl rfl, by omega, by omega, th2⟩))))))))
          have un : ∀ i, 0 ≤ i → i < sz C → sl C i = x → i = ix C x := fun i j1 j2 z => sl_inj w j1 j2 i1 i2 (z.trans i3.symm)
          refine ok_ck (by omega) (ok_lt ?_)
          rw [gI_eq, gI_nr (show (77 : Nat) ≠ 91 by decide), gI_nr (show (12 : Nat) ≠ 91 by decide), n6, f55]
          refine ok_ck (by omega) (ok_ck (by omega) (ok_if (fun z3 => next _ _ (by omega) F1 (fun r j k a b => gI_nr a) (fun k z => ⟨gI_nk z, gI_nr (by decide)⟩) (fun i j1 j2 z => ?_)) (fun z3 => ok_if (fun z4 => next _ _ (by omega) F1 (fun r j k a b => gI_nr a) (fun k z => ⟨gI_nk z, gI_nr (by decide)⟩) (fun i j1 j2 z => ?_)) (fun z4 => ok_ck (by omega) (ok_lt (next _ _ (by omega) (fr_sI F1 (Or.inr (Or.inr (Or.inr (Or.inr (Or.inr (Or.inr (Or.inr (Or.inl ⟨Or.inr rfl, by omega, by omega, th2⟩))))))))) (fun r j k a b => by rw [gI_nr b, gI_nr a]) (fun k z => ⟨by rw [gI_nr (by decide), gI_nk z], by rw [gI_nk z, gI_nr (by decide)]⟩) (fun i j1 j2 z => ?_)))))))
          · have e := un i j1 j2 z
            subst e
            rw [gI_eq, gI_nr (by decide), u4, z2]
            refine ⟨rfl, ?_⟩
            unfold leF
            rw [if_neg (fun q => by have := q.2.1; omega)]
          · have e := un i j1 j2 z
            subst e
            rw [gI_eq, gI_nr (by decide), u4, z2]
            refine ⟨rfl, ?_⟩
            unfold leF
            rw [if_neg (fun q => q.2.2 z4)]
          · have e := un i j1 j2 z
            subst e
            rw [gI_nr (by decide), gI_eq, gI_eq, z2]
            refine ⟨rfl, ?_⟩
            unfold leF
            rw [if_pos ⟨y, by omega, z4⟩]
        refine ok_ck (by omega) (ok_ck (by omega) (ok_lt ?_))
        rw [u3]
        refine ok_ck (by omega) (ok_if (fun y2 => go5 _ _ (by omega) ?_) (fun y2 => ok_ck (by omega) (ok_ck (by omega) (go5 _ _ (by omega) ?_))))
        · unfold loF; rw [if_neg y, if_pos y2]
        · unfold loF; rw [if_neg y, if_neg y2]
  have k2 : ∀ (n : Nat) (h : Hp), 100 ≤ n → Fr (PaW C V s) h0 h → gI h 84 0 s = V 0 0 → gI h 85 0 s = V 1 0 → gI h 86 0 s = V 2 0 → gI h 88 0 s = V 7 0 → (∀ m, 0 ≤ m → m < 9 → gI h 101 0 m = chF C V tw ta F m) → (∀ i, 0 ≤ i → i < sz C → gI h 91 0 (9 * s + sl C i) = V 8 i ∧ gI h 92 0 (9 * s + sl C i) = V 6 i) → gI h 87 0 s = rnF C V tw st → gI h 12 0 64 = eaF C V tw ta F → gI h 12 0 55 = tw → ok (g_X12_passes n 2 [s, V 0 0, stF C V tw st, k] h) (fun _ h' => Fr (PaW C V s) h0 h' ∧ isS C h' s (hdV C V tw ta F st) ∧ gI h' 87 0 s = rnF C V tw st ∧ gI h' 12 0 64 = eaF C V tw ta F ∧ gI h' 93 0 (60 * s + V 0 0) = wnr C V tw ta F st ∧ gI h' 94 0 (60 * s + V 0 0) = eaF C V tw ta F ∧ gI h' 95 0 (60 * s + V 0 0) = ctF C V (wnr C V tw ta F st) ∧ gI h' 96 0 (60 * s + V 0 0) = stF C V tw st ∧ gI h' 97 0 (60 * s + V 0 0) = gI h0 89 0 s) := by
    intro n h hn hF f0 f1 f2 f7 hch g1 f3 f64 f55
    have q := isR_fr hF paw_R q0
    have go3 : ∀ (m' : Nat) (h' : Hp), 60 ≤ m' → Fr (PaW C V s) h0 h' → (∀ (r : Nat) (k : Int), r ≠ 85 → gI h' r 0 k = gI h r 0 k) → gI h' 85 0 s = ctF C V k → ok (g_X12_passes m' 3 [s, V 0 0, stF C V tw st, k] h') (fun _ h' => Fr (PaW C V s) h0 h' ∧ isS C h' s (hdV C V tw ta F st) ∧ gI h' 87 0 s = rnF C V tw st ∧ gI h' 12 0 64 = eaF C V tw ta F ∧ gI h' 93 0 (60 * s + V 0 0) = wnr C V tw ta F st ∧ gI h' 94 0 (60 * s + V 0 0) = eaF C V tw ta F ∧ gI h' 95 0 (60 * s + V 0 0) = ctF C V (wnr C V tw ta F st) ∧ gI h' 96 0 (60 * s + V 0 0) = stF C V tw st ∧ gI h' 97 0 (60 * s + V 0 0) = gI h0 89 0 s) := by
      intro m' h' z1 z2 z3 z4
      refine s_X12_passes_3 (by omega) ?_
      unfold b_X12_passes_3
      refine k4 9 _ _ _ (by omega) (by omega) (by omega) (by omega) z2 (by rw [z3 _ _ (by decide)]; exact f0) z4 (by rw [z3 _ _ (by decide)]; exact f2) (by rw [z3 _ _ (by decide)]; exact f7) (fun m m1 m2 => by rw [z3 _ _ (by decide)]; exact hch m m1 m2) (fun i i1 i2 => ?_) (by rw [z3 _ _ (by decide)]; exact f3) (by rw [z3 _ _ (by decide)]; exact f64) (by rw [z3 _ _ (by decide)]; exact f55)
      have sr := sl_r w i1 i2
      rw [z3 91 _ (by decide), z3 92 _ (by decide), if_neg (by omega), if_neg (by omega)]
      exact g1 i i1 i2
    refine s_X12_passes_2 (by omega) ?_
    unfold b_X12_passes_2
    rw [f1]
    refine ok_ck (by omega) (ok_be (p_X12_leads q w (vw_c vw) kr.1 kr.2) ?_)
    have sr := stepF_r (k := k) (cw_W w) (vw_c vw)
    refine ok_if (fun y => go3 _ _ (by omega) hF (fun _ _ _ => rfl) ?_) (fun y => ?_)
    · unfold ctF; rw [f1, if_neg (fun z => by have := z.1.1; omega)]
    · have cP := sr.resolve_left y
      have y1 : 0 ≤ stC C (V 1 0) k := cP.1
      have y2 : stC C (V 1 0) k < 64 := Int.lt_of_lt_of_le cP.2 hmul.2
      refine ok_ck (by omega) ?_
      rw [ir_l q _ y1 y2]
      refine ok_if (fun y3 => ok_ck (by omega) (ok_lt (go3 _ _ (by omega) (fr_sI hF (by unfold PaW; omega)) (fun r k a => gI_nr a) ?_))) (fun y3 => go3 _ _ (by omega) hF (fun _ _ _ => rfl) ?_)
      · rw [gI_eq]; unfold ctF; rw [if_pos ⟨cP, y3⟩]
      · unfold ctF; rw [f1, if_neg (fun z => y3 z.2)]
  have k1 : ∀ (n : Nat) (h : Hp), 200 ≤ n → Fr (PaW C V s) h0 h → gI h 84 0 s = V 0 0 → gI h 85 0 s = V 1 0 → gI h 86 0 s = V 2 0 → gI h 88 0 s = V 7 0 → (∀ c, 0 ≤ c → c < 4 → gI h 102 0 c = vS C V tw ta F st c) → (∀ m, 0 ≤ m → m < 9 → gI h 101 0 m = chF C V tw ta F m) → (∀ i, 0 ≤ i → i < sz C → gI h 91 0 (9 * s + sl C i) = V 8 i ∧ gI h 92 0 (9 * s + sl C i) = V 6 i) → gI h 87 0 s = rnF C V tw st → gI h 12 0 64 = eaF C V tw ta F → gI h 12 0 55 = tw → ok (g_X12_passes n 1 [s, V 0 0, stF C V tw st] h) (fun _ h' => Fr (PaW C V s) h0 h' ∧ isS C h' s (hdV C V tw ta F st) ∧ gI h' 87 0 s = rnF C V tw st ∧ gI h' 12 0 64 = eaF C V tw ta F ∧ gI h' 93 0 (60 * s + V 0 0) = wnr C V tw ta F st ∧ gI h' 94 0 (60 * s + V 0 0) = eaF C V tw ta F ∧ gI h' 95 0 (60 * s + V 0 0) = ctF C V (wnr C V tw ta F st) ∧ gI h' 96 0 (60 * s + V 0 0) = stF C V tw st ∧ gI h' 97 0 (60 * s + V 0 0) = gI h0 89 0 s) := by
    intro n h hn hF f0 f1 f2 f7 hvt hch g1 f3 f64 f55
    have q := isR_fr hF paw_R q0
    have wr := wnF_r w vm.1
    refine s_X12_passes_1 (by omega) ?_
    unfold b_X12_passes_1
    refine ok_be (p_X12_top hvt) ?_
    rcases tpS_w (f := vS C V tw ta F st) wr.1 4 with ⟨y1, y2⟩ | ⟨y1, y2, y3⟩
    · refine ok_t y1 (ok_be (p_X12_windOf q w vm.1) ?_)
      have e : wnF C (V 0 0) = k := by rw [← hk]; unfold wnr; rw [y2]
      rw [e]
      exact k2 _ _ (by omega) hF f0 f1 f2 f7 hch g1 f3 f64 f55
    · refine ok_f y1 ?_
      have e : tpS (vS C V tw ta F st) 4 = k := by rw [← hk]; unfold wnr; rw [y2]
      rw [e]
      exact k2 _ _ (by omega) hF f0 f1 f2 f7 hch g1 f3 f64 f55
  refine fuv_X12_passes (fun nFU hFU => ?_)
  refine s_X12_passes_0 (by first | omega | decide) ?_
  unfold b_X12_passes_0
  rw [is_0 hs0]
  refine ok_ck (by omega) (ok_lt (ok_bq (p_X12_sits (F := F) q0 w hs0 vw ht0 s1 (by omega) hf) ?_))
  intro _ h3 ⟨u1, u2, u3, u4, u5⟩
  have hF : Fr (PaW C V s) h0 h3 := fr_mo u1 (fun r i k y => by unfold StW at y; unfold PaW; omega)
  have q := isR_fr hF paw_R q0
  have hs := isS_fr u1 stw_S hs0
  have t1 : gI h3 12 0 55 = tw := (u1.1 12 0 55 (by unfold StW; omega)).trans ht0.1
  have t2 : gI h3 12 0 57 = if st then 1 else 0 := (u1.1 12 0 57 (by unfold StW; omega)).trans hst
  have r3 : gI h3 87 0 s = V 3 0 := (u1.1 87 0 s (by unfold StW; omega)).trans hr0
  have e8 := ir_8 q
  have e9 := ir_9 q
  have ct := cw_T w
  have go : ∀ (n : Nat) (h : Hp) (x : Int), 300 ≤ n → x = stF C V tw st → Fr (PaW C V s) h0 h → (∀ (r : Nat) (k : Int), r ≠ 87 → r ≠ 102 → gI h r 0 k = gI h3 r 0 k) → (∀ c, 0 ≤ c → c < 4 → gI h 102 0 c = vS C V tw ta F st c) → gI h 87 0 s = rnF C V tw st → ok (g_X12_passes n 1 [s, V 0 0, x] h) (fun _ h' => Fr (PaW C V s) h0 h' ∧ isS C h' s (hdV C V tw ta F st) ∧ gI h' 87 0 s = rnF C V tw st ∧ gI h' 12 0 64 = eaF C V tw ta F ∧ gI h' 93 0 (60 * s + V 0 0) = wnr C V tw ta F st ∧ gI h' 94 0 (60 * s + V 0 0) = eaF C V tw ta F ∧ gI h' 95 0 (60 * s + V 0 0) = ctF C V (wnr C V tw ta F st) ∧ gI h' 96 0 (60 * s + V 0 0) = stF C V tw st ∧ gI h' 97 0 (60 * s + V 0 0) = gI h0 89 0 s) := by
    intro n h x z0 z1 z2 z3 z4 z5
    subst z1
    refine k1 _ _ (by omega) z2 ((z3 84 s (by first | omega | decide) (by first | omega | decide)).trans (is_0 hs)) ((z3 85 s (by first | omega | decide) (by first | omega | decide)).trans (is_1 hs)) ((z3 86 s (by first | omega | decide) (by first | omega | decide)).trans (is_2 hs)) ((z3 88 s (by first | omega | decide) (by first | omega | decide)).trans (is_7 hs)) z4 (fun m m1 m2 => (z3 101 m (by first | omega | decide) (by first | omega | decide)).trans (u3 m m1 m2)) (fun i i1 i2 => ⟨(z3 91 _ (by first | omega | decide) (by first | omega | decide)).trans (is_8 hs i i1 i2), (z3 92 _ (by first | omega | decide) (by first | omega | decide)).trans (is_6 hs i i1 i2)⟩) z5 ((z3 12 64 (by first | omega | decide) (by first | omega | decide)).trans u5) ((z3 12 55 (by first | omega | decide) (by first | omega | decide)).trans t1)
  have off : ¬ sOn C tw st → ∀ n : Nat, 300 ≤ n → ok (g_X12_passes n 1 [s, V 0 0, -1] h3) (fun _ h' => Fr (PaW C V s) h0 h' ∧ isS C h' s (hdV C V tw ta F st) ∧ gI h' 87 0 s = rnF C V tw st ∧ gI h' 12 0 64 = eaF C V tw ta F ∧ gI h' 93 0 (60 * s + V 0 0) = wnr C V tw ta F st ∧ gI h' 94 0 (60 * s + V 0 0) = eaF C V tw ta F ∧ gI h' 95 0 (60 * s + V 0 0) = ctF C V (wnr C V tw ta F st) ∧ gI h' 96 0 (60 * s + V 0 0) = stF C V tw st ∧ gI h' 97 0 (60 * s + V 0 0) = gI h0 89 0 s) := by
    intro no n hn
    have es : stF C V tw st = -1 := by unfold stF; rw [if_neg (fun q => no q.1)]
    refine go _ _ _ hn es.symm hF (fun _ _ _ _ => rfl) (fun c c1 c2 => ?_) (by rw [r3]; unfold rnF; rw [if_neg no])
    rw [u2 c c1 c2]; unfold vS; rw [es, if_neg (by omega)]; omega
  rw [e8, t1, t2]
  refine ok_ck (by omega) (ok_if (fun y => off (fun z => by have := z.1; omega) (nFU - 1) (by first | omega | decide)) (fun y => ok_if (fun y2 => off (fun z => z.2.1 y2) (nFU - 1) (by first | omega | decide)) (fun y2 => ok_if (fun y3 => ?_) (fun y3 => off (fun z => y3 (by rw [z.2.2]; rfl)) (nFU - 1) (by first | omega | decide)))))
  have sf : st = false := by cases st with
    | false => rfl
    | true => simp at y3
  have on : sOn C tw st := ⟨by omega, y2, sf⟩
  have lr := lcg_r (V 3 0)
  refine ok_be (p_X12_draw s1 (by omega) (by first | omega | decide)) (ok_ck (by omega) ?_)
  rw [r3, gI_nr (show (61 : Nat) ≠ 87 by decide), e8]
  have F1 : Fr (PaW C V s) h0 (sI h3 87 0 s (lcg (V 3 0))) := fr_sI hF (by unfold PaW; omega)
  refine ok_if (fun y4 => ?_) (fun y4 => ?_)
  · have es : stF C V tw st = -1 := by unfold stF; rw [if_neg (fun q => by have := q.2; omega)]
    refine go _ _ _ (by first | omega | decide) es.symm F1 (fun r k a b => gI_nr a) (fun c c1 c2 => ?_) ?_
    · rw [gI_nr (by first | omega | decide), u2 c c1 c2]; unfold vS; rw [es, if_neg (by omega)]; omega
    · rw [gI_eq]; unfold rnF; rw [if_pos on, if_neg (by omega)]
  · have y4 : lcg (V 3 0) / 65536 % 100 < C 16 0 := by omega
    have es : stF C V tw st = lcg (lcg (V 3 0)) / 65536 % 4 := by unfold stF; rw [if_pos ⟨on, y4⟩]
    have sr := stF_r (C := C) (V := V) (tw := tw) (st := st)
    refine ok_be (p_X12_draw s1 (by omega) (by first | omega | decide)) ?_
    rw [gI_eq, ← es]
    have hv2 : ∀ c, 0 ≤ c → c < 4 → gI (sI (sI h3 87 0 s (lcg (V 3 0))) 87 0 s (lcg (lcg (V 3 0)))) 102 0 c = vt C V tw ta F c := fun c c1 c2 => by rw [gI_nr (by first | omega | decide), gI_nr (by first | omega | decide)]; exact u2 c c1 c2
    have s0 : 0 ≤ stF C V tw st := by rw [es]; omega
    have vb := vt_r (c := stF C V tw st) (tw := tw) (ta := ta) (F := F) w vw
    have e9b : gI (sI (sI h3 87 0 s (lcg (V 3 0))) 87 0 s (lcg (lcg (V 3 0)))) 61 0 9 = C 17 0 := by rw [gI_nr (by first | omega | decide), gI_nr (by first | omega | decide)]; exact e9
    rw [e9b]
    refine ok_ck (by omega) (ok_ck (by omega) (ok_ck (by rw [hv2 _ s0 sr.2]; omega) (ok_ck (by omega) (ok_lt ?_))))
    refine go _ _ _ (by first | omega | decide) rfl (fr_sI (fr_sI F1 (by unfold PaW; omega)) (by unfold PaW; omega)) (fun r k a b => by rw [gI_nr b, gI_nr a, gI_nr a]) (vt_add s0 sr.2 hv2 (fun c c1 c2 => rfl)) ?_
    rw [gI_nr (by first | omega | decide), gI_eq]; unfold rnF; rw [if_pos on, if_pos y4]
end
