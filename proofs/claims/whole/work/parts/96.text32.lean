/-! TEXT, 32: the reference's reading -/
def v0 (j : Int) : Int := if j = 0 ∨ j = 1 then 4 else if j = 9 then 1 else if j = 10 then 100 else 0
section
variable {h hB : Hp} {b : Int → Int} {n : Nat} {Q : Ex (Dr × Nat) → Int → Hp → Prop}
theorem tl_loop (n8 : n ≤ 800)
    (k6g : ∀ (g2 : Nat) (D : Dr) (L t : Nat) (h2 : Hp), 2000 ≤ g2 → L ≤ 801 → DW D → dR h2 b n D t → gI h2 12 0 26 = (L : Int) → Fr TxR hB h2 → ok (g_X12_text g2 6 [] h2) (Q (.ok (D, L))))
    (k6b : ∀ (g2 : Nat) (e : Int × Int) (h2 : Hp), 2000 ≤ g2 → baR hB h2 e → ok (g_X12_text g2 6 [] h2) (Q (.error e))) : ∀ (f x g : Nat) (D : Dr) (t : Nat) (h1 : Hp), f + x = 802 → x ≤ 801 → f + 3000 ≤ g → x ≤ t → DW D → dR h1 b n D t → gI h1 12 0 26 = (x : Int) → Fr TxR hB h1 → ok (g_X12_text g 5 [] h1) (Q (txF b n f D t x))
  | 0, x, g, D, t, h1, fx, x8, hg, xt, w, q, eL, F0 => by omega
  | f + 1, x, g, D, t, h1, fx, x8, hg, xt, w, q, eL, F0 => by
    have kk := tk_k (b := b) (n := n) t
    have rk := rK_r kk.1 kk.2
    have q30 : gI h1 12 0 30 = rK (tkK b n t) := q.1.1.2.2.2.2.1
    refine s_X12_text_5 (by omega) ?_
    unfold b_X12_text_5 txF
    rw [q30]
    refine ok_t q.1.2.1 ?_
    by_cases z : tkK b n t = 0
    · refine ok_t (rk.2.2.2.2.mpr z) ?_
      rw [if_pos z]
      exact k6g _ D x t h1 (by omega) x8 w q eL F0
    · have t8 := t_le n8 z
      refine ok_f (fun y => z (rk.2.2.2.2.mp y)) ?_
      rw [if_neg z]
      refine ok_bq (r_line (by omega) (dw_0 w) q) ?_
      intro _ h2 y
      cases eN : lnF b n D t with
      | error e =>
        rw [eN] at y
        refine s_X12_text_5 (by omega) ?_
        unfold b_X12_text_5
        obtain ⟨b1, b2⟩ := (y : baR h1 h2 e)
        exact ok_f (ba_0 (⟨b1, b2⟩ : baR h1 h2 e)) (k6b _ e h2 (by omega) ⟨fr_tr F0 b1, b2⟩)
      | ok a =>
        rw [eN] at y
        obtain ⟨f2, q2, e26⟩ := y
        have at2 := ln_t eN
        exact tl_loop n8 k6g k6b f (x + 1) (g - 1) a.1 a.2 h2 (by omega) (by omega) (by omega) (by omega) (k_line w eN) q2 (by rw [e26, eL]; omega) (fr_tr F0 f2)
theorem t_textR (n8 : n ≤ 800) (hb : ∀ k : Nat, k < n → gI h 60 0 (k : Int) = b (k : Int) ∧ 0 ≤ b (k : Int) ∧ b (k : Int) < 256) (e27 : gI h 12 0 27 = (n : Int)) (e28 : gI h 12 0 28 = 0) (e32 : gI h 12 0 32 = 0) (e33 : gI h 12 0 33 = -1) (vr : -1 ≤ gI h 12 0 31 ∧ gI h 12 0 31 < 1073741824)
    (k6g : ∀ (g2 : Nat) (D : Dr) (L t : Nat) (h2 : Hp), 2000 ≤ g2 → L ≤ 801 → DW D → dR h2 b n D t → gI h2 12 0 26 = (L : Int) → Fr TxR h h2 → ok (g_X12_text g2 6 [] h2) (Q (.ok (D, L))))
    (k6b : ∀ (g2 : Nat) (e : Int × Int) (h2 : Hp), 2000 ≤ g2 → baR h h2 e → ok (g_X12_text g2 6 [] h2) (Q (.error e))) (g : Nat) (hg : 10000 ≤ g) : ok (g_X12_text g 1 [0] h) (Q (txF b n 802 D0 0 0)) := by
  -- behind the cells of the land
  have four : ∀ (d g : Nat) (x : Int) (h1 : Hp), (64 - x).toNat = d → 0 ≤ x → x ≤ 64 → d + 5000 ≤ g → Fr (fun r _ k => (r = 61 ∧ 15 ≤ k) ∨ (r = 62 ∧ 64 ≤ k)) h h1 → (∀ j, 0 ≤ j → j < 15 → gI h1 61 0 (15 + j) = v0 j) → (∀ j, 0 ≤ j → j < x → gI h1 62 0 (64 + j) = 0) → ok (g_X12_text g 4 [x] h1) (Q (txF b n 802 D0 0 0)) := by
    intro d
    induction d with
    | zero =>
      intro g x h1 hd x1 x2 hg f1 q1 q2
      refine s_X12_text_4 (by omega) ?_
      unfold b_X12_text_4
      refine ok_t (by omega) (ok_lt (ok_lt (ok_lt (ok_lt ?_))))
      have F4 : Fr (fun r _ k => r = 12 ∧ (k = 25 ∨ k = 26 ∨ k = 36 ∨ k = 37)) h1 (sI (sI (sI (sI h1 12 0 25 0) 12 0 26 0) 12 0 36 0) 12 0 37 0) := fr_sI (fr_sI (fr_sI (fr_sI fr_rf (by omega)) (by omega)) (by omega)) (by omega)
      have g25 : gI (sI (sI (sI (sI h1 12 0 25 0) 12 0 26 0) 12 0 36 0) 12 0 37 0) 12 0 25 = 0 := by rw [gI_nk (by decide), gI_nk (by decide), gI_nk (by decide), gI_eq]
      have g26 : gI (sI (sI (sI (sI h1 12 0 25 0) 12 0 26 0) 12 0 36 0) 12 0 37 0) 12 0 26 = 0 := by rw [gI_nk (by decide), gI_nk (by decide), gI_eq]
      have g36 : gI (sI (sI (sI (sI h1 12 0 25 0) 12 0 26 0) 12 0 36 0) 12 0 37 0) 12 0 36 = 0 := by rw [gI_nk (by decide), gI_eq]
      have g37 : gI (sI (sI (sI (sI h1 12 0 25 0) 12 0 26 0) 12 0 36 0) 12 0 37 0) 12 0 37 = 0 := gI_eq
      generalize sI (sI (sI (sI h1 12 0 25 0) 12 0 26 0) 12 0 36 0) 12 0 37 0 = h4 at F4 g25 g26 g36 g37
      have X : ∀ (r : Nat) (k : Int), r ≠ 61 → r ≠ 62 → (r ≠ 12 ∨ (27 ≤ k ∧ k ≤ 35)) → gI h4 r 0 k = gI h r 0 k := fun r k z1 z2 z3 => (F4.1 r 0 k (by omega)).trans (f1.1 r 0 k (by omega))
      have Y : ∀ (r : Nat) (k : Int), r ≠ 12 → gI h4 r 0 k = gI h1 r 0 k := fun r k z => F4.1 r 0 k (by omega)
      have rx : rxC h4 b n := ⟨(X 12 27 (by decide) (by decide) (by omega)).trans e27, n8, fun k hk => ⟨(X 60 k (by decide) (by decide) (by omega)).trans (hb k hk).1, (hb k hk).2⟩⟩
      have e28' : gI h4 12 0 28 = ((0 : Nat) : Int) := (X 12 28 (by decide) (by decide) (by omega)).trans e28
      obtain ⟨v, h6, ev, f6, t28, tk⟩ := p_X12_token (i0 := 0) rx e28' (Nat.zero_le _)
      refine ok_be ev ?_
      have vr6 : -1 ≤ gI h6 12 0 31 ∧ gI h6 12 0 31 < 1073741824 := by
        by_cases z : (tok b n 0).1 = 0
        · obtain ⟨v2, h2, ev2, e2⟩ := p_token_end (i0 := 0) rx e28' (Nat.zero_le _) z
          rw [ev] at ev2
          injection ev2 with ev3
          injection ev3 with ev4 ev5
          rw [ev5, e2, X 12 31 (by decide) (by decide) (by omega)]; exact vr
        · exact tk.2.2.2.2.2 z
      have rd : rdR h6 b n 0 := ⟨rxC_fr f6 (by intro r k; unfold ToW; omega) rx, t28, vr6, tk⟩
      have Z : ∀ (r : Nat) (k : Int), r ≠ 12 → gI h6 r 0 k = gI h1 r 0 k := fun r k z => (f6.1 r 0 k (by unfold ToW; omega)).trans (Y r k z)
      have Z12 : ∀ k : Int, k < 28 ∨ 31 < k → gI h6 12 0 k = gI h4 12 0 k := fun k z => f6.1 12 0 k (by unfold ToW; omega)
      have n61 : ∀ j, 0 ≤ j → j < 15 → gI h6 61 0 (15 + j) = v0 j := fun j j1 j2 => (Z 61 _ (by decide)).trans (q1 j j1 j2)
      have cn : cnH h6 := fun k k1 k2 => by
        have := n61 (k - 15) (by omega) (by omega)
        rw [show 15 + (k - 15) = k by omega] at this
        rw [this]
        unfold v0
        split
        · omega
        · split
          · omega
          · split <;> omega
      have em : ∀ {i : Int}, 0 ≤ i → i < 0 → False := fun a c => by omega
      have d6 : dR h6 b n D0 0 := by
        refine ⟨⟨rd, ?_, cn⟩, ⟨n61 0 (by decide) (by decide), n61 1 (by decide) (by decide), n61 3 (by decide) (by decide), n61 4 (by decide) (by decide), n61 2 (by decide) (by decide), fun x x1 x2 => ?_⟩, ⟨n61 5 (by decide) (by decide), fun i i1 i2 => (em i1 i2).elim⟩, ⟨n61 6 (by decide) (by decide), fun i i1 i2 => (em i1 i2).elim⟩, ⟨n61 7 (by decide) (by decide), fun i i1 i2 => (em i1 i2).elim⟩, ⟨n61 8 (by decide) (by decide), n61 9 (by decide) (by decide), n61 10 (by decide) (by decide), n61 11 (by decide) (by decide)⟩, ⟨n61 12 (by decide) (by decide), n61 13 (by decide) (by decide), fun x hx => ?_⟩, ⟨n61 14 (by decide) (by decide), fun i hi => absurd hi (Nat.not_lt_zero i)⟩, (Z12 36 (by omega)).trans g36, (Z12 37 (by omega)).trans g37, fun w w1 w2 _ => ?_, ((Z12 33 (by omega)).trans (X 12 33 (by decide) (by decide) (by omega))).trans e33⟩
        · rw [Z12 32 (by omega), X 12 32 (by decide) (by decide) (by omega)]; exact e32
        · exact (Z 62 _ (by decide)).trans (q2 x x1 (by omega))
        · have h3 : (0 ≤ x ∧ x < 0) ∨ (5 ≤ x ∧ x < 5 + 0) := hx
          omega
        · rw [Z12 25 (by omega), g25]; exact bit_0 w1 (by omega)
      have FF : Fr TxR h h6 := fr_tr (fr_mo f1 (by intro r i k; unfold TxR; omega)) (fr_tr (fr_mo F4 (by intro r i k; unfold TxR; omega)) (fr_mo f6 to_tx))
      exact tl_loop n8 k6g k6b 802 0 (g - 1) D0 0 h6 rfl (by omega) (by omega) (by omega) DW_0 d6 ((Z12 26 (by omega)).trans g26) FF
    | succ d ih =>
      intro g x h1 hd x1 x2 hg f1 q1 q2
      refine s_X12_text_4 (by omega) ?_
      unfold b_X12_text_4
      refine ok_f (by omega) (ok_ck (by omega) (ok_ck (by omega) (ok_lt (ok_ck (by omega) (ih (g - 1) (x + 1) _ (by omega) (by omega) (by omega) (by omega) (fr_sI f1 (by omega)) (fun j j1 j2 => (gI_nr (by decide)).trans (q1 j j1 j2)) (fun j j1 j2 => ?_))))))
      by_cases y : j = x
      · rw [y, gI_eq]
      · rw [gI_nk (by omega)]; exact q2 j j1 (by omega)
  have one : ∀ (d g : Nat) (x : Int) (h1 : Hp), (15 - x).toNat = d → 0 ≤ x → x ≤ 15 → 3 * d + 6000 ≤ g → Fr (fun r _ k => (r = 61 ∧ 15 ≤ k) ∨ (r = 62 ∧ 64 ≤ k)) h h1 → (∀ j, 0 ≤ j → j < x → gI h1 61 0 (15 + j) = v0 j) → ok (g_X12_text g 1 [x] h1) (Q (txF b n 802 D0 0 0)) := by
    intro d
    induction d with
    | zero =>
      intro g x h1 hd x1 x2 hg f1 q1
      refine s_X12_text_1 (by omega) ?_
      unfold b_X12_text_1
      exact ok_t (by omega) (four 64 _ 0 h1 rfl (by omega) (by omega) (by omega) f1 (fun j j1 j2 => q1 j j1 (by omega)) (fun j j1 j2 => absurd j2 (by omega)))
    | succ d ih =>
      intro g x h1 hd x1 x2 hg f1 q1
      have three : ∀ (g1 : Nat) (y : Int), 3 * d + 6001 ≤ g1 → y = v0 x → ok (g_X12_text g1 3 [x, y, x] h1) (Q (txF b n 802 D0 0 0)) := by
        intro g1 y hg1 ey
        refine s_X12_text_3 (by omega) ?_
        unfold b_X12_text_3
        refine ok_be (p_rd (k := 15 + x) (by omega) (by omega) rfl) (ok_ck (by omega) (ih (g1 - 1) (x + 1) _ (by omega) (by omega) (by omega) (by omega) (fr_sI f1 (by omega)) (fun j j1 j2 => ?_)))
        by_cases yy : j = x
        · rw [yy, gI_eq]; exact ey
        · rw [gI_nk (by omega)]; exact q1 j j1 (by omega)
      have two : ∀ g1 : Nat, 3 * d + 6002 ≤ g1 → (x = 0 ∨ x = 1) → ok (g_X12_text g1 2 [x, x] h1) (Q (txF b n 802 D0 0 0)) := by
        intro g1 hg1 z
        refine s_X12_text_2 (by omega) ?_
        unfold b_X12_text_2
        exact three _ 4 (by omega) (if_pos z).symm
      refine s_X12_text_1 (by omega) ?_
      unfold b_X12_text_1
      exact ok_f (by omega) (ok_if (fun z => two _ (by omega) (Or.inl z)) (fun z0 => ok_if (fun z => two _ (by omega) (Or.inr z)) (fun z1 => ok_if (fun z => three _ 1 (by omega) (by unfold v0; rw [if_neg (by omega), if_pos z])) (fun z9 => ok_if (fun z => three _ 100 (by omega) (by unfold v0; rw [if_neg (by omega), if_neg z9, if_pos z])) (fun z10 => three _ 0 (by omega) (by unfold v0; rw [if_neg (by omega), if_neg z9, if_neg z10]))))))
  exact one 15 g 0 h rfl (by omega) (by omega) (by omega) fr_rf (fun j j1 j2 => absurd j2 (by omega))
end
