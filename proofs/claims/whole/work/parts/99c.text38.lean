/-! TEXT, 38: the reference's text, whole; both agree -/
/-- the cells of the reference's chart -/
def lowR (r : Nat) (k : Int) : Prop := (r = 61 ∧ k < 15) ∨ (r = 62 ∧ k < 64) ∨ (63 ≤ r ∧ r ≤ 66 ∧ k < 3) ∨ (r = 67 ∧ k < 8) ∨ (68 ≤ r ∧ r ≤ 70 ∧ k < 4) ∨ (71 ≤ r ∧ r ≤ 80 ∧ k < 9) ∨ ((r = 81 ∨ r = 82) ∧ k < 64) ∨ r = 83
section
variable {h h2 : Hp} {C : Ch}
theorem isR_e2 (w : CW C) (e : ∀ (r : Nat) (k : Int), lowR r k → gI h2 r 0 k = gI h r 0 k) (q : isR h C) : isR h2 C := by
  have wI := cw_I w
  have wN := cw_N w
  have wG := cw_G w
  have wK := cw_K w
  exact ⟨(e 61 0 (by unfold lowR; omega)).trans (ir_0 q), (e 61 1 (by unfold lowR; omega)).trans (ir_1 q), (e 61 3 (by unfold lowR; omega)).trans (ir_3 q), (e 61 4 (by unfold lowR; omega)).trans (ir_4 q), (e 61 5 (by unfold lowR; omega)).trans (ir_5 q), (e 61 6 (by unfold lowR; omega)).trans (ir_6 q), (e 61 7 (by unfold lowR; omega)).trans (ir_7 q), (e 61 8 (by unfold lowR; omega)).trans (ir_8 q), (e 61 9 (by unfold lowR; omega)).trans (ir_9 q), (e 61 10 (by unfold lowR; omega)).trans (ir_10 q), (e 61 11 (by unfold lowR; omega)).trans (ir_11 q), (e 61 12 (by unfold lowR; omega)).trans (ir_12 q), (e 61 13 (by unfold lowR; omega)).trans (ir_13 q), (e 61 14 (by unfold lowR; omega)).trans (ir_14 q), fun x x1 x2 => (e 62 x (by unfold lowR; omega)).trans (ir_l q x x1 x2), fun i i1 i2 => by rw [e 63 i (by unfold lowR; omega), e 64 i (by unfold lowR; omega), e 65 i (by unfold lowR; omega), e 66 i (by unfold lowR; omega)]; exact ir_i q i i1 i2, fun k k1 k2 => (e 67 k (by unfold lowR; omega)).trans (ir_w q k k1 k2), fun k k1 k2 => by rw [e 68 k (by unfold lowR; omega), e 69 k (by unfold lowR; omega), e 70 k (by unfold lowR; omega)]; exact ir_g q k k1 k2, fun i i1 i2 => by have sr := sl_r w i1 i2; rw [e 71 _ (by unfold lowR; omega), e 72 _ (by unfold lowR; omega), e 73 _ (by unfold lowR; omega), e 74 _ (by unfold lowR; omega), e 75 _ (by unfold lowR; omega), e 76 _ (by unfold lowR; omega), e 77 _ (by unfold lowR; omega), e 79 _ (by unfold lowR; omega), e 80 _ (by unfold lowR; omega)]; exact ir_m q i i1 i2, fun i i1 i2 => by have m0 := cw_M w; have sr := sl_r w (show 0 ≤ i by omega) i2; exact (e 78 _ (by unfold lowR; omega)).trans (ir_o q i i1 i2), fun k k1 k2 => by rw [e 81 k (by unfold lowR; omega), e 82 k (by unfold lowR; omega)]; exact ir_k q k k1 k2, fun a x a1 a2 x1 x2 => by rw [e 83 _ (by unfold lowR; omega)]; exact ir_f q a x a1 a2 x1 x2⟩
end
section
variable {h h2 : Hp} {b : Int → Int} {n t : Nat} {D : Dr} {f g : Int → Int}
/-- what was read, in the lower halves -/
theorem mk_isR (w : DW D) (q : dR h b n D t) (hl : hlP h h2) (hr : ∀ a x, 0 ≤ a → a < 64 → 0 ≤ x → x < 64 → farV (stD D) (wtD D) a x (gI h2 83 0 (64 * a + x))) : isR h2 (mkC D f g) := by
  obtain ⟨q0, qS, qI, qN, qG, qT, qM, qO, q36, q37, qW, q33⟩ := q
  obtain ⟨h61, h62, h63, h64, h65, h66, h67, h68, h69, h70, h71, h72, h73, h74, h75, h76, h77, h78, h79, h80, h81, h82⟩ := hl
  have wI := w.2.2.1.1
  have wN := w.2.2.2.1
  have wG := w.2.2.2.2.1.1
  have wO := w.2.2.2.2.2.2.2
  have sm : ∀ i, 0 ≤ i → i < dM D 0 0 + dM D 1 0 → drm h (dM D) (slt D i) ∧ 0 ≤ slt D i ∧ slt D i < 9 := fun i i1 i2 => ⟨qM.2.2 _ (slt_t w i1 i2).1, (slt_t w i1 i2).2⟩
  refine ⟨(h61 0 (by decide) (by decide)).trans qS.1, (h61 1 (by decide) (by decide)).trans qS.2.1, (h61 3 (by decide) (by decide)).trans qS.2.2.1, (h61 4 (by decide) (by decide)).trans qS.2.2.2.1, (h61 5 (by decide) (by decide)).trans qI.1, (h61 6 (by decide) (by decide)).trans qN.1, (h61 7 (by decide) (by decide)).trans qG.1, (h61 8 (by decide) (by decide)).trans qT.1, (h61 9 (by decide) (by decide)).trans qT.2.1, (h61 10 (by decide) (by decide)).trans qT.2.2.1, (h61 11 (by decide) (by decide)).trans qT.2.2.2, (h61 12 (by decide) (by decide)).trans qM.1, (h61 13 (by decide) (by decide)).trans qM.2.1, (h61 14 (by decide) (by decide)).trans qO.1, fun x x1 x2 => (h62 x x1 x2).trans (qS.2.2.2.2.2 x x1 x2), fun i i1 i2 => ?_, fun k k1 k2 => ?_, fun k k1 k2 => ?_, fun i i1 i2 => ?_, fun i i1 i2 => ?_, fun k k1 k2 => ?_, hr⟩
  · have i2' : i < dI D 0 0 := i2
    rw [h63 i i1 (by omega), h64 i i1 (by omega), h65 i i1 (by omega), h66 i i1 (by omega)]
    exact qI.2 i i1 i2
  · have k2' : k < dN D 0 0 := k2
    have := wN.2.1
    rw [h67 k k1 (by omega)]
    exact qN.2 k k1 k2
  · have k2' : k < dG D 0 0 := k2
    rw [h68 k k1 (by omega), h69 k k1 (by omega), h70 k k1 (by omega)]
    exact qG.2 k k1 k2
  · obtain ⟨d, s1, s2⟩ := sm i i1 i2
    obtain ⟨d1, d2, d3, d4, d5, d6, d7, d8, d9, d10⟩ := d
    have es : sl (mkC D f g) i = slt D i := rfl
    rw [es, h71 _ s1 s2, h72 _ s1 s2, h73 _ s1 s2, h74 _ s1 s2, h75 _ s1 s2, h76 _ s1 s2, h77 _ s1 s2, h79 _ s1 s2, h80 _ s1 s2]
    refine ⟨d1, d2, d4, d5, fun t t0 => ?_, d8, d9, d10⟩
    show _ ↔ (dM D 7 (slt D i) ≤ t ∧ t ≤ dM D 8 (slt D i))
    rw [d7]
    rcases d6 with y | y
    · rw [y]
    · rw [y]
      exact ⟨fun z => absurd z.2 (by omega), fun z => absurd z.2 (by omega)⟩
  · have m := w.2.2.2.2.2.2.1.1
    have i1' : dM D 0 0 ≤ i := i1
    obtain ⟨d, s1, s2⟩ := sm i (by omega) i2
    have es : sl (mkC D f g) i = slt D i := rfl
    rw [es, h78 _ s1 s2]
    exact d.2.2.1
  · have k2' : k < ((dO D).length : Int) := k2
    have l1 := wO.1
    have l2 := wO.2.1
    rw [h81 k k1 (by omega), h82 k k1 (by omega)]
    have a := qO.2 ((dO D).length - 1 - k.toNat) (by omega)
    rw [show ((64 + ((dO D).length - 1 - ((dO D).length - 1 - k.toNat)) : Nat) : Int) = 64 + k by omega] at a
    rw [a.1, a.2]
    have e1 : cC (dO D) 33 k = ((dO D).getD ((dO D).length - 1 - k.toNat) (0, 0)).1 := if_pos rfl
    have e2 : cC (dO D) 34 k = ((dO D).getD ((dO D).length - 1 - k.toNat) (0, 0)).2 := if_neg (by decide)
    show (cC (dO D) 33 k = 0 → _ = 0 ∧ _ = cC (dO D) 34 k) ∧ (cC (dO D) 33 k = 1 → _ = 1 ∧ _ = cC (dO D) 34 k) ∧ (2 ≤ cC (dO D) 33 k → _ = 2 ∧ _ = sgk (cC (dO D) 33 k))
    rw [e1, e2]
    generalize (dO D).getD ((dO D).length - 1 - k.toNat) (0, 0) = e
    unfold rS rW
    refine ⟨fun z => ?_, fun z => ?_, fun z => ?_⟩
    · rw [if_pos z, if_pos (Or.inl z)]; exact ⟨rfl, rfl⟩
    · rw [if_neg (by omega), if_pos z, if_pos (Or.inr z)]; exact ⟨rfl, rfl⟩
    · rw [if_neg (by omega), if_neg (by omega), if_neg (by omega)]; exact ⟨rfl, rfl⟩
end
section
variable {h : Hp} {σ : Sg} {n : Nat}
set_option maxHeartbeats 4000000 in
theorem tR_text (w : SW σ) (q : IR h σ) (x2 : (n : Int) ≤ sX σ 30 0) : ok (f_X12_text (n : Int) h) (fun r h' => endX (txF (sX σ 29) n 802 D0 0 0) (fun e => r = -1 ∧ IR h' (stX σ (erX (sX σ) e)) ∧ Fr ReW h h') (fun a => r = (a.2 : Int) ∧ (∀ f g, IR h' (okS σ (mkC a.1 f g))) ∧ Fr ReW h h')) := by
  obtain ⟨q1, q2, q3, q4, q5, q6, q7, q8, q9⟩ := q
  have wT := sw_T w
  have wC := sw_C w
  have n8 : n ≤ 800 := by omega
  have vm := vw_m (sw_V w).1
  refine fuv_X12_text (fun m hm => ?_)
  refine s_X12_text_0 (by omega) ?_
  unfold b_X12_text_0
  refine ok_lt ?_
  rw [gI_nk (show (2 : Int) ≠ 0 by decide), q8.1]
  refine ok_f (by omega) (ok_t x2 (ok_lt (ok_lt (ok_lt (ok_lt (ok_lt ?_))))))
  have F6 : Fr (fun r _ k => r = 12 ∧ (k = 0 ∨ k = 27 ∨ k = 2 ∨ k = 28 ∨ k = 32 ∨ k = 33)) h (sI (sI (sI (sI (sI (sI h 12 0 0 0) 12 0 27 (n : Int)) 12 0 2 0) 12 0 28 0) 12 0 32 0) 12 0 33 (-1)) := fr_sI (fr_sI (fr_sI (fr_sI (fr_sI (fr_sI fr_rf (by omega)) (by omega)) (by omega)) (by omega)) (by omega)) (by omega)
  have g27 : gI (sI (sI (sI (sI (sI (sI h 12 0 0 0) 12 0 27 (n : Int)) 12 0 2 0) 12 0 28 0) 12 0 32 0) 12 0 33 (-1)) 12 0 27 = (n : Int) := by rw [gI_nk (by decide), gI_nk (by decide), gI_nk (by decide), gI_nk (by decide), gI_eq]
  have g2 : gI (sI (sI (sI (sI (sI (sI h 12 0 0 0) 12 0 27 (n : Int)) 12 0 2 0) 12 0 28 0) 12 0 32 0) 12 0 33 (-1)) 12 0 2 = 0 := by rw [gI_nk (by decide), gI_nk (by decide), gI_nk (by decide), gI_eq]
  have g28 : gI (sI (sI (sI (sI (sI (sI h 12 0 0 0) 12 0 27 (n : Int)) 12 0 2 0) 12 0 28 0) 12 0 32 0) 12 0 33 (-1)) 12 0 28 = 0 := by rw [gI_nk (by decide), gI_nk (by decide), gI_eq]
  have g32 : gI (sI (sI (sI (sI (sI (sI h 12 0 0 0) 12 0 27 (n : Int)) 12 0 2 0) 12 0 28 0) 12 0 32 0) 12 0 33 (-1)) 12 0 32 = 0 := by rw [gI_nk (by decide), gI_eq]
  have g33 : gI (sI (sI (sI (sI (sI (sI h 12 0 0 0) 12 0 27 (n : Int)) 12 0 2 0) 12 0 28 0) 12 0 32 0) 12 0 33 (-1)) 12 0 33 = -1 := gI_eq
  generalize sI (sI (sI (sI (sI (sI h 12 0 0 0) 12 0 27 (n : Int)) 12 0 2 0) 12 0 28 0) 12 0 32 0) 12 0 33 (-1) = h6 at F6 g27 g2 g28 g32 g33
  refine t_textR (h := h6) (b := sX σ 29) (Q := fun F r h' => endX F (fun e => r = -1 ∧ IR h' (stX σ (erX (sX σ) e)) ∧ Fr ReW h h') (fun a => r = (a.2 : Int) ∧ (∀ f g, IR h' (okS σ (mkC a.1 f g))) ∧ Fr ReW h h')) n8 (fun k hk => ⟨(F6.1 60 0 k (by omega)).trans (q8.2 k (by omega) (by omega)), sw_t w k (by omega) (by omega)⟩) g27 g28 g32 g33 (by rw [F6.1 12 0 31 (by omega)]; exact q9.2.2) ?_ ?_ (m - 1) (by omega)
  · intro g2' D L t h2 hg2 L8 wD qD eL f2
    have F2 : Fr ReW h h2 := fr_tr (fr_mo F6 (by intro r i k; unfold ReW; omega)) (fr_mo f2 (by intro r i k; unfold TxR ReW; omega))
    refine s_X12_text_6 (by omega) ?_
    unfold b_X12_text_6
    have e32 := qD.1.2.1
    have e33 := qD.2.2.2.2.2.2.2.2.2.2.2
    rw [e32]
    refine ok_lt ?_
    rw [gI_nk (show (33 : Int) ≠ 34 by decide), e33]
    refine ok_lt ?_
    rw [gI_nk (show (32 : Int) ≠ 35 by decide), gI_nk (show (32 : Int) ≠ 34 by decide), e32]
    refine ok_t rfl ?_
    have E4 : Fr (fun r _ k => r = 12 ∧ (k = 34 ∨ k = 35)) h2 (sI (sI h2 12 0 34 0) 12 0 35 (-1)) := fr_sI (fr_sI fr_rf (by omega)) (by omega)
    have k34 : gI (sI (sI h2 12 0 34 0) 12 0 35 (-1)) 12 0 34 = 0 := by rw [gI_nk (by decide), gI_eq]
    have k35 : gI (sI (sI h2 12 0 34 0) 12 0 35 (-1)) 12 0 35 = -1 := gI_eq
    generalize sI (sI h2 12 0 34 0) 12 0 35 (-1) = h4 at E4 k34 k35
    have d4 : dR h4 (sX σ 29) n D t := dR_fr E4 (by intro r k; omega) (rdE_fr E4 (by intro r k; omega) qD.1) qD
    have wS := wD.1
    refine t_half (fun k k1 k2 => ?_) (fun h40 f40 hl => ?_) _ (by omega)
    · rw [d4.2.1.2.2.2.2.2 k k1 k2]
      have := wS.2.1 k k1 k2
      omega
    · refine ok_lt (ok_lt (ok_lt (ok_lt ?_)))
      have E5 : Fr (fun r _ k => r = 12 ∧ (k = 74 ∨ k = 75 ∨ k = 53 ∨ k = 54)) h40 (sI (sI (sI (sI h40 12 0 74 0) 12 0 75 (-1)) 12 0 53 0) 12 0 54 0) := fr_sI (fr_sI (fr_sI (fr_sI fr_rf (by omega)) (by omega)) (by omega)) (by omega)
      have k74 : gI (sI (sI (sI (sI h40 12 0 74 0) 12 0 75 (-1)) 12 0 53 0) 12 0 54 0) 12 0 74 = 0 := by rw [gI_nk (by decide), gI_nk (by decide), gI_nk (by decide), gI_eq]
      have k75 : gI (sI (sI (sI (sI h40 12 0 74 0) 12 0 75 (-1)) 12 0 53 0) 12 0 54 0) 12 0 75 = -1 := by rw [gI_nk (by decide), gI_nk (by decide), gI_eq]
      have k53 : gI (sI (sI (sI (sI h40 12 0 74 0) 12 0 75 (-1)) 12 0 53 0) 12 0 54 0) 12 0 53 = 0 := by rw [gI_nk (by decide), gI_eq]
      have k54 : gI (sI (sI (sI (sI h40 12 0 74 0) 12 0 75 (-1)) 12 0 53 0) 12 0 54 0) 12 0 54 = 0 := gI_eq
      generalize sI (sI (sI (sI h40 12 0 74 0) 12 0 75 (-1)) 12 0 53 0) 12 0 54 0 = h44 at E5 k74 k75 k53 k54
      have l44 : ∀ (r : Nat) (k : Int), r ≠ 12 → gI h44 r 0 k = gI h40 r 0 k := fun r k z => E5.1 r 0 k (by omega)
      have hl44 : hlP h4 h44 := by
        obtain ⟨h61, h62, h63, h64, h65, h66, h67, h68, h69, h70, h71, h72, h73, h74, h75, h76, h77, h78, h79, h80, h81, h82⟩ := hl
        exact ⟨fun k k1 k2 => (l44 61 k (by decide)).trans (h61 k k1 k2), fun k k1 k2 => (l44 62 k (by decide)).trans (h62 k k1 k2), fun k k1 k2 => (l44 63 k (by decide)).trans (h63 k k1 k2), fun k k1 k2 => (l44 64 k (by decide)).trans (h64 k k1 k2), fun k k1 k2 => (l44 65 k (by decide)).trans (h65 k k1 k2), fun k k1 k2 => (l44 66 k (by decide)).trans (h66 k k1 k2), fun k k1 k2 => (l44 67 k (by decide)).trans (h67 k k1 k2), fun k k1 k2 => (l44 68 k (by decide)).trans (h68 k k1 k2), fun k k1 k2 => (l44 69 k (by decide)).trans (h69 k k1 k2), fun k k1 k2 => (l44 70 k (by decide)).trans (h70 k k1 k2), fun k k1 k2 => (l44 71 k (by decide)).trans (h71 k k1 k2), fun k k1 k2 => (l44 72 k (by decide)).trans (h72 k k1 k2), fun k k1 k2 => (l44 73 k (by decide)).trans (h73 k k1 k2), fun k k1 k2 => (l44 74 k (by decide)).trans (h74 k k1 k2), fun k k1 k2 => (l44 75 k (by decide)).trans (h75 k k1 k2), fun k k1 k2 => (l44 76 k (by decide)).trans (h76 k k1 k2), fun k k1 k2 => (l44 77 k (by decide)).trans (h77 k k1 k2), fun k k1 k2 => (l44 78 k (by decide)).trans (h78 k k1 k2), fun k k1 k2 => (l44 79 k (by decide)).trans (h79 k k1 k2), fun k k1 k2 => (l44 80 k (by decide)).trans (h80 k k1 k2), fun k k1 k2 => (l44 81 k (by decide)).trans (h81 k k1 k2), fun k k1 k2 => (l44 82 k (by decide)).trans (h82 k k1 k2)⟩
      have lw : ∀ x, 0 ≤ x → x < 64 → gI h44 62 0 x = dS D 2 x := fun x x1 x2 => (hl44.2.1 x x1 x2).trans (d4.2.1.2.2.2.2.2 x x1 x2)
      refine ok_bq (p_X12_layFar (h := h44) (W := dS D 0 0) (H := dS D 1 0) ((hl44.1 0 (by decide) (by decide)).trans d4.2.1.1) ((hl44.1 1 (by decide) (by decide)).trans d4.2.1.2.1) wS.1 (fun x x1 x2 => by rw [lw x x1 x2]; exact wS.2.1 x x1 x2)) ?_
      intro _ h46 ⟨f46, a46⟩
      have wt : (fun x => cellP (dS D 0 0) (dS D 1 0) x ∧ gI h44 62 0 x = 0) = wtD D := by
        funext x
        have mm := sea_mul wS.1
        refine propext ⟨fun z => ⟨z.1, ?_⟩, fun z => ⟨z.1, ?_⟩⟩
        · rw [← lw x z.1.1 (by have := z.1.2; omega)]; exact z.2
        · rw [lw x z.1.1 (by have := z.1.2; omega)]; exact z.2
      rw [wt] at a46
      have l46 : ∀ (r : Nat) (k : Int), r ≠ 83 → gI h46 r 0 k = gI h44 r 0 k := fun r k z => f46.1 r 0 k z
      have hl46 : hlP h4 h46 := by
        obtain ⟨h61, h62, h63, h64, h65, h66, h67, h68, h69, h70, h71, h72, h73, h74, h75, h76, h77, h78, h79, h80, h81, h82⟩ := hl44
        exact ⟨fun k k1 k2 => (l46 61 k (by decide)).trans (h61 k k1 k2), fun k k1 k2 => (l46 62 k (by decide)).trans (h62 k k1 k2), fun k k1 k2 => (l46 63 k (by decide)).trans (h63 k k1 k2), fun k k1 k2 => (l46 64 k (by decide)).trans (h64 k k1 k2), fun k k1 k2 => (l46 65 k (by decide)).trans (h65 k k1 k2), fun k k1 k2 => (l46 66 k (by decide)).trans (h66 k k1 k2), fun k k1 k2 => (l46 67 k (by decide)).trans (h67 k k1 k2), fun k k1 k2 => (l46 68 k (by decide)).trans (h68 k k1 k2), fun k k1 k2 => (l46 69 k (by decide)).trans (h69 k k1 k2), fun k k1 k2 => (l46 70 k (by decide)).trans (h70 k k1 k2), fun k k1 k2 => (l46 71 k (by decide)).trans (h71 k k1 k2), fun k k1 k2 => (l46 72 k (by decide)).trans (h72 k k1 k2), fun k k1 k2 => (l46 73 k (by decide)).trans (h73 k k1 k2), fun k k1 k2 => (l46 74 k (by decide)).trans (h74 k k1 k2), fun k k1 k2 => (l46 75 k (by decide)).trans (h75 k k1 k2), fun k k1 k2 => (l46 76 k (by decide)).trans (h76 k k1 k2), fun k k1 k2 => (l46 77 k (by decide)).trans (h77 k k1 k2), fun k k1 k2 => (l46 78 k (by decide)).trans (h78 k k1 k2), fun k k1 k2 => (l46 79 k (by decide)).trans (h79 k k1 k2), fun k k1 k2 => (l46 80 k (by decide)).trans (h80 k k1 k2), fun k k1 k2 => (l46 81 k (by decide)).trans (h81 k k1 k2), fun k k1 k2 => (l46 82 k (by decide)).trans (h82 k k1 k2)⟩
      have iR : ∀ f g : Int → Int, isR h46 (mkC D f g) := fun f g => mk_isR wD d4 hl46 a46
      have X : ∀ (r : Nat) (k : Int), 84 ≤ r → gI h46 r 0 k = gI h r 0 k := fun r k z => (l46 r k (by omega)).trans ((l44 r k (by omega)).trans ((f40.1 r 0 k (by unfold HlW; omega)).trans ((E4.1 r 0 k (by omega)).trans ((f2.1 r 0 k (by unfold TxR; omega)).trans (F6.1 r 0 k (by omega))))))
      have Y : ∀ k : Int, k ≠ 74 → k ≠ 75 → k ≠ 53 → k ≠ 54 → gI h46 12 0 k = gI h4 12 0 k := fun k z1 z2 z3 z4 => (l46 12 k (by decide)).trans ((E5.1 12 0 k (by omega)).trans (f40.1 12 0 k (by unfold HlW; omega)))
      have b4 := wD.2.1.2.1
      have mm := sea_mul wS.1
      have cw : CW (mkC D (fun x => gI h46 83 0 (64 * dS D 4 0 + x)) (fun y => gI h46 83 0 (64 * dI D 2 (y / 64) + y % 64))) := by
        refine mk_CW wD (fun x x1 x2 => a46 (dS D 4 0) x b4.1 (by have := b4.2; omega) x1 x2) (fun i x i1 i2 x1 x2 => ?_)
        have wi := (wD.2.2.1.2.2 i i1 i2).1.1
        show farV (stD D) (wtD D) (dI D 2 i) x (gI h46 83 0 (64 * dI D 2 ((64 * i + x) / 64) + (64 * i + x) % 64))
        rw [show (64 * i + x) / 64 = i by omega, show (64 * i + x) % 64 = x by omega]
        exact a46 (dI D 2 i) x wi.1 (by have := wi.2; omega) x1 x2
      refine ok_bq (p_X12_begins (s := 0) (B92_e (fun k => X 92 k (by decide)) q2) (iR _ _) cw (by decide) (by decide)) ?_
      intro _ h48 ⟨f48, b48, s48⟩
      have em : ∀ {i : Int}, 0 ≤ i → i < 0 → False := fun a c => by omega
      have Z : ∀ k : Int, gI h48 12 0 k = gI h46 12 0 k := fun k => f48.1 12 0 k (by unfold ShW; omega)
      refine ok_some ⟨?_, fun f g => ⟨isR_eq (fun r k r1 r2 => f48.1 r 0 k (by unfold ShW; omega)) (iR f g), b48, s48, fun t t1 t2 => (em t1 t2).elim, ⟨?_, fun k k1 => ?_⟩, ⟨?_, fun z => ?_⟩, ⟨?_, ?_, fun k k1 k2 => (em k1 k2).elim⟩, ⟨?_, fun k k1 k2 => (em k1 k2).elim⟩, ⟨?_, ?_, ?_⟩⟩, ?_⟩
      · rw [Z, Y 26 (by decide) (by decide) (by decide) (by decide), E4.1 12 0 26 (by omega)]; exact eL
      · rw [Z, l46 12 54 (by decide)]; exact k54
      · have k3 : (k : Int) < 0 := k1
        omega
      · rw [Z, l46 12 53 (by decide)]; exact k53
      · have z2 : (0 : Int) = 1 := z
        omega
      · rw [Z, l46 12 74 (by decide)]; exact k74
      · rw [Z, l46 12 75 (by decide)]; exact k75
      · rw [Z, Y 2 (by decide) (by decide) (by decide) (by decide), E4.1 12 0 2 (by omega), f2.1 12 0 2 (by unfold TxR; omega)]; exact g2
      · rw [Z, Y 34 (by decide) (by decide) (by decide) (by decide)]; exact k34
      · rw [Z, Y 35 (by decide) (by decide) (by decide) (by decide)]; exact k35
      · rw [Z, Y 31 (by decide) (by decide) (by decide) (by decide)]; exact d4.1.1.2.2.1
      · exact fr_tr F2 (fr_tr (fr_mo E4 (by intro r i k; unfold ReW; omega)) (fr_tr (fr_mo f40 (by intro r i k; unfold HlW ReW; omega)) (fr_tr (fr_mo E5 (by intro r i k; unfold ReW; omega)) (fr_tr (fr_mo f46 (by intro r i k; unfold ReW; omega)) (fr_mo f48 (by intro r i k; unfold ShW ReW; omega))))))
  · intro g2' e h2 hg2 ba
    obtain ⟨f2, e32, e33, e0, v1, v2⟩ := ba
    refine s_X12_text_6 (by omega) ?_
    unfold b_X12_text_6
    rw [e32]
    refine ok_lt ?_
    rw [gI_nk (show (33 : Int) ≠ 34 by decide), e33]
    refine ok_lt ?_
    rw [gI_nk (show (32 : Int) ≠ 35 by decide), gI_nk (show (32 : Int) ≠ 34 by decide), e32]
    refine ok_f e0 ?_
    have E4 : Fr (fun r _ k => r = 12 ∧ (k = 34 ∨ k = 35)) h2 (sI (sI h2 12 0 34 e.1) 12 0 35 e.2) := fr_sI (fr_sI fr_rf (by omega)) (by omega)
    have k34 : gI (sI (sI h2 12 0 34 e.1) 12 0 35 e.2) 12 0 34 = e.1 := by rw [gI_nk (by decide), gI_eq]
    have k35 : gI (sI (sI h2 12 0 34 e.1) 12 0 35 e.2) 12 0 35 = e.2 := gI_eq
    generalize sI (sI h2 12 0 34 e.1) 12 0 35 e.2 = h4 at E4 k34 k35
    have X : ∀ (r : Nat) (k : Int), ¬ TxR r 0 k → r ≠ 12 → gI h4 r 0 k = gI h r 0 k := fun r k z1 z2 => (E4.1 r 0 k (by omega)).trans ((f2.1 r 0 k z1).trans (F6.1 r 0 k (by omega)))
    have Y : ∀ k : Int, 50 ≤ k → gI h4 12 0 k = gI h 12 0 k := fun k z => (E4.1 12 0 k (by omega)).trans ((f2.1 12 0 k (by unfold TxR; omega)).trans (F6.1 12 0 k (by omega)))
    have U : ∀ (r : Nat) (k : Int), 84 ≤ r → gI h4 r 0 k = gI h r 0 k := fun r k z => X r k (by unfold TxR; omega) (by omega)
    refine ok_some ⟨rfl, ⟨isR_e2 wC (fun r k z => X r k (by unfold lowR at z; unfold TxR; omega) (by unfold lowR at z; omega)) q1, B92_e (fun k => U 92 k (by decide)) q2, rV_e wC (fun r a c => U r 0 (by omega)) (fun m a c => ⟨U 91 m (by decide), U 92 m (by decide)⟩) q3, rL_e (fun r k a c _ _ => U r k (by omega)) vm.2 q4, rU_e wC (sw_U w).2.1 (Y 54 (by decide)) (fun r s a c _ _ => U r s (by omega)) (fun m a c => ⟨U 91 m (by decide), U 92 m (by decide)⟩) q5, rI_e wC (fun z => (vw_m (sw_i w z).1).2) (Y 53 (by decide)) (fun r a c => U r 2 (by omega)) (fun m a c => ⟨U 91 m (by decide), U 92 m (by decide)⟩) (fun r k a c _ _ => U r k (by omega)) q6, rN_e (fun k z => Y k (by omega)) (fun r k a c => U r k (by omega)) q7, ⟨?_, fun k k1 k2 => ?_⟩, ⟨k34, k35, ?_⟩⟩, ?_⟩
    · show gI h4 12 0 2 = 0
      rw [E4.1 12 0 2 (by omega), f2.1 12 0 2 (by unfold TxR; omega)]; exact g2
    · have k3 : k < 0 := k2
      omega
    · rw [E4.1 12 0 31 (by omega)]; exact ⟨v1, v2⟩
    · exact fr_tr (fr_mo F6 (by intro r i k; unfold ReW; omega)) (fr_tr (fr_mo f2 (by intro r i k; unfold TxR ReW; omega)) (fr_mo E4 (by intro r i k; unfold ReW; omega)))
end
/-- as Agr, with the scanner's words in their place -/
def AgrK (fC fR : Hp → Option (Int × Hp)) : Prop := ∀ (h : Hp) (c : Int) (σ : Sg), SW σ → IC h c σ → (∀ k : Nat, k < 27 → gI h 47 0 (k : Int) = keyV k) → ∃ (a : Int) (σ' : Sg), SW σ' ∧ ok (fC h) (fun r h' => r = a ∧ (∃ c', IC h' c' σ') ∧ FrX ClW h h') ∧ ∀ h2 : Hp, IR h2 σ → ok (fR h2) (fun r h' => r = a ∧ IR h' σ' ∧ Fr ReW h2 h')
theorem agr_text {x : Int} : AgrK (f_X11_text x) (f_X12_text x) := by
  intro h c σ w q hk
  by_cases z : 0 ≤ x ∧ x ≤ sX σ 30 0
  · obtain ⟨n, en⟩ : ∃ n : Nat, x = (n : Int) := ⟨x.toNat, by omega⟩
    subst en
    have TR := fun (h2 : Hp) (q2 : IR h2 σ) => tR_text (n := n) w q2 z.2
    obtain ⟨v, h', ev, y⟩ := tC_text (n := n) w q hk z.2
    cases eF : txF (sX σ 29) n 802 D0 0 0 with
    | error e =>
      rw [eF] at y
      refine ⟨-1, stX σ (erX (sX σ) e), SW_er w, ⟨v, h', ev, y.1, ⟨c, y.2.1⟩, y.2.2⟩, fun h2 q2 => ?_⟩
      have T := TR h2 q2
      rw [eF] at T
      exact T
    | ok a =>
      rw [eF] at y
      obtain ⟨y1, y2, f, g, cw, y3, y4⟩ := y
      refine ⟨(a.2 : Int), okS σ (mkC a.1 f g), SW_ok cw, ⟨v, h', ev, y1, ⟨1 - c, y3⟩, y4⟩, fun h2 q2 => ?_⟩
      have T := TR h2 q2
      rw [eF] at T
      exact ok_mono T (fun r h' z => ⟨z.1, z.2.1 f g, z.2.2⟩)
  · refine ⟨-2, σ, w, ok_rc q ?_, fun h2 q2 => ok_rr w q2 ?_⟩
    · refine ok_eq.mp (fuv_X11_text (fun m hm => ?_))
      refine s_X11_text_0 (by omega) ?_
      unfold b_X11_text_0
      have e := q.2.2.2.2.2.2.2.2.1.1
      rw [e]
      exact ok_if (fun _ => ok_some ⟨rfl, rfl⟩) (fun u => ok_f (by omega) (ok_some ⟨rfl, rfl⟩))
    · refine ok_eq.mp (fuv_X12_text (fun m hm => ?_))
      refine s_X12_text_0 (by omega) ?_
      unfold b_X12_text_0
      have e := q2.2.2.2.2.2.2.2.1.1
      refine ok_lt ?_
      rw [gI_nk (show (2 : Int) ≠ 0 by decide), e]
      exact ok_if (fun _ => ok_some ⟨rfl, rfl⟩) (fun u => ok_f (by omega) (ok_some ⟨rfl, rfl⟩))

