/-! TEXT, 15: the class's lines, but those of mouths -/
def SeW (c : Int) : Nat → Int → Int → Prop := fun r i k => (r = 7 ∧ 3 ≤ k ∧ k ≤ 13) ∨ (r = 9 ∧ i = c ∧ 0 ≤ k ∧ k ≤ 5)
def IsW (c : Int) : Nat → Int → Int → Prop := fun r i k => (r = 7 ∧ 3 ≤ k ∧ k ≤ 13) ∨ (i = c ∧ ((r = 9 ∧ k = 6) ∨ (51 ≤ r ∧ r ≤ 54)))
def WnW (c : Int) : Nat → Int → Int → Prop := fun r i k => (r = 7 ∧ 3 ≤ k ∧ k ≤ 13) ∨ (i = c ∧ ((r = 0 ∧ k = 6) ∨ r = 21))
def GaW (c : Int) : Nat → Int → Int → Prop := fun r i k => (r = 7 ∧ 3 ≤ k ∧ k ≤ 13) ∨ (i = c ∧ ((r = 0 ∧ k = 10) ∨ (22 ≤ r ∧ r ≤ 24)))
def SuW (c : Int) : Nat → Int → Int → Prop := fun r i k => (r = 7 ∧ 3 ≤ k ∧ k ≤ 13) ∨ (i = c ∧ r = 0 ∧ 11 ≤ k ∧ k ≤ 14)
section
variable {h h0 : Hp} {c pl : Int} {π : Int → Int} {b : Int → Int} {n s t : Nat} {S I N G T M : Ch} {W : Int → Int}
theorem l_sea (rc : gR h 7 0 1 = some (0, c)) (qs : dcS h c S) (qw : dcW h W) (q : rdF h b n s t) (F0 : Fr (TxC c) h0 h) : ok (f_X7_readSea pl h) (fun r h' => endX (seaF b n W S t pl) (baC c h0 r h') (fun a => r = 1 ∧ Fr (SeW c) h h' ∧ Fr (TxC c) h0 h' ∧ rdF h' b n s a.2.2 ∧ dcW h' a.1 ∧ dcS h' c a.2.1)) := by
  refine fuv_X7_readSea (fun m hm => ?_)
  refine s_X7_readSea_0 (by omega) ?_
  unfold b_X7_readSea_0 seaF
  refine oC F0 q qw (by decide) (by decide) (by decide) ?_
  intro h2 f2 G2 q2 w2
  have i1 := p_X7_isTold (w := 1) w2 (by decide) (by decide) (by decide)
  have i2 := p_X7_isTold (w := 2) w2 (by decide) (by decide) (by decide)
  have i3 := p_X7_isTold (w := 3) w2 (by decide) (by decide) (by decide)
  have i4 := p_X7_isTold (w := 4) w2 (by decide) (by decide) (by decide)
  by_cases z : W 1 = 1 ∨ W 2 = 1 ∨ W 3 = 1 ∨ W 4 = 1
  · show ok _ (fun r h' => endX ((if W 1 = 1 ∨ W 2 = 1 ∨ W 3 = 1 ∨ W 4 = 1 then .error (4, pl) else exB (numF b n 1 8 t) fun x => exB (numF b n 1 8 (t + 1)) fun y => .ok (tdF W 0, ud (ud S 0 0 x) 1 0 y, t + 2))) (baC c h0 r h') (fun a => r = 1 ∧ Fr (SeW c) h h' ∧ Fr (TxC c) h0 h' ∧ rdF h' b n s a.2.2 ∧ dcW h' a.1 ∧ dcS h' c a.2.1))
    rw [if_pos z]
    have fin : ∀ m1 : Nat, 0 < m1 → ok (g_X7_readSea m1 1 [pl] h2) (fun r h' => endX (.error (4, pl) : Ex ((Int → Int) × Ch × Nat)) (baC c h0 r h') (fun a => r = 1 ∧ Fr (SeW c) h h' ∧ Fr (TxC c) h0 h' ∧ rdF h' b n s a.2.2 ∧ dcW h' a.1 ∧ dcS h' c a.2.1)) := by
      intro m1 hm1
      refine s_X7_readSea_1 hm1 ?_
      unfold b_X7_readSea_1
      exact wC G2
    refine ok_be i1 (ok_if (fun u1 => ok_be i2 (ok_if (fun u2 => ok_be i3 (ok_if (fun u3 => ok_be i4 (ok_f (fun u4 => ?_) (fin _ (by omega)))) (fun u3 => fin _ (by omega)))) (fun u2 => fin _ (by omega)))) (fun u1 => fin _ (by omega)))
    rcases z with y | y | y | y
    · exact b2i_0.mp u1 y
    · exact b2i_0.mp u2 y
    · exact b2i_0.mp u3 y
    · exact b2i_0.mp u4 y
  · show ok _ (fun r h' => endX ((if W 1 = 1 ∨ W 2 = 1 ∨ W 3 = 1 ∨ W 4 = 1 then .error (4, pl) else exB (numF b n 1 8 t) fun x => exB (numF b n 1 8 (t + 1)) fun y => .ok (tdF W 0, ud (ud S 0 0 x) 1 0 y, t + 2))) (baC c h0 r h') (fun a => r = 1 ∧ Fr (SeW c) h h' ∧ Fr (TxC c) h0 h' ∧ rdF h' b n s a.2.2 ∧ dcW h' a.1 ∧ dcS h' c a.2.1))
    rw [if_neg z]
    refine ok_be i1 (ok_t (b2i_0.mpr (fun y => z (Or.inl y))) (ok_be i2 (ok_t (b2i_0.mpr (fun y => z (Or.inr (Or.inl y)))) (ok_be i3 (ok_t (b2i_0.mpr (fun y => z (Or.inr (Or.inr (Or.inl y))))) (ok_be i4 (ok_t (b2i_0.mpr (fun y => z (Or.inr (Or.inr (Or.inr y))))) (nC G2 q2 ?_))))))))
    intro x h12 f12 G12 q12 g11 g12 x1 x2
    refine ok_rf (by rw [fr_R f12, fr_R f2]; exact rc) (ok_lt ?_)
    rw [g11]
    have e14 : Fr (fun r i k => r = 9 ∧ i = c ∧ k = 0) h12 (sI h12 9 c 0 x) := fr_sI fr_rf (by omega)
    refine nC (fr_sI G12 (by unfold TxC; omega)) (rdF_fr e14 (by intro r k; omega) q12) ?_
    intro y h16 f16 G16 q16 k11 k12 y1 y2
    refine ok_rf (by rw [fr_R f16, fr_R e14, fr_R f12, fr_R f2]; exact rc) (ok_lt ?_)
    rw [k11]
    have e18 : Fr (fun r i k => r = 9 ∧ i = c ∧ k = 1) h16 (sI h16 9 c 1 y) := fr_sI fr_rf (by omega)
    have FF : Fr (fun r i k => (r = 7 ∧ 3 ≤ k ∧ k ≤ 13) ∨ (r = 9 ∧ i = c ∧ (k = 0 ∨ k = 1))) h (sI h16 9 c 1 y) := fr_tr (fr_mo f2 (by intro r i k; omega)) (fr_tr (fr_mo f12 (by intro r i k; unfold RnW; omega)) (fr_tr (fr_mo e14 (by intro r i k; omega)) (fr_tr (fr_mo f16 (by intro r i k; unfold RnW; omega)) (fr_mo e18 (by intro r i k; omega)))))
    have g0 : gI (sI h16 9 c 1 y) 9 c 0 = x := by rw [gI_nk (by decide), f16.1 9 c 0 (by unfold RnW; omega), gI_eq]
    have g13 : gI (sI h16 9 c 1 y) 7 0 13 = gI h2 7 0 13 := by rw [gI_nr (by decide), f16.1 7 0 13 (by unfold RnW; omega), gI_nr (by decide), f12.1 7 0 13 (by unfold RnW; omega)]
    exact ok_some (eX_o ⟨rfl, fr_mo FF (by intro r i k; unfold SeW; omega), fr_sI G16 (by unfold TxC; omega), rdF_fr e18 (by intro r k; omega) q16, dcW_e g13 w2, g0, gI_eq, (FF.1 9 c 4 (by omega)).trans qs.2.2.1, (FF.1 9 c 5 (by omega)).trans qs.2.2.2.1, (FF.1 9 c 3 (by omega)).trans qs.2.2.2.2.1, fun x x1 x2 => by rw [FF.1 9 c 2 (by omega)]; exact qs.2.2.2.2.2 x x1 x2⟩)
theorem l_land (rc : gR h 7 0 1 = some (0, c)) (qs : dcS h c S) (ws : sW S) (qi : dcI h c I) (i0 : 0 ≤ I 0 0) (i3 : I 0 0 ≤ 3) (qw : dcW h W) (q : rdF h b n s t) (F0 : Fr (TxC c) h0 h) : ok (f_X7_readLand pl h) (fun r h' => endX (lanF b n W S I t pl) (baC c h0 r h') (fun a => r = 1 ∧ Fr (SeW c) h h' ∧ Fr (TxC c) h0 h' ∧ rdF h' b n s a.2.2 ∧ dcW h' a.1 ∧ dcS h' c a.2.1)) := by
  have ws' := ws
  obtain ⟨⟨w1, w2, w3, w4⟩, wl, w5, w6⟩ := ws
  refine fuv_X7_readLand (fun m hm => ?_)
  refine s_X7_readLand_0 (by omega) ?_
  unfold b_X7_readLand_0 lanF
  refine ok_rf rc ?_
  rw [qs.2.2.2.2.1]
  by_cases z20 : 20 ≤ S 5 0
  · rw [if_pos z20]
    exact ok_f (by omega) (wC F0)
  · rw [if_neg z20]
    refine ok_t (by omega) (ok_bq (p_cel rc qs ws' q F0) ?_)
    intro r h2 z
    cases eN : celF b n S t with
    | error e =>
      rw [eN] at z
      exact ok_t z.1 (ok_some (⟨rfl, z.2⟩ : baC c h0 0 h2 e))
    | ok x =>
      rw [eN] at z
      obtain ⟨z1, f2, G2, q2, g11, g12, cp, x6⟩ := z
      show ok _ (fun r h' => endX ((if S 2 x = 1 then .error (3, (tkP b n (t + 1) : Int)) else (@ite _ (onL W S I x) (Classical.propDecidable _) (.error (5, (tkP b n (t + 1) : Int))) (.ok (tdF W 1, ud (ud S 2 x 1) 5 0 (S 5 0 + 1), t + 2))))) (baC c h0 r h') (fun a => r = 1 ∧ Fr (SeW c) h h' ∧ Fr (TxC c) h0 h' ∧ rdF h' b n s a.2.2 ∧ dcW h' a.1 ∧ dcS h' c a.2.1))
      have s2 := dcS_e (h2 := h2) (fun k _ _ => f2.1 9 c k (by unfold RnW; omega)) qs
      have qi2 := dcI_e (h2 := h2) (f2.1 9 c 6 (by unfold RnW; omega)) (fun r k _ _ => f2.1 r c k (by unfold RnW; omega)) qi
      have w2' := dcW_e (h2 := h2) (f2.1 7 0 13 (by unfold RnW; omega)) qw
      have lb := s2.2.2.2.2.2 x cp.1 x6
      refine ok_f (by omega) ?_
      rw [g11]
      refine ok_be (p_X9_isLand (by unfold seaB; rw [s2.1, s2.2.1]; exact ⟨w1, w2, w3, w4⟩)) ?_
      rw [s2.1, s2.2.1, g12]
      refine ok_if (fun u => ?_) (fun u => ?_)
      · have u1 : ¬ S 2 x = 1 := fun y => b2i_0.mp u ⟨cp, lb.mpr y⟩
        rw [if_neg u1]
        have three : ∀ m1 : Nat, 0 < m1 → onL W S I x → ok (g_X7_readLand m1 3 [] h2) (fun r h' => endX ((@ite _ (onL W S I x) (Classical.propDecidable _) (.error (5, (tkP b n (t + 1) : Int))) (.ok (tdF W 1, ud (ud S 2 x 1) 5 0 (S 5 0 + 1), t + 2)))) (baC c h0 r h') (fun a => r = 1 ∧ Fr (SeW c) h h' ∧ Fr (TxC c) h0 h' ∧ rdF h' b n s a.2.2 ∧ dcW h' a.1 ∧ dcS h' c a.2.1)) := by
          intro m1 hm1 zz
          rw [if_pos zz]
          refine s_X7_readLand_3 hm1 ?_
          unfold b_X7_readLand_3
          rw [g12]
          exact wC G2
        have two : ∀ m1 : Nat, 2 ≤ m1 → ¬ (W 2 = 1 ∧ S 3 0 = x) → ¬ (W 3 = 1 ∧ S 4 0 = x) → ok (g_X7_readLand m1 2 [c] h2) (fun r h' => endX ((@ite _ (onL W S I x) (Classical.propDecidable _) (.error (5, (tkP b n (t + 1) : Int))) (.ok (tdF W 1, ud (ud S 2 x 1) 5 0 (S 5 0 + 1), t + 2)))) (baC c h0 r h') (fun a => r = 1 ∧ Fr (SeW c) h h' ∧ Fr (TxC c) h0 h' ∧ rdF h' b n s a.2.2 ∧ dcW h' a.1 ∧ dcS h' c a.2.1)) := by
          intro m1 hm1 n2 n3
          refine s_X7_readLand_2 (by omega) ?_
          unfold b_X7_readLand_2
          rw [g11]
          refine ok_bq (p_isIsle qi2 i0 i3) ?_
          intro r h3 ⟨e3, y⟩
          rcases y with ⟨y1, y2⟩ | ⟨y1, y2⟩
          · rw [e3]
            rw [if_neg (fun zz => by rcases zz with zz | zz | zz; exact n2 zz; exact n3 zz; exact y2 zz : ¬ onL W S I x)]
            refine ok_t y1 (ok_lt (ok_lt (?_)))
            have e5 : gI (sI (sI h2 7 0 13 (bor (gI h2 7 0 13) 2)) 9 c 2 (borL (gI (sI h2 7 0 13 (bor (gI h2 7 0 13) 2)) 9 c 2) (bshlL 1 (gI (sI h2 7 0 13 (bor (gI h2 7 0 13) 2)) 7 0 11)))) 9 c 3 = S 5 0 := by rw [gI_nk (by decide), gI_nr (by decide)]; exact s2.2.2.2.2.1
            rw [e5]
            refine ok_ck (by omega) (ok_lt (ok_some ?_))
            have e2 : gI (sI h2 7 0 13 (bor (gI h2 7 0 13) 2)) 9 c 2 = gI h2 9 c 2 := gI_nr (by decide)
            have e11 : gI (sI h2 7 0 13 (bor (gI h2 7 0 13) 2)) 7 0 11 = x := (gI_nk (by decide)).trans g11
            rw [e2, e11]
            have F3 : Fr (fun r i k => (r = 7 ∧ k = 13) ∨ (r = 9 ∧ i = c ∧ (k = 2 ∨ k = 3))) h2 (sI (sI (sI h2 7 0 13 (bor (gI h2 7 0 13) 2)) 9 c 2 (borL (gI h2 9 c 2) (bshlL 1 x))) 9 c 3 (S 5 0 + 1)) := fr_sI (fr_sI (fr_sI fr_rf (by omega)) (by omega)) (by omega)
            have g13 : gI (sI (sI (sI h2 7 0 13 (bor (gI h2 7 0 13) 2)) 9 c 2 (borL (gI h2 9 c 2) (bshlL 1 x))) 9 c 3 (S 5 0 + 1)) 7 0 13 = bor (gI h2 7 0 13) 2 := by rw [gI_nr (by decide), gI_nr (by decide), gI_eq]
            have g2 : gI (sI (sI (sI h2 7 0 13 (bor (gI h2 7 0 13) 2)) 9 c 2 (borL (gI h2 9 c 2) (bshlL 1 x))) 9 c 3 (S 5 0 + 1)) 9 c 2 = borL (gI h2 9 c 2) (bshlL 1 x) := by rw [gI_nk (by decide), gI_eq]
            have g3 : gI (sI (sI (sI h2 7 0 13 (bor (gI h2 7 0 13) 2)) 9 c 2 (borL (gI h2 9 c 2) (bshlL 1 x))) 9 c 3 (S 5 0 + 1)) 9 c 3 = S 5 0 + 1 := gI_eq
            generalize sI (sI (sI h2 7 0 13 (bor (gI h2 7 0 13) 2)) 9 c 2 (borL (gI h2 9 c 2) (bshlL 1 x))) 9 c 3 (S 5 0 + 1) = h5 at F3 g13 g2 g3
            refine eX_o ⟨rfl, fr_tr (fr_mo f2 (by intro r i k; unfold RnW SeW; omega)) (fr_mo F3 (by intro r i k; unfold SeW; omega)), fr_tr G2 (fr_mo F3 (by intro r i k; unfold TxC; omega)), rdF_fr F3 (by intro r k; omega) q2, ?_, (F3.1 9 c 0 (by omega)).trans s2.1, (F3.1 9 c 1 (by omega)).trans s2.2.1, (F3.1 9 c 4 (by omega)).trans s2.2.2.1, (F3.1 9 c 5 (by omega)).trans s2.2.2.2.1, g3, fun x' x1' x2' => ?_⟩
            · unfold dcW
              rw [g13, show (2 : Int) = bshl 1 1 by decide +kernel]
              exact tdF_b w2' (by decide) (by decide)
            · rw [g2, lbit_set cp.1 x6 x1' x2', s2.2.2.2.2.2 x' x1' x2']
              show _ ↔ (ud (ud S 2 x 1) 5 0 (S 5 0 + 1)) 2 x' = 1
              rw [ud_nf (by decide)]
              by_cases y : x' = x
              · rw [y, ud_eq]; exact ⟨fun _ => rfl, fun _ => Or.inl rfl⟩
              · rw [ud_nk y]; exact ⟨fun a => a.resolve_left y, fun a => Or.inr a⟩
          · rw [e3]
            exact ok_f (by omega) (three _ (by omega) (Or.inr (Or.inr y2)))
        have one : ∀ m1 : Nat, 3 ≤ m1 → ¬ (W 2 = 1 ∧ S 3 0 = x) → ok (g_X7_readLand m1 1 [c] h2) (fun r h' => endX ((@ite _ (onL W S I x) (Classical.propDecidable _) (.error (5, (tkP b n (t + 1) : Int))) (.ok (tdF W 1, ud (ud S 2 x 1) 5 0 (S 5 0 + 1), t + 2)))) (baC c h0 r h') (fun a => r = 1 ∧ Fr (SeW c) h h' ∧ Fr (TxC c) h0 h' ∧ rdF h' b n s a.2.2 ∧ dcW h' a.1 ∧ dcS h' c a.2.1)) := by
          intro m1 hm1 n2
          refine s_X7_readLand_1 (by omega) ?_
          unfold b_X7_readLand_1
          refine ok_be (p_X7_isTold w2' (by decide) (by decide) (by decide)) ?_
          rw [g11, s2.2.2.2.1]
          exact (ok_if (fun y => two _ (by omega) n2 (fun zz => b2i_0.mp y zz.1)) (fun y => ok_if (fun y2 => three _ (by omega) (Or.inr (Or.inl ⟨b2i_n.mp y, y2⟩))) (fun y2 => two _ (by omega) n2 (fun zz => y2 zz.2))))
        refine ok_be (p_X7_isTold w2' (by decide) (by decide) (by decide)) ?_
        rw [g11, s2.2.2.1]
        exact (ok_if (fun y => one _ (by omega) (fun zz => b2i_0.mp y zz.1)) (fun y => ok_if (fun y2 => three _ (by omega) (Or.inl ⟨b2i_n.mp y, y2⟩)) (fun y2 => one _ (by omega) (fun zz => y2 zz.2))))
      · have u1 : S 2 x = 1 := lb.mp (b2i_n.mp u).2
        rw [if_pos u1]
        exact wC G2
theorem l_ship (rc : gR h 7 0 1 = some (0, c)) (qs : dcS h c S) (ws : sW S) (qw : dcW h W) (q : rdF h b n s t) (F0 : Fr (TxC c) h0 h) : ok (f_X7_readShip 2 pl h) (fun r h' => endX (shiF b n 2 3 W S t pl) (baC c h0 r h') (fun a => r = 1 ∧ Fr (SeW c) h h' ∧ Fr (TxC c) h0 h' ∧ rdF h' b n s a.2.2 ∧ dcW h' a.1 ∧ dcS h' c a.2.1)) := by
  refine fuv_X7_readShip (fun m hm => ?_)
  refine s_X7_readShip_0 (by omega) ?_
  unfold b_X7_readShip_0 shiF
  refine oC F0 q qw (by decide) (by decide) (by decide) ?_
  intro h2 f2 G2 q2 w2
  have s2 := dcS_e (h2 := h2) (fun k _ _ => f2.1 9 c k (by omega)) qs
  refine ok_bq (p_wat (by rw [fr_R f2]; exact rc) s2 ws q2 G2) ?_
  intro r h4 z
  cases eN : watF b n S t with
  | error e =>
    rw [eN] at z
    exact ok_t z.1 (ok_some (⟨rfl, z.2⟩ : baC c h0 0 h4 e))
  | ok x =>
    rw [eN] at z
    obtain ⟨z1, f4, G4, q4, g11, cp, x6, -⟩ := z
    have e6 : Fr (fun r i k => r = 9 ∧ i = c ∧ k = 4) h4 (sI h4 9 c 4 x) := fr_sI fr_rf (by omega)
    have FF : Fr (fun r i k => (r = 7 ∧ 3 ≤ k ∧ k ≤ 13) ∨ (r = 9 ∧ i = c ∧ k = 4)) h (sI h4 9 c 4 x) := fr_tr (fr_mo f2 (by intro r i k; omega)) (fr_tr (fr_mo f4 (by intro r i k; unfold RnW; omega)) (fr_mo e6 (by intro r i k; omega)))
    have g : gI (sI h4 9 c 4 x) 9 c 4 = x := gI_eq
    have g13 : gI (sI h4 9 c 4 x) 7 0 13 = gI h2 7 0 13 := by rw [gI_nr (by decide), f4.1 7 0 13 (by unfold RnW; omega)]
    refine ok_f (by omega) (ok_t (by decide) (ok_rf (by rw [fr_R f4, fr_R f2]; exact rc) (ok_lt ?_)))
    rw [g11]
    exact ok_some (eX_o ⟨rfl, fr_mo FF (by intro r i k; unfold SeW; omega), fr_sI G4 (by unfold TxC; omega), rdF_fr e6 (by intro r k; omega) q4, dcW_e g13 w2, (FF.1 9 c 0 (by omega)).trans qs.1, (FF.1 9 c 1 (by omega)).trans qs.2.1, g, (FF.1 9 c 5 (by omega)).trans qs.2.2.2.1, (FF.1 9 c 3 (by omega)).trans qs.2.2.2.2.1, fun x x1 x2 => by rw [FF.1 9 c 2 (by omega)]; exact qs.2.2.2.2.2 x x1 x2⟩)
theorem l_bah (rc : gR h 7 0 1 = some (0, c)) (qs : dcS h c S) (ws : sW S) (qw : dcW h W) (q : rdF h b n s t) (F0 : Fr (TxC c) h0 h) : ok (f_X7_readShip 3 pl h) (fun r h' => endX (shiF b n 3 4 W S t pl) (baC c h0 r h') (fun a => r = 1 ∧ Fr (SeW c) h h' ∧ Fr (TxC c) h0 h' ∧ rdF h' b n s a.2.2 ∧ dcW h' a.1 ∧ dcS h' c a.2.1)) := by
  refine fuv_X7_readShip (fun m hm => ?_)
  refine s_X7_readShip_0 (by omega) ?_
  unfold b_X7_readShip_0 shiF
  refine oC F0 q qw (by decide) (by decide) (by decide) ?_
  intro h2 f2 G2 q2 w2
  have s2 := dcS_e (h2 := h2) (fun k _ _ => f2.1 9 c k (by omega)) qs
  refine ok_bq (p_wat (by rw [fr_R f2]; exact rc) s2 ws q2 G2) ?_
  intro r h4 z
  cases eN : watF b n S t with
  | error e =>
    rw [eN] at z
    exact ok_t z.1 (ok_some (⟨rfl, z.2⟩ : baC c h0 0 h4 e))
  | ok x =>
    rw [eN] at z
    obtain ⟨z1, f4, G4, q4, g11, cp, x6, -⟩ := z
    have e6 : Fr (fun r i k => r = 9 ∧ i = c ∧ k = 5) h4 (sI h4 9 c 5 x) := fr_sI fr_rf (by omega)
    have FF : Fr (fun r i k => (r = 7 ∧ 3 ≤ k ∧ k ≤ 13) ∨ (r = 9 ∧ i = c ∧ k = 5)) h (sI h4 9 c 5 x) := fr_tr (fr_mo f2 (by intro r i k; omega)) (fr_tr (fr_mo f4 (by intro r i k; unfold RnW; omega)) (fr_mo e6 (by intro r i k; omega)))
    have g : gI (sI h4 9 c 5 x) 9 c 5 = x := gI_eq
    have g13 : gI (sI h4 9 c 5 x) 7 0 13 = gI h2 7 0 13 := by rw [gI_nr (by decide), f4.1 7 0 13 (by unfold RnW; omega)]
    refine ok_f (by omega) (ok_f (by decide) (ok_rf (by rw [fr_R f4, fr_R f2]; exact rc) (ok_lt ?_)))
    rw [g11]
    exact ok_some (eX_o ⟨rfl, fr_mo FF (by intro r i k; unfold SeW; omega), fr_sI G4 (by unfold TxC; omega), rdF_fr e6 (by intro r k; omega) q4, dcW_e g13 w2, (FF.1 9 c 0 (by omega)).trans qs.1, (FF.1 9 c 1 (by omega)).trans qs.2.1, (FF.1 9 c 4 (by omega)).trans qs.2.2.1, g, (FF.1 9 c 3 (by omega)).trans qs.2.2.2.2.1, fun x x1 x2 => by rw [FF.1 9 c 2 (by omega)]; exact qs.2.2.2.2.2 x x1 x2⟩)
theorem l_storm (rc : gR h 7 0 1 = some (0, c)) (qt : dcT h c T) (qw : dcW h W) (q : rdF h b n s t) (F0 : Fr (TxC c) h0 h) : ok (f_X7_readStorm pl h) (fun r h' => endX (stmF b n W T t pl) (baC c h0 r h') (fun a => r = 1 ∧ Fr (SuW c) h h' ∧ Fr (TxC c) h0 h' ∧ rdF h' b n s a.2.2 ∧ dcW h' a.1 ∧ dcT h' c a.2.1)) := by
  refine fuv_X7_readStorm (fun m hm => ?_)
  refine s_X7_readStorm_0 (by omega) ?_
  unfold b_X7_readStorm_0 stmF
  refine oC F0 q qw (by decide) (by decide) (by decide) ?_
  intro h2 f2 G2 q2 w2
  refine nC G2 q2 ?_
  intro x h4 f4 G4 q4 g11 g12 x1 x2
  refine ok_rf (by rw [fr_R f4, fr_R f2]; exact rc) (ok_lt ?_)
  rw [g11]
  have e6 : Fr (fun r i k => r = 0 ∧ i = c ∧ k = 11) h4 (sI h4 0 c 11 x) := fr_sI fr_rf (by omega)
  refine nC (fr_sI G4 (by unfold TxC; omega)) (rdF_fr e6 (by intro r k; omega) q4) ?_
  intro y h8 f8 G8 q8 k11 k12 y1 y2
  refine ok_rf (by rw [fr_R f8, fr_R e6, fr_R f4, fr_R f2]; exact rc) (ok_lt ?_)
  rw [k11]
  have e10 : Fr (fun r i k => r = 0 ∧ i = c ∧ k = 12) h8 (sI h8 0 c 12 y) := fr_sI fr_rf (by omega)
  have FF : Fr (fun r i k => (r = 7 ∧ 3 ≤ k ∧ k ≤ 13) ∨ (r = 0 ∧ i = c ∧ (k = 11 ∨ k = 12))) h (sI h8 0 c 12 y) := fr_tr (fr_mo f2 (by intro r i k; omega)) (fr_tr (fr_mo f4 (by intro r i k; unfold RnW; omega)) (fr_tr (fr_mo e6 (by intro r i k; omega)) (fr_tr (fr_mo f8 (by intro r i k; unfold RnW; omega)) (fr_mo e10 (by intro r i k; omega)))))
  have g0 : gI (sI h8 0 c 12 y) 0 c 11 = x := by rw [gI_nk (by decide), f8.1 0 c 11 (by unfold RnW; omega), gI_eq]
  have g13 : gI (sI h8 0 c 12 y) 7 0 13 = gI h2 7 0 13 := by rw [gI_nr (by decide), f8.1 7 0 13 (by unfold RnW; omega), gI_nr (by decide), f4.1 7 0 13 (by unfold RnW; omega)]
  exact ok_some (eX_o ⟨rfl, fr_mo FF (by intro r i k; unfold SuW; omega), fr_sI G8 (by unfold TxC; omega), rdF_fr e10 (by intro r k; omega) q8, dcW_e g13 w2, g0, gI_eq, (FF.1 0 c 13 (by omega)).trans qt.2.2.1, (FF.1 0 c 14 (by omega)).trans qt.2.2.2⟩)
theorem l_soup (rc : gR h 7 0 1 = some (0, c)) (qt : dcT h c T) (qw : dcW h W) (q : rdF h b n s t) (F0 : Fr (TxC c) h0 h) : ok (f_X7_readStore 8 pl h) (fun r h' => endX (stoF b n 8 9999 2 W T t pl) (baC c h0 r h') (fun a => r = 1 ∧ Fr (SuW c) h h' ∧ Fr (TxC c) h0 h' ∧ rdF h' b n s a.2.2 ∧ dcW h' a.1 ∧ dcT h' c a.2.1)) := by
  refine fuv_X7_readStore (fun m hm => ?_)
  refine s_X7_readStore_0 (by omega) ?_
  unfold b_X7_readStore_0 stoF
  refine oC F0 q qw (by decide) (by decide) (by decide) ?_
  intro h2 f2 G2 q2 w2
  refine ok_t (by decide) ?_
  refine s_X7_readStore_1 (by omega) ?_
  unfold b_X7_readStore_1
  refine nC G2 q2 ?_
  intro x h4 f4 G4 q4 g11 g12 x1 x2
  refine ok_t (by decide) (ok_rf (by rw [fr_R f4, fr_R f2]; exact rc) (ok_lt ?_))
  rw [g11]
  have e6 : Fr (fun r i k => r = 0 ∧ i = c ∧ k = 13) h4 (sI h4 0 c 13 x) := fr_sI fr_rf (by omega)
  have FF : Fr (fun r i k => (r = 7 ∧ 3 ≤ k ∧ k ≤ 13) ∨ (r = 0 ∧ i = c ∧ k = 13)) h (sI h4 0 c 13 x) := fr_tr (fr_mo f2 (by intro r i k; omega)) (fr_tr (fr_mo f4 (by intro r i k; unfold RnW; omega)) (fr_mo e6 (by intro r i k; omega)))
  have g : gI (sI h4 0 c 13 x) 0 c 13 = x := gI_eq
  have g13 : gI (sI h4 0 c 13 x) 7 0 13 = gI h2 7 0 13 := by rw [gI_nr (by decide), f4.1 7 0 13 (by unfold RnW; omega)]
  exact ok_some (eX_o ⟨rfl, fr_mo FF (by intro r i k; unfold SuW; omega), fr_sI G4 (by unfold TxC; omega), rdF_fr e6 (by intro r k; omega) q4, dcW_e g13 w2, (FF.1 0 c 11 (by omega)).trans qt.1, (FF.1 0 c 12 (by omega)).trans qt.2.1, g, (FF.1 0 c 14 (by omega)).trans qt.2.2.2⟩)
theorem l_seed (rc : gR h 7 0 1 = some (0, c)) (qt : dcT h c T) (qw : dcW h W) (q : rdF h b n s t) (F0 : Fr (TxC c) h0 h) : ok (f_X7_readStore 9 pl h) (fun r h' => endX (stoF b n 9 99999 3 W T t pl) (baC c h0 r h') (fun a => r = 1 ∧ Fr (SuW c) h h' ∧ Fr (TxC c) h0 h' ∧ rdF h' b n s a.2.2 ∧ dcW h' a.1 ∧ dcT h' c a.2.1)) := by
  refine fuv_X7_readStore (fun m hm => ?_)
  refine s_X7_readStore_0 (by omega) ?_
  unfold b_X7_readStore_0 stoF
  refine oC F0 q qw (by decide) (by decide) (by decide) ?_
  intro h2 f2 G2 q2 w2
  refine ok_f (by decide) ?_
  refine s_X7_readStore_1 (by omega) ?_
  unfold b_X7_readStore_1
  refine nC G2 q2 ?_
  intro x h4 f4 G4 q4 g11 g12 x1 x2
  refine ok_f (by decide) (ok_rf (by rw [fr_R f4, fr_R f2]; exact rc) (ok_lt ?_))
  rw [g11]
  have e6 : Fr (fun r i k => r = 0 ∧ i = c ∧ k = 14) h4 (sI h4 0 c 14 x) := fr_sI fr_rf (by omega)
  have FF : Fr (fun r i k => (r = 7 ∧ 3 ≤ k ∧ k ≤ 13) ∨ (r = 0 ∧ i = c ∧ k = 14)) h (sI h4 0 c 14 x) := fr_tr (fr_mo f2 (by intro r i k; omega)) (fr_tr (fr_mo f4 (by intro r i k; unfold RnW; omega)) (fr_mo e6 (by intro r i k; omega)))
  have g : gI (sI h4 0 c 14 x) 0 c 14 = x := gI_eq
  have g13 : gI (sI h4 0 c 14 x) 7 0 13 = gI h2 7 0 13 := by rw [gI_nr (by decide), f4.1 7 0 13 (by unfold RnW; omega)]
  exact ok_some (eX_o ⟨rfl, fr_mo FF (by intro r i k; unfold SuW; omega), fr_sI G4 (by unfold TxC; omega), rdF_fr e6 (by intro r k; omega) q4, dcW_e g13 w2, (FF.1 0 c 11 (by omega)).trans qt.1, (FF.1 0 c 12 (by omega)).trans qt.2.1, (FF.1 0 c 13 (by omega)).trans qt.2.2.1, g⟩)
theorem l_gale (rc : gR h 7 0 1 = some (0, c)) (qg : dcG h c G) (g0 : 0 ≤ G 0 0) (q : rdF h b n s t) (F0 : Fr (TxC c) h0 h) : ok (f_X7_readGale pl h) (fun r h' => endX (galF b n G t pl) (baC c h0 r h') (fun a => r = 1 ∧ Fr (GaW c) h h' ∧ Fr (TxC c) h0 h' ∧ rdF h' b n s a.2 ∧ dcG h' c a.1 ∧ gI h' 7 0 13 = gI h 7 0 13)) := by
  refine fuv_X7_readGale (fun m hm => ?_)
  refine s_X7_readGale_0 (by omega) ?_
  unfold b_X7_readGale_0 galF
  refine ok_rf rc (ok_lt ?_)
  rw [qg.1]
  refine ok_f (by omega) ?_
  by_cases z4 : 4 ≤ G 0 0
  · rw [if_pos z4]
    refine ok_f (by omega) ?_
    refine s_X7_readGale_1 (by omega) ?_
    unfold b_X7_readGale_1
    exact wC F0
  · rw [if_neg z4]
    refine ok_t (by omega) (nC F0 q ?_)
    intro x h4 f4 G4 q4 g11 g12 x1 x2
    refine ok_rf (by rw [fr_R f4]; exact rc) (ok_ck (by omega) (ok_lt ?_))
    rw [g11]
    have e6 : Fr (fun r i k => r = 22 ∧ i = c ∧ k = G 0 0) h4 (sI h4 22 c (G 0 0) x) := fr_sI fr_rf (by omega)
    refine nC (fr_sI G4 (by unfold TxC; omega)) (rdF_fr e6 (by intro r k; omega) q4) ?_
    intro y h8 f8 G8 q8 k11 k12 y1 y2
    refine ok_rf (by rw [fr_R f8, fr_R e6, fr_R f4]; exact rc) (ok_ck (by omega) (ok_lt ?_))
    rw [k11]
    have e10 : Fr (fun r i k => r = 23 ∧ i = c ∧ k = G 0 0) h8 (sI h8 23 c (G 0 0) y) := fr_sI fr_rf (by omega)
    refine nC (fr_sI G8 (by unfold TxC; omega)) (rdF_fr e10 (by intro r k; omega) q8) ?_
    intro z h12 f12 G12 q12 l11 l12 z1 z2
    refine ok_rf (by rw [fr_R f12, fr_R e10, fr_R f8, fr_R e6, fr_R f4]; exact rc) (ok_ck (by omega) (ok_lt ?_))
    rw [l11]
    have e14 : Fr (fun r i k => r = 24 ∧ i = c ∧ k = G 0 0) h12 (sI h12 24 c (G 0 0) z) := fr_sI fr_rf (by omega)
    have F1 : Fr (fun r i k => (r = 7 ∧ 3 ≤ k ∧ k ≤ 12) ∨ (i = c ∧ (r = 22 ∨ r = 23 ∨ r = 24) ∧ k = G 0 0)) h (sI h12 24 c (G 0 0) z) := fr_tr (fr_mo f4 (by intro r i k; unfold RnW; omega)) (fr_tr (fr_mo e6 (by intro r i k; omega)) (fr_tr (fr_mo f8 (by intro r i k; unfold RnW; omega)) (fr_tr (fr_mo e10 (by intro r i k; omega)) (fr_tr (fr_mo f12 (by intro r i k; unfold RnW; omega)) (fr_mo e14 (by intro r i k; omega))))))
    refine ok_rf (by rw [fr_R F1]; exact rc) ?_
    rw [F1.1 0 c 10 (by omega), qg.1]
    have e16 : Fr (fun r i k => r = 0 ∧ i = c ∧ k = 10) (sI h12 24 c (G 0 0) z) (sI (sI h12 24 c (G 0 0) z) 0 c 10 (G 0 0 + 1)) := fr_sI fr_rf (by omega)
    have a22 : gI (sI (sI h12 24 c (G 0 0) z) 0 c 10 (G 0 0 + 1)) 22 c (G 0 0) = x := by rw [gI_nr (by decide), gI_nr (by decide), f12.1 22 c _ (by unfold RnW; omega), gI_nr (by decide), f8.1 22 c _ (by unfold RnW; omega), gI_eq]
    have a23 : gI (sI (sI h12 24 c (G 0 0) z) 0 c 10 (G 0 0 + 1)) 23 c (G 0 0) = y := by rw [gI_nr (by decide), gI_nr (by decide), f12.1 23 c _ (by unfold RnW; omega), gI_eq]
    have a24 : gI (sI (sI h12 24 c (G 0 0) z) 0 c 10 (G 0 0 + 1)) 24 c (G 0 0) = z := by rw [gI_nr (by decide), gI_eq]
    have FF := fr_tr (fr_mo F1 (show ∀ (r : Nat) (i k : Int), _ → ((r = 7 ∧ 3 ≤ k ∧ k ≤ 12) ∨ (i = c ∧ (((r = 22 ∨ r = 23 ∨ r = 24) ∧ k = G 0 0) ∨ (r = 0 ∧ k = 10)))) by intro r i k; omega)) (fr_mo e16 (by intro r i k; omega))
    refine ok_ck (by omega) (ok_lt (ok_some (eX_o ⟨rfl, fr_mo FF (by intro r i k; unfold GaW; omega), fr_sI (fr_sI G12 (by unfold TxC; omega)) (by unfold TxC; omega), rdF_fr e16 (by intro r k; omega) (rdF_fr e14 (by intro r k; omega) q12), ⟨gI_eq, fun k k1 k2 => ?_⟩, FF.1 7 0 13 (by omega)⟩)))
    have k2' : k < G 0 0 + 1 := k2
    have u1 : (ud (ud (ud (ud G 1 (G 0 0) x) 2 (G 0 0) y) 3 (G 0 0) z) 0 0 (G 0 0 + 1)) 1 k = if k = G 0 0 then x else G 1 k := by simp [ud]
    have u2 : (ud (ud (ud (ud G 1 (G 0 0) x) 2 (G 0 0) y) 3 (G 0 0) z) 0 0 (G 0 0 + 1)) 2 k = if k = G 0 0 then y else G 2 k := by simp [ud]
    have u3 : (ud (ud (ud (ud G 1 (G 0 0) x) 2 (G 0 0) y) 3 (G 0 0) z) 0 0 (G 0 0 + 1)) 3 k = if k = G 0 0 then z else G 3 k := by simp [ud]
    show _ = (ud (ud (ud (ud G 1 (G 0 0) x) 2 (G 0 0) y) 3 (G 0 0) z) 0 0 (G 0 0 + 1)) 1 k ∧ _ = (ud (ud (ud (ud G 1 (G 0 0) x) 2 (G 0 0) y) 3 (G 0 0) z) 0 0 (G 0 0 + 1)) 2 k ∧ _ = (ud (ud (ud (ud G 1 (G 0 0) x) 2 (G 0 0) y) 3 (G 0 0) z) 0 0 (G 0 0 + 1)) 3 k
    rw [u1, u2, u3]
    by_cases kk : k = G 0 0
    · rw [if_pos kk, if_pos kk, if_pos kk, kk]
      exact ⟨a22, a23, a24⟩
    · rw [if_neg kk, if_neg kk, if_neg kk, FF.1 22 c k (by omega), FF.1 23 c k (by omega), FF.1 24 c k (by omega)]
      exact qg.2 k k1 (by omega)
end
