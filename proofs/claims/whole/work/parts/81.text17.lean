/-! TEXT, 17: the class's lines: mouths -/
/-- a mouth's record: 0 name 1 plates 2 odds 3 from 4 till 5 sick from 6 sick to 7 loses 8 code from 9 code to -/
def ur (R : Nat → Int) (f : Nat) (v : Int) : Nat → Int := fun f' => if f' = f then v else R f'
def dcr (h : Hp) (m : Int) (R : Nat → Int) : Prop := ∀ f : Nat, f < 10 → gI h 4 m (f : Int) = R f
section
variable (b : Int → Int) (n : Nat)
def sicF (R : Nat → Int) (t : Nat) : Ex ((Nat → Int) × Nat) := exB (numF b n 0 59 t) fun x => exB (numF b n x 59 (t + 1)) fun y => .ok (ur (ur R 5 x) 6 y, t + 2)
def losF (R : Nat → Int) (t : Nat) : Ex ((Nat → Int) × Nat) := exB (numF b n 1 99 t) fun x => .ok (ur R 7 x, t + 1)
def froF (R : Nat → Int) (t : Nat) : Ex ((Nat → Int) × Nat) := exB (numF b n 0 (R 4) t) fun x => .ok (ur R 3 x, t + 1)
def tilF (R : Nat → Int) (t : Nat) : Ex ((Nat → Int) × Nat) := exB (numF b n (R 3) 59 t) fun x => .ok (ur R 4 x, t + 1)
def wrF (w : Int) (R : Nat → Int) (t : Nat) : Ex ((Nat → Int) × Nat) := if w = 15 then sicF b n R t else if w = 16 then losF b n R t else if w = 13 then froF b n R t else tilF b n R t
def rsF : Nat → (Int → Int) → (Nat → Int) → Nat → Ex ((Nat → Int) × Nat)
  | 0, _, _, _ => .error (0, 0)
  | f + 1, hd, R, t => if 13 ≤ kyT b n t ∧ kyT b n t ≤ 16 then (if hd (kyT b n t) = 1 then .error (3, (tkP b n t : Int)) else exB (wrF b n (kyT b n t) R (t + 1)) fun r => rsF f (tdF hd (kyT b n t)) r.1 r.2) else .ok (R, t)
def oddF (t : Nat) : Ex (Int × Nat) := if kyT b n t = 12 then exB (numF b n 1 99 (t + 1)) fun x => .ok (x, t + 2) else .error (1, (tkP b n t : Int))
end
def mR (x p o : Int) : Nat → Int := fun f => if f = 0 then x else if f = 1 then p else if f = 2 then o else if f = 4 then 59 else if f = 6 then -1 else if f = 7 then 99 else 0
/-- a name of the crew -/
def crP (M : Ch) (x : Int) : Prop := ∃ k, thM M k ∧ M 2 k = x
def slM (y : Bool) (M : Ch) : Int := if y = true then 5 + M 1 0 else M 0 0
def MU (y : Bool) (M : Ch) (R : Nat → Int) : Ch := fun f k => if f = 0 then (if y = true then M 0 k else M 0 0 + 1) else if f = 1 then (if y = true then M 1 0 + 1 else M 1 k) else if k = slM y M then R (f - 2) else M f k
abbrev Mr : Type := Ch × List (Int × Int) × Nat × Nat
noncomputable def mouF (b : Int → Int) (n : Nat) (y : Bool) (M : Ch) (o : List (Int × Int)) (k t : Nat) (pl : Int) : Ex Mr :=
  if (if y = true then 4 ≤ M 1 0 else 5 ≤ M 0 0) then .error (2, pl)
  else if tkK b n t ≠ 1 then .error (1, (tkP b n t : Int))
  else @ite _ (crP M (tkV b n t)) (Classical.propDecidable _) (.error (3, (tkP b n t : Int)))
    (exB (numF b n 0 9 (t + 1)) fun p => exB (if y = true then oddF b n (t + 2) else .ok (0, t + 2)) fun od => exB (rsF b n 5 (fun _ => 0) (mR (tkV b n t) p od.1) od.2) fun r => exB (runE b n 801 o [] r.2 true k 0) fun q => .ok (MU y M (ur (ur r.1 8 (o.length : Int)) 9 (q.1.length : Int)), q.1, q.2.2, q.2.1))
def RsW (m : Int) : Nat → Int → Int → Prop := fun r i k => (r = 7 ∧ 3 ≤ k ∧ k ≤ 12) ∨ (r = 4 ∧ i = m)
def MoW (c : Int) : Nat → Int → Int → Prop := fun r i k => (r = 7 ∧ ((3 ≤ k ∧ k ≤ 12) ∨ (15 ≤ k ∧ k ≤ 18))) ∨ r = 46 ∨ (i = c ∧ ((r = 1 ∧ k = 2) ∨ r = 25 ∨ r = 26 ∨ (r = 0 ∧ (k = 3 ∨ k = 4)))) ∨ (r = 4 ∧ 9 * c ≤ i ∧ i < 9 * c + 9)
section
variable {h h0 h2 : Hp} {c pl m : Int} {π : Int → Int} {b : Int → Int} {n s t : Nat} {R : Nat → Int} {M : Ch} {W : Int → Int}
theorem dcr_s {k : Nat} {k' v : Int} (e : k' = (k : Int)) (q : dcr h m R) : dcr (sI h 4 m k' v) m (ur R k v) := by
  intro f hf
  unfold ur
  by_cases y : f = k
  · rw [if_pos y, y, e, gI_eq]
  · rw [if_neg y, gI_nk (by omega)]
    exact q f hf
theorem dcr_fr {W : Nat → Int → Int → Prop} (f : Fr W h h2) (d : ∀ k, ¬ W 4 m k) (q : dcr h m R) : dcr h2 m R := fun k hk => (f.1 4 m k (d k)).trans (q k hk)
theorem sI_rs {k v : Int} : Fr (fun r i k2 => r = 4 ∧ i = m ∧ k2 = k) h (sI h 4 m k v) := fr_sI fr_rf ⟨rfl, rfl, rfl⟩
theorem rs_tx (m1 : 9 * c ≤ m) (m2 : m < 9 * c + 9) : ∀ (r : Nat) (i k : Int), RsW m r i k → TxC c r i k := by intro r i k; unfold RsW TxC; omega
theorem l_loses (m1 : 9 * c ≤ m) (m2 : m < 9 * c + 9) (qr : dcr h m R) (q : rdF h b n s t) (F0 : Fr (TxC c) h0 h) : ok (f_X7_readLoses m h) (fun r h' => endX (losF b n R t) (baC c h0 r h') (fun a => r = 1 ∧ Fr (RsW m) h h' ∧ Fr (TxC c) h0 h' ∧ rdF h' b n s a.2 ∧ dcr h' m a.1)) := by
  refine fuv_X7_readLoses (fun g hg => ?_)
  refine s_X7_readLoses_0 (by omega) ?_
  unfold b_X7_readLoses_0 losF
  refine nC F0 q ?_
  intro x h2 f2 G2 q2 g11 g12 x1 x2
  refine ok_lt ?_
  rw [g11]
  have e3 := sI_rs (h := h2) (m := m) (k := 7) (v := x)
  exact ok_some (eX_o ⟨rfl, fr_tr (fr_mo f2 (by intro r i k; unfold RnW RsW; omega)) (fr_mo e3 (by intro r i k; unfold RsW; omega)), fr_tr G2 (fr_mo e3 (by intro r i k; unfold TxC; omega)), rdF_fr e3 (by intro r k; omega) q2, dcr_s (k := 7) rfl (dcr_fr f2 (by intro k; unfold RnW; omega) qr)⟩)
theorem l_from (m1 : 9 * c ≤ m) (m2 : m < 9 * c + 9) (qr : dcr h m R) (q : rdF h b n s t) (F0 : Fr (TxC c) h0 h) : ok (f_X7_readStay m 13 h) (fun r h' => endX (froF b n R t) (baC c h0 r h') (fun a => r = 1 ∧ Fr (RsW m) h h' ∧ Fr (TxC c) h0 h' ∧ rdF h' b n s a.2 ∧ dcr h' m a.1)) := by
  refine fuv_X7_readStay (fun g hg => ?_)
  refine s_X7_readStay_0 (by omega) ?_
  unfold b_X7_readStay_0 froF
  rw [show gI h 4 m 4 = R 4 from qr 4 (by decide)]
  refine ok_t rfl (nC F0 q ?_)
  intro x h2 f2 G2 q2 g11 g12 x1 x2
  refine ok_lt ?_
  rw [g11]
  have e3 := sI_rs (h := h2) (m := m) (k := 3) (v := x)
  exact ok_some (eX_o ⟨rfl, fr_tr (fr_mo f2 (by intro r i k; unfold RnW RsW; omega)) (fr_mo e3 (by intro r i k; unfold RsW; omega)), fr_tr G2 (fr_mo e3 (by intro r i k; unfold TxC; omega)), rdF_fr e3 (by intro r k; omega) q2, dcr_s (k := 3) rfl (dcr_fr f2 (by intro k; unfold RnW; omega) qr)⟩)
theorem l_till {w : Int} (w13 : w ≠ 13) (m1 : 9 * c ≤ m) (m2 : m < 9 * c + 9) (qr : dcr h m R) (q : rdF h b n s t) (F0 : Fr (TxC c) h0 h) : ok (f_X7_readStay m w h) (fun r h' => endX (tilF b n R t) (baC c h0 r h') (fun a => r = 1 ∧ Fr (RsW m) h h' ∧ Fr (TxC c) h0 h' ∧ rdF h' b n s a.2 ∧ dcr h' m a.1)) := by
  refine fuv_X7_readStay (fun g hg => ?_)
  refine s_X7_readStay_0 (by omega) ?_
  unfold b_X7_readStay_0 tilF
  rw [show gI h 4 m 3 = R 3 from qr 3 (by decide)]
  refine ok_f w13 (nC F0 q ?_)
  intro x h2 f2 G2 q2 g11 g12 x1 x2
  refine ok_lt ?_
  rw [g11]
  have e3 := sI_rs (h := h2) (m := m) (k := 4) (v := x)
  exact ok_some (eX_o ⟨rfl, fr_tr (fr_mo f2 (by intro r i k; unfold RnW RsW; omega)) (fr_mo e3 (by intro r i k; unfold RsW; omega)), fr_tr G2 (fr_mo e3 (by intro r i k; unfold TxC; omega)), rdF_fr e3 (by intro r k; omega) q2, dcr_s (k := 4) rfl (dcr_fr f2 (by intro k; unfold RnW; omega) qr)⟩)
theorem l_sick (m1 : 9 * c ≤ m) (m2 : m < 9 * c + 9) (qr : dcr h m R) (q : rdF h b n s t) (F0 : Fr (TxC c) h0 h) : ok (f_X7_readSick m h) (fun r h' => endX (sicF b n R t) (baC c h0 r h') (fun a => r = 1 ∧ Fr (RsW m) h h' ∧ Fr (TxC c) h0 h' ∧ rdF h' b n s a.2 ∧ dcr h' m a.1)) := by
  refine fuv_X7_readSick (fun g hg => ?_)
  refine s_X7_readSick_0 (by omega) ?_
  unfold b_X7_readSick_0 sicF
  refine nC F0 q ?_
  intro x h2 f2 G2 q2 g11 g12 x1 x2
  refine ok_lt ?_
  rw [g11, gI_eq]
  have e3 := sI_rs (h := h2) (m := m) (k := 5) (v := x)
  have d3 : dcr (sI h2 4 m 5 x) m (ur R 5 x) := dcr_s (k := 5) rfl (dcr_fr f2 (by intro k; unfold RnW; omega) qr)
  refine nC (fr_tr G2 (fr_mo e3 (by intro r i k; unfold TxC; omega))) (rdF_fr e3 (by intro r k; omega) q2) ?_
  intro y h5 f5 G5 q5 k11 k12 y1 y2
  refine ok_lt ?_
  rw [k11]
  have e6 := sI_rs (h := h5) (m := m) (k := 6) (v := y)
  exact ok_some (eX_o ⟨rfl, fr_tr (fr_mo f2 (by intro r i k; unfold RnW RsW; omega)) (fr_tr (fr_mo e3 (by intro r i k; unfold RsW; omega)) (fr_tr (fr_mo f5 (by intro r i k; unfold RnW RsW; omega)) (fr_mo e6 (by intro r i k; unfold RsW; omega)))), fr_tr G5 (fr_mo e6 (by intro r i k; unfold TxC; omega)), rdF_fr e6 (by intro r k; omega) q5, dcr_s (k := 6) rfl (dcr_fr f5 (by intro k; unfold RnW; omega) d3)⟩)
theorem l_odds (m1 : 9 * c ≤ m) (m2 : m < 9 * c + 9) (qr : dcr h m R) (q : rdF h b n s t) (F0 : Fr (TxC c) h0 h) : ok (f_X7_readOdds m h) (fun r h' => endX (oddF b n t) (baC c h0 r h') (fun a => r = 1 ∧ Fr (RsW m) h h' ∧ Fr (TxC c) h0 h' ∧ rdF h' b n s a.2 ∧ dcr h' m (ur R 2 a.1))) := by
  have k9 : gI h 7 0 9 = kyT b n t := q.1.2.2.2.2.2.1
  have k7 : gI h 7 0 7 = (tkP b n t : Int) := q.1.2.2.2.1
  refine fuv_X7_readOdds (fun g hg => ?_)
  refine s_X7_readOdds_0 (by omega) ?_
  unfold b_X7_readOdds_0 oddF
  rw [k9, k7]
  by_cases z : kyT b n t = 12
  · refine ok_t z ?_
    rw [if_pos z]
    refine ok_bq (aC F0 q) ?_
    intro _ h1 ⟨f1, G1, q1⟩
    refine nC G1 q1 ?_
    intro x h2 f2 G2 q2 g11 g12 x1 x2
    refine ok_lt ?_
    rw [g11]
    have e3 := sI_rs (h := h2) (m := m) (k := 2) (v := x)
    exact ok_some (eX_o ⟨rfl, fr_tr (fr_mo f1 (by intro r i k; unfold AdW RsW; omega)) (fr_tr (fr_mo f2 (by intro r i k; unfold RnW RsW; omega)) (fr_mo e3 (by intro r i k; unfold RsW; omega))), fr_tr G2 (fr_mo e3 (by intro r i k; unfold TxC; omega)), rdF_fr e3 (by intro r k; omega) q2, dcr_s (k := 2) rfl (dcr_fr f2 (by intro k; unfold RnW; omega) (dcr_fr f1 (by intro k; unfold AdW; omega) qr))⟩)
  · refine ok_f z ?_
    rw [if_neg z]
    exact wC F0
theorem l_rs (m1 : 9 * c ≤ m) (m2 : m < 9 * c + 9) : ∀ (f x g : Nat) (hd : Int → Int) (hv : Int) (R : Nat → Int) (t : Nat) (h1 : Hp), f + x = 5 → 2 * f + 2 ≤ g → hd 13 + hd 14 + hd 15 + hd 16 = (x : Int) → (∀ w, 13 ≤ w → w ≤ 16 → bit hv w = hd w ∧ (hd w = 0 ∨ hd w = 1)) → dcr h1 m R → rdF h1 b n s t → Fr (TxC c) h0 h1 → ok (g_X7_readRest g 1 [m, hv, (x : Int)] h1) (fun r h' => endX (rsF b n f hd R t) (baC c h0 r h') (fun a => r = 1 ∧ Fr (RsW m) h1 h' ∧ Fr (TxC c) h0 h' ∧ rdF h' b n s a.2 ∧ dcr h' m a.1))
  | 0, x, g, hd, hv, R, t, h1, fx, hg, sm, hb, qr, q, F0 => by
    have a := (hb 13 (by decide) (by decide)).2
    have a2 := (hb 14 (by decide) (by decide)).2
    have a3 := (hb 15 (by decide) (by decide)).2
    have a4 := (hb 16 (by decide) (by decide)).2
    omega
  | f + 1, x, g, hd, hv, R, t, h1, fx, hg, sm, hb, qr, q, F0 => by
    have k9 : gI h1 7 0 9 = kyT b n t := q.1.2.2.2.2.2.1
    have k7 : gI h1 7 0 7 = (tkP b n t : Int) := q.1.2.2.2.1
    refine s_X7_readRest_1 (by omega) ?_
    unfold b_X7_readRest_1 rsF
    rw [k9, k7]
    refine ok_f (by omega) ?_
    by_cases z : 13 ≤ kyT b n t ∧ kyT b n t ≤ 16
    · rw [if_pos z]
      obtain ⟨w, ew⟩ : ∃ w, kyT b n t = w := ⟨_, rfl⟩
      rw [ew] at z
      rw [ew]
      have hw := hb w z.1 z.2
      refine ok_f (by omega) (ok_f (by omega) ?_)
      have eb : band (bshr hv w) 1 = hd w := hw.1
      rw [eb]
      by_cases y : hd w = 1
      · refine ok_t y ?_
        rw [if_pos y]
        exact wC F0
      · refine ok_f y ?_
        rw [if_neg y]
        refine ok_lt (ok_lt (ok_bq (aC F0 q) ?_))
        intro _ h2 ⟨f2, G2, q2⟩
        have d2 := dcr_fr f2 (by intro k; unfold AdW; omega) qr
        have two : ∀ (v : Int) (h3 : Hp), endX (wrF b n w R (t + 1)) (baC c h0 v h3) (fun a => v = 1 ∧ Fr (RsW m) h2 h3 ∧ Fr (TxC c) h0 h3 ∧ rdF h3 b n s a.2 ∧ dcr h3 m a.1) → ok (g_X7_readRest (g - 1) 2 [m, bor hv (bshl 1 w), (x : Int), v] h3) (fun r h' => endX (exB (wrF b n w R (t + 1)) fun r => rsF b n f (tdF hd w) r.1 r.2) (baC c h0 r h') (fun a => r = 1 ∧ Fr (RsW m) h1 h' ∧ Fr (TxC c) h0 h' ∧ rdF h' b n s a.2 ∧ dcr h' m a.1)) := by
          intro v h3 e
          refine s_X7_readRest_2 (by omega) ?_
          unfold b_X7_readRest_2
          cases eN : wrF b n w R (t + 1) with
          | error e' =>
            rw [eN] at e
            exact ok_t e.1 (ok_some (⟨rfl, e.2⟩ : baC c h0 0 h3 e'))
          | ok a =>
            rw [eN] at e
            obtain ⟨v1, f3, G3, q3, d3⟩ := e
            refine ok_f (by omega) (ok_ck (by omega) ?_)
            have cs : w = 13 ∨ w = 14 ∨ w = 15 ∨ w = 16 := by omega
            have sm' : tdF hd w 13 + tdF hd w 14 + tdF hd w 15 + tdF hd w 16 = ((x + 1 : Nat) : Int) := by
              have hz := hw.2
              unfold tdF
              rcases cs with e | e | e | e
              · rw [e] at y hz ⊢
                rw [if_pos rfl, if_neg (by decide), if_neg (by decide), if_neg (by decide)]; omega
              · rw [e] at y hz ⊢
                rw [if_neg (by decide), if_pos rfl, if_neg (by decide), if_neg (by decide)]; omega
              · rw [e] at y hz ⊢
                rw [if_neg (by decide), if_neg (by decide), if_pos rfl, if_neg (by decide)]; omega
              · rw [e] at y hz ⊢
                rw [if_neg (by decide), if_neg (by decide), if_neg (by decide), if_pos rfl]; omega
            have hb' : ∀ v, 13 ≤ v → v ≤ 16 → bit (bor hv (bshl 1 w)) v = tdF hd w v ∧ (tdF hd w v = 0 ∨ tdF hd w v = 1) := by
              intro v v1 v2
              have a := hb v v1 v2
              rw [bit_or1 (by omega) (by omega) (by omega) (by omega), a.1]
              refine ⟨rfl, ?_⟩
              unfold tdF
              split
              · exact Or.inr rfl
              · exact a.2
            have ih := l_rs m1 m2 f (x + 1) (g - 1 - 1) (tdF hd w) (bor hv (bshl 1 w)) a.1 a.2 h3 (by omega) (by omega) sm' hb' d3 q3 G3
            rw [show ((x + 1 : Nat) : Int) = (x : Int) + 1 by omega] at ih
            refine ok_mono ih ?_
            intro r h' z
            exact eX_m z (fun e y => y) (fun a _ ⟨y1, y2, y3⟩ => ⟨y1, fr_tr (fr_mo f2 (by intro r i k; unfold AdW RsW; omega)) (fr_tr f3 y2), y3⟩)
        refine ok_if (fun w15 => ?_) (fun w15 => ok_if (fun w16 => ?_) (fun w16 => ?_))
        · refine ok_bq (l_sick m1 m2 d2 q2 G2) ?_
          intro v h3 e
          refine two v h3 ?_
          unfold wrF
          rw [if_pos w15]
          exact e
        · refine ok_bq (l_loses m1 m2 d2 q2 G2) ?_
          intro v h3 e
          refine two v h3 ?_
          unfold wrF
          rw [if_neg w15, if_pos w16]
          exact e
        · by_cases w13 : w = 13
          · rw [w13]
            refine ok_bq (l_from m1 m2 d2 q2 G2) ?_
            intro v h3 e
            rw [w13] at two w15 w16
            refine two v h3 ?_
            unfold wrF
            rw [if_neg w15, if_neg w16, if_pos rfl]
            exact e
          · refine ok_bq (l_till w13 m1 m2 d2 q2 G2) ?_
            intro v h3 e
            refine two v h3 ?_
            unfold wrF
            rw [if_neg w15, if_neg w16, if_neg w13]
            exact e
    · rw [if_neg z]
      have fin : ok (some ((1 : Int), h1)) (fun r h' => endX (.ok (R, t) : Ex ((Nat → Int) × Nat)) (baC c h0 r h') (fun a => r = 1 ∧ Fr (RsW m) h1 h' ∧ Fr (TxC c) h0 h' ∧ rdF h' b n s a.2 ∧ dcr h' m a.1)) := ok_some (eX_o ⟨rfl, fr_rf, F0, q, qr⟩)
      exact ok_if (fun _ => fin) (fun u => ok_if (fun _ => fin) (fun u2 => absurd ⟨by omega, by omega⟩ z))
theorem l_rest (m1 : 9 * c ≤ m) (m2 : m < 9 * c + 9) (qr : dcr h m R) (q : rdF h b n s t) (F0 : Fr (TxC c) h0 h) : ok (f_X7_readRest m h) (fun r h' => endX (rsF b n 5 (fun _ => 0) R t) (baC c h0 r h') (fun a => r = 1 ∧ Fr (RsW m) h h' ∧ Fr (TxC c) h0 h' ∧ rdF h' b n s a.2 ∧ dcr h' m a.1)) := by
  refine fuv_X7_readRest (fun g hg => ?_)
  refine s_X7_readRest_0 (by omega) ?_
  unfold b_X7_readRest_0
  have hb : ∀ w : Int, 13 ≤ w → w ≤ 16 → bit 0 w = (fun _ : Int => (0 : Int)) w ∧ ((fun _ : Int => (0 : Int)) w = 0 ∨ (fun _ : Int => (0 : Int)) w = 1) := by
    intro w w1 w2
    have cs : w = 13 ∨ w = 14 ∨ w = 15 ∨ w = 16 := by omega
    refine ⟨?_, Or.inl rfl⟩
    rcases cs with e | e | e | e <;> rw [e] <;> decide +kernel
  exact l_rs m1 m2 5 0 _ (fun _ => 0) 0 R t h rfl (by omega) rfl hb qr q F0
theorem l_crew {x : Int} (p : dcP h c π) (qm : dcM h c π M) (a5 : 0 ≤ M 0 0 ∧ M 0 0 ≤ 5 ∧ 0 ≤ M 1 0 ∧ M 1 0 ≤ 4) : ok (f_X7_isCrewName x h) (fun r h' => h' = h ∧ ((r = 0 ∧ ¬ crP M x) ∨ (r = 1 ∧ crP M x))) := by
  have key : ∀ (d g k : Nat), 9 - k = d → k ≤ 9 → 3 * d + 1 ≤ g → (∀ j : Nat, j < k → thM M (j : Int) → ¬ M 2 (j : Int) = x) → ok (g_X7_isCrewName g 1 [x, (k : Int)] h) (fun r h' => h' = h ∧ ((r = 0 ∧ ¬ crP M x) ∨ (r = 1 ∧ crP M x))) := by
    intro d
    induction d with
    | zero =>
      intro g k hd k9 hg hj
      refine s_X7_isCrewName_1 (by omega) ?_
      unfold b_X7_isCrewName_1
      refine ok_t (by omega) (ok_some ⟨rfl, Or.inl ⟨rfl, fun ⟨j, j1, j2⟩ => ?_⟩⟩)
      have jr : 0 ≤ j ∧ j < 9 := by unfold thM at j1; omega
      have ej : j = ((j.toNat : Nat) : Int) := by omega
      rw [ej] at j1 j2
      exact hj j.toNat (by omega) j1 j2
    | succ d ih =>
      intro g k hd k9 hg hj
      have three : ∀ g1 : Nat, 3 * d + 2 ≤ g1 → (thM M (k : Int) → ¬ M 2 (k : Int) = x) → ok (g_X7_isCrewName g1 3 [x, (k : Int)] h) (fun r h' => h' = h ∧ ((r = 0 ∧ ¬ crP M x) ∨ (r = 1 ∧ crP M x))) := by
        intro g1 hg1 z
        refine s_X7_isCrewName_3 (by omega) ?_
        unfold b_X7_isCrewName_3
        refine ok_ck (by omega) ?_
        have := ih (g1 - 1) (k + 1) (by omega) (by omega) (by omega) (fun j hj2 => by
          by_cases y : j = k
          · rw [y]; exact z
          · exact hj j (by omega))
        rw [show ((k + 1 : Nat) : Int) = (k : Int) + 1 by omega] at this
        exact this
      have no : ∀ g1 : Nat, 3 * d + 3 ≤ g1 → ¬ thM M (k : Int) → ok (g_X7_isCrewName g1 2 [x, (k : Int), 0] h) (fun r h' => h' = h ∧ ((r = 0 ∧ ¬ crP M x) ∨ (r = 1 ∧ crP M x))) := by
        intro g1 hg1 z
        refine s_X7_isCrewName_2 (by omega) ?_
        unfold b_X7_isCrewName_2
        exact ok_t rfl (three _ (by omega) (fun y => absurd y z))
      have yes : ∀ g1 : Nat, 3 * d + 3 ≤ g1 → thM M (k : Int) → ok (g_X7_isCrewName g1 2 [x, (k : Int), 1] h) (fun r h' => h' = h ∧ ((r = 0 ∧ ¬ crP M x) ∨ (r = 1 ∧ crP M x))) := by
        intro g1 hg1 z
        refine s_X7_isCrewName_2 (by omega) ?_
        unfold b_X7_isCrewName_2
        refine ok_f (by decide) (ok_rf p.1 (ok_ck (by omega) (ok_rf (p.2.1 k (by omega) (by omega)).1 ?_)))
        rw [(qm.2.2 k z).1]
        exact ok_if (fun y => ok_some ⟨rfl, Or.inr ⟨rfl, k, z, y⟩⟩) (fun y => three _ (by omega) (fun _ => y))
      refine s_X7_isCrewName_1 (by omega) ?_
      unfold b_X7_isCrewName_1
      refine ok_f (by omega) (ok_if (fun u => ok_ck (by omega) (ok_rf p.1 ?_)) (fun u => ok_rf p.1 ?_))
      · rw [qm.2.1]
        exact ok_if (fun y => no _ (by omega) (by unfold thM; omega)) (fun y => yes _ (by omega) (by unfold thM; omega))
      · rw [qm.1]
        exact ok_if (fun y => no _ (by omega) (by unfold thM; omega)) (fun y => yes _ (by omega) (by unfold thM; omega))
  refine fuv_X7_isCrewName (fun g hg => ?_)
  refine s_X7_isCrewName_0 (by omega) ?_
  unfold b_X7_isCrewName_0
  exact key 9 _ 0 rfl (by omega) (by omega) (fun j hj => absurd hj (Nat.not_lt_zero j))
theorem l_begin {x : Int} : ok (f_X4_begin m x h) (fun _ h' => Fr (fun r i _ => r = 4 ∧ i = m) h h' ∧ dcr h' m (mR x 0 0)) := by
  refine fuv_X4_begin (fun g hg => ?_)
  refine s_X4_begin_0 (by omega) ?_
  unfold b_X4_begin_0
  refine ok_lt (ok_lt (ok_lt (ok_lt (ok_lt (ok_lt (ok_lt (ok_lt (ok_lt (ok_lt (ok_some ⟨?_, ?_⟩))))))))))
  · exact fr_sI (fr_sI (fr_sI (fr_sI (fr_sI (fr_sI (fr_sI (fr_sI (fr_sI (fr_sI fr_rf ⟨rfl, rfl⟩) ⟨rfl, rfl⟩) ⟨rfl, rfl⟩) ⟨rfl, rfl⟩) ⟨rfl, rfl⟩) ⟨rfl, rfl⟩) ⟨rfl, rfl⟩) ⟨rfl, rfl⟩) ⟨rfl, rfl⟩) ⟨rfl, rfl⟩
  · intro f hf
    have cs : f = 0 ∨ f = 1 ∨ f = 2 ∨ f = 3 ∨ f = 4 ∨ f = 5 ∨ f = 6 ∨ f = 7 ∨ f = 8 ∨ f = 9 := by omega
    simp only [gI_sI]
    rcases cs with e | e | e | e | e | e | e | e | e | e <;> subst e <;> simp [mR]
end
