/-! TEXT, 18: the class's line of a mouth; all lines -/
theorem mR_1 {x p : Int} : ur (mR x 0 0) 1 p = mR x p 0 := by
  funext f
  unfold ur mR
  by_cases e : f = 1
  · subst e; rfl
  · simp only [if_neg e]
theorem mR_2 {x p o : Int} : ur (mR x p 0) 2 o = mR x p o := by
  funext f
  unfold ur mR
  by_cases e : f = 2
  · subst e; rfl
  · simp only [if_neg e]
def yI (y : Bool) : Int := if y = true then 1 else 0
section
variable {h h0 : Hp} {c pl : Int} {π : Int → Int} {b : Int → Int} {n s t k : Nat} {M : Ch} {o : List (Int × Int)}
set_option maxHeartbeats 4000000 in
theorem l_mouth {y : Bool} (p : dcP h c π) (qm : dcM h c π M) (a5 : 0 ≤ M 0 0 ∧ M 0 0 ≤ 5 ∧ 0 ≤ M 1 0 ∧ M 1 0 ≤ 4) (u : ouC h c o) (e17 : gI h 7 0 17 = (k : Int)) (ol : o.length ≤ k) (k64 : k ≤ 64) (q : rdF h b n s t) (F0 : Fr (TxC c) h0 h) : ok (f_X7_readMouth (10 + yI y) pl h) (fun r h' => endX (mouF b n y M o k t pl) (baC c h0 r h') (fun a => r = 1 ∧ Fr (MoW c) h h' ∧ Fr (TxC c) h0 h' ∧ rdF h' b n s a.2.2.2 ∧ dcM h' c π a.1 ∧ ouC h' c a.2.1 ∧ gI h' 7 0 17 = (a.2.2.1 : Int) ∧ a.2.1.length ≤ a.2.2.1 ∧ a.2.2.1 ≤ 64)) := by
  have k6 : gI h 7 0 6 = tkK b n t := q.1.2.2.1
  have k7 : gI h 7 0 7 = (tkP b n t : Int) := q.1.2.2.2.1
  have y01 : yI y = 0 ∨ yI y = 1 := by cases y; exact Or.inl rfl; exact Or.inr rfl
  have slr : (if y = true then 4 ≤ M 1 0 else 5 ≤ M 0 0) ∨ (0 ≤ slM y M ∧ slM y M < 9 ∧ ¬ thM M (slM y M)) := by
    unfold slM thM
    cases y with
    | true =>
      show 4 ≤ M 1 0 ∨ (0 ≤ 5 + M 1 0 ∧ 5 + M 1 0 < 9 ∧ _)
      by_cases z : 4 ≤ M 1 0
      · exact Or.inl z
      · refine Or.inr ⟨by omega, by omega, ?_⟩
        show ¬ ((0 ≤ 5 + M 1 0 ∧ 5 + M 1 0 < M 0 0) ∨ (5 ≤ 5 + M 1 0 ∧ 5 + M 1 0 < 5 + M 1 0))
        omega
    | false =>
      show 5 ≤ M 0 0 ∨ (0 ≤ M 0 0 ∧ M 0 0 < 9 ∧ _)
      by_cases z : 5 ≤ M 0 0
      · exact Or.inl z
      · refine Or.inr ⟨by omega, by omega, ?_⟩
        show ¬ ((0 ≤ M 0 0 ∧ M 0 0 < M 0 0) ∨ (5 ≤ M 0 0 ∧ M 0 0 < 5 + M 1 0))
        omega
  refine fuv_X7_readMouth (fun g hg => ?_)
  unfold mouF
  by_cases full : (if y = true then 4 ≤ M 1 0 else 5 ≤ M 0 0)
  · rw [if_pos full]
    have two : ∀ g1 : Nat, 0 < g1 → ok (g_X7_readMouth g1 2 [pl] h) (fun r h' => endX (.error (2, pl) : Ex Mr) (baC c h0 r h') (fun a => r = 1 ∧ Fr (MoW c) h h' ∧ Fr (TxC c) h0 h' ∧ rdF h' b n s a.2.2.2 ∧ dcM h' c π a.1 ∧ ouC h' c a.2.1 ∧ gI h' 7 0 17 = (a.2.2.1 : Int) ∧ a.2.1.length ≤ a.2.2.1 ∧ a.2.2.1 ≤ 64)) := by
      intro g1 hg1
      refine s_X7_readMouth_2 hg1 ?_
      unfold b_X7_readMouth_2
      exact wC F0
    have one : ∀ g1 : Nat, 2 ≤ g1 → ok (g_X7_readMouth g1 1 [pl, yI y] h) (fun r h' => endX (.error (2, pl) : Ex Mr) (baC c h0 r h') (fun a => r = 1 ∧ Fr (MoW c) h h' ∧ Fr (TxC c) h0 h' ∧ rdF h' b n s a.2.2.2 ∧ dcM h' c π a.1 ∧ ouC h' c a.2.1 ∧ gI h' 7 0 17 = (a.2.2.1 : Int) ∧ a.2.1.length ≤ a.2.2.1 ∧ a.2.2.1 ≤ 64)) := by
      intro g1 hg1
      refine s_X7_readMouth_1 (by omega) ?_
      unfold b_X7_readMouth_1
      cases y with
      | true =>
        have f4 : 4 ≤ M 1 0 := full
        refine ok_f (by decide) (ok_rf p.1 ?_)
        rw [qm.2.1]
        exact ok_f (by omega) (two _ (by omega))
      | false =>
        have f4 : 5 ≤ M 0 0 := full
        refine ok_t rfl (ok_rf p.1 ?_)
        rw [qm.1]
        exact ok_f (by omega) (two _ (by omega))
    refine s_X7_readMouth_0 (by omega) ?_
    unfold b_X7_readMouth_0
    cases y with
    | true => exact ok_t rfl (one _ (by omega))
    | false => exact ok_f (by decide) (one _ (by omega))
  · rw [if_neg full]
    obtain ⟨sl0, sl9, slt⟩ := slr.resolve_left full
    obtain ⟨m, em⟩ : ∃ m, m = 9 * c + π (slM y M) := ⟨_, rfl⟩
    have pm := p.2.1 (slM y M) sl0 sl9
    rw [← em] at pm
    have m1 : 9 * c ≤ m := by omega
    have m2 : m < 9 * c + 9 := by omega
    -- behind the rest
    have six : ∀ (g1 : Nat) (p0 od : Int) (t6 : Nat) (h6 : Hp), 2 ≤ g1 → Fr (RsW m) h h6 → Fr (TxC c) h0 h6 → rdF h6 b n s t6 → dcr h6 m (mR (tkV b n t) p0 od) → ok (g_X7_readMouth g1 6 [yI y, m] h6) (fun r h' => endX (exB (rsF b n 5 (fun _ => 0) (mR (tkV b n t) p0 od) t6) fun r => exB (runE b n 801 o [] r.2 true k 0) fun q => .ok (MU y M (ur (ur r.1 8 (o.length : Int)) 9 (q.1.length : Int)), q.1, q.2.2, q.2.1)) (baC c h0 r h') (fun a => r = 1 ∧ Fr (MoW c) h h' ∧ Fr (TxC c) h0 h' ∧ rdF h' b n s a.2.2.2 ∧ dcM h' c π a.1 ∧ ouC h' c a.2.1 ∧ gI h' 7 0 17 = (a.2.2.1 : Int) ∧ a.2.1.length ≤ a.2.2.1 ∧ a.2.2.1 ≤ 64)) := by
      intro g1 p0 od t6 h6 hg1 f6 G6 q6 d6
      refine s_X7_readMouth_6 (by omega) ?_
      unfold b_X7_readMouth_6
      refine ok_bq (l_rest m1 m2 d6 q6 G6) ?_
      intro r h7 z7
      cases eN : rsF b n 5 (fun _ => 0) (mR (tkV b n t) p0 od) t6 with
      | error e =>
        rw [eN] at z7
        exact ok_t z7.1 (ok_some (⟨rfl, z7.2⟩ : baC c h0 0 h7 e))
      | ok rr =>
        rw [eN] at z7
        obtain ⟨r1, f7, G7, q7, d7⟩ := z7
        have u7 : ouC h7 c o := ouC_e ((f7.1 1 c 2 (by unfold RsW; omega)).trans (f6.1 1 c 2 (by unfold RsW; omega))) (fun r k z => (f7.1 r c k (by unfold RsW; omega)).trans (f6.1 r c k (by unfold RsW; omega))) u
        refine ok_f (by omega) (ok_bq (p_X7_readExpression (m := m) (by rw [fr_R f7, fr_R f6]; exact p.1) q7.1 u7 (by rw [f7.1 7 0 17 (by unfold RsW; omega), f6.1 7 0 17 (by unfold RsW; omega)]; exact e17) ol k64) ?_)
        intro r8 h8 z8
        show ok _ (fun r h' => endX (exB (runE b n 801 o [] rr.2 true k 0) fun q => .ok (MU y M (ur (ur rr.1 8 (o.length : Int)) 9 (q.1.length : Int)), q.1, q.2.2, q.2.1)) (baC c h0 r h') (fun a => r = 1 ∧ Fr (MoW c) h h' ∧ Fr (TxC c) h0 h' ∧ rdF h' b n s a.2.2.2 ∧ dcM h' c π a.1 ∧ ouC h' c a.2.1 ∧ gI h' 7 0 17 = (a.2.2.1 : Int) ∧ a.2.1.length ≤ a.2.2.1 ∧ a.2.2.1 ≤ 64))
        cases eE : runE b n 801 o [] rr.2 true k 0 with
        | error e =>
          rw [eE] at z8
          obtain ⟨y1, y2, y3, y4⟩ := z8
          exact ok_t y1 (ok_some (⟨rfl, fr_tr G7 (fr_mo y2 (by intro r i k; unfold RxW TxC; omega)), y3, y4⟩ : baC c h0 0 h8 e))
        | ok qq =>
          rw [eE] at z8
          obtain ⟨y1, f8, q8, u8, e8, c8, c9, l8, l64, z3, z4⟩ := z8
          have G8 : Fr (TxC c) h0 h8 := fr_tr G7 (fr_mo f8 (by intro r i k; unfold RxW TxC; omega))
          have F8 : Fr (fun r i k => (r = 7 ∧ ((3 ≤ k ∧ k ≤ 12) ∨ (15 ≤ k ∧ k ≤ 18))) ∨ r = 46 ∨ (i = c ∧ ((r = 1 ∧ k = 2) ∨ r = 25 ∨ r = 26)) ∨ (r = 4 ∧ i = m)) h h8 := fr_tr (fr_mo f6 (by intro r i k; unfold RsW; omega)) (fr_tr (fr_mo f7 (by intro r i k; unfold RsW; omega)) (fr_mo f8 (by intro r i k; unfold RxW; omega)))
          have q8' : rdF h8 b n s qq.2.1 := ⟨q8, z3.trans q7.2.1, z4.trans q7.2.2⟩
          have d8 : dcr h8 m (ur (ur rr.1 8 (o.length : Int)) 9 (qq.1.length : Int)) := by
            intro f hf
            unfold ur
            by_cases e9 : f = 9
            · rw [if_pos e9, e9]; exact c9
            · rw [if_neg e9]
              by_cases e88 : f = 8
              · rw [if_pos e88, e88]; exact c8
              · rw [if_neg e88, f8.1 4 m f (by unfold RxW; omega)]
                exact d7 f hf
          have m8 : gI h8 0 c 4 = M 1 0 := (F8.1 0 c 4 (by omega)).trans qm.2.1
          have n8 : gI h8 0 c 3 = M 0 0 := (F8.1 0 c 3 (by omega)).trans qm.1
          have rc8 : gR h8 7 0 1 = some (0, c) := by rw [fr_R F8]; exact p.1
          -- the end
          have fin : ∀ h9 : Hp, Fr (fun r i k => r = 0 ∧ i = c ∧ (k = 3 ∨ k = 4)) h8 h9 → gI h9 0 c 3 = (if y = true then M 0 0 else M 0 0 + 1) → gI h9 0 c 4 = (if y = true then M 1 0 + 1 else M 1 0) → ok (some ((1 : Int), h9)) (fun r h' => endX (.ok (MU y M (ur (ur rr.1 8 (o.length : Int)) 9 (qq.1.length : Int)), qq.1, qq.2.2, qq.2.1) : Ex Mr) (baC c h0 r h') (fun a => r = 1 ∧ Fr (MoW c) h h' ∧ Fr (TxC c) h0 h' ∧ rdF h' b n s a.2.2.2 ∧ dcM h' c π a.1 ∧ ouC h' c a.2.1 ∧ gI h' 7 0 17 = (a.2.2.1 : Int) ∧ a.2.1.length ≤ a.2.2.1 ∧ a.2.2.1 ≤ 64)) := by
            intro h9 f9 e3 e4
            refine ok_some (eX_o ⟨rfl, fr_tr (fr_mo F8 (by intro r i k; unfold MoW; omega)) (fr_mo f9 (by intro r i k; unfold MoW; omega)), fr_tr G8 (fr_mo f9 (by intro r i k; unfold TxC; omega)), rdF_fr f9 (by intro r k; omega) q8', ⟨e3, e4, fun x hx => ?_⟩, ouC_e (f9.1 1 c 2 (by omega)) (fun r k z => f9.1 r c k (by omega)) u8, (f9.1 7 0 17 (by omega)).trans e8, l8, l64⟩)
            have d9 := dcr_fr f9 (m := m) (by intro k; omega) d8
            by_cases xs : x = slM y M
            · rw [xs, ← em]
              have g : ∀ f : Nat, f < 10 → gI h9 4 m (f : Int) = MU y M (ur (ur rr.1 8 (o.length : Int)) 9 (qq.1.length : Int)) (f + 2) (slM y M) := by
                intro f hf
                rw [d9 f hf]
                unfold MU
                rw [if_neg (by omega), if_neg (by omega), if_pos rfl, Nat.add_sub_cancel]
              exact ⟨g 0 (by decide), g 1 (by decide), g 2 (by decide), g 3 (by decide), g 4 (by decide), g 5 (by decide), g 6 (by decide), g 7 (by decide), g 8 (by decide), g 9 (by decide)⟩
            · have hx2 : thM M x := by
                revert hx xs
                unfold thM MU slM
                cases y with
                | true =>
                  show ((0 ≤ x ∧ x < M 0 0) ∨ (5 ≤ x ∧ x < 5 + (M 1 0 + 1))) → ¬ x = 5 + M 1 0 → _
                  omega
                | false =>
                  show ((0 ≤ x ∧ x < M 0 0 + 1) ∨ (5 ≤ x ∧ x < 5 + M 1 0)) → ¬ x = M 0 0 → _
                  omega
              have xr : 0 ≤ x ∧ x < 9 := by unfold thM at hx2; omega
              have ne : 9 * c + π x ≠ m := fun e => xs (p.2.2 x (slM y M) xr.1 xr.2 sl0 sl9 (by omega))
              have gg := dcm_e (h2 := h9) (fun k => (f9.1 4 (9 * c + π x) k (by omega)).trans (F8.1 4 (9 * c + π x) k (by omega))) (qm.2.2 x hx2)
              have e : ∀ f : Nat, 2 ≤ f → MU y M (ur (ur rr.1 8 (o.length : Int)) 9 (qq.1.length : Int)) f x = M f x := by
                intro f hf
                unfold MU
                rw [if_neg (by omega), if_neg (by omega), if_neg xs]
              show dcm h9 (9 * c + π x) (MU y M (ur (ur rr.1 8 (o.length : Int)) 9 (qq.1.length : Int))) x
              unfold dcm
              rw [e 2 (by decide), e 3 (by decide), e 4 (by decide), e 5 (by decide), e 6 (by decide), e 7 (by decide), e 8 (by decide), e 9 (by decide), e 10 (by decide), e 11 (by decide)]
              exact gg
          refine ok_f (by omega) (ok_rf rc8 ?_)
          rw [m8]
          cases y with
          | true =>
            refine ok_f (by decide) ?_
            refine s_X7_readMouth_7 (by omega) ?_
            unfold b_X7_readMouth_7
            refine ok_ck (by omega) (ok_lt (ok_rf rc8 (ok_f (by decide) ?_)))
            rw [gI_nk (show (3 : Int) ≠ 4 by decide), n8]
            refine ok_ck (by omega) (ok_lt (fin _ (fr_sI (fr_sI fr_rf (by omega)) (by omega)) ?_ ?_))
            · rw [gI_eq]; show M 0 0 + 0 = M 0 0; omega
            · rw [gI_nk (by decide), gI_eq]; rfl
          | false =>
            refine ok_t rfl ?_
            refine s_X7_readMouth_7 (by omega) ?_
            unfold b_X7_readMouth_7
            refine ok_ck (by omega) (ok_lt (ok_rf rc8 (ok_t rfl ?_)))
            rw [gI_nk (show (3 : Int) ≠ 4 by decide), n8]
            refine ok_ck (by omega) (ok_lt (fin _ (fr_sI (fr_sI fr_rf (by omega)) (by omega)) ?_ ?_))
            · rw [gI_eq]; rfl
            · rw [gI_nk (by decide), gI_eq]; show M 1 0 + 0 = M 1 0; omega
    have four : ∀ g1 : Nat, 4 ≤ g1 → ok (g_X7_readMouth g1 4 [yI y, slM y M] h) (fun r h' => endX (if tkK b n t ≠ 1 then .error (1, (tkP b n t : Int))
  else @ite _ (crP M (tkV b n t)) (Classical.propDecidable _) (.error (3, (tkP b n t : Int)))
    (exB (numF b n 0 9 (t + 1)) fun p => exB (if y = true then oddF b n (t + 2) else .ok (0, t + 2)) fun od => exB (rsF b n 5 (fun _ => 0) (mR (tkV b n t) p od.1) od.2) fun r => exB (runE b n 801 o [] r.2 true k 0) fun q => .ok (MU y M (ur (ur r.1 8 (o.length : Int)) 9 (q.1.length : Int)), q.1, q.2.2, q.2.1))) (baC c h0 r h') (fun a => r = 1 ∧ Fr (MoW c) h h' ∧ Fr (TxC c) h0 h' ∧ rdF h' b n s a.2.2.2 ∧ dcM h' c π a.1 ∧ ouC h' c a.2.1 ∧ gI h' 7 0 17 = (a.2.2.1 : Int) ∧ a.2.1.length ≤ a.2.2.1 ∧ a.2.2.1 ≤ 64)) := by
      intro g1 hg1
      refine s_X7_readMouth_4 (by omega) ?_
      unfold b_X7_readMouth_4
      rw [k6]
      by_cases k1 : tkK b n t = 1
      · have k8 : gI h 7 0 8 = tkV b n t := q.1.2.2.2.2.1 (by omega) (by omega)
        refine ok_t k1 (ok_f (by omega) (ok_t (by omega) ?_))
        rw [k8, if_neg (fun z => z k1)]
        refine ok_bq (l_crew p qm a5) ?_
        intro r h2 ⟨e2, z⟩
        rw [e2]
        rcases z with ⟨z1, z2⟩ | ⟨z1, z2⟩
        · refine ok_t z1 ?_
          rw [if_neg z2, k8]
          refine (ok_rf p.1 (ok_ck ⟨sl0, sl9⟩ (ok_rf pm.1 (ok_bq l_begin ?_))))
          intro _ h6 ⟨f6, d6⟩
          refine ok_bq (aC (fr_tr F0 (fr_mo f6 (by intro r i k; unfold TxC; omega))) (rdF_fr f6 (by intro r k; omega) q)) ?_
          intro _ h8 ⟨f8, G8, q8⟩
          refine nC G8 q8 ?_
          intro p0 h10 f10 G10 q10 g11 g12 x1 x2
          refine ok_lt ?_
          rw [g11]
          have e11 := sI_rs (h := h10) (m := m) (k := 1) (v := p0)
          have d11 : dcr (sI h10 4 m 1 p0) m (mR (tkV b n t) p0 0) := by
            have := dcr_s (k := 1) (k' := 1) (v := p0) rfl (dcr_fr f10 (by intro k; unfold RnW; omega) (dcr_fr f8 (by intro k; unfold AdW; omega) d6))
            rw [mR_1] at this
            exact this
          have F11 : Fr (RsW m) h (sI h10 4 m 1 p0) := fr_tr (fr_mo f6 (by intro r i k; unfold RsW; omega)) (fr_tr (fr_mo f8 (by intro r i k; unfold AdW RsW; omega)) (fr_tr (fr_mo f10 (by intro r i k; unfold RnW RsW; omega)) (fr_mo e11 (by intro r i k; unfold RsW; omega))))
          have G11 : Fr (TxC c) h0 (sI h10 4 m 1 p0) := fr_tr G10 (fr_mo e11 (by intro r i k; unfold TxC; omega))
          have q11 := rdF_fr e11 (by intro r k; omega) q10
          generalize sI h10 4 m 1 p0 = h11 at d11 F11 G11 q11
          cases y with
          | true =>
            refine ok_f (by decide) (ok_bq (l_odds m1 m2 d11 q11 G11) ?_)
            intro r13 h13 z13
            show ok _ (fun r h' => endX (exB (oddF b n (t + 2)) fun od => exB (rsF b n 5 (fun _ => 0) (mR (tkV b n t) p0 od.1) od.2) fun r => exB (runE b n 801 o [] r.2 true k 0) fun q => .ok (MU true M (ur (ur r.1 8 (o.length : Int)) 9 (q.1.length : Int)), q.1, q.2.2, q.2.1)) (baC c h0 r h') (fun a => r = 1 ∧ Fr (MoW c) h h' ∧ Fr (TxC c) h0 h' ∧ rdF h' b n s a.2.2.2 ∧ dcM h' c π a.1 ∧ ouC h' c a.2.1 ∧ gI h' 7 0 17 = (a.2.2.1 : Int) ∧ a.2.1.length ≤ a.2.2.1 ∧ a.2.2.1 ≤ 64))
            cases eN : oddF b n (t + 2) with
            | error e =>
              rw [eN] at z13
              exact ok_t z13.1 (ok_some (⟨rfl, z13.2⟩ : baC c h0 0 h13 e))
            | ok od =>
              rw [eN] at z13
              obtain ⟨w1, w2, w3, w4, w5⟩ := z13
              rw [mR_2] at w5
              exact ok_f (by omega) (six _ p0 od.1 od.2 h13 (by omega) (fr_tr F11 w2) w3 w4 w5)
          | false =>
            exact ok_t rfl (six _ p0 0 (t + 2) h11 (by omega) F11 G11 q11 d11)
        · refine ok_f (by omega) ?_
          rw [if_pos z2, k7]
          exact wC F0
      · refine ok_f k1 ?_
        rw [if_pos k1]
        refine s_X7_readMouth_5 (by omega) ?_
        unfold b_X7_readMouth_5
        rw [k7]
        exact wC F0
    have three : ∀ g1 : Nat, 5 ≤ g1 → ok (g_X7_readMouth g1 3 [yI y] h) (fun r h' => endX (if tkK b n t ≠ 1 then .error (1, (tkP b n t : Int))
  else @ite _ (crP M (tkV b n t)) (Classical.propDecidable _) (.error (3, (tkP b n t : Int)))
    (exB (numF b n 0 9 (t + 1)) fun p => exB (if y = true then oddF b n (t + 2) else .ok (0, t + 2)) fun od => exB (rsF b n 5 (fun _ => 0) (mR (tkV b n t) p od.1) od.2) fun r => exB (runE b n 801 o [] r.2 true k 0) fun q => .ok (MU y M (ur (ur r.1 8 (o.length : Int)) 9 (q.1.length : Int)), q.1, q.2.2, q.2.1))) (baC c h0 r h') (fun a => r = 1 ∧ Fr (MoW c) h h' ∧ Fr (TxC c) h0 h' ∧ rdF h' b n s a.2.2.2 ∧ dcM h' c π a.1 ∧ ouC h' c a.2.1 ∧ gI h' 7 0 17 = (a.2.2.1 : Int) ∧ a.2.1.length ≤ a.2.2.1 ∧ a.2.2.1 ≤ 64)) := by
      intro g1 hg1
      refine s_X7_readMouth_3 (by omega) ?_
      unfold b_X7_readMouth_3
      have F4 := four (g1 - 1) (by omega)
      cases y with
      | true =>
        refine ok_f (by decide) (ok_rf p.1 ?_)
        rw [qm.2.1]
        exact ok_ck (by omega) F4
      | false =>
        refine ok_t rfl (ok_rf p.1 ?_)
        rw [qm.1]
        exact F4
    have one : ∀ g1 : Nat, 6 ≤ g1 → ok (g_X7_readMouth g1 1 [pl, yI y] h) (fun r h' => endX (if tkK b n t ≠ 1 then .error (1, (tkP b n t : Int))
  else @ite _ (crP M (tkV b n t)) (Classical.propDecidable _) (.error (3, (tkP b n t : Int)))
    (exB (numF b n 0 9 (t + 1)) fun p => exB (if y = true then oddF b n (t + 2) else .ok (0, t + 2)) fun od => exB (rsF b n 5 (fun _ => 0) (mR (tkV b n t) p od.1) od.2) fun r => exB (runE b n 801 o [] r.2 true k 0) fun q => .ok (MU y M (ur (ur r.1 8 (o.length : Int)) 9 (q.1.length : Int)), q.1, q.2.2, q.2.1))) (baC c h0 r h') (fun a => r = 1 ∧ Fr (MoW c) h h' ∧ Fr (TxC c) h0 h' ∧ rdF h' b n s a.2.2.2 ∧ dcM h' c π a.1 ∧ ouC h' c a.2.1 ∧ gI h' 7 0 17 = (a.2.2.1 : Int) ∧ a.2.1.length ≤ a.2.2.1 ∧ a.2.2.1 ≤ 64)) := by
      intro g1 hg1
      refine s_X7_readMouth_1 (by omega) ?_
      unfold b_X7_readMouth_1
      cases y with
      | true =>
        have f4 : ¬ 4 ≤ M 1 0 := full
        refine ok_f (by decide) (ok_rf p.1 ?_)
        rw [qm.2.1]
        exact ok_t (by omega) (three _ (by omega))
      | false =>
        have f4 : ¬ 5 ≤ M 0 0 := full
        refine ok_t rfl (ok_rf p.1 ?_)
        rw [qm.1]
        exact ok_t (by omega) (three _ (by omega))
    refine s_X7_readMouth_0 (by omega) ?_
    unfold b_X7_readMouth_0
    cases y with
    | true => exact ok_t rfl (one _ (by omega))
    | false => exact ok_f (by decide) (one _ (by omega))
end
