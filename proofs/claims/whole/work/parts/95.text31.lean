/-! TEXT, 31: the whole text; the class's reading -/
section
variable {b : Int → Int} {n t k : Nat} {D : Dr} {pl w hi : Int} {f : Nat} {S I N G T M : Ch} {W : Int → Int} {o : List (Int × Int)}
theorem runE_t : ∀ (F : Nat) (o : List (Int × Int)) (s : List Int) (t : Nat) (w : Bool) (k p : Nat) (r : List (Int × Int) × Nat × Nat), runE b n F o s t w k p = .ok r → t ≤ r.2.1
  | 0, o, s, t, w, k, p, r, e => by cases e
  | F + 1, o, s, t, true, k, p, r, e => by
    rw [run_p] at e
    split at e
    · cases e
    · split at e
      · split at e
        · have := runE_t F _ _ _ _ _ _ _ e; omega
        · cases e
      · split at e
        · split at e
          · have := runE_t F _ _ _ _ _ _ _ e; omega
          · cases e
        · split at e
          · split at e
            · have := runE_t F _ _ _ _ _ _ _ e; omega
            · cases e
          · cases e
  | F + 1, o, s, t, false, k, p, r, e => by
    rw [run_s] at e
    split at e
    · split at e
      · injection e with e
        rw [← e]; exact Nat.le_refl _
      · cases e
    · split at e
      · split at e
        · have := runE_t F _ _ _ _ _ _ _ e; omega
        · cases e
      · split at e
        · split at e
          · cases e
          · split at e
            · have := runE_t F _ _ _ _ _ _ _ e; omega
            · cases e
        · split at e
          · have := runE_t F _ _ _ _ _ _ _ e; omega
          · cases e
theorem wd_t : ∀ (f k : Nat) (N : Ch) (t : Nat) (a : Ch × Nat), wdF b n f k N t = .ok a → t ≤ a.2
  | 0, k, N, t, a, e => by cases e
  | f + 1, k, N, t, a, e => by
    unfold wdF at e
    split at e
    · split at e
      · cases e
      · obtain ⟨v, ev, e⟩ := exB_ok e
        have := wd_t f _ _ _ a e
        omega
    · injection e with e
      rw [← e]; exact Nat.le_refl _
theorem wr_t {R : Nat → Int} {a : (Nat → Int) × Nat} (e : wrF b n w R t = .ok a) : t ≤ a.2 := by
  unfold wrF at e
  split at e
  · unfold sicF at e
    obtain ⟨x, ex, e⟩ := exB_ok e
    obtain ⟨y, ey, e⟩ := exB_ok e
    injection e with e
    rw [← e]; exact Nat.le_add_right _ _
  · split at e
    · unfold losF at e
      obtain ⟨x, ex, e⟩ := exB_ok e
      injection e with e
      rw [← e]; exact Nat.le_add_right _ _
    · split at e
      · unfold froF at e
        obtain ⟨x, ex, e⟩ := exB_ok e
        injection e with e
        rw [← e]; exact Nat.le_add_right _ _
      · unfold tilF at e
        obtain ⟨x, ex, e⟩ := exB_ok e
        injection e with e
        rw [← e]; exact Nat.le_add_right _ _
theorem rs_t : ∀ (f : Nat) (hd : Int → Int) (R : Nat → Int) (t : Nat) (a : (Nat → Int) × Nat), rsF b n f hd R t = .ok a → t ≤ a.2
  | 0, hd, R, t, a, e => by cases e
  | f + 1, hd, R, t, a, e => by
    unfold rsF at e
    split at e
    · split at e
      · cases e
      · obtain ⟨r, er, e⟩ := exB_ok e
        have a1 := wr_t er
        have a2 := rs_t f _ _ _ a e
        omega
    · injection e with e
      rw [← e]; exact Nat.le_refl _
theorem tm_s_t {a : (Int → Int) × Ch × Nat} (e : seaF b n W S t pl = .ok a) : t ≤ a.2.2 := by
  unfold seaF at e
  obtain ⟨W2, e2, e⟩ := exB_ok e
  split at e
  · cases e
  · obtain ⟨x, ex, e⟩ := exB_ok e
    obtain ⟨y, ey, e⟩ := exB_ok e
    injection e with e
    rw [← e]; exact Nat.le_add_right _ _
theorem tm_l_t {a : (Int → Int) × Ch × Nat} (e : lanF b n W S I t pl = .ok a) : t ≤ a.2.2 := by
  unfold lanF at e
  split at e
  · cases e
  · obtain ⟨x, ex, e⟩ := exB_ok e
    split at e
    · cases e
    · split at e
      · cases e
      · injection e with e
        rw [← e]; exact Nat.le_add_right _ _
theorem tm_h_t {a : (Int → Int) × Ch × Nat} (e : shiF b n w f W S t pl = .ok a) : t ≤ a.2.2 := by
  unfold shiF at e
  obtain ⟨W2, e2, e⟩ := exB_ok e
  obtain ⟨c, ec, e⟩ := exB_ok e
  injection e with e
  rw [← e]; exact Nat.le_add_right _ _
theorem tm_i_t {a : (Int → Int) × Ch × Nat} (e : islF b n W S I t pl = .ok a) : t ≤ a.2.2 := by
  unfold islF at e
  split at e
  · cases e
  · split at e
    · cases e
    · split at e
      · cases e
      · obtain ⟨w, ew, e⟩ := exB_ok e
        obtain ⟨x, ex, e⟩ := exB_ok e
        obtain ⟨y, ey, e⟩ := exB_ok e
        injection e with e
        rw [← e]; exact Nat.le_add_right _ _
theorem tm_w_t {a : (Int → Int) × Ch × Nat} (e : winF b n W N t pl = .ok a) : t ≤ a.2.2 := by
  unfold winF at e
  obtain ⟨W2, e2, e⟩ := exB_ok e
  obtain ⟨r, er, e⟩ := exB_ok e
  injection e with e
  rw [← e]; exact wd_t 9 0 N t r er
theorem tm_g_t {a : Ch × Nat} (e : galF b n G t pl = .ok a) : t ≤ a.2 := by
  unfold galF at e
  split at e
  · cases e
  · obtain ⟨x, ex, e⟩ := exB_ok e
    obtain ⟨y, ey, e⟩ := exB_ok e
    obtain ⟨z, ez, e⟩ := exB_ok e
    injection e with e
    rw [← e]; exact Nat.le_add_right _ _
theorem tm_m_t {a : (Int → Int) × Ch × Nat} (e : stmF b n W T t pl = .ok a) : t ≤ a.2.2 := by
  unfold stmF at e
  obtain ⟨W2, e2, e⟩ := exB_ok e
  obtain ⟨x, ex, e⟩ := exB_ok e
  obtain ⟨y, ey, e⟩ := exB_ok e
  injection e with e
  rw [← e]; exact Nat.le_add_right _ _
theorem tm_o_t {a : (Int → Int) × Ch × Nat} (e : stoF b n w hi f W T t pl = .ok a) : t ≤ a.2.2 := by
  unfold stoF at e
  obtain ⟨W2, e2, e⟩ := exB_ok e
  obtain ⟨x, ex, e⟩ := exB_ok e
  injection e with e
  rw [← e]; exact Nat.le_add_right _ _
theorem tm_u_t {y : Bool} {a : Mr} (e : mouF b n y M o k t pl = .ok a) : t ≤ a.2.2.2 := by
  unfold mouF at e
  by_cases fu : (if y = true then 4 ≤ M 1 0 else 5 ≤ M 0 0)
  · rw [if_pos fu] at e; cases e
  · rw [if_neg fu] at e
    by_cases k1 : tkK b n t ≠ 1
    · rw [if_pos k1] at e; cases e
    · rw [if_neg k1] at e
      by_cases cr : crP M (tkV b n t)
      · rw [if_pos cr] at e; cases e
      · rw [if_neg cr] at e
        obtain ⟨p, ep, e⟩ := exB_ok e
        obtain ⟨od, eo, e⟩ := exB_ok e
        obtain ⟨r, er, e⟩ := exB_ok e
        obtain ⟨q, eq, e⟩ := exB_ok e
        injection e with e
        have a1 : t ≤ od.2 := by
          split at eo
          · unfold oddF at eo
            split at eo
            · obtain ⟨v, ev, e4⟩ := exB_ok eo
              injection e4 with e4
              rw [← e4]
              show t ≤ t + 2 + 2
              omega
            · cases eo
          · injection eo with eo
            rw [← eo]; exact Nat.le_add_right _ _
        have a2 := rs_t 5 _ _ _ _ er
        have a3 := runE_t _ _ _ _ _ _ _ _ eq
        rw [← e]
        show t ≤ q.2.1
        omega
theorem bod_t {r : Dr × Nat} (er : bodF b n D w t pl = .ok r) : t ≤ r.2 := by
  unfold bodF at er
  by_cases e0 : w = 0
  · rw [if_pos e0] at er
    obtain ⟨u, ez, er⟩ := exB_ok er
    injection er with er
    rw [← er]
    exact tm_s_t ez
  · rw [if_neg e0] at er
    by_cases e1 : w = 1
    · rw [if_pos e1] at er
      obtain ⟨u, ez, er⟩ := exB_ok er
      injection er with er
      rw [← er]
      exact tm_l_t ez
    · rw [if_neg e1] at er
      by_cases e2 : w = 2
      · rw [if_pos e2] at er
        obtain ⟨u, ez, er⟩ := exB_ok er
        injection er with er
        rw [← er]
        exact tm_h_t ez
      · rw [if_neg e2] at er
        by_cases e3 : w = 3
        · rw [if_pos e3] at er
          obtain ⟨u, ez, er⟩ := exB_ok er
          injection er with er
          rw [← er]
          exact tm_h_t ez
        · rw [if_neg e3] at er
          by_cases e4 : w = 4
          · rw [if_pos e4] at er
            obtain ⟨u, ez, er⟩ := exB_ok er
            injection er with er
            rw [← er]
            exact tm_i_t ez
          · rw [if_neg e4] at er
            by_cases e5 : w = 5
            · rw [if_pos e5] at er
              obtain ⟨u, ez, er⟩ := exB_ok er
              injection er with er
              rw [← er]
              exact tm_w_t ez
            · rw [if_neg e5] at er
              by_cases e6 : w = 6
              · rw [if_pos e6] at er
                obtain ⟨u, ez, er⟩ := exB_ok er
                injection er with er
                rw [← er]
                exact tm_g_t ez
              · rw [if_neg e6] at er
                by_cases e7 : w = 7
                · rw [if_pos e7] at er
                  obtain ⟨u, ez, er⟩ := exB_ok er
                  injection er with er
                  rw [← er]
                  exact tm_m_t ez
                · rw [if_neg e7] at er
                  by_cases e8 : w = 8
                  · rw [if_pos e8] at er
                    obtain ⟨u, ez, er⟩ := exB_ok er
                    injection er with er
                    rw [← er]
                    exact tm_o_t ez
                  · rw [if_neg e8] at er
                    by_cases e9 : w = 9
                    · rw [if_pos e9] at er
                      obtain ⟨u, ez, er⟩ := exB_ok er
                      injection er with er
                      rw [← er]
                      exact tm_o_t ez
                    · rw [if_neg e9] at er
                      by_cases e10 : w = 10
                      · rw [if_pos e10] at er
                        obtain ⟨u, ez, er⟩ := exB_ok er
                        injection er with er
                        rw [← er]
                        exact tm_u_t ez
                      · rw [if_neg e10] at er
                        by_cases e11 : w = 11
                        · rw [if_pos e11] at er
                          obtain ⟨u, ez, er⟩ := exB_ok er
                          injection er with er
                          rw [← er]
                          exact tm_u_t ez
                        · rw [if_neg e11] at er
                          cases er
theorem ln_t {a : Dr × Nat} (e : lnF b n D t = .ok a) : t + 2 ≤ a.2 := by
  unfold lnF at e
  obtain ⟨r, er, e⟩ := exB_ok e
  have a1 := bod_t er
  unfold enF at e
  obtain ⟨t2, e2, e⟩ := exB_ok e
  unfold endF at e2
  split at e2
  · injection e2 with e2
    injection e with e
    rw [← e, ← e2]
    show t + 2 ≤ r.2 + 1
    omega
  · cases e2
end
/-- the text: what is read, how many lines -/
noncomputable def txF (b : Int → Int) (n : Nat) : Nat → Dr → Nat → Nat → Ex (Dr × Nat)
  | 0, _, _, _ => .error (0, 0)
  | f + 1, D, t, L => if tkK b n t = 0 then .ok (D, L) else exB (lnF b n D t) fun a => txF b n f a.1 a.2 (L + 1)
def zC : Ch := fun _ _ => 0
def S0 : Ch := fun f _ => if f = 0 ∨ f = 1 then 4 else 0
def T0 : Ch := fun f _ => if f = 1 then 1 else if f = 2 then 100 else 0
def D0 : Dr := (S0, zC, zC, zC, T0, zC, [], 0, fun _ => 0)
theorem DW_0 : DW D0 := by
  refine ⟨⟨by show (1 : Int) ≤ 4 ∧ (4 : Int) ≤ 8 ∧ (1 : Int) ≤ 4 ∧ (4 : Int) ≤ 8; decide, fun x _ _ => Or.inl rfl, by show (0 : Int) ≤ 0 ∧ (0 : Int) ≤ 20; decide⟩, ⟨by show (0 : Int) ≤ 0 ∧ (0 : Int) < 4 * 4; decide, by show (0 : Int) ≤ 0 ∧ (0 : Int) < 4 * 4; decide, fun _ x _ _ => rfl, fun _ => rfl, fun _ => rfl⟩, ⟨by show (0 : Int) ≤ 0 ∧ (0 : Int) ≤ 3; decide, fun _ => rfl, fun i i1 i2 => ?_⟩, ⟨by show (0 : Int) ≤ 0; decide, by show (0 : Int) ≤ 8; decide, fun i i1 i2 => ?_⟩, ⟨by show (0 : Int) ≤ 0 ∧ (0 : Int) ≤ 4; decide, fun i i1 i2 => ?_⟩, by show (0 : Int) ≤ 0 ∧ (0 : Int) ≤ 99 ∧ (1 : Int) ≤ 1 ∧ (1 : Int) ≤ 99 ∧ (0 : Int) ≤ 100 ∧ (100 : Int) ≤ 9999 ∧ (0 : Int) ≤ 0 ∧ (0 : Int) ≤ 99999; decide, ⟨by show (0 : Int) ≤ 0 ∧ (0 : Int) ≤ 5 ∧ (0 : Int) ≤ 0 ∧ (0 : Int) ≤ 4; decide, fun x hx => ?_, fun x x1 x2 => ?_⟩, Nat.le_refl _, by show 0 ≤ 64; decide, fun e he => (by cases he)⟩
  · have i3 : i < 0 := i2
    omega
  · have i3 : i < 0 := i2
    omega
  · have i3 : i < 0 := i2
    omega
  · have h3 : (0 ≤ x ∧ x < 0) ∨ (5 ≤ x ∧ x < 5 + 0) := hx
    omega
  · have x3 : x < 5 + 0 := x2
    omega
/-- what the class's reading may change, lines and all -/
def TxD (c : Int) : Nat → Int → Int → Prop := fun r i k => TxC c r i k ∨ (r = 7 ∧ k = 2)
def baD (c : Int) (h0 : Hp) (r : Int) (h : Hp) (e : Int × Int) : Prop := r = 0 ∧ Fr (TxD c) h0 h ∧ gI h 7 0 3 = e.1 ∧ gI h 7 0 4 = e.2
section
variable {h hB : Hp} {b : Int → Int} {n s : Nat} {c : Int} {π : Int → Int} {Q : Ex (Dr × Nat) → Int → Hp → Prop}
theorem dC_fr {W : Nat → Int → Int → Prop} {h2 : Hp} {D : Dr} {t : Nat} (f : Fr W h h2) (d : ∀ (r : Nat) (i k : Int), W r i k → r = 7 ∧ k = 2) (q : dC h c π b n s D t) : dC h2 c π b n s D t := by
  obtain ⟨q0, p, qS, qI, qN, qG, qT, qM, qO, qK, qW⟩ := q
  have x : ∀ (r : Nat) (i k : Int), r ≠ 7 ∨ k ≠ 2 → gI h2 r i k = gI h r i k := fun r i k z => f.1 r i k (fun y => by have := d r i k y; omega)
  exact ⟨rdF_fr f (fun r k z y => by have := d r 0 k y; omega) q0, dcP_e f.2 p, dcS_e (fun k _ _ => x 9 c k (by omega)) qS, dcI_e (x 9 c 6 (by omega)) (fun r k _ _ => x r c k (by omega)) qI, dcN_e (x 0 c 6 (by omega)) (fun k => x 21 c k (by omega)) qN, dcG_e (x 0 c 10 (by omega)) (fun r k _ _ => x r c k (by omega)) qG, dcT_e (fun k _ _ => x 0 c k (by omega)) qT, dcM_e (x 0 c 3 (by omega)) (x 0 c 4 (by omega)) (fun m k => x 4 m k (by omega)) qM, ouC_e (x 1 c 2 (by omega)) (fun r k _ => x r c k (by omega)) qO, (x 7 0 17 (by omega)).trans qK, dcW_e (x 7 0 13 (by omega)) qW⟩
theorem tc_td : ∀ (r : Nat) (i k : Int), TxC c r i k → TxD c r i k := fun _ _ _ z => Or.inl z
theorem rd_loop (n8 : n ≤ 800)
    (k2 : ∀ (g2 : Nat) (D : Dr) (L t : Nat) (h2 : Hp), 1 ≤ g2 → L ≤ 801 → DW D → dC h2 c π b n s D t → gI h2 7 0 2 = (L : Int) → Fr (TxD c) hB h2 → ok (g_X7_read g2 2 [] h2) (Q (.ok (D, L))))
    (kf : ∀ (e : Int × Int) (h2 : Hp), baD c hB 0 h2 e → Q (.error e) 0 h2) : ∀ (f x g : Nat) (D : Dr) (t : Nat) (h1 : Hp), f + x = 802 → x ≤ 801 → f + 2 ≤ g → x ≤ t → DW D → dC h1 c π b n s D t → gI h1 7 0 2 = (x : Int) → Fr (TxD c) hB h1 → ok (g_X7_read g 1 [(x : Int)] h1) (Q (txF b n f D t x))
  | 0, x, g, D, t, h1, fx, x8, hg, xt, w, q, eL, F0 => by omega
  | f + 1, x, g, D, t, h1, fx, x8, hg, xt, w, q, eL, F0 => by
    have k6 : gI h1 7 0 6 = tkK b n t := q.1.1.2.2.1
    refine s_X7_read_1 (by omega) ?_
    unfold b_X7_read_1 txF
    rw [k6]
    by_cases z : tkK b n t = 0
    · have fin : ok (g_X7_read (g - 1) 2 [] h1) (Q (.ok (D, x))) := k2 _ D x t h1 (by omega) x8 w q eL F0
      refine ok_if (fun _ => ?_) (fun _ => ok_t z ?_)
      · rw [if_pos z]; exact fin
      · rw [if_pos z]; exact fin
    · have t8 := t_le n8 z
      refine ok_f (by omega) (ok_f z ?_)
      rw [if_neg z]
      refine ok_bq (l_line (dw_0 w) q) ?_
      intro r h2 y
      cases eN : lnF b n D t with
      | error e =>
        rw [eN] at y
        exact ok_t y.1 (ok_some (kf e h2 ⟨rfl, fr_tr F0 (fr_mo y.2.1 tc_td), y.2.2⟩))
      | ok a =>
        rw [eN] at y
        obtain ⟨r0, f2, q2⟩ := y
        have at2 := ln_t eN
        have L2 : gI h2 7 0 2 = (x : Int) := (f2.1 7 0 2 (by unfold TxC; omega)).trans eL
        rw [L2]
        have e3 : Fr (fun r _ k => r = 7 ∧ k = 2) h2 (sI h2 7 0 2 ((x : Int) + 1)) := fr_sI fr_rf ⟨rfl, rfl⟩
        refine ok_f r0 (ok_ck (by omega) (ok_lt (ok_ck (by omega) ?_)))
        have ih := rd_loop n8 k2 kf f (x + 1) (g - 1) a.1 a.2 (sI h2 7 0 2 ((x : Int) + 1)) (by omega) (by omega) (by omega) (by omega) (k_line w eN) (dC_fr e3 (fun r i k z => z) q2) (by rw [gI_eq]; omega) (fr_tr F0 (fr_tr (fr_mo f2 tc_td) (fr_mo e3 (fun r i k z => Or.inr z))))
        rw [show ((x + 1 : Nat) : Int) = (x : Int) + 1 by omega] at ih
        exact ih
theorem lbit_0 {x : Int} (x1 : 0 ≤ x) (x2 : x < 64) : ¬ lbit 0 x := by
  rw [lbit_i x1 x2]
  unfold bt6
  rw [show (Int64.ofInt 0).toBitVec = 0#64 from rfl, BitVec.getLsbD_zero]
  decide
theorem bit_0 {x : Int} (x1 : 0 ≤ x) (x2 : x < 31) : bit 0 x = 0 := by
  rw [bit_tb x1 (by omega)]
  unfold tb bt
  rw [show (Int32.ofInt 0).toBitVec = 0#32 from rfl, BitVec.getLsbD_zero]
  rfl
theorem t_clear : ok (f_X0_clear c h) (fun _ h' => Fr (TxC c) h h' ∧ dcS h' c S0 ∧ dcI h' c zC ∧ dcN h' c zC ∧ dcG h' c zC ∧ dcT h' c T0 ∧ (∀ π, dcM h' c π zC) ∧ ouC h' c []) := by
  refine fuv_X0_clear (fun m hm => ?_)
  refine s_X0_clear_0 (by omega) ?_
  unfold b_X0_clear_0
  have a : ok (f_X9_clear c h) (fun _ h' => Fr (TxC c) h h' ∧ dcS h' c S0 ∧ gI h' 9 c 6 = 0) := by
    refine fuv_X9_clear (fun m hm => ?_)
    refine s_X9_clear_0 (by omega) ?_
    unfold b_X9_clear_0
    refine ok_lt (ok_lt (ok_lt (ok_lt (ok_lt (ok_lt (ok_lt (ok_some ⟨?_, ?_, gI_eq⟩)))))))
    · exact fr_sI (fr_sI (fr_sI (fr_sI (fr_sI (fr_sI (fr_sI fr_rf (by unfold TxC; omega)) (by unfold TxC; omega)) (by unfold TxC; omega)) (by unfold TxC; omega)) (by unfold TxC; omega)) (by unfold TxC; omega)) (by unfold TxC; omega)
    · unfold dcS
      simp only [gI_sI]
      refine ⟨by simp [S0], by simp [S0], by simp [S0], by simp [S0], by simp [S0], fun x x1 x2 => ?_⟩
      have e : S0 2 x = 0 := rfl
      rw [e]
      simp only [show ((2 : Int) = 6) = False by decide, show ((2 : Int) = 5) = False by decide, show ((2 : Int) = 4) = False by decide, show ((2 : Int) = 3) = False by decide, and_false, if_false, if_true, and_self]
      exact ⟨fun z => absurd z (lbit_0 x1 x2), fun z => absurd z (by decide)⟩
  refine ok_bq a ?_
  intro _ h2 ⟨f2, s2, i2⟩
  refine ok_lt (ok_lt (ok_lt (ok_lt (ok_lt (ok_lt (ok_lt (ok_lt (ok_lt (ok_some ?_)))))))))
  have F : Fr (fun r i k => i = c ∧ ((r = 1 ∧ k = 2) ∨ r = 0)) h2 (sI (sI (sI (sI (sI (sI (sI (sI (sI h2 1 c 2 0) 0 c 3 0) 0 c 4 0) 0 c 6 0) 0 c 10 0) 0 c 11 0) 0 c 12 1) 0 c 13 100) 0 c 14 0) := fr_sI (fr_sI (fr_sI (fr_sI (fr_sI (fr_sI (fr_sI (fr_sI (fr_sI fr_rf (by omega)) (by omega)) (by omega)) (by omega)) (by omega)) (by omega)) (by omega)) (by omega)) (by omega)
  have g : ∀ k : Int, gI (sI (sI (sI (sI (sI (sI (sI (sI (sI h2 1 c 2 0) 0 c 3 0) 0 c 4 0) 0 c 6 0) 0 c 10 0) 0 c 11 0) 0 c 12 1) 0 c 13 100) 0 c 14 0) 0 c k = if k = 14 then 0 else if k = 13 then 100 else if k = 12 then 1 else if k = 11 then 0 else if k = 10 then 0 else if k = 6 then 0 else if k = 4 then 0 else if k = 3 then 0 else gI h2 0 c k := by
    intro k
    simp only [gI_sI]
    simp
  have g1 : gI (sI (sI (sI (sI (sI (sI (sI (sI (sI h2 1 c 2 0) 0 c 3 0) 0 c 4 0) 0 c 6 0) 0 c 10 0) 0 c 11 0) 0 c 12 1) 0 c 13 100) 0 c 14 0) 1 c 2 = 0 := by
    simp only [gI_sI]
    simp
  generalize sI (sI (sI (sI (sI (sI (sI (sI (sI h2 1 c 2 0) 0 c 3 0) 0 c 4 0) 0 c 6 0) 0 c 10 0) 0 c 11 0) 0 c 12 1) 0 c 13 100) 0 c 14 0 = h11 at F g g1
  have em : ∀ {i : Int}, 0 ≤ i → i < 0 → False := fun a c => by omega
  refine ⟨fr_tr f2 (fr_mo F (by intro r i k; unfold TxC; omega)), dcS_e (fun k _ _ => F.1 9 c k (by omega)) s2, ⟨(F.1 9 c 6 (by omega)).trans i2, fun i i1 i2 => (em i1 i2).elim⟩, ⟨g 6, fun i i1 i2 => (em i1 i2).elim⟩, ⟨g 10, fun i i1 i2 => (em i1 i2).elim⟩, ⟨g 11, g 12, g 13, g 14⟩, fun π => ⟨g 3, g 4, fun x hx => ?_⟩, g1, fun i hi => absurd hi (Nat.not_lt_zero i)⟩
  have h3 : (0 ≤ x ∧ x < 0) ∨ (5 ≤ x ∧ x < 5 + 0) := hx
  omega
theorem t_read (n8 : n ≤ 800) (hb : ∀ k : Nat, k < n → gI h 58 0 (k : Int) = sb (b (k : Int)) ∧ 0 ≤ b (k : Int) ∧ b (k : Int) < 256) (hk : ∀ k : Nat, k < 27 → gI h 47 0 (k : Int) = keyV k)
    (pp : (∀ k, 0 ≤ k → k < 9 → gR h 20 c k = some (4, 9 * c + π k) ∧ 0 ≤ π k ∧ π k < 9) ∧ ∀ j k, 0 ≤ j → j < 9 → 0 ≤ k → k < 9 → π j = π k → j = k)
    (k2 : ∀ (s g2 : Nat) (D : Dr) (L t : Nat) (h2 : Hp), 1 ≤ g2 → L ≤ 801 → DW D → dC h2 c π b n s D t → gI h2 7 0 2 = (L : Int) → Fr (TxD c) (sR h 7 0 1 (some (0, c))) h2 → ok (g_X7_read g2 2 [] h2) (Q (.ok (D, L))))
    (kf : ∀ (e : Int × Int) (h2 : Hp), baD c (sR h 7 0 1 (some (0, c))) 0 h2 e → Q (.error e) 0 h2) : ok (f_X7_read (n : Int) c h) (Q (txF b n 802 D0 0 0)) := by
  refine fuv_X7_read (fun m hm => ?_)
  refine s_X7_read_0 (by omega) ?_
  unfold b_X7_read_0
  refine ok_lt ?_
  have e1 : gR (sR h 7 0 1 (some (0, c))) 7 0 1 = some (0, c) := by rw [gR_sR, if_pos ⟨rfl, rfl, rfl⟩]
  have e2 : ∀ k, gR (sR h 7 0 1 (some (0, c))) 20 c k = gR h 20 c k := fun k => by rw [gR_sR, if_neg (fun z => absurd z.1 (by decide))]
  have e3 : ∀ (r : Nat) (i k : Int), gI (sR h 7 0 1 (some (0, c))) r i k = gI h r i k := fun r i k => rfl
  generalize sR h 7 0 1 (some (0, c)) = hB at e1 e2 e3 k2 kf
  have p0 : dcP hB c π := ⟨e1, fun k k1 k2 => by rw [e2]; exact pp.1 k k1 k2, pp.2⟩
  refine ok_rf e1 (ok_bq t_clear ?_)
  intro _ h4 ⟨f4, c1, c2, c3, c4, c5, c6, c7⟩
  refine ok_bq (p_X8_scan (h := h4) (b := b) n8 (fun k hk2 => by rw [f4.1 58 0 _ (by unfold TxC; omega), e3]; exact hb k hk2) (fun k hk2 => by rw [f4.1 47 0 _ (by unfold TxC; omega), e3]; exact hk k hk2)) ?_
  intro _ h6 ⟨f6, s, s1, s2, s3, s4, s5, s6⟩
  refine ok_lt (ok_lt (ok_lt (ok_lt (ok_lt (ok_lt ?_)))))
  have F : Fr (fun r _ k => r = 7 ∧ (k = 2 ∨ k = 13 ∨ k = 17 ∨ k = 3 ∨ k = 4 ∨ k = 5)) h6 (sI (sI (sI (sI (sI (sI h6 7 0 2 0) 7 0 13 0) 7 0 17 0) 7 0 3 0) 7 0 4 (-1)) 7 0 5 (-1)) := fr_sI (fr_sI (fr_sI (fr_sI (fr_sI (fr_sI fr_rf (by omega)) (by omega)) (by omega)) (by omega)) (by omega)) (by omega)
  have g2 : gI (sI (sI (sI (sI (sI (sI h6 7 0 2 0) 7 0 13 0) 7 0 17 0) 7 0 3 0) 7 0 4 (-1)) 7 0 5 (-1)) 7 0 2 = 0 := by rw [gI_nk (by decide), gI_nk (by decide), gI_nk (by decide), gI_nk (by decide), gI_nk (by decide), gI_eq]
  have g13 : gI (sI (sI (sI (sI (sI (sI h6 7 0 2 0) 7 0 13 0) 7 0 17 0) 7 0 3 0) 7 0 4 (-1)) 7 0 5 (-1)) 7 0 13 = 0 := by rw [gI_nk (by decide), gI_nk (by decide), gI_nk (by decide), gI_nk (by decide), gI_eq]
  have g17 : gI (sI (sI (sI (sI (sI (sI h6 7 0 2 0) 7 0 13 0) 7 0 17 0) 7 0 3 0) 7 0 4 (-1)) 7 0 5 (-1)) 7 0 17 = 0 := by rw [gI_nk (by decide), gI_nk (by decide), gI_nk (by decide), gI_eq]
  have g3 : gI (sI (sI (sI (sI (sI (sI h6 7 0 2 0) 7 0 13 0) 7 0 17 0) 7 0 3 0) 7 0 4 (-1)) 7 0 5 (-1)) 7 0 3 = 0 := by rw [gI_nk (by decide), gI_nk (by decide), gI_eq]
  have g4 : gI (sI (sI (sI (sI (sI (sI h6 7 0 2 0) 7 0 13 0) 7 0 17 0) 7 0 3 0) 7 0 4 (-1)) 7 0 5 (-1)) 7 0 4 = -1 := by rw [gI_nk (by decide), gI_eq]
  have g5 : gI (sI (sI (sI (sI (sI (sI h6 7 0 2 0) 7 0 13 0) 7 0 17 0) 7 0 3 0) 7 0 4 (-1)) 7 0 5 (-1)) 7 0 5 = -1 := gI_eq
  generalize sI (sI (sI (sI (sI (sI h6 7 0 2 0) 7 0 13 0) 7 0 17 0) 7 0 3 0) 7 0 4 (-1)) 7 0 5 (-1) = h12 at F g2 g13 g17 g3 g4 g5
  have sA : scA h12 b n s := scA_fr F (by intro r k; omega) ⟨s1, s2, s3, s4, s5, s6⟩
  refine ok_bq (p_X7_advance' (t := 0) sA g5 (by omega) (by omega) (by omega)) ?_
  intro _ h14 ⟨f14, r14⟩
  have X : ∀ (r : Nat) (i k : Int), r ≠ 7 → r ≠ 8 → ¬ (48 ≤ r ∧ r ≤ 50) → gI h14 r i k = gI h4 r i k := fun r i k z1 z2 z3 => (f14.1 r i k (by unfold AdW; omega)).trans ((F.1 r i k (by omega)).trans (f6.1 r i k (by unfold ScnW; omega)))
  have Y : ∀ k : Int, k < 5 ∨ 10 < k → gI h14 7 0 k = gI h12 7 0 k := fun k z => f14.1 7 0 k (by unfold AdW; omega)
  have FF : Fr (TxD c) hB h14 := fr_tr (fr_mo f4 tc_td) (fr_tr (fr_mo f6 (by intro r i k; unfold ScnW TxD TxC; omega)) (fr_tr (fr_mo F (by intro r i k; unfold TxD TxC; omega)) (fr_mo f14 (by intro r i k; unfold AdW TxD TxC; omega))))
  have d14 : dC h14 c π b n s D0 0 := ⟨⟨r14, (Y 3 (by omega)).trans g3, (Y 4 (by omega)).trans g4⟩, dcP_e FF.2 p0, dcS_e (fun k _ _ => X 9 c k (by decide) (by decide) (by decide)) c1, dcI_e (X 9 c 6 (by decide) (by decide) (by decide)) (fun r k _ _ => X r c k (by omega) (by omega) (by omega)) c2, dcN_e (X 0 c 6 (by decide) (by decide) (by decide)) (fun k => X 21 c k (by decide) (by decide) (by decide)) c3, dcG_e (X 0 c 10 (by decide) (by decide) (by decide)) (fun r k _ _ => X r c k (by omega) (by omega) (by omega)) c4, dcT_e (fun k _ _ => X 0 c k (by decide) (by decide) (by decide)) c5, dcM_e (X 0 c 3 (by decide) (by decide) (by decide)) (X 0 c 4 (by decide) (by decide) (by decide)) (fun m k => X 4 m k (by decide) (by decide) (by decide)) (c6 π), ouC_e (X 1 c 2 (by decide) (by decide) (by decide)) (fun r k _ => X r c k (by omega) (by omega) (by omega)) c7, (Y 17 (by omega)).trans g17, fun w w1 w2 _ => by rw [Y 13 (by omega), g13]; exact bit_0 w1 (by omega)⟩
  exact rd_loop n8 (k2 s) kf 802 0 (m - 1) D0 0 h14 rfl (by omega) (by omega) (by omega) DW_0 d14 ((Y 2 (by omega)).trans g2) FF
end
