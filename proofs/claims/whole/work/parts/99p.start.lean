/-! THE LAW, 9: its first acts -/
set_option maxHeartbeats 4000000 in
theorem new_R2 {m g h : Hp} {Q : Int → Hp → Prop} {f g2 : Int → Int} (w : CW (mkC D0 f g2)) (d : Ds ZR [(0, 12, 0, 0, 0, none)] [] m g h) (q : ∀ h', IR h' (fsS (mkC D0 f g2)) → LayZ ZR h' → (∀ (r : Nat) (i : Int), ZR r = false → r ≠ 999 → smC g h' r i) → blk h' 114 0 → Q 0 h') : ok (f_X12_init_u h) Q := by
  refine zt_X12 d (fun h1 d1 => ?_)
  have e62 : ∀ x, gI h1 62 0 x = 0 := fun x => ds_v 62 0 x d1 rfl rfl (lNI_I (by decide +kernel))
  obtain ⟨v, h2, e, F, fa⟩ := p_X12_layFar (h := h1) (W := 4) (H := 4) (ds_v 61 0 0 d1 rfl rfl (by decide +kernel)) (ds_v 61 0 1 d1 rfl rfl (by decide +kernel)) (by decide) (fun x _ _ => Or.inl (e62 x))
  have rr : ∀ {k : Int} {w : Option (Nat × Int)}, lR rEnd 12 0 k = w → h1.2.1 12 0 k = w := fun {k} {w} z => ds_w 12 0 k d1 rfl z
  obtain ⟨x, _⟩ := sm_X12_layFar (R := h1.2) (rr (by decide +kernel)) (rr (by decide +kernel)) (rr (by decide +kernel)) rfl e
  refine ok_bd ⟨v, h2, x, ?_⟩
  have x2 : ∀ (r : Nat) (i k : Int), r ≠ 83 → gI h2 r i k = gI h1 r i k := fun r i k z => F.1 r i k z
  have fa2 : ∀ a x, 0 ≤ a → a < 64 → 0 ≤ x → x < 64 → farV (stepF 4 4) (fun x => cellP 4 4 x ∧ (0 : Int) = 0) a x (gI h2 83 0 (64 * a + x)) := fun a x a1 a2 x1 x2 => far_w (fun y => by rw [e62]) (fa a x a1 a2 x1 x2)
  have ir : isR h2 (mkC D0 f g2) := rn_isR (fun k => (x2 61 0 k (by decide)).trans (ds_v 61 0 k d1 rfl rfl rfl)) (fun k => (x2 62 0 k (by decide)).trans (e62 k)) fa2
  have b9 : B92 h2 := fun k => by
    rw [x2 92 0 k (by decide), show gI h1 92 0 k = 0 from ds_v 92 0 k d1 rfl rfl (lNI_I (by decide +kernel))]
    decide
  obtain ⟨v3, h3, e3, F3, b93, sf⟩ := p_X12_begins (s := 0) b9 ir w (by decide) (by decide)
  obtain ⟨x3, _⟩ := sm_X12_begins (R := h1.2) (rr (by decide +kernel)) (rr (by decide +kernel)) (rr (by decide +kernel)) (rr (by decide +kernel)) (rr (by decide +kernel)) (rr (by decide +kernel)) (rr (by decide +kernel)) (rr (by decide +kernel)) (rr (by decide +kernel)) (rr (by decide +kernel)) F.2 e3
  refine ok_bd ⟨v3, h3, x3, ?_⟩
  have ee : h3.2 = h1.2 := F3.2.trans F.2
  refine ⟨0, h3, rfl, q h3 (fs_IR (isR_fr F3 (fun r k a b y => by unfold ShW at y; omega) ir) b93 sf (fun k => ?_)) (layZ_e ee (lay_Z d1 rEnd_lay)) (fun r i z z9 => ?_) ?_⟩
  · exact (F3.1 12 0 k (fun y => by unfold ShW at y; omega)).trans ((x2 12 0 k (by decide)).trans (ds_v 12 0 k d1 rfl rfl rfl))
  · have nz : ¬ (60 ≤ r ∧ r ≤ 114) := fun y => by
      unfold ZR at z
      rw [show decide (60 ≤ r ∧ r ≤ 114) = true from decide_eq_true y, Bool.or_true] at z
      cases z
    exact smC_fr F3 (fun k y => by unfold ShW at y; omega) (smC_fr F (fun k y => by have y2 : r = 83 := y; omega) (ds_g d1 z z9))
  · refine ⟨?_, fun k => ?_, fun k => ?_⟩
    · have y := ds_A (r := 114) (i := 0) d1 rfl
      rw [lNo_A (by decide +kernel), ← ee] at y
      cases hq : h3.2.2 114 0 with
      | none => rfl
      | some a => rw [hq] at y; cases y
    · exact (F3.1 114 0 k (fun y => by unfold ShW at y; omega)).trans ((x2 114 0 k (by decide)).trans (ds_v 114 0 k d1 rfl rfl (lNo_I (by decide +kernel))))
    · have y := ds_w 114 0 k d1 rfl (lNo_R (by decide +kernel))
      show h3.2.1 114 0 k = none
      rw [ee]; exact y
theorem first_R2 {h : Hp} {Q : Int → Hp → Prop} (b : ∀ (r : Nat) (i : Int), ZR r = true → blk h r i) (a : fsA h) (l : LayZ ZC h) (q : ∀ h', fsA h' → LayZ ZC h' → IR h' (fsS (fsC h')) → LayZ ZR h' → (∀ (r : Nat) (i : Int), ZC r = false → ZR r = false → r ≠ 999 → smC h h' r i) → blk h' 114 0 → Q 0 h') : ok (f_X12_init_u (alA h 12 0)) Q := by
  have cw := (fsA_IC a).1
  refine new_R2 (f := fun x => gI h 55 0 (192 + x)) (g2 := fun _ => 0) cw (ds_al (ds_z b) rfl rfl) (fun h2 ir lz sm bk => ?_)
  have e : ∀ (r : Nat) (i : Int), ZC r = true → smC h h2 r i := fun r i z => sm r i (ZR_C z) (Z_9 z)
  have ec : fsC h2 = fsC h := fsC_e (fun k => (e 55 0 rfl).1 k)
  refine q h2 (fsA_sm e a) (layZ_sm e l) ?_ lz (fun r i _ z z9 => sm r i z z9) bk
  rw [ec]; exact ir
theorem blk_sm {h h2 : Hp} {r : Nat} {i : Int} (e : smC h h2 r i) (b : blk h r i) : blk h2 r i := ⟨e.2.2.trans b.1, fun k => (e.1 k).trans (b.2.1 k), fun k => (e.2.1 k).trans (b.2.2 k)⟩
theorem sm_al {h : Hp} {r r2 : Nat} {i i2 : Int} (n : r2 ≠ r) (n9 : r2 ≠ 999) : smC h (alA h r i) r2 i2 := ⟨fun k => alA_1 n9, fun k => rfl, by
  show (if r2 = r ∧ i2 = i then some (h.1 999 0 0).toNat else h.2.2 r2 i2) = _
  rw [if_neg (fun y => n y.1)]⟩
theorem lay_al {h : Hp} {r : Nat} {i : Int} (hr : 13 ≤ r) (hL : Lay h) : Lay (alA h r i) := fun r2 k i2 a t ha x => by
  by_cases q : r2 = r
  · subst q; rw [xtg_hi hr] at x; cases x
  · refine hL r2 k i2 a t ?_ x
    have ha2 : (if r2 = r ∧ i2 = i then some (h.1 999 0 0).toNat else h.2.2 r2 i2) = some a := ha
    rw [if_neg (fun y => q y.1)] at ha2; exact ha2
theorem Z_lt {r : Nat} (z : ZC r = true ∨ ZR r = true) : r < 900 := by
  rcases z with z | z
  · unfold ZC at z
    rw [Bool.or_eq_true] at z
    rcases z with y | y
    · have := of_decide_eq_true y; omega
    · have := of_decide_eq_true y; omega
  · unfold ZR at z
    rw [Bool.or_eq_true] at z
    rcases z with y | y
    · have := of_decide_eq_true y; omega
    · have := of_decide_eq_true y; omega
theorem first_I {h : Hp} (a : fsA h) (l : LayZ ZC h) (i : IR h (fsS (fsC h))) (l2 : LayZ ZR h) : lwI (alA h 114 0) := by
  have e : ∀ (r : Nat) (i : Int), ZC r = true → smC h (alA h 114 0) r i := fun r i z => sm_al (fun y => by subst y; cases z) (Z_9 z)
  have a2 := fsA_sm e a
  have ec : fsC (alA h 114 0) = fsC h := fsC_e (fun k => (e 55 0 rfl).1 k)
  have w := fs_SW (fsA_IC a2).1
  refine ⟨lay_al (by decide) (lay_both l l2), 0, fsS (fsC (alA h 114 0)), w, (fsA_IC a2).2, IR_x w (fun r i k z => alA_1 (by omega)) ?_, a2.2.2.2.2⟩
  rw [ec]; exact i
theorem gl_25 : Cond.classLink RL 8 RX11 ∈ Gw := gt_1 (i := 25) rfl rfl
theorem gl_26 : Cond.instantiable RX11 17 ∈ Gw := gt_1 (i := 26) rfl rfl
theorem gl_1372 : Cond.classLink RL 18 RX12 ∈ Gw := gt_6 (i := 172) rfl rfl
theorem gl_1373 : Cond.instantiable RX12 80 ∈ Gw := gt_6 (i := 173) rfl rfl
set_option maxHeartbeats 4000000 in
set_option maxRecDepth 100000 in
theorem lw_go {E : xE} {h : Hp} (hl : E.2.1.stackTraces = false) (hb : ∀ (r : Nat) (i : Int), r < 900 → blk h r i) : X E mL_law 1312 (601024, 7293034) (0, 0) 0 [some (xr 913 0), none, none, none, none, none, none] [] h lwQ := by
  refine x_new (r := 11) (i := 0) (N := 17) (b := 3) dL_law_0 rfl (by decide) rfl lay_11 tyX11_ok dv_11 gl_25 gl_26 ki_116 (hb 11 0 (by decide)) ⟨Nat.le_of_ble_eq_true rfl, Nat.le_of_ble_eq_true rfl⟩ rfl ?_
  refine x_dup (b := 4) dL_law_3 rfl rfl ?_
  obtain ⟨v1, h1, e1, a1, l1, s1⟩ := first_C (h := h) (Q := fun _ h9 => fsA h9 ∧ LayZ ZC h9 ∧ ∀ (r : Nat) (i : Int), ZC r = false → r ≠ 999 → smC h h9 r i) (fun r i z => hb r i (Z_lt (Or.inl z))) (fun h9 a l s => ⟨a, l, s⟩)
  refine x_callI (as := []) (rest := [xr 11 0]) (b := 7) (c_X11_init_u 1304 (alA h 11 0) _ e1) rfl rfl dL_law_4 cw_L_17 rfl rfl (Nat.le_of_ble_eq_true rfl) ⟨Nat.le_of_ble_eq_true rfl, Nat.le_of_ble_eq_true rfl⟩ rfl (fun rv hh hp _ => ?_)
  obtain ⟨rfl, rfl⟩ := hp
  refine x_astore_n (i := 1) (b := 8) (ls2 := [some (xr 913 0), some (xr 11 0), none, none, none, none, none]) dL_law_7 rfl (Nat.le_of_ble_eq_true rfl) rfl rfl ?_
  have b1 : ∀ (r : Nat) (i : Int), ZR r = true → blk h1 r i := fun r i z => blk_sm (s1 r i (ZC_R z) (R_9 z)) (hb r i (Z_lt (Or.inr z)))
  refine x_new (r := 12) (i := 0) (N := 80) (b := 11) dL_law_8 rfl (by decide) rfl lay_12 tyX12_ok dv_12 gl_1372 gl_1373 ki_132 (b1 12 0 rfl) ⟨Nat.le_of_ble_eq_true rfl, Nat.le_of_ble_eq_true rfl⟩ rfl ?_
  refine x_dup (b := 12) dL_law_11 rfl rfl ?_
  obtain ⟨v2, h2, e2, a2, l2, i2, l3, b14⟩ := first_R2 (h := h1) (Q := fun _ h9 => fsA h9 ∧ LayZ ZC h9 ∧ IR h9 (fsS (fsC h9)) ∧ LayZ ZR h9 ∧ blk h9 114 0) b1 a1 l1 (fun h9 a l i l2 _ b => ⟨a, l, i, l2, b⟩)
  refine x_callI (as := []) (rest := [xr 12 0]) (b := 15) (c_X12_init_u 1308 (alA h1 12 0) _ e2) rfl rfl dL_law_12 cw_L_20 rfl rfl (Nat.le_of_ble_eq_true rfl) ⟨Nat.le_of_ble_eq_true rfl, Nat.le_of_ble_eq_true rfl⟩ rfl (fun rv hh hp _ => ?_)
  obtain ⟨rfl, rfl⟩ := hp
  refine x_astore_n (i := 2) (b := 16) (ls2 := [some (xr 913 0), some (xr 11 0), some (xr 12 0), none, none, none, none]) dL_law_15 rfl (Nat.le_of_ble_eq_true rfl) rfl rfl ?_
  refine x_iconst (n := 1) (b := 17) dL_law_16 (by decide) rfl ?_
  refine x_newa (r := 114) (i := 0) (N := 1) (b := 19) dL_law_17 ak_114 (by decide) rfl rfl ki_250 rfl rfl (by decide) (fun C h9 => by cases h9) b14 ⟨Nat.le_of_ble_eq_true rfl, Nat.le_of_ble_eq_true rfl⟩ rfl ?_
  refine x_astore_n (i := 3) (b := 20) (ls2 := [some (xr 913 0), some (xr 11 0), some (xr 12 0), some (xr 114 0), none, none, none]) dL_law_19 rfl (Nat.le_of_ble_eq_true rfl) rfl rfl ?_
  refine x_iconst (n := 0) (b := 21) dL_law_20 (by decide) rfl ?_
  refine x_istore (i := 4) (b := 23) (ls2 := lwL 0) dL_law_21 (Nat.le_of_ble_eq_true rfl) rfl rfl ?_
  refine x_wd (u2 := (300 + (0 : Int).toNat, 20000 + 6 * (0 : Int).toNat)) (Nat.le_of_ble_eq_true rfl) (Nat.le_of_ble_eq_true rfl) (lw_loop hl (E.1.2.2.2 6 + 1) 0 _ (by decide) ?_ ?_ (first_I a2 l2 i2 l3))
  · show (0 : Int) ≤ ((E.1.2.2.2 6 : Nat) : Int); omega
  · show ((E.1.2.2.2 6 : Nat) : Int) - 0 < 6 * ((E.1.2.2.2 6 + 1 : Nat) : Int); omega
