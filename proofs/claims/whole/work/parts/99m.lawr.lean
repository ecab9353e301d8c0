/-! THE LAW, 1: rows of its own -/
abbrev mL_law : Mth := (RL, cL_law, 7, (some .boolean), yL_law)
abbrev lwN (E : xE) : Int := ((E.1.2.2.2 6 : Nat) : Int)
section
variable {E : xE} {M : Mth} {d : Nat} {B u u2 : Nat × Nat} {pc b : Nat} {ls ls2 : List (Option Av)} {st : List Av} {h : Hp} {Q : Option Av → Hp → Prop}
theorem x_wd (h1 : u.1 ≤ u2.1) (h2 : u.2 ≤ u2.2) (k : X E M d B u2 pc ls st h Q) : X E M d B u pc ls st h Q :=
  fun wf ho hl hx p e s m args below meth c H locs L C hR hS hL => W.widen h1 h2 (k wf ho hl hx p e s m args below meth c H locs L C hR hS hL)
theorem x_slen (hd : decode (mCC M) pc = .ok (.arraylength, 1)) (hb : pc + 1 = b) (k : 0 ≤ lwN E ∧ lwN E ≤ 3072 → X E M d B u b ls (xi (lwN E) :: st) h Q) : X E M d B u pc ls (xr 913 0 :: st) h Q := by
  subst hb
  intro wf ho hl hx p e s m args below meth c H locs L C hR hS hL
  have hC := C
  obtain ⟨c1, c2, c3, c4, c5, c6, c7, c8, c9⟩ := C
  have hth : wThr E.1 s s.heap := c8.2.2.2.2.2.2.2.2.2.2.2.2.2.2.2.2.2.2
  have hA : h.2.2 913 0 = some (E.1.2.2.2 5) := wf.2.2.2.2.2.2.2.2
  have e1 : cv h (xr 913 0) = .ref (E.1.2.2.2 5) := by simp [cv, xoa, hA, va_rf]
  have hN := hth.2.2.2.2.2.2
  have hv : -2147483648 ≤ lwN E ∧ lwN E < 2147483648 := by
    show -2147483648 ≤ ((E.1.2.2.2 6 : Nat) : Int) ∧ ((E.1.2.2.2 6 : Nat) : Int) < 2147483648
    omega
  have kk := k (by show 0 ≤ ((E.1.2.2.2 6 : Nat) : Int) ∧ ((E.1.2.2.2 6 : Nat) : Int) ≤ 3072; omega) wf (List.forall_mem_cons.mpr ⟨hv, fun v hv => ho v (List.mem_cons_of_mem _ hv)⟩) hl hx p e s m args below meth c H locs L hC hR hS hL
  rw [List.map_cons, e1]
  exact va_tlen c1 c2 hth.2.2.2.2.2.1 hS (Int32.ofInt_eq_ofNat).symm hd kk
theorem x_sld {x : Int} (hd : decode (mCC M) pc = .ok (.iaload, 1)) (hi : 0 ≤ x ∧ x < lwN E) (hb : pc + 1 = b) (k : X E M d B u b ls (xi (wsc E.1 x.toNat) :: st) h Q) : X E M d B u pc ls (xi x :: xr 913 0 :: st) h Q := by
  subst hb
  intro wf ho hl hx p e s m args below meth c H locs L C hR hS hL
  have hC := C
  obtain ⟨c1, c2, c3, c4, c5, c6, c7, c8, c9⟩ := C
  have hth : wThr E.1 s s.heap := c8.2.2.2.2.2.2.2.2.2.2.2.2.2.2.2.2.2.2
  have hA : h.2.2 913 0 = some (E.1.2.2.2 5) := wf.2.2.2.2.2.2.2.2
  have e1 : cv h (xr 913 0) = .ref (E.1.2.2.2 5) := by simp [cv, xoa, hA, va_rf]
  have hN := hth.2.2.2.2.2.2
  obtain ⟨i1, i2⟩ := in_of (n := E.1.2.2.2 6) (by omega) hi
  have hv : -2147483648 ≤ wsc E.1 x.toNat ∧ wsc E.1 x.toNat < 2147483648 := by
    unfold wsc
    omega
  have kk := k wf (List.forall_mem_cons.mpr ⟨hv, fun v hv => ho v (List.mem_cons_of_mem _ (List.mem_cons_of_mem _ hv))⟩) hl hx p e s m args below meth c H locs L hC hR hS hL
  rw [List.map_cons, List.map_cons, e1]
  exact va_ti c1 c2 hth.2.2.2.2.2.1 hS i1 (by rw [i2]; rfl) hd kk
/-- the law's call of its own look -/
theorem x_callLk {as rest : List Av} {Q2 : Option Av → Hp → Prop} (hs : Wf E.1 h → (∀ v ∈ as, vok h v) → vx_Met E.2.1 yL_look lkW (rmo d (1, 6)) (va_Pc (as.map (cv h)) fun U => Rep E.1 h U.heap ∧ Kx E.1 U U.heap) (Qm E.1 h.2.2 Q2) (fun _ _ _ => False) 1 6 (wA E.1)) (hM : mOwn M = RL) (hd : decode (mCC M) pc = .ok (.invokestatic 39, 3)) (hst : st = as.reverse ++ rest) (hn : as.length = 4) (hcat : (rest.map wid).sum ≤ 8) (hB : u.1 + 1 ≤ B.1 ∧ u.2 + 6 ≤ B.2) (hb : pc + 3 = b)
    (k : ∀ (rv : Option Av) (h2 : Hp), Q2 rv h2 → X E M (d + 1) B (u.1 + 1, u.2 + 6) b ls (rv.toList ++ rest) h2 Q) : X E M (d + 1) B u pc ls st h Q := by
  subst hb
  subst hst
  intro wf ho hl hx p e s m args below meth c H locs L C hR hS hL
  have hC := C
  obtain ⟨c1, c2, c3, c4, c5, c6, c7, c8, c9⟩ := C
  have hav : ∀ v ∈ as, vok h v := fun v q => ho v (List.mem_append_left _ (List.mem_reverse.mpr q))
  have hor : ∀ v ∈ rest, vok h v := fun v hv => ho v (List.mem_append_right _ hv)
  have hMet := hs wf hav
  rw [hM] at c5
  have w1 := gl_1279
  have w2 := gl_0
  have w3 := gl_1280
  have hG : GoodIn Gw (va_wsS RL 39 yL_look lkW) := by
    refine gw_in (fun w hw => ?_)
    rcases List.mem_append.mp hw with q | q
    · simp only [List.mem_cons, List.not_mem_nil, or_false] at q
      rcases q with q | q | q <;> rw [q] <;> assumption
    · rcases List.mem_cons.mp q with z | z
      · rw [z]; exact gl_1281
      · exact z
  have cw := vx_cwSW (R := rmo (d + 1) B) (bytes := cL_look) (maxL := 5) (ret := some .int) (hh := [(0, 10, 13, 13), (0, 10, 17, 15)]) (rm := rmo d (1, 6)) (mc := 1) (ms := 6) 4 c7 hG rfl rfl rfl ⟨by decide, by decide, by decide +kernel⟩ ⟨Nat.le_refl _, by show 8 + (5 + 11) + 64 * d ≤ 64 * (d + 1); omega⟩
  have run := vx_runSX (l := E.2.1) (e := e) (below := below) (meth := meth) (H := H) (locs := locs) (cells := u.1) (slots := u.2) (As := as.map (cv h)) (rest := rest.map (cv h)) (g := F0 m pc L ((as.reverse ++ rest).map (cv h))) ⟨c1, c2, c4, c5, c7⟩ hMet cw
    ⟨fun a2 U g mk q => ⟨q.1, q.2.1, Kx_blind q.2.2 rfl rfl⟩, fun U hU hW => ⟨rfl, by rw [hU]; exact hR, Kx_call c8 hS hU hW⟩⟩ rfl (by rw [List.length_map]; exact hn) hL.1 (by simp) (lv_room (by rw [wid_sum]; exact hcat)) hd hB
  have run2 : va_Run p E.2.1 e (rmo (d + 1) B) s m args below meth c H locs u.1 u.2 1 6 (F0 m pc L ((as.reverse ++ rest).map (cv h))) (rest.map (cv h)) (Qm E.1 h.2.2 Q2 (as.map (cv h)).toArray) (wA E.1) := fun T hT X9 => by
    rcases run T hT X9 with z | ⟨q9, s9, t9, T9, L9, E9, ce9, y1, y2, y3, y4, y5, y6, y7⟩
    · exact z
    · exact y6.elim
  exact x_behind (B2 := (1, 6)) wf hor hl hx hC hS hL run2 (fun rv h2 H1 locs1 z1 z2 z3 z4 z5 z6 z7 z8 z9 => k rv h2 z1 z3 z4 z5 z6 p e s m args below meth c H1 locs1 L hC z7 z8 z9)
end
section
variable {h h1 h2 : Hp} {c c2 : Int} {σ σ2 : Sg}
theorem IR_x (w : SW σ) (e : ∀ (r : Nat) (i k : Int), r = 12 ∨ (60 ≤ r ∧ r ≤ 113) → gI h2 r i k = gI h r i k) (q : IR h σ) : IR h2 σ := by
  have vm := vw_m (sw_V w).1
  have wC := sw_C w
  obtain ⟨q1, q2, q3, q4, q5, q6, q7, q8, q9⟩ := q
  refine ⟨isR_eq (fun r k a b => e r 0 k (by omega)) q1, B92_e (fun k => e 92 0 k (by omega)) q2, rV_e wC (fun r a b => e r 0 0 (by omega)) (fun m _ _ => ⟨e 91 0 m (by omega), e 92 0 m (by omega)⟩) q3, rL_e (fun r k a b _ _ => e r 0 k (by omega)) vm.2 q4, rU_e wC (sw_U w).2.1 (e 12 0 54 (by omega)) (fun r s a b _ _ => e r 0 s (by omega)) (fun m _ _ => ⟨e 91 0 m (by omega), e 92 0 m (by omega)⟩) q5, rI_e wC (fun z => (vw_m (sw_i w z).1).2) (e 12 0 53 (by omega)) (fun r a b => e r 0 2 (by omega)) (fun m _ _ => ⟨e 91 0 m (by omega), e 92 0 m (by omega)⟩) (fun r k a b _ _ => e r 0 k (by omega)) q6, rN_e (fun k _ => e 12 0 k (by omega)) (fun r k a b => e r 0 k (by omega)) q7, rT_e (e 12 0 2 (by omega)) (fun k => e 60 0 k (by omega)) q8, rF_e (fun k _ => e 12 0 k (by omega)) q9⟩
theorem IC_x (e : ∀ (r : Nat) (i k : Int), r < 12 ∨ (20 ≤ r ∧ r ≤ 59) → gI h2 r i k = gI h r i k) (e2 : h2.2 = h.2) (q : IC h c σ) : IC h2 c σ := by
  obtain ⟨q1, q2, q3, q4, q5, q6, q7, q8, q9, q10, q11⟩ := q
  exact ⟨kA_e (fun r i k z => e r i k (by unfold inC at z; omega)) e2 q1, kR_e e2 q2, kV_e (fun k => e 10 0 k (by omega)) (fun k => e 57 0 k (by omega)) q3, kG_e (fun k _ => e 2 0 k (by omega)) q4, kL_e (fun r k a b => e r 0 k (by omega)) q5, kU_e (e 11 0 10 (by omega)) (fun v k _ _ => e 10 v k (by omega)) (fun v k _ _ => e 57 v k (by omega)) q6, kI_e (e 11 0 13 (by omega)) (fun k => e 10 21 k (by omega)) (fun k => e 57 21 k (by omega)) (fun r k a b => e r 1 k (by omega)) q7, kN_e (fun k _ => e 5 0 k (by omega)) (fun r k a b => e r 0 k (by omega)) q8, kT_e (e 11 0 1 (by omega)) (fun k => e 58 0 k (by omega)) q9, kF_e (fun k _ => e 7 0 k (by omega)) q10, kQ_e (e 11 0 16 (by omega)) q11⟩
/-- what holds between two calls -/
def lwI (h : Hp) : Prop := Lay h ∧ ∃ (c : Int) (σ : Sg), SW σ ∧ IC h c σ ∧ IR h σ ∧ ∀ k : Nat, k < 27 → gI h 47 0 (k : Int) = keyV k
theorem lw_nx (w2 : SW σ2) (q2 : IC h1 c2 σ2) (fx : FrX ClW h h1) (r2 : IR h2 σ2) (f2 : Fr ReW h1 h2) (kk : ∀ k : Nat, k < 27 → gI h 47 0 (k : Int) = keyV k) (hL : Lay h2) : lwI h2 :=
  ⟨hL, c2, σ2, w2, IC_re f2 q2, r2, fun k k1 => (f2.1 47 0 k (by unfold ReW; omega)).trans ((fx 47 0 k (by unfold ClW; omega)).trans (kk k k1))⟩
theorem lw_s {r : Nat} {v : Int} (hr : 114 ≤ r) (q : lwI h) : lwI (sI h r 0 0 v) := by
  obtain ⟨hL, c, σ, w, a, b, kk⟩ := q
  exact ⟨hL, c, σ, w, IC_x (fun r2 i k z => gI_nr (by omega)) rfl a, IR_x w (fun r2 i k z => gI_nr (by omega)) b, fun k k1 => (gI_nr (by omega)).trans (kk k k1)⟩
end
abbrev lwL (i : Int) : List (Option Av) := [some (xr 913 0), some (xr 11 0), some (xr 12 0), some (xr 114 0), some (xi i), none, none]
def lwQ : Option Av → Hp → Prop := fun r _ => r = some (xi 1)
def lwB (E : xE) (i : Int) : Prop := ∀ j : Int, 0 ≤ j → j ≤ 5 → (-2147483648 ≤ i + j ∧ i + j < 2147483648) ∧ 0 ≤ i + j ∧ i + j < lwN E
theorem th_e {h : Hp} : f_X12_thrown h = some (gI h 12 0 0, h) := by
  refine ok_eq.mp (fuv_X12_thrown (fun n hn => ?_))
  refine s_X12_thrown_0 (by omega) ?_
  unfold b_X12_thrown_0
  exact ok_some ⟨rfl, rfl⟩
