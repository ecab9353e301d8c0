/-! TEXT, 29: E's code, without the machine -/
def eV (e : Int × Int) : Prop := (e.1 = 0 ∧ 0 ≤ e.2 ∧ e.2 ≤ 9999) ∨ (e.1 = 1 ∧ 0 ≤ e.2 ∧ e.2 < 7) ∨ (2 ≤ e.1 ∧ e.1 ≤ 14)
def dpS (x : Int) (d : Nat) : Option Nat := if x = 0 ∨ x = 1 then some (d + 1) else if x = 4 then (if 1 ≤ d then some d else none) else if 2 ≤ d then some (d - 1) else none
def dp : List (Int × Int) → Option Nat
  | [] => some 0
  | e :: o => (dp o).bind (dpS e.1)
/-- how many signs wait that have two sides -/
def bnN : List Int → Nat
  | [] => 0
  | x :: s => (if x = 4 ∨ x = 15 then 0 else 1) + bnN s
def sgO : List Int → Prop
  | [] => True
  | x :: s => (x = 15 ∨ (2 ≤ x ∧ x ≤ 14)) ∧ sgO s
def eS (o0 o : List (Int × Int)) (s : List Int) (d : Nat) : Prop := ∃ g, o = g ++ o0 ∧ dp g = some (bnN s + d) ∧ (∀ e, e ∈ g → eV e) ∧ sgO s
section
variable {b : Int → Int} {n : Nat} {o0 : List (Int × Int)}
theorem rk_1 : ∀ v : Nat, v < 15 → 2 ≤ v → 1 ≤ rkF (v : Int) := by decide
theorem rk_1i {x : Int} (a : 2 ≤ x) (c : x ≤ 14) : 1 ≤ rkF x := by
  have := rk_1 x.toNat (by omega) (by omega)
  rw [show ((x.toNat : Nat) : Int) = x by omega] at this
  exact this
theorem rel_e {r x : Int} {o : List (Int × Int)} {s : List Int} : relF r o (x :: s) = if r ≤ rkF x then relF r ((x, 0) :: o) s else (o, x :: s) := rfl
theorem bn_e {x : Int} {s : List Int} : bnN (x :: s) = (if x = 4 ∨ x = 15 then 0 else 1) + bnN s := rfl
theorem eS_rel {r : Int} (r1 : 1 ≤ r) : ∀ (s : List Int) (o : List (Int × Int)), eS o0 o s 1 → eS o0 (relF r o s).1 (relF r o s).2 1
  | [], o, q => q
  | x :: s, o, q => by
    rw [rel_e]
    by_cases z : r ≤ rkF x
    · rw [if_pos z]
      refine eS_rel r1 s _ ?_
      obtain ⟨g, e1, e2, e3, e4, e5⟩ := q
      have x15 : x ≠ 15 := fun e => by
        rw [e, rkF_15] at z
        omega
      have xr : 2 ≤ x ∧ x ≤ 14 := e4.resolve_left x15
      refine ⟨(x, 0) :: g, by rw [e1]; rfl, ?_, ?_, e5⟩
      · show (dp g).bind (dpS x) = some (bnN s + 1)
        rw [e2]
        show dpS x (bnN (x :: s) + 1) = some (bnN s + 1)
        rw [bn_e]
        unfold dpS
        rw [if_neg (by omega)]
        by_cases x4 : x = 4
        · rw [if_pos x4, if_pos (Or.inl x4), if_pos (by omega), Nat.zero_add]
        · rw [if_neg x4, if_neg (show ¬ (x = 4 ∨ x = 15) by omega), if_pos (by omega)]
          congr 1
          omega
      · intro e he
        cases he with
        | head => exact Or.inr (Or.inr xr)
        | tail _ he => exact e3 e he
    · rw [if_neg z]; exact q
theorem rel_nil : ∀ (s : List Int) (o : List (Int × Int)), sgO s → nB s = 0 → (relF 1 o s).2 = []
  | [], _, _, _ => rfl
  | x :: s, o, q, p => by
    have e : nB (x :: s) = (if x = 15 then 1 else 0) + nB s := rfl
    have x15 : x ≠ 15 := fun y => by rw [e, if_pos y] at p; omega
    rw [e, if_neg x15] at p
    have xr := q.1.resolve_left x15
    rw [rel_e, if_pos (rk_1i xr.1 xr.2)]
    exact rel_nil s _ q.2 (by omega)
theorem rel_hd : ∀ (s : List Int) (o : List (Int × Int)), sgO s → 1 ≤ nB s → ∃ s2, (relF 1 o s).2 = 15 :: s2
  | [], _, _, p => by
    have e : nB [] = 0 := rfl
    omega
  | x :: s, o, q, p => by
    have e : nB (x :: s) = (if x = 15 then 1 else 0) + nB s := rfl
    by_cases x15 : x = 15
    · rw [rel_e, if_neg (by rw [x15, rkF_15]; omega), x15]
      exact ⟨s, rfl⟩
    · rw [e, if_neg x15] at p
      have xr := q.1.resolve_left x15
      rw [rel_e, if_pos (rk_1i xr.1 xr.2)]
      exact rel_hd s _ q.2 (by omega)
theorem eS_push {v : Int} {o : List (Int × Int)} {s : List Int} (v1 : 2 ≤ v ∧ v ≤ 14) (v4 : v ≠ 4) (q : eS o0 o s 1) : eS o0 o (v :: s) 0 := by
  obtain ⟨g, e1, e2, e3, e4⟩ := q
  refine ⟨g, e1, ?_, e3, Or.inr v1, e4⟩
  rw [e2, bn_e, if_neg (by omega)]
  congr 1
  omega
theorem run_ok : ∀ (F : Nat) (o : List (Int × Int)) (s : List Int) (t : Nat) (w : Bool) (k p : Nat) (r : List (Int × Int) × Nat × Nat), eS o0 o s (if w = true then 0 else 1) → o.length + nO s ≤ k → k ≤ 64 → nB s = p → runE b n F o s t w k p = .ok r → (∃ g, r.1 = g ++ o0 ∧ dp g = some 1 ∧ ∀ e, e ∈ g → eV e) ∧ r.1.length ≤ r.2.2 ∧ r.2.2 ≤ 64
  | 0, o, s, t, w, k, p, r, q, l, k6, hp, e => by cases e
  | F + 1, o, s, t, true, k, p, r, q, l, k6, hp, e => by
    have tv := tk_v (b := b) (n := n) t
    rw [run_p] at e
    by_cases c1 : tkK b n t = 3 ∧ 9999 < tkV b n t
    · rw [if_pos c1] at e; cases e
    · rw [if_neg c1] at e
      by_cases c2 : tkK b n t = 3 ∨ 20 ≤ kyT b n t
      · rw [if_pos c2] at e
        by_cases k7 : k < 64
        · rw [if_pos k7] at e
          refine run_ok F _ s (t + 1) false (k + 1) p r ?_ (by show o.length + 1 + nO s ≤ k + 1; omega) (by omega) hp e
          obtain ⟨g, e1, e2, e3, e4⟩ := q
          have e2' : dp g = some (bnN s + 0) := e2
          have lv : eV (lfT b n t) ∧ ((lfT b n t).1 = 0 ∨ (lfT b n t).1 = 1) := by
            unfold lfT
            by_cases k3 : tkK b n t = 3
            · rw [if_pos k3]
              have := tv.2.2.1 k3
              exact ⟨Or.inl ⟨rfl, this.1, by show tkV b n t ≤ 9999; omega⟩, Or.inl rfl⟩
            · rw [if_neg k3]
              have k20 := c2.resolve_left k3
              have k2 : tkK b n t = 2 := by
                by_cases y : tkK b n t = 2
                · exact y
                · have : kyT b n t = -1 := if_neg y
                  omega
              have ek : kyT b n t = tkV b n t := if_pos k2
              have := tv.2.1 k2
              exact ⟨Or.inr (Or.inl ⟨rfl, by show 0 ≤ kyT b n t - 20; omega, by show kyT b n t - 20 < 7; omega⟩), Or.inr rfl⟩
          refine ⟨lfT b n t :: g, by rw [e1]; rfl, ?_, ?_, e4⟩
          · show (dp g).bind (dpS (lfT b n t).1) = some (bnN s + 1)
            rw [e2']
            show dpS (lfT b n t).1 (bnN s + 0) = some (bnN s + 1)
            unfold dpS
            rw [if_pos lv.2]
          · intro x hx
            cases hx with
            | head => exact lv.1
            | tail _ hx => exact e3 x hx
        · rw [if_neg k7] at e; cases e
      · rw [if_neg c2] at e
        by_cases c3 : sgT b n t = 15
        · rw [if_pos c3] at e
          by_cases p8 : p < 8
          · rw [if_pos p8] at e
            refine run_ok F o (15 :: s) (t + 1) true k (p + 1) r ?_ (by show o.length + ((if (15 : Int) = 15 then 0 else 1) + nO s) ≤ k; rw [if_pos rfl]; omega) k6 (by show (if (15 : Int) = 15 then 1 else 0) + nB s = p + 1; rw [if_pos rfl]; omega) e
            obtain ⟨g, e1, e2, e3, e4⟩ := q
            exact ⟨g, e1, by rw [e2, bn_e, if_pos (Or.inr rfl)]; congr 1; omega, e3, Or.inl rfl, e4⟩
          · rw [if_neg p8] at e; cases e
        · rw [if_neg c3] at e
          by_cases c4 : sgT b n t = 4 ∧ rkT s < 4
          · rw [if_pos c4] at e
            by_cases k7 : k < 64
            · rw [if_pos k7] at e
              refine run_ok F o (4 :: s) (t + 1) true (k + 1) p r ?_ (by show o.length + ((if (4 : Int) = 15 then 0 else 1) + nO s) ≤ k + 1; rw [if_neg (by decide)]; omega) (by omega) (by show (if (4 : Int) = 15 then 1 else 0) + nB s = p; rw [if_neg (by decide)]; omega) e
              obtain ⟨g, e1, e2, e3, e4⟩ := q
              exact ⟨g, e1, by rw [e2, bn_e, if_pos (Or.inl rfl)]; congr 1; omega, e3, Or.inr (by decide), e4⟩
            · rw [if_neg k7] at e; cases e
          · rw [if_neg c4] at e; cases e
  | F + 1, o, s, t, false, k, p, r, q, l, k6, hp, e => by
    have sr := sgT_r (b := b) (n := n) t
    have q1 : eS o0 o s 1 := q
    have sg : sgO s := by
      obtain ⟨g, e1, e2, e3, e4⟩ := q1
      exact e4
    rw [run_s] at e
    by_cases c1 : sgT b n t = -1 ∨ sgT b n t = 4 ∨ sgT b n t = 15 ∨ sgT b n t = 17
    · rw [if_pos c1] at e
      by_cases p0 : p = 0
      · rw [if_pos p0] at e
        injection e with e
        rw [← e]
        have a := eS_rel (r := 1) (by decide) s o q1
        have ri := relF_I (r := 1) (by decide) s o
        rw [rel_nil s o sg (by omega)] at a ri
        obtain ⟨g, e1, e2, e3, e4⟩ := a
        have n0 : nO [] = 0 := rfl
        exact ⟨⟨g, e1, e2, e3⟩, by show (relF 1 o s).1.length ≤ k; omega, k6⟩
      · rw [if_neg p0] at e; cases e
    · rw [if_neg c1] at e
      by_cases c2 : sgT b n t = 16
      · rw [if_pos c2] at e
        by_cases p1 : 1 ≤ p
        · rw [if_pos p1] at e
          have a := eS_rel (r := 1) (by decide) s o q1
          have ri := relF_I (r := 1) (by decide) s o
          obtain ⟨s2, es⟩ := rel_hd s o sg (by omega)
          rw [es] at a ri e
          have b1 : nB (15 :: s2) = 1 + nB s2 := by show (if (15 : Int) = 15 then 1 else 0) + nB s2 = _; rw [if_pos rfl]
          have b2 : nO (15 :: s2) = nO s2 := by show (if (15 : Int) = 15 then 0 else 1) + nO s2 = _; rw [if_pos rfl]; omega
          refine run_ok F _ s2 (t + 1) false k (p - 1) r ?_ (by omega) k6 (by omega) e
          obtain ⟨g, e1, e2, e3, e4, e5⟩ := a
          exact ⟨g, e1, by rw [e2, bn_e, if_pos (Or.inr rfl), Nat.zero_add]; rfl, e3, e5⟩
        · rw [if_neg p1] at e; cases e
      · rw [if_neg c2] at e
        have op : ∀ r0 : Int, 1 ≤ r0 → k < 64 → runE b n F (relF r0 o s).1 (sgT b n t :: (relF r0 o s).2) (t + 1) true (k + 1) p = .ok r → (∃ g, r.1 = g ++ o0 ∧ dp g = some 1 ∧ ∀ e, e ∈ g → eV e) ∧ r.1.length ≤ r.2.2 ∧ r.2.2 ≤ 64 := by
          intro r0 h0 k7 e
          have ri := relF_I (r := r0) h0 s o
          refine run_ok F _ _ (t + 1) true (k + 1) p r (eS_push (by omega) (by omega) (eS_rel h0 s o q1)) ?_ (by omega) ?_ e
          · show (relF r0 o s).1.length + ((if sgT b n t = 15 then 0 else 1) + nO (relF r0 o s).2) ≤ k + 1
            rw [if_neg (by omega)]; omega
          · show (if sgT b n t = 15 then 1 else 0) + nB (relF r0 o s).2 = p
            rw [if_neg (by omega)]; omega
        by_cases c4 : rkF (sgT b n t) = 4
        · rw [if_pos c4] at e
          by_cases c5 : rkT (relF 5 o s).2 = 4
          · rw [if_pos c5] at e; cases e
          · rw [if_neg c5] at e
            by_cases k7 : k < 64
            · rw [if_pos k7] at e
              exact op 5 (by decide) k7 e
            · rw [if_neg k7] at e; cases e
        · rw [if_neg c4] at e
          by_cases k7 : k < 64
          · rw [if_pos k7] at e
            exact op _ (rk_1i (by omega) (by omega)) k7 e
          · rw [if_neg k7] at e; cases e
end
/-! the code by places -/
def cC (o : List (Int × Int)) : Ch := fun f k => if f = 33 then (o.getD (o.length - 1 - k.toNat) (0, 0)).1 else (o.getD (o.length - 1 - k.toNat) (0, 0)).2
section
variable {C C2 : Ch}
theorem vd_step (m : Nat) (k : Int) (d : Nat) : vd C (m + 1) k d = (dpS (C 33 k) d).bind (vd C m (k + 1)) := by
  show (if C 33 k = 0 ∨ C 33 k = 1 then vd C m (k + 1) (d + 1) else if C 33 k = 4 then (if 1 ≤ d then vd C m (k + 1) d else none) else if 2 ≤ d then vd C m (k + 1) (d - 1) else none) = _
  unfold dpS
  split
  · rfl
  · split
    · split <;> rfl
    · split <;> rfl
theorem vd_snoc : ∀ (m : Nat) (k : Int) (d : Nat), vd C (m + 1) k d = (vd C m k d).bind (dpS (C 33 (k + m)))
  | 0, k, d => by
    rw [vd_step, show k + ((0 : Nat) : Int) = k by omega]
    show (dpS (C 33 k) d).bind some = dpS (C 33 k) d
    cases dpS (C 33 k) d <;> rfl
  | m + 1, k, d => by
    rw [vd_step, vd_step m]
    cases e : dpS (C 33 k) d with
    | none => rfl
    | some x =>
      show vd C (m + 1) (k + 1) x = (vd C m (k + 1) x).bind (dpS (C 33 (k + ((m + 1 : Nat) : Int))))
      rw [vd_snoc m (k + 1) x, show k + 1 + (m : Int) = k + ((m + 1 : Nat) : Int) by omega]
theorem vd_c : ∀ (m : Nat) (k : Int) (d : Nat), (∀ j : Int, k ≤ j → j < k + m → C 33 j = C2 33 j) → vd C m k d = vd C2 m k d
  | 0, _, _, _ => rfl
  | m + 1, k, d, q => by
    rw [vd_step, vd_step, q k (by omega) (by omega)]
    cases dpS (C2 33 k) d with
    | none => rfl
    | some x => exact vd_c m (k + 1) x (fun j j1 j2 => q j (by omega) (by omega))
theorem vd_dp {k : Int} : ∀ g : List (Int × Int), (∀ j : Nat, j < g.length → C 33 (k + j) = (g.getD (g.length - 1 - j) (0, 0)).1) → vd C g.length k 0 = dp g
  | [], _ => rfl
  | e :: g, q => by
    have l : (e :: g).length = g.length + 1 := rfl
    rw [l, vd_snoc]
    have q0 := q g.length (by rw [l]; omega)
    rw [l, show g.length + 1 - 1 - g.length = 0 by omega] at q0
    have ih := vd_dp g (fun j hj => by
      have := q j (by rw [l]; omega)
      rw [l, show g.length + 1 - 1 - j = (g.length - 1 - j) + 1 by omega] at this
      exact this)
    rw [ih, q0]
    rfl
theorem cC_new {g o : List (Int × Int)} {f : Nat} {j : Nat} (hj : j < g.length) : cC (g ++ o) f ((o.length : Int) + j) = if f = 33 then (g.getD (g.length - 1 - j) (0, 0)).1 else (g.getD (g.length - 1 - j) (0, 0)).2 := by
  unfold cC
  have e : (g ++ o).getD ((g ++ o).length - 1 - ((o.length : Int) + j).toNat) (0, 0) = g.getD (g.length - 1 - j) (0, 0) := by
    rw [List.length_append, show ((o.length : Int) + j).toNat = o.length + j by omega, show g.length + o.length - 1 - (o.length + j) = g.length - 1 - j by omega]
    rw [List.getD_eq_getElem?_getD, List.getElem?_append_left (by omega), ← List.getD_eq_getElem?_getD]
  rw [e]
theorem cC_old {g o : List (Int × Int)} {f : Nat} {j : Int} (j1 : 0 ≤ j) (j2 : j < (o.length : Int)) : cC (g ++ o) f j = cC o f j := by
  unfold cC
  have e : (g ++ o).getD ((g ++ o).length - 1 - j.toNat) (0, 0) = o.getD (o.length - 1 - j.toNat) (0, 0) := by
    rw [List.length_append, List.getD_eq_getElem?_getD, List.getElem?_append_right (by omega), ← List.getD_eq_getElem?_getD, show g.length + o.length - 1 - j.toNat - g.length = o.length - 1 - j.toNat by omega]
  rw [e]
theorem cC_vd {g o : List (Int × Int)} : vd (cC (g ++ o)) g.length (o.length : Int) 0 = dp g := vd_dp g (fun j hj => by rw [cC_new hj, if_pos rfl])
end
