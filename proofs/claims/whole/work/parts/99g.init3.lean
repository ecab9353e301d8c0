/-! THE CONSTRUCTORS, 3: the first state -/
theorem getD_out {α : Type} {l : List α} {n : Nat} {d : α} (h : l.length ≤ n) : l.getD n d = d := by
  rw [List.getD_eq_getElem?_getD, List.getElem?_eq_none h]; rfl
/-- no number written at the cell -/
def lNI : List Opn → Nat → Int → Bool
  | [], _, _ => true
  | o :: L, r, i => if o.1 = 1 ∧ o.2.1 = r ∧ o.2.2.1 = i then false else lNI L r i
theorem lNI_I {r : Nat} {i k : Int} : ∀ {L : List Opn}, lNI L r i = true → lI L r i k = 0
  | [], _ => rfl
  | o :: L, e => by
    unfold lNI at e
    unfold lI
    split at e
    · cases e
    · rename_i z
      rw [if_neg (fun y => z ⟨y.1, y.2.1, y.2.2.1⟩)]; exact lNI_I e
def fsX : Ch := okX zC
noncomputable def fsC (h : Hp) : Ch := mkC D0 (fun x => gI h 55 0 (192 + x)) (fun _ => 0)
noncomputable def fsS (C : Ch) : Sg := (C, fun _ => bgV C, fsX)
theorem far_w {st : Int → Int → Int} {w1 w2 : Int → Prop} {a x v : Int} (e : ∀ x, w1 x ↔ w2 x) (f : farV st w1 a x v) : farV st w2 a x v := by
  have : w1 = w2 := funext (fun x => propext (e x))
  rw [← this]; exact f
theorem lbit_z : ∀ x : Int, cellP 4 4 x → ¬ lbit 0 x := fun x z => lbit_0 z.1 (by have := z.2; omega)
theorem fs_CW {h : Hp} (f : FaC h 0) : CW (fsC h) := by
  refine mk_CW DW_0 (fun x x1 x2 => ?_) (fun i x i1 i2 _ _ => ?_)
  · have t := f x x1 x2
    exact far_w (fun y => ⟨fun z => ⟨z.1, rfl⟩, fun z => ⟨z.1, lbit_z y z.1⟩⟩) t
  · have i3 : i < 0 := i2
    omega
/-- a chart as it is at first -/
def fsP0 (h : Hp) : Prop := gI h 9 0 0 = 4 ∧ gI h 9 0 1 = 4 ∧ gI h 9 0 2 = 0 ∧ gI h 9 0 4 = 0 ∧ gI h 9 0 5 = 0 ∧ gI h 9 0 6 = 0 ∧ gI h 0 0 6 = 0 ∧ gI h 0 0 10 = 0 ∧ gI h 0 0 11 = 0 ∧ gI h 0 0 12 = 1 ∧ gI h 0 0 13 = 100 ∧ gI h 0 0 14 = 0 ∧ gI h 0 0 3 = 0 ∧ gI h 0 0 4 = 0 ∧ gI h 1 0 2 = 0
theorem fs_isC {h : Hp} (q : fsP0 h) : isC h 0 (fsC h) := by
  obtain ⟨a0, a1, a2, a3, a4, a5, a6, a7, a8, a9, a10, a11, a12, a13, a14⟩ := q
  refine ⟨a0, a1, fun x x1 x2 => ?_, a3, a4, a5, fun i i1 i2 => ?_, a6, fun i i1 i2 => ?_, a7, fun i i1 i2 => ?_, a8, a9, a10, a11, a12, a13, fun i i1 i2 => ?_, a14, fun i i1 i2 => ?_, fun x _ _ => rfl, fun i x i1 _ i2 _ _ => ?_⟩
  · rw [a2]
    exact ⟨fun z => absurd z (lbit_0 x1 x2), fun z => by have z2 : (0 : Int) = 1 := z; omega⟩
  · have i3 : i < 0 := i2
    omega
  · have i3 : i < 0 := i2
    omega
  · have i3 : i < 0 := i2
    omega
  · have i3 : i < 0 + 0 := i2
    omega
  · have i3 : i < 0 := i2
    omega
  · have i3 : i < 0 := i2
    omega
/-- the class's other numbers -/
def fsN (h : Hp) : Prop := gI h 2 0 1 = -1 ∧ gI h 2 0 10 = -1 ∧ gI h 11 0 10 = 0 ∧ gI h 11 0 13 = 0 ∧ gI h 5 0 4 = 0 ∧ gI h 5 0 5 = -1 ∧ gI h 11 0 1 = 0 ∧ gI h 7 0 3 = 0 ∧ gI h 7 0 4 = -1 ∧ gI h 11 0 16 = -1 ∧ gR h 11 0 2 = some (0, 0) ∧ gR h 11 0 3 = some (0, 1) ∧ gR h 2 0 0 = some (0, 0) ∧ kR h
theorem fs_IC {h : Hp} {C : Ch} (n : fsN h) (ic : isC h 0 C) (w : CW C) (v : isVF C h 0 (bgV C)) : IC h 0 (fsS C) := by
  obtain ⟨a1, a2, a3, a4, a5, a6, a7, a8, a9, a10, r1, r2, r3, kr⟩ := n
  refine ⟨⟨r1, r2, Or.inl rfl, r3, ic, w⟩, kr, v, ⟨a1, a2⟩, fun t t1 t2 => ?_, ⟨a3, fun k k1 => ?_⟩, ⟨a4, fun z => ?_⟩, ⟨a5, a6, fun k k1 k2 => ?_⟩, ⟨a7, fun k k1 k2 => ?_⟩, ⟨a8, a9⟩, Or.inl a10⟩
  · have t3 : t < 0 := t2
    omega
  · have k3 : (k : Int) < 0 := k1
    omega
  · have z2 : (0 : Int) = 1 := z
    omega
  · have k3 : k < 0 := k2
    omega
  · have k3 : k < 0 := k2
    omega
theorem fs_SW {C : Ch} (w : CW C) : SW (fsS C) := by
  refine ⟨w, bgV_w w, ⟨?_, ?_, ?_⟩, fun k k1 => ?_, Or.inl rfl, fun z => ?_, ⟨⟨?_, ?_⟩, ⟨?_, ?_⟩, fun k k1 k2 => ?_⟩, ⟨?_, ?_⟩, fun k k1 k2 => ?_⟩
  · show (0 : Int) ≤ 0; decide
  · show (0 : Int) ≤ 20; decide
  · show (0 : Int) ≤ 0; decide
  · have k3 : (k : Int) < 0 := k1
    omega
  · have z2 : (0 : Int) = 1 := z
    omega
  · show (0 : Int) ≤ 0; decide
  · show (0 : Int) ≤ 32; decide
  · show (-1 : Int) ≤ -1; decide
  · show (-1 : Int) ≤ 0; decide
  · have k3 : k < 0 := k2
    omega
  · show (0 : Int) ≤ 0; decide
  · show (0 : Int) ≤ 800; decide
  · have k3 : k < 0 := k2
    omega
/-- what never changes of the references stands, of these regions -/
def LayZ (Z : Nat → Bool) (h : Hp) : Prop := ∀ (r k : Nat) (i : Int) (a : Nat) (t : Nat × Int × Bool), Z r = true → h.2.2 r i = some a → xtg r k = some t → h.2.1 r i k = some (t.1, if t.2.2 then i else t.2.1)
def layB (L : List Opn) : List Opn → Bool
  | [] => true
  | o :: A => (decide (o.1 = 0 → ∀ k : Nat, k < 80 → ∀ t ∈ xtg o.2.1 k, lR L o.2.1 o.2.2.1 k = some (t.1, if t.2.2 then o.2.2.1 else t.2.1))) && layB L A
theorem xtg_80 : ∀ {r k : Nat} {t : Nat × Int × Bool}, xtg r k = some t → k < 80 := by
  intro r k t e
  by_cases y : k < 80
  · exact y
  · exfalso
    have l : (xtl.getD r []).length ≤ 80 := by
      by_cases z : r < 13
      · exact (show ∀ r : Nat, r < 13 → (xtl.getD r []).length ≤ 80 by decide +kernel) r z
      · rw [getD_out (show xtl.length ≤ r from Nat.le_of_not_lt z)]; exact Nat.zero_le _
    unfold xtg at e
    rw [getD_out (show (xtl.getD r []).length ≤ k by omega)] at e
    cases e
theorem lay_B {L : List Opn} {r k : Nat} {i : Int} {t : Nat × Int × Bool} (x : xtg r k = some t) : ∀ {A : List Opn}, layB L A = true → lA A r i = true → lR L r i k = some (t.1, if t.2.2 then i else t.2.1)
  | [], _, e => by cases e
  | o :: A, b, e => by
    unfold layB at b
    rw [Bool.and_eq_true] at b
    unfold lA at e
    split at e
    · rename_i z
      have q := of_decide_eq_true b.1 z.1 k (xtg_80 x)
      rw [z.2.1, z.2.2] at q
      exact q t x
    · exact lay_B x b.2 e
theorem lay_Z {Z : Nat → Bool} {L : List Opn} {H : List (Nat × Int)} {m g h : Hp} (d : Ds Z L H m g h) (b : layB L L = true) : LayZ Z h := by
  intro r k i a t z ha x
  have q := ds_A (i := i) d z
  rw [ha] at q
  exact (ds_R (i := i) (k := k) d z).trans (lay_B x b q.symm)
section
variable {m g h : Hp} {Q : Int → Hp → Prop}
theorem end_lay : layB lEnd lEnd = true := by decide +kernel
theorem end_key : ∀ k : Nat, k < 27 → lI lEnd 47 0 (k : Int) = keyV k := by decide +kernel
theorem end_59 : ∀ k : Nat, k < 20 → lR lEnd 59 0 (k : Int) = some (10, 1 + (k : Int)) := by decide +kernel
theorem end_43 : ∀ k : Nat, k < 4 → lR lEnd 43 0 (k : Int) = some (10, 23 + (k : Int)) := by decide +kernel
theorem end_20 : ∀ c : Nat, c < 2 → ∀ k : Nat, k < 9 → lR lEnd 20 (c : Int) (k : Int) = some (4, 9 * (c : Int) + (k : Int)) := by decide +kernel
theorem in_nat {k : Int} (k1 : 0 ≤ k) : ((k.toNat : Nat) : Int) = k := Int.toNat_of_nonneg k1
theorem end_kR (d : Ds ZC lEnd hEnd m g h) : kR h := by
  refine ⟨fun k k1 k2 => ?_, fun k k1 k2 => ?_, fun c y => ⟨fun k => k, fun k k1 k2 => ⟨?_, k1, k2⟩, fun j k _ _ _ _ e => e⟩⟩
  · have t := end_59 k.toNat (by omega)
    rw [in_nat k1] at t
    exact ds_w 59 0 k d rfl t
  · have t := end_43 k.toNat (by omega)
    rw [in_nat k1] at t
    exact ds_w 43 0 k d rfl t
  · have t := end_20 c.toNat (by omega) k.toNat (by omega)
    rw [in_nat k1, in_nat (show 0 ≤ c by omega)] at t
    exact ds_w 20 c k d rfl t
theorem end_Q (d : Ds ZC lEnd hEnd m g h) : fsP0 h := ⟨ds_v 9 0 0 d rfl (by decide +kernel) (by decide +kernel), ds_v 9 0 1 d rfl (by decide +kernel) (by decide +kernel), ds_v 9 0 2 d rfl (by decide +kernel) (by decide +kernel), ds_v 9 0 4 d rfl (by decide +kernel) (by decide +kernel), ds_v 9 0 5 d rfl (by decide +kernel) (by decide +kernel), ds_v 9 0 6 d rfl (by decide +kernel) (by decide +kernel), ds_v 0 0 6 d rfl (by decide +kernel) (by decide +kernel), ds_v 0 0 10 d rfl (by decide +kernel) (by decide +kernel), ds_v 0 0 11 d rfl (by decide +kernel) (by decide +kernel), ds_v 0 0 12 d rfl (by decide +kernel) (by decide +kernel), ds_v 0 0 13 d rfl (by decide +kernel) (by decide +kernel), ds_v 0 0 14 d rfl (by decide +kernel) (by decide +kernel), ds_v 0 0 3 d rfl (by decide +kernel) (by decide +kernel), ds_v 0 0 4 d rfl (by decide +kernel) (by decide +kernel), ds_v 1 0 2 d rfl (by decide +kernel) (by decide +kernel)⟩
theorem end_Q2 (d : Ds ZC lEnd ((10, 0) :: (57, 0) :: hEnd) m g h) : fsP0 h := ⟨ds_v 9 0 0 d rfl (by decide +kernel) (by decide +kernel), ds_v 9 0 1 d rfl (by decide +kernel) (by decide +kernel), ds_v 9 0 2 d rfl (by decide +kernel) (by decide +kernel), ds_v 9 0 4 d rfl (by decide +kernel) (by decide +kernel), ds_v 9 0 5 d rfl (by decide +kernel) (by decide +kernel), ds_v 9 0 6 d rfl (by decide +kernel) (by decide +kernel), ds_v 0 0 6 d rfl (by decide +kernel) (by decide +kernel), ds_v 0 0 10 d rfl (by decide +kernel) (by decide +kernel), ds_v 0 0 11 d rfl (by decide +kernel) (by decide +kernel), ds_v 0 0 12 d rfl (by decide +kernel) (by decide +kernel), ds_v 0 0 13 d rfl (by decide +kernel) (by decide +kernel), ds_v 0 0 14 d rfl (by decide +kernel) (by decide +kernel), ds_v 0 0 3 d rfl (by decide +kernel) (by decide +kernel), ds_v 0 0 4 d rfl (by decide +kernel) (by decide +kernel), ds_v 1 0 2 d rfl (by decide +kernel) (by decide +kernel)⟩
theorem end_N (d : Ds ZC lEnd hEnd m g h) : fsN h := ⟨ds_v 2 0 1 d rfl (by decide +kernel) (by decide +kernel), ds_v 2 0 10 d rfl (by decide +kernel) (by decide +kernel), ds_v 11 0 10 d rfl (by decide +kernel) (by decide +kernel), ds_v 11 0 13 d rfl (by decide +kernel) (by decide +kernel), ds_v 5 0 4 d rfl (by decide +kernel) (by decide +kernel), ds_v 5 0 5 d rfl (by decide +kernel) (by decide +kernel), ds_v 11 0 1 d rfl (by decide +kernel) (by decide +kernel), ds_v 7 0 3 d rfl (by decide +kernel) (by decide +kernel), ds_v 7 0 4 d rfl (by decide +kernel) (by decide +kernel), ds_v 11 0 16 d rfl (by decide +kernel) (by decide +kernel), ds_w 11 0 2 d rfl (by decide +kernel), ds_w 11 0 3 d rfl (by decide +kernel), ds_w 2 0 0 d rfl (by decide +kernel), end_kR d⟩
/-- the class at first -/
def fsA (h : Hp) : Prop := fsN h ∧ fsP0 h ∧ FaC h 0 ∧ isVF (fsC h) h 0 (bgV (fsC h)) ∧ ∀ k : Nat, k < 27 → gI h 47 0 (k : Int) = keyV k
theorem fsC_e {h2 : Hp} (e : ∀ k, gI h2 55 0 k = gI h 55 0 k) : fsC h2 = fsC h := by
  unfold fsC
  rw [show (fun x => gI h2 55 0 (192 + x)) = fun x => gI h 55 0 (192 + x) from funext (fun x => e _)]
theorem fsP0_e {h2 : Hp} (e : ∀ (r : Nat) (k : Int), ZC r = true → gI h2 r 0 k = gI h r 0 k) (q : fsP0 h) : fsP0 h2 := by
  unfold fsP0 at q ⊢
  rw [e 9 0 rfl, e 9 1 rfl, e 9 2 rfl, e 9 4 rfl, e 9 5 rfl, e 9 6 rfl, e 0 6 rfl, e 0 10 rfl, e 0 11 rfl, e 0 12 rfl, e 0 13 rfl, e 0 14 rfl, e 0 3 rfl, e 0 4 rfl, e 1 2 rfl]
  exact q
theorem fsA_sm {h2 : Hp} (e : ∀ (r : Nat) (i : Int), ZC r = true → smC h h2 r i) (q : fsA h) : fsA h2 := by
  obtain ⟨⟨a1, a2, a3, a4, a5, a6, a7, a8, a9, a10, r1, r2, r3, kr⟩, p, f, v, ky⟩ := q
  have x : ∀ (r : Nat) (k : Int), ZC r = true → gI h2 r 0 k = gI h r 0 k := fun r k z => (e r 0 z).1 k
  have y : ∀ (r : Nat) (i k : Int), ZC r = true → gR h2 r i k = gR h r i k := fun r i k z => (e r i z).2.1 k
  refine ⟨⟨(x 2 1 rfl).trans a1, (x 2 10 rfl).trans a2, (x 11 10 rfl).trans a3, (x 11 13 rfl).trans a4, (x 5 4 rfl).trans a5, (x 5 5 rfl).trans a6, (x 11 1 rfl).trans a7, (x 7 3 rfl).trans a8, (x 7 4 rfl).trans a9, (x 11 16 rfl).trans a10, (y 11 0 2 rfl).trans r1, (y 11 0 3 rfl).trans r2, (y 2 0 0 rfl).trans r3, fun k k1 k2 => (y 59 0 k rfl).trans (kr.1 k k1 k2), fun k k1 k2 => (y 43 0 k rfl).trans (kr.2.1 k k1 k2), fun c z => ?_⟩, fsP0_e x p, fun k k1 k2 => ?_, ?_, fun k hk => (x 47 k rfl).trans (ky k hk)⟩
  · obtain ⟨π, b1, b2⟩ := kr.2.2 c z
    exact ⟨π, fun k k1 k2 => ⟨(y 20 c k rfl).trans (b1 k k1 k2).1, (b1 k k1 k2).2⟩, b2⟩
  · rw [x 55 _ rfl]; exact f k k1 k2
  · rw [fsC_e (fun k => x 55 k rfl)]
    exact isVF_eq (fun k => x 10 k rfl) (fun k => x 57 k rfl) v
theorem fsA_IC (q : fsA h) : CW (fsC h) ∧ IC h 0 (fsS (fsC h)) := ⟨fs_CW q.2.2.1, fs_IC q.1 (fs_isC q.2.1) (fs_CW q.2.2.1) q.2.2.2.1⟩
/-- a new PlateVote: the first state, its words, its references -/
theorem new_C (d : Ds ZC [(0, 11, 0, 0, 0, none)] [] m g h) (q : ∀ h', fsA h' → LayZ ZC h' → (∀ (r : Nat) (i : Int), ZC r = false → r ≠ 999 → smC g h' r i) → Q 0 h') : ok (f_X11_init_u h) Q := by
  refine zt_X11 d (fun h1 m1 d1 f1 => ?_)
  have f2 : FaC h1 0 := fa_k d1 (by decide +kernel) f1
  have cw := fs_CW f2
  have ic := fs_isC (end_Q d1)
  have nn := end_N d1
  obtain ⟨v, h2, e, F, vf⟩ := p_X10_begin (v := 0) ic cw
  obtain ⟨x, _⟩ := sm_X10_begin (R := h1.2) (ds_w 0 0 0 d1 rfl (by decide +kernel)) (ds_w 10 0 8 d1 rfl (by decide +kernel)) rfl e
  refine ok_bd ⟨v, h2, x, ?_⟩
  have d2 : Ds ZC lEnd ((10, 0) :: (57, 0) :: hEnd) h2 g h2 := by
    refine ds_hv d1 F (fun r i k z => ?_) (fun r i z => ?_)
    · obtain ⟨z1, z2⟩ := z
      subst z1
      rcases z2 with z2 | z2 <;> subst z2
      · exact ⟨rfl, rfl⟩
      · exact ⟨rfl, rfl⟩
    · unfold nH at z
      split at z
      · cases z
      · unfold nH at z
        split at z
        · cases z
        · exact z
  have n2 : fsN h2 := by
    obtain ⟨a1, a2, a3, a4, a5, a6, a7, a8, a9, a10, r1, r2, r3, kr⟩ := nn
    have x : ∀ (r : Nat) (k : Int), r ≠ 10 → r ≠ 57 → gI h2 r 0 k = gI h1 r 0 k := fun r k z1 z2 => F.1 r 0 k (fun y => by have := y.2; omega)
    exact ⟨(x 2 1 (by decide) (by decide)).trans a1, (x 2 10 (by decide) (by decide)).trans a2, (x 11 10 (by decide) (by decide)).trans a3, (x 11 13 (by decide) (by decide)).trans a4, (x 5 4 (by decide) (by decide)).trans a5, (x 5 5 (by decide) (by decide)).trans a6, (x 11 1 (by decide) (by decide)).trans a7, (x 7 3 (by decide) (by decide)).trans a8, (x 7 4 (by decide) (by decide)).trans a9, (x 11 16 (by decide) (by decide)).trans a10, (gR_2 F.2).trans r1, (gR_2 F.2).trans r2, (gR_2 F.2).trans r3, kR_e F.2 kr⟩
  have e55 : fsC h2 = fsC h1 := fsC_e (fun k => F.1 55 0 k (fun y => by have := y.2; omega))
  refine ⟨0, h2, rfl, q h2 ⟨n2, end_Q2 d2, fun x x1 x2 => ?_, ?_, fun k hk => ?_⟩ (lay_Z d2 end_lay) (fun r i z z9 => ds_g d2 z z9)⟩
  · rw [F.1 55 0 (192 + x) (fun y => by have := y.2; omega)]
    exact f2 x x1 x2
  · rw [e55]; exact vf
  · exact ds_v 47 0 k d2 rfl (by decide +kernel) (end_key k hk)
end
theorem s_X12_init_u_0 {n : Nat} {h : Hp} {Q : Int → Hp → Prop} (hn : 0 < n) (k : ok (b_X12_init_u_0 (g_X12_init_u (n - 1))  h) Q) : ok (g_X12_init_u n 0 [] h) Q := by cases n with | zero => cases hn | succ m => exact k
def rEnd : List Opn := (2, 12, 0, 79, 0, some (113, 0)) :: (0, 113, 0, 0, 0, none) :: (2, 12, 0, 78, 0, some (112, 0)) :: (0, 112, 0, 0, 0, none) :: (2, 12, 0, 77, 0, some (111, 0)) :: (0, 111, 0, 0, 0, none) :: (2, 12, 0, 76, 0, some (110, 0)) :: (0, 110, 0, 0, 0, none) :: (1, 12, 0, 75, (-1), none) :: (2, 12, 0, 73, 0, some (109, 0)) :: (0, 109, 0, 0, 0, none) :: (2, 12, 0, 72, 0, some (108, 0)) :: (0, 108, 0, 0, 0, none) :: (2, 12, 0, 71, 0, some (107, 0)) :: (0, 107, 0, 0, 0, none) :: (2, 12, 0, 70, 0, some (106, 0)) :: (0, 106, 0, 0, 0, none) :: (2, 12, 0, 69, 0, some (105, 0)) :: (0, 105, 0, 0, 0, none) :: (2, 12, 0, 66, 0, some (104, 0)) :: (0, 104, 0, 0, 0, none) :: (2, 12, 0, 65, 0, some (103, 0)) :: (0, 103, 0, 0, 0, none) :: (2, 12, 0, 63, 0, some (102, 0)) :: (0, 102, 0, 0, 0, none) :: (2, 12, 0, 62, 0, some (101, 0)) :: (0, 101, 0, 0, 0, none) :: (2, 12, 0, 61, 0, some (100, 0)) :: (0, 100, 0, 0, 0, none) :: (2, 12, 0, 59, 0, some (99, 0)) :: (0, 99, 0, 0, 0, none) :: (2, 12, 0, 58, 0, some (98, 0)) :: (0, 98, 0, 0, 0, none) :: (1, 12, 0, 56, (-1), none) :: (1, 12, 0, 55, (-1), none) :: (2, 12, 0, 52, 0, some (97, 0)) :: (0, 97, 0, 0, 0, none) :: (2, 12, 0, 51, 0, some (96, 0)) :: (0, 96, 0, 0, 0, none) :: (2, 12, 0, 50, 0, some (95, 0)) :: (0, 95, 0, 0, 0, none) :: (2, 12, 0, 49, 0, some (94, 0)) :: (0, 94, 0, 0, 0, none) :: (2, 12, 0, 48, 0, some (93, 0)) :: (0, 93, 0, 0, 0, none) :: (2, 12, 0, 47, 0, some (92, 0)) :: (0, 92, 0, 0, 0, none) :: (2, 12, 0, 46, 0, some (91, 0)) :: (0, 91, 0, 0, 0, none) :: (2, 12, 0, 45, 0, some (90, 0)) :: (0, 90, 0, 0, 0, none) :: (2, 12, 0, 44, 0, some (89, 0)) :: (0, 89, 0, 0, 0, none) :: (2, 12, 0, 43, 0, some (88, 0)) :: (0, 88, 0, 0, 0, none) :: (2, 12, 0, 42, 0, some (87, 0)) :: (0, 87, 0, 0, 0, none) :: (2, 12, 0, 41, 0, some (86, 0)) :: (0, 86, 0, 0, 0, none) :: (2, 12, 0, 40, 0, some (85, 0)) :: (0, 85, 0, 0, 0, none) :: (2, 12, 0, 39, 0, some (84, 0)) :: (0, 84, 0, 0, 0, none) :: (2, 12, 0, 38, 0, some (83, 0)) :: (0, 83, 0, 0, 0, none) :: (1, 12, 0, 35, (-1), none) :: (2, 12, 0, 24, 0, some (82, 0)) :: (0, 82, 0, 0, 0, none) :: (2, 12, 0, 23, 0, some (81, 0)) :: (0, 81, 0, 0, 0, none) :: (2, 12, 0, 22, 0, some (80, 0)) :: (0, 80, 0, 0, 0, none) :: (2, 12, 0, 21, 0, some (79, 0)) :: (0, 79, 0, 0, 0, none) :: (2, 12, 0, 20, 0, some (78, 0)) :: (0, 78, 0, 0, 0, none) :: (2, 12, 0, 19, 0, some (77, 0)) :: (0, 77, 0, 0, 0, none) :: (2, 12, 0, 18, 0, some (76, 0)) :: (0, 76, 0, 0, 0, none) :: (2, 12, 0, 17, 0, some (75, 0)) :: (0, 75, 0, 0, 0, none) :: (2, 12, 0, 16, 0, some (74, 0)) :: (0, 74, 0, 0, 0, none) :: (2, 12, 0, 15, 0, some (73, 0)) :: (0, 73, 0, 0, 0, none) :: (2, 12, 0, 14, 0, some (72, 0)) :: (0, 72, 0, 0, 0, none) :: (2, 12, 0, 13, 0, some (71, 0)) :: (0, 71, 0, 0, 0, none) :: (2, 12, 0, 12, 0, some (70, 0)) :: (0, 70, 0, 0, 0, none) :: (2, 12, 0, 11, 0, some (69, 0)) :: (0, 69, 0, 0, 0, none) :: (2, 12, 0, 10, 0, some (68, 0)) :: (0, 68, 0, 0, 0, none) :: (2, 12, 0, 9, 0, some (67, 0)) :: (0, 67, 0, 0, 0, none) :: (2, 12, 0, 8, 0, some (66, 0)) :: (0, 66, 0, 0, 0, none) :: (2, 12, 0, 7, 0, some (65, 0)) :: (0, 65, 0, 0, 0, none) :: (2, 12, 0, 6, 0, some (64, 0)) :: (0, 64, 0, 0, 0, none) :: (2, 12, 0, 5, 0, some (63, 0)) :: (0, 63, 0, 0, 0, none) :: (2, 12, 0, 4, 0, some (62, 0)) :: (0, 62, 0, 0, 0, none) :: (2, 12, 0, 3, 0, some (61, 0)) :: (1, 61, 0, 29, 0, none) :: (1, 61, 0, 28, 0, none) :: (1, 61, 0, 27, 0, none) :: (1, 61, 0, 26, 0, none) :: (1, 61, 0, 25, 100, none) :: (1, 61, 0, 24, 1, none) :: (1, 61, 0, 23, 0, none) :: (1, 61, 0, 22, 0, none) :: (1, 61, 0, 21, 0, none) :: (1, 61, 0, 20, 0, none) :: (1, 61, 0, 19, 0, none) :: (1, 61, 0, 18, 0, none) :: (1, 61, 0, 17, 0, none) :: (1, 61, 0, 16, 4, none) :: (1, 61, 0, 15, 4, none) :: (1, 61, 0, 14, 0, none) :: (1, 61, 0, 13, 0, none) :: (1, 61, 0, 12, 0, none) :: (1, 61, 0, 11, 0, none) :: (1, 61, 0, 10, 100, none) :: (1, 61, 0, 9, 1, none) :: (1, 61, 0, 8, 0, none) :: (1, 61, 0, 7, 0, none) :: (1, 61, 0, 6, 0, none) :: (1, 61, 0, 5, 0, none) :: (1, 61, 0, 4, 0, none) :: (1, 61, 0, 3, 0, none) :: (1, 61, 0, 2, 0, none) :: (1, 61, 0, 1, 4, none) :: (1, 61, 0, 0, 4, none) :: (0, 61, 0, 0, 0, none) :: (2, 12, 0, 1, 0, some (60, 0)) :: (0, 60, 0, 0, 0, none) :: [(0, 12, 0, 0, 0, none)]
set_option maxHeartbeats 8000000 in
theorem zt_X12 {m g h : Hp} {Q : Int → Hp → Prop} (d : Ds ZR [(0, 12, 0, 0, 0, none)] [] m g h) (q : ∀ h', Ds ZR rEnd [] m g h' → ok (bd (f_X12_layFar_u h') fun _ h1 => bd (f_X12_begins_u 0 h1) fun _ h2 => some (0, h2)) Q) : ok (f_X12_init_u h) Q := by
  refine fuv_X12_init_u (fun n hn => ?_)
  refine s_X12_init_u_0 (by omega) ?_
  unfold b_X12_init_u_0
  refine zo_al d (by rfl) (by rfl) (by decide +kernel) (by decide +kernel) (fun h d => ?_)
  refine zo_sR d (by rfl) (fun h d => ?_)
  refine zo_al d (by rfl) (by rfl) (by decide +kernel) (by decide +kernel) (fun h d => ?_)
  refine ok_ck (by decide) ?_
  refine zo_sI d (by rfl) (by decide +kernel) (fun h d => ?_)
  refine ok_ck (by decide) ?_
  refine zo_sI d (by rfl) (by decide +kernel) (fun h d => ?_)
  refine ok_ck (by decide) ?_
  refine zo_sI d (by rfl) (by decide +kernel) (fun h d => ?_)
  refine ok_ck (by decide) ?_
  refine zo_sI d (by rfl) (by decide +kernel) (fun h d => ?_)
  refine ok_ck (by decide) ?_
  refine zo_sI d (by rfl) (by decide +kernel) (fun h d => ?_)
  refine ok_ck (by decide) ?_
  refine zo_sI d (by rfl) (by decide +kernel) (fun h d => ?_)
  refine ok_ck (by decide) ?_
  refine zo_sI d (by rfl) (by decide +kernel) (fun h d => ?_)
  refine ok_ck (by decide) ?_
  refine zo_sI d (by rfl) (by decide +kernel) (fun h d => ?_)
  refine ok_ck (by decide) ?_
  refine zo_sI d (by rfl) (by decide +kernel) (fun h d => ?_)
  refine ok_ck (by decide) ?_
  refine zo_sI d (by rfl) (by decide +kernel) (fun h d => ?_)
  refine ok_ck (by decide) ?_
  refine zo_sI d (by rfl) (by decide +kernel) (fun h d => ?_)
  refine ok_ck (by decide) ?_
  refine zo_sI d (by rfl) (by decide +kernel) (fun h d => ?_)
  refine ok_ck (by decide) ?_
  refine zo_sI d (by rfl) (by decide +kernel) (fun h d => ?_)
  refine ok_ck (by decide) ?_
  refine zo_sI d (by rfl) (by decide +kernel) (fun h d => ?_)
  refine ok_ck (by decide) ?_
  refine zo_sI d (by rfl) (by decide +kernel) (fun h d => ?_)
  refine ok_ck (by decide) ?_
  refine zo_sI d (by rfl) (by decide +kernel) (fun h d => ?_)
  refine ok_ck (by decide) ?_
  refine zo_sI d (by rfl) (by decide +kernel) (fun h d => ?_)
  refine ok_ck (by decide) ?_
  refine zo_sI d (by rfl) (by decide +kernel) (fun h d => ?_)
  refine ok_ck (by decide) ?_
  refine zo_sI d (by rfl) (by decide +kernel) (fun h d => ?_)
  refine ok_ck (by decide) ?_
  refine zo_sI d (by rfl) (by decide +kernel) (fun h d => ?_)
  refine ok_ck (by decide) ?_
  refine zo_sI d (by rfl) (by decide +kernel) (fun h d => ?_)
  refine ok_ck (by decide) ?_
  refine zo_sI d (by rfl) (by decide +kernel) (fun h d => ?_)
  refine ok_ck (by decide) ?_
  refine zo_sI d (by rfl) (by decide +kernel) (fun h d => ?_)
  refine ok_ck (by decide) ?_
  refine zo_sI d (by rfl) (by decide +kernel) (fun h d => ?_)
  refine ok_ck (by decide) ?_
  refine zo_sI d (by rfl) (by decide +kernel) (fun h d => ?_)
  refine ok_ck (by decide) ?_
  refine zo_sI d (by rfl) (by decide +kernel) (fun h d => ?_)
  refine ok_ck (by decide) ?_
  refine zo_sI d (by rfl) (by decide +kernel) (fun h d => ?_)
  refine ok_ck (by decide) ?_
  refine zo_sI d (by rfl) (by decide +kernel) (fun h d => ?_)
  refine ok_ck (by decide) ?_
  refine zo_sI d (by rfl) (by decide +kernel) (fun h d => ?_)
  refine ok_ck (by decide) ?_
  refine zo_sI d (by rfl) (by decide +kernel) (fun h d => ?_)
  refine zo_sR d (by rfl) (fun h d => ?_)
  refine zo_al d (by rfl) (by rfl) (by decide +kernel) (by decide +kernel) (fun h d => ?_)
  refine zo_sR d (by rfl) (fun h d => ?_)
  refine zo_al d (by rfl) (by rfl) (by decide +kernel) (by decide +kernel) (fun h d => ?_)
  refine zo_sR d (by rfl) (fun h d => ?_)
  refine zo_al d (by rfl) (by rfl) (by decide +kernel) (by decide +kernel) (fun h d => ?_)
  refine zo_sR d (by rfl) (fun h d => ?_)
  refine zo_al d (by rfl) (by rfl) (by decide +kernel) (by decide +kernel) (fun h d => ?_)
  refine zo_sR d (by rfl) (fun h d => ?_)
  refine zo_al d (by rfl) (by rfl) (by decide +kernel) (by decide +kernel) (fun h d => ?_)
  refine zo_sR d (by rfl) (fun h d => ?_)
  refine zo_al d (by rfl) (by rfl) (by decide +kernel) (by decide +kernel) (fun h d => ?_)
  refine zo_sR d (by rfl) (fun h d => ?_)
  refine zo_al d (by rfl) (by rfl) (by decide +kernel) (by decide +kernel) (fun h d => ?_)
  refine zo_sR d (by rfl) (fun h d => ?_)
  refine zo_al d (by rfl) (by rfl) (by decide +kernel) (by decide +kernel) (fun h d => ?_)
  refine zo_sR d (by rfl) (fun h d => ?_)
  refine zo_al d (by rfl) (by rfl) (by decide +kernel) (by decide +kernel) (fun h d => ?_)
  refine zo_sR d (by rfl) (fun h d => ?_)
  refine zo_al d (by rfl) (by rfl) (by decide +kernel) (by decide +kernel) (fun h d => ?_)
  refine zo_sR d (by rfl) (fun h d => ?_)
  refine zo_al d (by rfl) (by rfl) (by decide +kernel) (by decide +kernel) (fun h d => ?_)
  refine zo_sR d (by rfl) (fun h d => ?_)
  refine zo_al d (by rfl) (by rfl) (by decide +kernel) (by decide +kernel) (fun h d => ?_)
  refine zo_sR d (by rfl) (fun h d => ?_)
  refine zo_al d (by rfl) (by rfl) (by decide +kernel) (by decide +kernel) (fun h d => ?_)
  refine zo_sR d (by rfl) (fun h d => ?_)
  refine zo_al d (by rfl) (by rfl) (by decide +kernel) (by decide +kernel) (fun h d => ?_)
  refine zo_sR d (by rfl) (fun h d => ?_)
  refine zo_al d (by rfl) (by rfl) (by decide +kernel) (by decide +kernel) (fun h d => ?_)
  refine zo_sR d (by rfl) (fun h d => ?_)
  refine zo_al d (by rfl) (by rfl) (by decide +kernel) (by decide +kernel) (fun h d => ?_)
  refine zo_sR d (by rfl) (fun h d => ?_)
  refine zo_al d (by rfl) (by rfl) (by decide +kernel) (by decide +kernel) (fun h d => ?_)
  refine zo_sR d (by rfl) (fun h d => ?_)
  refine zo_al d (by rfl) (by rfl) (by decide +kernel) (by decide +kernel) (fun h d => ?_)
  refine zo_sR d (by rfl) (fun h d => ?_)
  refine zo_al d (by rfl) (by rfl) (by decide +kernel) (by decide +kernel) (fun h d => ?_)
  refine zo_sR d (by rfl) (fun h d => ?_)
  refine zo_al d (by rfl) (by rfl) (by decide +kernel) (by decide +kernel) (fun h d => ?_)
  refine zo_sR d (by rfl) (fun h d => ?_)
  refine zo_al d (by rfl) (by rfl) (by decide +kernel) (by decide +kernel) (fun h d => ?_)
  refine zo_sR d (by rfl) (fun h d => ?_)
  refine zo_sI d (by rfl) (by decide +kernel) (fun h d => ?_)
  refine zo_al d (by rfl) (by rfl) (by decide +kernel) (by decide +kernel) (fun h d => ?_)
  refine zo_sR d (by rfl) (fun h d => ?_)
  refine zo_al d (by rfl) (by rfl) (by decide +kernel) (by decide +kernel) (fun h d => ?_)
  refine zo_sR d (by rfl) (fun h d => ?_)
  refine zo_al d (by rfl) (by rfl) (by decide +kernel) (by decide +kernel) (fun h d => ?_)
  refine zo_sR d (by rfl) (fun h d => ?_)
  refine zo_al d (by rfl) (by rfl) (by decide +kernel) (by decide +kernel) (fun h d => ?_)
  refine zo_sR d (by rfl) (fun h d => ?_)
  refine zo_al d (by rfl) (by rfl) (by decide +kernel) (by decide +kernel) (fun h d => ?_)
  refine zo_sR d (by rfl) (fun h d => ?_)
  refine zo_al d (by rfl) (by rfl) (by decide +kernel) (by decide +kernel) (fun h d => ?_)
  refine zo_sR d (by rfl) (fun h d => ?_)
  refine zo_al d (by rfl) (by rfl) (by decide +kernel) (by decide +kernel) (fun h d => ?_)
  refine zo_sR d (by rfl) (fun h d => ?_)
  refine zo_al d (by rfl) (by rfl) (by decide +kernel) (by decide +kernel) (fun h d => ?_)
  refine zo_sR d (by rfl) (fun h d => ?_)
  refine zo_al d (by rfl) (by rfl) (by decide +kernel) (by decide +kernel) (fun h d => ?_)
  refine zo_sR d (by rfl) (fun h d => ?_)
  refine zo_al d (by rfl) (by rfl) (by decide +kernel) (by decide +kernel) (fun h d => ?_)
  refine zo_sR d (by rfl) (fun h d => ?_)
  refine zo_al d (by rfl) (by rfl) (by decide +kernel) (by decide +kernel) (fun h d => ?_)
  refine zo_sR d (by rfl) (fun h d => ?_)
  refine zo_al d (by rfl) (by rfl) (by decide +kernel) (by decide +kernel) (fun h d => ?_)
  refine zo_sR d (by rfl) (fun h d => ?_)
  refine zo_al d (by rfl) (by rfl) (by decide +kernel) (by decide +kernel) (fun h d => ?_)
  refine zo_sR d (by rfl) (fun h d => ?_)
  refine zo_al d (by rfl) (by rfl) (by decide +kernel) (by decide +kernel) (fun h d => ?_)
  refine zo_sR d (by rfl) (fun h d => ?_)
  refine zo_al d (by rfl) (by rfl) (by decide +kernel) (by decide +kernel) (fun h d => ?_)
  refine zo_sR d (by rfl) (fun h d => ?_)
  refine zo_sI d (by rfl) (by decide +kernel) (fun h d => ?_)
  refine zo_sI d (by rfl) (by decide +kernel) (fun h d => ?_)
  refine zo_al d (by rfl) (by rfl) (by decide +kernel) (by decide +kernel) (fun h d => ?_)
  refine zo_sR d (by rfl) (fun h d => ?_)
  refine zo_al d (by rfl) (by rfl) (by decide +kernel) (by decide +kernel) (fun h d => ?_)
  refine zo_sR d (by rfl) (fun h d => ?_)
  refine zo_al d (by rfl) (by rfl) (by decide +kernel) (by decide +kernel) (fun h d => ?_)
  refine zo_sR d (by rfl) (fun h d => ?_)
  refine zo_al d (by rfl) (by rfl) (by decide +kernel) (by decide +kernel) (fun h d => ?_)
  refine zo_sR d (by rfl) (fun h d => ?_)
  refine zo_al d (by rfl) (by rfl) (by decide +kernel) (by decide +kernel) (fun h d => ?_)
  refine zo_sR d (by rfl) (fun h d => ?_)
  refine zo_al d (by rfl) (by rfl) (by decide +kernel) (by decide +kernel) (fun h d => ?_)
  refine zo_sR d (by rfl) (fun h d => ?_)
  refine zo_al d (by rfl) (by rfl) (by decide +kernel) (by decide +kernel) (fun h d => ?_)
  refine zo_sR d (by rfl) (fun h d => ?_)
  refine zo_al d (by rfl) (by rfl) (by decide +kernel) (by decide +kernel) (fun h d => ?_)
  refine zo_sR d (by rfl) (fun h d => ?_)
  refine zo_al d (by rfl) (by rfl) (by decide +kernel) (by decide +kernel) (fun h d => ?_)
  refine zo_sR d (by rfl) (fun h d => ?_)
  refine zo_al d (by rfl) (by rfl) (by decide +kernel) (by decide +kernel) (fun h d => ?_)
  refine zo_sR d (by rfl) (fun h d => ?_)
  refine zo_al d (by rfl) (by rfl) (by decide +kernel) (by decide +kernel) (fun h d => ?_)
  refine zo_sR d (by rfl) (fun h d => ?_)
  refine zo_al d (by rfl) (by rfl) (by decide +kernel) (by decide +kernel) (fun h d => ?_)
  refine zo_sR d (by rfl) (fun h d => ?_)
  refine zo_sI d (by rfl) (by decide +kernel) (fun h d => ?_)
  refine zo_al d (by rfl) (by rfl) (by decide +kernel) (by decide +kernel) (fun h d => ?_)
  refine zo_sR d (by rfl) (fun h d => ?_)
  refine zo_al d (by rfl) (by rfl) (by decide +kernel) (by decide +kernel) (fun h d => ?_)
  refine zo_sR d (by rfl) (fun h d => ?_)
  refine zo_al d (by rfl) (by rfl) (by decide +kernel) (by decide +kernel) (fun h d => ?_)
  refine zo_sR d (by rfl) (fun h d => ?_)
  refine zo_al d (by rfl) (by rfl) (by decide +kernel) (by decide +kernel) (fun h d => ?_)
  refine zo_sR d (by rfl) (fun h d => ?_)
  exact q h d
theorem rEnd_lay : layB rEnd rEnd = true := by decide +kernel
section
variable {m g h : Hp} {Q : Int → Hp → Prop}
theorem rn_isR {f g2 : Int → Int} (e : ∀ k, gI h 61 0 k = lI rEnd 61 0 k) (e62 : ∀ x, gI h 62 0 x = 0) (fa : ∀ a x, 0 ≤ a → a < 64 → 0 ≤ x → x < 64 → farV (stepF 4 4) (fun x => cellP 4 4 x ∧ (0 : Int) = 0) a x (gI h 83 0 (64 * a + x))) : isR h (mkC D0 f g2) := by
  have z : ∀ i : Int, i < 0 → 0 ≤ i → False := fun i a b => by omega
  refine ⟨(e 0).trans (show lI rEnd 61 0 0 = (4 : Int) by decide +kernel), (e 1).trans (show lI rEnd 61 0 1 = (4 : Int) by decide +kernel), (e 3).trans (show lI rEnd 61 0 3 = (0 : Int) by decide +kernel), (e 4).trans (show lI rEnd 61 0 4 = (0 : Int) by decide +kernel), (e 5).trans (show lI rEnd 61 0 5 = (0 : Int) by decide +kernel), (e 6).trans (show lI rEnd 61 0 6 = (0 : Int) by decide +kernel), (e 7).trans (show lI rEnd 61 0 7 = (0 : Int) by decide +kernel), (e 8).trans (show lI rEnd 61 0 8 = (0 : Int) by decide +kernel), (e 9).trans (show lI rEnd 61 0 9 = (1 : Int) by decide +kernel), (e 10).trans (show lI rEnd 61 0 10 = (100 : Int) by decide +kernel), (e 11).trans (show lI rEnd 61 0 11 = (0 : Int) by decide +kernel), (e 12).trans (show lI rEnd 61 0 12 = (0 : Int) by decide +kernel), (e 13).trans (show lI rEnd 61 0 13 = (0 : Int) by decide +kernel), (e 14).trans (show lI rEnd 61 0 14 = (0 : Int) by decide +kernel), fun x _ _ => e62 x, fun i i1 i2 => (z i i2 i1).elim, fun i i1 i2 => (z i i2 i1).elim, fun i i1 i2 => (z i i2 i1).elim, fun i i1 i2 => (z i (by have i3 : i < 0 + 0 := i2; omega) i1).elim, fun i i1 i2 => (z i (by have i3 : i < 0 + 0 := i2; omega) (by have i3 : 0 ≤ i := i1; omega)).elim, fun i i1 i2 => (z i i2 i1).elim, fa⟩
theorem layZ_e {Z : Nat → Bool} {h2 : Hp} (e : h2.2 = h.2) (q : LayZ Z h) : LayZ Z h2 := fun r k i a t z ha x => by
  rw [e] at ha ⊢; exact q r k i a t z ha x
theorem smC_fr {W : Nat → Int → Int → Prop} {h2 : Hp} {r : Nat} {i : Int} (F : Fr W h h2) (n : ∀ k, ¬ W r i k) (q : smC g h r i) : smC g h2 r i := ⟨fun k => (F.1 r i k (n k)).trans (q.1 k), fun k => (gR_2 F.2).trans (q.2.1 k), by rw [F.2]; exact q.2.2⟩
theorem fs_IR {C : Ch} (ir : isR h C) (b9 : B92 h) (v : isSF C h 0 (bgV C)) (e : ∀ k, gI h 12 0 k = lI rEnd 12 0 k) : IR h (fsS C) := by
  refine ⟨ir, b9, v, fun t t1 t2 => ?_, ⟨(e 54).trans (show lI rEnd 12 0 54 = (0 : Int) by decide +kernel), fun k k1 => ?_⟩, ⟨(e 53).trans (show lI rEnd 12 0 53 = (0 : Int) by decide +kernel), fun z => ?_⟩, ⟨(e 74).trans (show lI rEnd 12 0 74 = (0 : Int) by decide +kernel), (e 75).trans (show lI rEnd 12 0 75 = (-1 : Int) by decide +kernel), fun k k1 k2 => ?_⟩, ⟨(e 2).trans (show lI rEnd 12 0 2 = (0 : Int) by decide +kernel), fun k k1 k2 => ?_⟩, ⟨(e 34).trans (show lI rEnd 12 0 34 = (0 : Int) by decide +kernel), (e 35).trans (show lI rEnd 12 0 35 = (-1 : Int) by decide +kernel), ?_, ?_⟩⟩
  · have t3 : t < 0 := t2
    omega
  · have k3 : (k : Int) < 0 := k1
    omega
  · have z2 : (0 : Int) = 1 := z
    omega
  · have k3 : k < 0 := k2
    omega
  · have k3 : k < 0 := k2
    omega
  · rw [e]; decide +kernel
  · rw [e]; decide +kernel
theorem new_R {f g2 : Int → Int} (w : CW (mkC D0 f g2)) (d : Ds ZR [(0, 12, 0, 0, 0, none)] [] m g h) (q : ∀ h', IR h' (fsS (mkC D0 f g2)) → LayZ ZR h' → (∀ (r : Nat) (i : Int), ZR r = false → r ≠ 999 → smC g h' r i) → Q 0 h') : ok (f_X12_init_u h) Q := by
  refine zt_X12 d (fun h1 d1 => ?_)
  have e62 : ∀ x, gI h1 62 0 x = 0 := fun x => ds_v 62 0 x d1 rfl rfl (lNI_I (by decide +kernel))
  obtain ⟨v, h2, e, F, fa⟩ := p_X12_layFar (h := h1) (W := 4) (H := 4) (ds_v 61 0 0 d1 rfl rfl (by decide +kernel)) (ds_v 61 0 1 d1 rfl rfl (by decide +kernel)) (by decide) (fun x _ _ => Or.inl (e62 x))
  have rr : ∀ {k : Int} {w : Option (Nat × Int)}, lR rEnd 12 0 k = w → h1.2.1 12 0 k = w := fun {k} {w} z => ds_w 12 0 k d1 rfl z
  obtain ⟨x, _⟩ := sm_X12_layFar (R := h1.2) (rr (by decide +kernel)) (rr (by decide +kernel)) (rr (by decide +kernel)) rfl e
  refine ok_bd ⟨v, h2, x, ?_⟩
  have x2 : ∀ (r : Nat) (i k : Int), r ≠ 83 → gI h2 r i k = gI h1 r i k := fun r i k z => F.1 r i k z
  have fa2 : ∀ a x, 0 ≤ a → a < 64 → 0 ≤ x → x < 64 → farV (stepF 4 4) (fun x => cellP 4 4 x ∧ (0 : Int) = 0) a x (gI h2 83 0 (64 * a + x)) := fun a x a1 a2 x1 x2 => far_w (fun y => by rw [e62]) (fa a x a1 a2 x1 x2)
  have ir : isR h2 (mkC D0 f g2) := rn_isR (fun k => (x2 61 0 k (by decide)).trans (ds_v 61 0 k d1 rfl rfl rfl)) (fun k => (x2 62 0 k (by decide)).trans (e62 k)) fa2
  have b9 : B92 h2 := fun k => by
    rw [x2 92 0 k (by decide), show gI h1 92 0 k = 0 from ds_v 92 0 k d1 rfl rfl (lNI_I (by decide +kernel))]
    decide
  obtain ⟨v3, h3, e3, F3, b93, sf⟩ := p_X12_begins (s := 0) b9 ir w (by decide) (by decide)
  obtain ⟨x3, _⟩ := sm_X12_begins (R := h1.2) (rr (by decide +kernel)) (rr (by decide +kernel)) (rr (by decide +kernel)) (rr (by decide +kernel)) (rr (by decide +kernel)) (rr (by decide +kernel)) (rr (by decide +kernel)) (rr (by decide +kernel)) (rr (by decide +kernel)) (rr (by decide +kernel)) F.2 e3
  refine ok_bd ⟨v3, h3, x3, ?_⟩
  have ee : h3.2 = h1.2 := F3.2.trans F.2
  refine ⟨0, h3, rfl, q h3 (fs_IR (isR_fr F3 (fun r k a b y => by unfold ShW at y; omega) ir) b93 sf (fun k => ?_)) (layZ_e ee (lay_Z d1 rEnd_lay)) (fun r i z z9 => ?_)⟩
  · exact (F3.1 12 0 k (fun y => by unfold ShW at y; omega)).trans ((x2 12 0 k (by decide)).trans (ds_v 12 0 k d1 rfl rfl rfl))
  · have nz : ¬ (60 ≤ r ∧ r ≤ 114) := fun y => by
      unfold ZR at z
      rw [show decide (60 ≤ r ∧ r ≤ 114) = true from decide_eq_true y, Bool.or_true] at z
      cases z
    exact smC_fr F3 (fun k y => by unfold ShW at y; omega) (smC_fr F (fun k y => by have y2 : r = 83 := y; omega) (ds_g d1 z z9))
end
section
variable {h : Hp} {Q : Int → Hp → Prop}
theorem ds_z {Z : Nat → Bool} (b : ∀ (r : Nat) (i : Int), Z r = true → blk h r i) : Ds Z [] [] h h h := by
  refine ⟨fun r i k a _ => (b r i a).2.1 k, fun r i k _ a => (by cases a), fun r i k a => (b r i a).2.2 k, fun r i a => ?_, fun r i _ _ => ⟨fun _ => rfl, fun _ => rfl, rfl⟩⟩
  rw [(b r i a).1]; rfl
theorem ZC_R {r : Nat} (z : ZR r = true) : ZC r = false := by
  unfold ZR at z
  rw [Bool.or_eq_true] at z
  unfold ZC
  rw [Bool.or_eq_false_iff]
  have y : r = 12 ∨ (60 ≤ r ∧ r ≤ 114) := z.elim (fun a => Or.inl (of_decide_eq_true a)) (fun a => Or.inr (of_decide_eq_true a))
  exact ⟨decide_eq_false (by omega), decide_eq_false (by omega)⟩
theorem ZR_C {r : Nat} (z : ZC r = true) : ZR r = false := by
  cases y : ZR r with
  | false => rfl
  | true => rw [ZC_R y] at z; cases z
theorem Z_9 {r : Nat} (z : ZC r = true) : r ≠ 999 := fun y => by subst y; cases z
theorem R_9 {r : Nat} (z : ZR r = true) : r ≠ 999 := fun y => by subst y; cases z
theorem layZ_sm {Z : Nat → Bool} {h2 : Hp} (e : ∀ (r : Nat) (i : Int), Z r = true → smC h h2 r i) (q : LayZ Z h) : LayZ Z h2 := fun r k i a t z ha x => by
  have ee := e r i z
  rw [ee.2.2] at ha
  exact (ee.2.1 (k : Int)).trans (q r k i a t z ha x)
/-- where nothing of the class is: a new PlateVote -/
theorem first_C (b : ∀ (r : Nat) (i : Int), ZC r = true → blk h r i) (q : ∀ h', fsA h' → LayZ ZC h' → (∀ (r : Nat) (i : Int), ZC r = false → r ≠ 999 → smC h h' r i) → Q 0 h') : ok (f_X11_init_u (alA h 11 0)) Q := new_C (ds_al (ds_z b) rfl rfl) q
/-- behind it, where nothing of the reference is: a new PlateVoteModel; then both stand alike -/
theorem first_R (b : ∀ (r : Nat) (i : Int), ZR r = true → blk h r i) (a : fsA h) (l : LayZ ZC h) (q : ∀ h', fsA h' → LayZ ZC h' → IR h' (fsS (fsC h')) → LayZ ZR h' → (∀ (r : Nat) (i : Int), ZC r = false → ZR r = false → r ≠ 999 → smC h h' r i) → Q 0 h') : ok (f_X12_init_u (alA h 12 0)) Q := by
  have cw := (fsA_IC a).1
  refine new_R (f := fun x => gI h 55 0 (192 + x)) (g2 := fun _ => 0) cw (ds_al (ds_z b) rfl rfl) (fun h2 ir lz sm => ?_)
  have e : ∀ (r : Nat) (i : Int), ZC r = true → smC h h2 r i := fun r i z => sm r i (ZR_C z) (Z_9 z)
  have ec : fsC h2 = fsC h := fsC_e (fun k => (e 55 0 rfl).1 k)
  refine q h2 (fsA_sm e a) (layZ_sm e l) ?_ lz (fun r i _ z z9 => sm r i z z9)
  rw [ec]; exact ir
theorem lay_both (a : LayZ ZC h) (b : LayZ ZR h) : Lay h := fun r k i s t ha x => by
  have r13 : r < 13 := by
    by_cases y : r < 13
    · exact y
    · exfalso
      unfold xtg at x
      rw [getD_out (show xtl.length ≤ r from Nat.le_of_not_lt y)] at x
      cases x
  by_cases y : r = 12
  · subst y; exact b 12 k i s t rfl ha x
  · refine a r k i s t ?_ ha x
    unfold ZC
    rw [show decide (r < 12) = true from decide_eq_true (by omega)]; rfl
end
