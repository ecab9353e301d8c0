/-! TEXT, 36: the class's text -/
def erX (X : Ch) (e : Int × Int) : Ch := fun f k => if f = 27 then e.1 else if f = 28 then e.2 else if f = 30 then 0 else X f k
def okX (X : Ch) : Ch := fun f k => if f = 27 then 0 else if f = 28 then -1 else if f = 30 then 0 else if f = 23 then 0 else if f = 24 then -1 else if f = 25 ∨ f = 26 then 0 else X f k
def okS (σ : Sg) (C : Ch) : Sg := (C, fun _ => bgV C, okX (sX σ))
theorem SW_er {σ : Sg} {e : Int × Int} (w : SW σ) : SW (stX σ (erX (sX σ) e)) := by
  obtain ⟨w1, w2, w3, w4, w5, w6, w7, w8, w9⟩ := w
  refine ⟨w1, w2, w3, w4, w5, w6, w7, by show (0 : Int) ≤ 0 ∧ (0 : Int) ≤ 800; decide, fun k k1 k2 => ?_⟩
  have k3 : k < 0 := k2
  omega
theorem SW_ok {σ : Sg} {C : Ch} (w : CW C) : SW (okS σ C) := by
  refine ⟨w, bgV_w w, by show (0 : Int) ≤ 0 ∧ (0 : Int) ≤ 20 ∧ (0 : Int) ≤ 0; decide, fun k k1 => ?_, Or.inl rfl, fun z => ?_, ⟨by show (0 : Int) ≤ 0 ∧ (0 : Int) ≤ 32; decide, by show (-1 : Int) ≤ -1 ∧ (-1 : Int) ≤ 0; decide, fun k k1 k2 => ?_⟩, by show (0 : Int) ≤ 0 ∧ (0 : Int) ≤ 800; decide, fun k k1 k2 => ?_⟩
  · have k3 : (k : Int) < 0 := k1
    omega
  · have z2 : (0 : Int) = 1 := z
    omega
  · have k3 : k < 0 := k2
    omega
  · have k3 : k < 0 := k2
    omega
section
variable {h h2 : Hp} {c : Int} {C : Ch} {π : Int → Int}
/-- one chart's cells alone -/
theorem isC_e2 (w : CW C) (pm : pmC h c π) (e : ∀ (r : Nat) (i k : Int), inC r k → (r ≠ 4 → i = c) → (r = 4 → 9 * c ≤ i ∧ i < 9 * c + 9) → gI h2 r i k = gI h r i k) (er : ∀ k, gR h2 20 c k = gR h 20 c k) (q : isC h c C) : isC h2 c C := by
  have sz := sz_r w
  refine ⟨?_, ?_, ?_, ?_, ?_, ?_, ?_, ?_, ?_, ?_, ?_, ?_, ?_, ?_, ?_, ?_, ?_, ?_, ?_, ?_, ?_, ?_⟩
  · rw [e _ _ _ (by unfold inC; omega) (fun _ => rfl) (fun z => absurd z (by decide))]; exact ic_0 q
  · rw [e _ _ _ (by unfold inC; omega) (fun _ => rfl) (fun z => absurd z (by decide))]; exact ic_1 q
  · intro k k1 k2; rw [e 9 c _ (by unfold inC; omega) (fun _ => rfl) (fun z => absurd z (by decide))]; exact ic_2 q k k1 k2
  · rw [e _ _ _ (by unfold inC; omega) (fun _ => rfl) (fun z => absurd z (by decide))]; exact ic_3 q
  · rw [e _ _ _ (by unfold inC; omega) (fun _ => rfl) (fun z => absurd z (by decide))]; exact ic_4 q
  · rw [e _ _ _ (by unfold inC; omega) (fun _ => rfl) (fun z => absurd z (by decide))]; exact ic_5 q
  · intro k k1 k2; rw [e 51 c _ (by unfold inC; omega) (fun _ => rfl) (fun z => absurd z (by decide)), e 52 c _ (by unfold inC; omega) (fun _ => rfl) (fun z => absurd z (by decide)), e 53 c _ (by unfold inC; omega) (fun _ => rfl) (fun z => absurd z (by decide)), e 54 c _ (by unfold inC; omega) (fun _ => rfl) (fun z => absurd z (by decide))]; exact ic_6 q k k1 k2
  · rw [e _ _ _ (by unfold inC; omega) (fun _ => rfl) (fun z => absurd z (by decide))]; exact ic_10 q
  · intro k k1 k2; rw [e 21 c _ (by unfold inC; omega) (fun _ => rfl) (fun z => absurd z (by decide))]; exact ic_11 q k k1 k2
  · rw [e _ _ _ (by unfold inC; omega) (fun _ => rfl) (fun z => absurd z (by decide))]; exact ic_12 q
  · intro k k1 k2; rw [e 22 c _ (by unfold inC; omega) (fun _ => rfl) (fun z => absurd z (by decide)), e 23 c _ (by unfold inC; omega) (fun _ => rfl) (fun z => absurd z (by decide)), e 24 c _ (by unfold inC; omega) (fun _ => rfl) (fun z => absurd z (by decide))]; exact ic_13 q k k1 k2
  · rw [e _ _ _ (by unfold inC; omega) (fun _ => rfl) (fun z => absurd z (by decide))]; exact ic_16 q
  · rw [e _ _ _ (by unfold inC; omega) (fun _ => rfl) (fun z => absurd z (by decide))]; exact ic_17 q
  · rw [e _ _ _ (by unfold inC; omega) (fun _ => rfl) (fun z => absurd z (by decide))]; exact ic_18 q
  · rw [e _ _ _ (by unfold inC; omega) (fun _ => rfl) (fun z => absurd z (by decide))]; exact ic_19 q
  · rw [e _ _ _ (by unfold inC; omega) (fun _ => rfl) (fun z => absurd z (by decide))]; exact ic_20 q
  · rw [e _ _ _ (by unfold inC; omega) (fun _ => rfl) (fun z => absurd z (by decide))]; exact ic_21 q
  · intro i i1 i2
    obtain ⟨m, z⟩ := ic_22 q i i1 i2
    have mi := (pm.1 i i1 (by omega))
    have mm : m = 9 * c + π i := by
      have a := z.1.symm.trans mi.1
      injection a with a
      injection a with a1 a2
    refine ⟨m, ?_⟩
    rw [er, e 4 m 0 (by unfold inC; omega) (fun z => absurd rfl z) (fun _ => by omega), e 4 m 1 (by unfold inC; omega) (fun z => absurd rfl z) (fun _ => by omega), e 4 m 2 (by unfold inC; omega) (fun z => absurd rfl z) (fun _ => by omega), e 4 m 3 (by unfold inC; omega) (fun z => absurd rfl z) (fun _ => by omega), e 4 m 4 (by unfold inC; omega) (fun z => absurd rfl z) (fun _ => by omega), e 4 m 5 (by unfold inC; omega) (fun z => absurd rfl z) (fun _ => by omega), e 4 m 6 (by unfold inC; omega) (fun z => absurd rfl z) (fun _ => by omega), e 4 m 7 (by unfold inC; omega) (fun z => absurd rfl z) (fun _ => by omega), e 4 m 8 (by unfold inC; omega) (fun z => absurd rfl z) (fun _ => by omega), e 4 m 9 (by unfold inC; omega) (fun z => absurd rfl z) (fun _ => by omega)]
    exact z
  · rw [e _ _ _ (by unfold inC; omega) (fun _ => rfl) (fun z => absurd z (by decide))]; exact ic_32 q
  · intro k k1 k2; rw [e 25 c _ (by unfold inC; omega) (fun _ => rfl) (fun z => absurd z (by decide)), e 26 c _ (by unfold inC; omega) (fun _ => rfl) (fun z => absurd z (by decide))]; exact ic_33 q k k1 k2
  · intro x; intros; rw [e 55 _ _ (by unfold inC; omega) (fun _ => rfl) (fun z => absurd z (by decide))]; exact ic_35 q _ (by assumption) (by assumption)
  · intro i x; intros; rw [e 55 _ _ (by unfold inC; omega) (fun _ => rfl) (fun z => absurd z (by decide))]; exact ic_36 q _ _ (by assumption) (by assumption) (by assumption) (by omega) (by omega)
/-- what was read is a chart -/
theorem mk_isC {b : Int → Int} {n s t : Nat} {D : Dr} {f g : Int → Int} (w : DW D) (q : dC h c π b n s D t) (e : ∀ (r : Nat) (i k : Int), ¬ (i = c ∧ (r = 55 ∨ r = 56)) → gI h2 r i k = gI h r i k) (er : ∀ i, 0 ≤ i → i < dM D 0 0 + dM D 1 0 → gR h2 20 c i = some (4, 9 * c + π (slt D i))) (hf : ∀ x, 0 ≤ x → x < 64 → gI h2 55 c (192 + x) = f x) (hg : ∀ i x, 0 ≤ i → i < 3 → 0 ≤ x → x < 64 → gI h2 55 c (64 * i + x) = g (64 * i + x)) : isC h2 c (mkC D f g) := by
  obtain ⟨q0, p, qS, qI, qN, qG, qT, qM, qO, qK, qW⟩ := q
  have m := w.2.2.2.2.2.2.1.1
  have x : ∀ (r : Nat) (k : Int), r ≠ 55 → r ≠ 56 → gI h2 r c k = gI h r c k := fun r k r1 r2 => e r c k (by omega)
  have el : ∀ k, 0 ≤ k → k < ((dO D).length : Int) → gI h 25 c k = cC (dO D) 33 k ∧ gI h 26 c k = cC (dO D) 34 k := by
    intro k k1 k2
    have a := qO.2 ((dO D).length - 1 - k.toNat) (by omega)
    rw [show (((dO D).length - 1 - ((dO D).length - 1 - k.toNat) : Nat) : Int) = k by omega] at a
    have e1 : cC (dO D) 33 k = ((dO D).getD ((dO D).length - 1 - k.toNat) (0, 0)).1 := if_pos rfl
    have e2 : cC (dO D) 34 k = ((dO D).getD ((dO D).length - 1 - k.toNat) (0, 0)).2 := if_neg (by decide)
    rw [e1, e2]; exact a
  refine ⟨(x 9 0 (by decide) (by decide)).trans qS.1, (x 9 1 (by decide) (by decide)).trans qS.2.1, fun y y1 y2 => by rw [x 9 2 (by decide) (by decide)]; exact qS.2.2.2.2.2 y y1 y2, (x 9 4 (by decide) (by decide)).trans qS.2.2.1, (x 9 5 (by decide) (by decide)).trans qS.2.2.2.1, (x 9 6 (by decide) (by decide)).trans qI.1, fun i i1 i2 => by rw [x 51 i (by decide) (by decide), x 52 i (by decide) (by decide), x 53 i (by decide) (by decide), x 54 i (by decide) (by decide)]; exact qI.2 i i1 i2, (x 0 6 (by decide) (by decide)).trans qN.1, fun i i1 i2 => by rw [x 21 i (by decide) (by decide)]; exact qN.2 i i1 i2, (x 0 10 (by decide) (by decide)).trans qG.1, fun i i1 i2 => by rw [x 22 i (by decide) (by decide), x 23 i (by decide) (by decide), x 24 i (by decide) (by decide)]; exact qG.2 i i1 i2, (x 0 11 (by decide) (by decide)).trans qT.1, (x 0 12 (by decide) (by decide)).trans qT.2.1, (x 0 13 (by decide) (by decide)).trans qT.2.2.1, (x 0 14 (by decide) (by decide)).trans qT.2.2.2, (x 0 3 (by decide) (by decide)).trans qM.1, (x 0 4 (by decide) (by decide)).trans qM.2.1, fun i i1 i2 => ?_, (x 1 2 (by decide) (by decide)).trans qO.1, fun i i1 i2 => by rw [x 25 i (by decide) (by decide), x 26 i (by decide) (by decide)]; exact el i i1 i2, hf, fun i y i1 i3 i2 y1 y2 => hg i y i1 i3 y1 y2⟩
  have i2' : i < dM D 0 0 + dM D 1 0 := i2
  have t := slt_t w i1 i2'
  have d := qM.2.2 _ t.1
  refine ⟨9 * c + π (slt D i), er i i1 i2', ?_⟩
  have y : ∀ k : Int, gI h2 4 (9 * c + π (slt D i)) k = gI h 4 (9 * c + π (slt D i)) k := fun k => e 4 _ k (by omega)
  rw [y 0, y 1, y 2, y 3, y 4, y 5, y 6, y 7, y 8, y 9]
  exact d
end
