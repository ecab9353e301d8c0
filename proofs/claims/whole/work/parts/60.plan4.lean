/-! PLAN, 4: the reference, pieces -/
def bR (h : Hp) (B : Option Pc) : Prop := match B with
  | none => gI h 12 0 67 = -1
  | some b => gI h 12 0 67 = b.1 ∧ 0 ≤ b.1 ∧ gI h 12 0 68 = b.2.1 ∧ ∀ i, 0 ≤ i → i < b.2.1 → gI h 104 0 i = b.2.2 i
def rP (h : Hp) (C : Ch) (x3 : Int) : Prop := isR h C ∧ gI h 12 0 55 = -1 ∧ gI h 12 0 57 = 1 ∧ B92 h ∧ gI h 87 0 1 = x3 ∧ -1 ≤ gI h 88 0 1 ∧ gI h 88 0 1 ≤ 60
def pgR (h : Hp) (C V : Ch) (k : Int) : Prop := (gI h 105 0 k = V 0 0 ∧ gI h 106 0 k = V 1 0 ∧ gI h 107 0 k = V 2 0) ∧ gI h 90 0 1 = V 5 0 ∧ (∀ i, 0 ≤ i → i < sz C → gI h 108 0 (9 * k + sl C i) = V 8 i ∧ gI h 109 0 (9 * k + sl C i) = V 6 i) ∧ (∀ m, 0 ≤ m → m < 9 → 0 ≤ gI h 109 0 (9 * k + m) ∧ gI h 109 0 (9 * k + m) < 2)
def BeW : Nat → Int → Int → Prop := fun r _ j => r = 104 ∨ (r = 12 ∧ (j = 67 ∨ j = 68))
section
variable {h0 : Hp} {C V : Ch} {k x3 : Int}
theorem tk_S (w : CW C) (q : rP h0 C x3) (g : pgR h0 C V k) (k1 : 0 ≤ k) (k2 : k < 3) : ok (f_X12_takes k h0) (fun _ h' => Fr TkW h0 h' ∧ rP h' C x3 ∧ isS C h' 1 (v7 V (gI h' 88 0 1))) := by
  obtain ⟨q1, q2, q3, q4, q5, q6, q7⟩ := q
  obtain ⟨g1, g2, g3, g4⟩ := g
  refine ok_mono (p_X12_takes g4 k1 k2) ?_
  intro _ h' ⟨f, e1, e2⟩
  have f12 : ∀ j, gI h' 12 0 j = gI h0 12 0 j := fun j => f.1 12 0 j (by unfold TkW; omega)
  have f87 : gI h' 87 0 1 = gI h0 87 0 1 := f.1 87 0 1 (by unfold TkW; omega)
  have f88 : gI h' 88 0 1 = gI h0 88 0 1 := f.1 88 0 1 (by unfold TkW; omega)
  have f90 : gI h' 90 0 1 = gI h0 90 0 1 := f.1 90 0 1 (by unfold TkW; omega)
  refine ⟨f, ⟨isR_fr f (by intro r j a b; unfold TkW; omega) q1, by rw [f12]; exact q2, by rw [f12]; exact q3, fun j => ?_, by rw [f87]; exact q5, by rw [f88]; exact q6, by rw [f88]; exact q7⟩, ?_⟩
  · by_cases y : 9 ≤ j ∧ j < 18
    · have := (e2 (j - 9) (by omega) (by omega)).2
      rw [show 9 + (j - 9) = j by omega] at this
      rw [this]
      exact g4 _ (by omega) (by omega)
    · rw [f.1 92 0 j (by unfold TkW; omega)]
      exact q4 j
  · refine ⟨e1.1.trans g1.1, e1.2.1.trans g1.2.1, e1.2.2.trans g1.2.2, f90.trans g2, rfl, fun i i1 i2 => ?_, fun i i1 i2 => ?_⟩
    · obtain ⟨s1, s2, _⟩ := sl_r w i1 i2
      exact ((e2 _ s1 s2).1).trans (g3 i i1 i2).1
    · obtain ⟨s1, s2, _⟩ := sl_r w i1 i2
      exact ((e2 _ s1 s2).2).trans (g3 i i1 i2).2
theorem pu_S (w : CW C) (q : rP h0 C x3) {y : Int} (s : isS C h0 1 (v7 V y)) (k1 : 0 ≤ k) (k2 : k < 3) : ok (f_X12_puts_ k h0) (fun _ h' => Fr (PuW k) h0 h' ∧ rP h' C x3 ∧ pgR h' C V k) := by
  obtain ⟨q1, q2, q3, q4, q5, q6, q7⟩ := q
  obtain ⟨s0, s1, s2, s5, s7, s8, s6⟩ := s
  refine ok_mono (p_X12_puts_ q4 k1 k2) ?_
  intro _ h' ⟨f, e1, e2⟩
  have f12 : ∀ j, gI h' 12 0 j = gI h0 12 0 j := fun j => f.1 12 0 j (by unfold PuW; omega)
  have f87 : gI h' 87 0 1 = gI h0 87 0 1 := f.1 87 0 1 (by unfold PuW; omega)
  have f88 : gI h' 88 0 1 = gI h0 88 0 1 := f.1 88 0 1 (by unfold PuW; omega)
  have f90 : gI h' 90 0 1 = gI h0 90 0 1 := f.1 90 0 1 (by unfold PuW; omega)
  refine ⟨f, ⟨isR_fr f (by intro r j a b; unfold PuW; omega) q1, by rw [f12]; exact q2, by rw [f12]; exact q3, fun j => ?_, by rw [f87]; exact q5, by rw [f88]; exact q6, by rw [f88]; exact q7⟩, ⟨e1.1.trans s0, e1.2.1.trans s1, e1.2.2.trans s2⟩, f90.trans s5, fun i i1 i2 => ?_, fun m m1 m2 => ?_⟩
  · rw [f.1 92 0 j (by unfold PuW; omega)]
    exact q4 j
  · obtain ⟨a1, a2, _⟩ := sl_r w i1 i2
    exact ⟨((e2 _ a1 a2).1).trans (s8 i i1 i2), ((e2 _ a1 a2).2).trans (s6 i i1 i2)⟩
  · rw [(e2 m m1 m2).2]
    exact q4 _
set_option maxHeartbeats 4000000 in
theorem be_S {sm : Int} {p : Int → Int} {n : Nat} (hn : 10 ≤ n) (hs : 0 ≤ sm) (k1 : 0 ≤ k) (k2 : k ≤ 3) (hp : ∀ i, 0 ≤ i → i < k → gI h0 103 0 i = p i) : ok (g_grpP n 1 [k, sm] h0) (fun _ h' => Fr BeW h0 h' ∧ bR h' (some (sm, k, p))) := by
  have key : ∀ (d n : Nat) (h : Hp) (x : Int), (k - x).toNat = d → 0 ≤ x → x ≤ k → d + 1 ≤ n → Fr BeW h0 h → gI h 12 0 67 = sm → gI h 12 0 68 = k → (∀ i, 0 ≤ i → i < x → gI h 104 0 i = p i) → ok (g_grpP n 2 [k, x] h) (fun _ h' => Fr BeW h0 h' ∧ bR h' (some (sm, k, p))) := by
    intro d
    induction d with
    | zero =>
      intro n h x hd x1 x2 hn hF h1 h2 h3
      refine s_grpP_2 (by omega) ?_
      unfold b_grpP_2
      exact ok_t (by omega) (ok_some ⟨hF, h1, hs, h2, fun i i1 i2 => h3 i i1 (by have : i < k := i2; omega)⟩)
    | succ d ih =>
      intro n h x hd x1 x2 hn hF h1 h2 h3
      refine s_grpP_2 (by omega) ?_
      unfold b_grpP_2
      have f3 : gI h 103 0 x = gI h0 103 0 x := hF.1 103 0 x (by unfold BeW; omega)
      refine ok_f (by omega) (ok_ck (by omega) (ok_ck (by omega) (ok_lt (ok_ck (by omega) (ih _ _ _ (by omega) (by omega) (by omega) (by omega) (fr_sI hF (by unfold BeW; omega)) ?_ ?_ (fun i i1 i2 => ?_))))))
      · rw [gI_nr (by decide)]; exact h1
      · rw [gI_nr (by decide)]; exact h2
      · by_cases y : i = x
        · rw [y, gI_eq, f3]; exact hp x x1 (by omega)
        · rw [gI_nk (by omega)]; exact h3 i i1 (by omega)
  refine s_grpP_1 (by omega) ?_
  unfold b_grpP_1
  refine ok_lt (ok_lt (key k.toNat _ _ _ (by omega) (by omega) (by omega) (by omega) (fr_sI (fr_sI fr_rf (by unfold BeW; omega)) (by unfold BeW; omega)) ?_ ?_ (fun i i1 i2 => by omega)))
  · rw [gI_nk (by decide), gI_eq]
  · rw [gI_eq]
end
