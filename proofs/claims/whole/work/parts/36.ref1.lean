/-! THE REFERENCE: its picture -/
/-- the place of mouth i in the reference's rows, and back -/
def sl (C : Ch) (i : Int) : Int := if i < C 20 0 then i else 5 + (i - C 20 0)
def ix (C : Ch) (m : Int) : Int := if m < 5 then m else C 20 0 + (m - 5)
abbrev thP (C : Ch) (m : Int) : Prop := (m < 5 ∧ m < C 20 0) ∨ (5 ≤ m ∧ m - 5 < C 21 0)
theorem sl_r {C : Ch} {i : Int} (w : CW C) (i1 : 0 ≤ i) (i2 : i < sz C) : 0 ≤ sl C i ∧ sl C i < 9 ∧ thP C (sl C i) ∧ ix C (sl C i) = i := by
  have := sz_r w
  unfold sl ix thP
  split <;> split <;> omega
theorem ix_r {C : Ch} {m : Int} (w : CW C) (m1 : 0 ≤ m) (m2 : thP C m) : 0 ≤ ix C m ∧ ix C m < sz C ∧ sl C (ix C m) = m := by
  have := sz_r w
  unfold thP at m2
  unfold sl ix
  split <;> split <;> omega
theorem sl_inj {C : Ch} {i j : Int} (w : CW C) (i1 : 0 ≤ i) (i2 : i < sz C) (j1 : 0 ≤ j) (j2 : j < sz C) (e : sl C i = sl C j) : i = j := by
  rw [← (sl_r w i1 i2).2.2.2, ← (sl_r w j1 j2).2.2.2, e]
def sgk (k : Int) : Int := if k = 2 then 262 else if k = 3 then 261 else if k = 4 then 260 else if k = 5 then 60 else if k = 6 then 256 else if k = 7 then 61 else if k = 8 then 257 else if k = 9 then 258 else if k = 10 then 62 else if k = 11 then 43 else if k = 12 then 45 else if k = 13 then 42 else 47
def isR (h : Hp) (C : Ch) : Prop :=
  (gI h 61 0 0 = C 0 0) ∧
  (gI h 61 0 1 = C 1 0) ∧
  (gI h 61 0 3 = C 3 0) ∧
  (gI h 61 0 4 = C 4 0) ∧
  (gI h 61 0 5 = C 5 0) ∧
  (gI h 61 0 6 = C 10 0) ∧
  (gI h 61 0 7 = C 12 0) ∧
  (gI h 61 0 8 = C 16 0) ∧
  (gI h 61 0 9 = C 17 0) ∧
  (gI h 61 0 10 = C 18 0) ∧
  (gI h 61 0 11 = C 19 0) ∧
  (gI h 61 0 12 = C 20 0) ∧
  (gI h 61 0 13 = C 21 0) ∧
  (gI h 61 0 14 = C 32 0) ∧
  (∀ x, 0 ≤ x → x < 64 → gI h 62 0 x = C 2 x) ∧
  (∀ i, 0 ≤ i → i < C 5 0 → gI h 63 0 i = C 6 i ∧ gI h 64 0 i = C 7 i ∧ gI h 65 0 i = C 8 i ∧ gI h 66 0 i = C 9 i) ∧
  (∀ k, 0 ≤ k → k < C 10 0 → gI h 67 0 k = C 11 k) ∧
  (∀ k, 0 ≤ k → k < C 12 0 → gI h 68 0 k = C 13 k ∧ gI h 69 0 k = C 14 k ∧ gI h 70 0 k = C 15 k) ∧
  (∀ i, 0 ≤ i → i < sz C → gI h 71 0 (sl C i) = C 22 i ∧ gI h 72 0 (sl C i) = C 23 i ∧ gI h 73 0 (sl C i) = C 25 i ∧ gI h 74 0 (sl C i) = C 26 i ∧ (∀ t, 0 ≤ t → ((gI h 75 0 (sl C i) ≤ t ∧ t ≤ gI h 76 0 (sl C i)) ↔ (C 27 i ≤ t ∧ t ≤ C 28 i))) ∧ gI h 77 0 (sl C i) = C 29 i ∧ gI h 79 0 (sl C i) = C 30 i ∧ gI h 80 0 (sl C i) = C 31 i) ∧
  (∀ i, C 20 0 ≤ i → i < sz C → gI h 78 0 (sl C i) = C 24 i) ∧
  (∀ k, 0 ≤ k → k < C 32 0 → (C 33 k = 0 → gI h 81 0 k = 0 ∧ gI h 82 0 k = C 34 k) ∧ (C 33 k = 1 → gI h 81 0 k = 1 ∧ gI h 82 0 k = C 34 k) ∧ (2 ≤ C 33 k → gI h 81 0 k = 2 ∧ gI h 82 0 k = sgk (C 33 k))) ∧
  (∀ a x, 0 ≤ a → a < 64 → 0 ≤ x → x < 64 → farV (stC C) (wtC C) a x (gI h 83 0 (64 * a + x)))
theorem ir_0 {h : Hp} {C : Ch} (q : isR h C) : gI h 61 0 0 = C 0 0 := q.1
theorem ir_1 {h : Hp} {C : Ch} (q : isR h C) : gI h 61 0 1 = C 1 0 := q.2.1
theorem ir_3 {h : Hp} {C : Ch} (q : isR h C) : gI h 61 0 3 = C 3 0 := q.2.2.1
theorem ir_4 {h : Hp} {C : Ch} (q : isR h C) : gI h 61 0 4 = C 4 0 := q.2.2.2.1
theorem ir_5 {h : Hp} {C : Ch} (q : isR h C) : gI h 61 0 5 = C 5 0 := q.2.2.2.2.1
theorem ir_6 {h : Hp} {C : Ch} (q : isR h C) : gI h 61 0 6 = C 10 0 := q.2.2.2.2.2.1
theorem ir_7 {h : Hp} {C : Ch} (q : isR h C) : gI h 61 0 7 = C 12 0 := q.2.2.2.2.2.2.1
theorem ir_8 {h : Hp} {C : Ch} (q : isR h C) : gI h 61 0 8 = C 16 0 := q.2.2.2.2.2.2.2.1
theorem ir_9 {h : Hp} {C : Ch} (q : isR h C) : gI h 61 0 9 = C 17 0 := q.2.2.2.2.2.2.2.2.1
theorem ir_10 {h : Hp} {C : Ch} (q : isR h C) : gI h 61 0 10 = C 18 0 := q.2.2.2.2.2.2.2.2.2.1
theorem ir_11 {h : Hp} {C : Ch} (q : isR h C) : gI h 61 0 11 = C 19 0 := q.2.2.2.2.2.2.2.2.2.2.1
theorem ir_12 {h : Hp} {C : Ch} (q : isR h C) : gI h 61 0 12 = C 20 0 := q.2.2.2.2.2.2.2.2.2.2.2.1
theorem ir_13 {h : Hp} {C : Ch} (q : isR h C) : gI h 61 0 13 = C 21 0 := q.2.2.2.2.2.2.2.2.2.2.2.2.1
theorem ir_14 {h : Hp} {C : Ch} (q : isR h C) : gI h 61 0 14 = C 32 0 := q.2.2.2.2.2.2.2.2.2.2.2.2.2.1
theorem ir_l {h : Hp} {C : Ch} (q : isR h C) : ∀ x, 0 ≤ x → x < 64 → gI h 62 0 x = C 2 x := q.2.2.2.2.2.2.2.2.2.2.2.2.2.2.1
theorem ir_i {h : Hp} {C : Ch} (q : isR h C) : ∀ i, 0 ≤ i → i < C 5 0 → gI h 63 0 i = C 6 i ∧ gI h 64 0 i = C 7 i ∧ gI h 65 0 i = C 8 i ∧ gI h 66 0 i = C 9 i := q.2.2.2.2.2.2.2.2.2.2.2.2.2.2.2.1
theorem ir_w {h : Hp} {C : Ch} (q : isR h C) : ∀ k, 0 ≤ k → k < C 10 0 → gI h 67 0 k = C 11 k := q.2.2.2.2.2.2.2.2.2.2.2.2.2.2.2.2.1
theorem ir_g {h : Hp} {C : Ch} (q : isR h C) : ∀ k, 0 ≤ k → k < C 12 0 → gI h 68 0 k = C 13 k ∧ gI h 69 0 k = C 14 k ∧ gI h 70 0 k = C 15 k := q.2.2.2.2.2.2.2.2.2.2.2.2.2.2.2.2.2.1
theorem ir_m {h : Hp} {C : Ch} (q : isR h C) : ∀ i, 0 ≤ i → i < sz C → gI h 71 0 (sl C i) = C 22 i ∧ gI h 72 0 (sl C i) = C 23 i ∧ gI h 73 0 (sl C i) = C 25 i ∧ gI h 74 0 (sl C i) = C 26 i ∧ (∀ t, 0 ≤ t → ((gI h 75 0 (sl C i) ≤ t ∧ t ≤ gI h 76 0 (sl C i)) ↔ (C 27 i ≤ t ∧ t ≤ C 28 i))) ∧ gI h 77 0 (sl C i) = C 29 i ∧ gI h 79 0 (sl C i) = C 30 i ∧ gI h 80 0 (sl C i) = C 31 i := q.2.2.2.2.2.2.2.2.2.2.2.2.2.2.2.2.2.2.1
theorem ir_o {h : Hp} {C : Ch} (q : isR h C) : ∀ i, C 20 0 ≤ i → i < sz C → gI h 78 0 (sl C i) = C 24 i := q.2.2.2.2.2.2.2.2.2.2.2.2.2.2.2.2.2.2.2.1
theorem ir_k {h : Hp} {C : Ch} (q : isR h C) : ∀ k, 0 ≤ k → k < C 32 0 → (C 33 k = 0 → gI h 81 0 k = 0 ∧ gI h 82 0 k = C 34 k) ∧ (C 33 k = 1 → gI h 81 0 k = 1 ∧ gI h 82 0 k = C 34 k) ∧ (2 ≤ C 33 k → gI h 81 0 k = 2 ∧ gI h 82 0 k = sgk (C 33 k)) := q.2.2.2.2.2.2.2.2.2.2.2.2.2.2.2.2.2.2.2.2.1
theorem ir_f {h : Hp} {C : Ch} (q : isR h C) : ∀ a x, 0 ≤ a → a < 64 → 0 ≤ x → x < 64 → farV (stC C) (wtC C) a x (gI h 83 0 (64 * a + x)) := q.2.2.2.2.2.2.2.2.2.2.2.2.2.2.2.2.2.2.2.2.2
theorem isR_eq {h h2 : Hp} {C : Ch} (e : ∀ (r : Nat) (k : Int), 61 ≤ r → r ≤ 83 → gI h2 r 0 k = gI h r 0 k) (q : isR h C) : isR h2 C := by
  unfold isR at q ⊢
  simp only [e 61 _ (by decide) (by decide), e 62 _ (by decide) (by decide), e 63 _ (by decide) (by decide), e 64 _ (by decide) (by decide), e 65 _ (by decide) (by decide), e 66 _ (by decide) (by decide), e 67 _ (by decide) (by decide), e 68 _ (by decide) (by decide), e 69 _ (by decide) (by decide), e 70 _ (by decide) (by decide), e 71 _ (by decide) (by decide), e 72 _ (by decide) (by decide), e 73 _ (by decide) (by decide), e 74 _ (by decide) (by decide), e 75 _ (by decide) (by decide), e 76 _ (by decide) (by decide), e 77 _ (by decide) (by decide), e 78 _ (by decide) (by decide), e 79 _ (by decide) (by decide), e 80 _ (by decide) (by decide), e 81 _ (by decide) (by decide), e 82 _ (by decide) (by decide), e 83 _ (by decide) (by decide)]
  exact q
theorem isR_fr {W : Nat → Int → Int → Prop} {h h2 : Hp} {C : Ch} (f : Fr W h h2) (d : ∀ (r : Nat) (k : Int), 61 ≤ r → r ≤ 83 → ¬ W r 0 k) (q : isR h C) : isR h2 C := isR_eq (fun r k a b => f.1 r 0 k (d r k a b)) q
theorem isR_sI {h : Hp} {C : Ch} {r : Nat} {i k v : Int} (d : r < 61 ∨ 83 < r) (q : isR h C) : isR (sI h r i k v) C := isR_eq (fun r' k' a b => gI_nr (by omega)) q
def isS (C : Ch) (h : Hp) (s : Int) (V : Ch) : Prop :=
  (gI h 84 0 s = V 0 0) ∧
  (gI h 85 0 s = V 1 0) ∧
  (gI h 86 0 s = V 2 0) ∧
  (gI h 90 0 s = V 5 0) ∧
  (gI h 88 0 s = V 7 0) ∧
  (∀ i, 0 ≤ i → i < sz C → gI h 91 0 (9 * s + sl C i) = V 8 i) ∧
  (∀ i, 0 ≤ i → i < sz C → gI h 92 0 (9 * s + sl C i) = V 6 i)
theorem is_0 {C : Ch} {h : Hp} {s : Int} {V : Ch} (q : isS C h s V) : gI h 84 0 s = V 0 0 := q.1
theorem is_1 {C : Ch} {h : Hp} {s : Int} {V : Ch} (q : isS C h s V) : gI h 85 0 s = V 1 0 := q.2.1
theorem is_2 {C : Ch} {h : Hp} {s : Int} {V : Ch} (q : isS C h s V) : gI h 86 0 s = V 2 0 := q.2.2.1
theorem is_5 {C : Ch} {h : Hp} {s : Int} {V : Ch} (q : isS C h s V) : gI h 90 0 s = V 5 0 := q.2.2.2.1
theorem is_7 {C : Ch} {h : Hp} {s : Int} {V : Ch} (q : isS C h s V) : gI h 88 0 s = V 7 0 := q.2.2.2.2.1
theorem is_8 {C : Ch} {h : Hp} {s : Int} {V : Ch} (q : isS C h s V) : ∀ i, 0 ≤ i → i < sz C → gI h 91 0 (9 * s + sl C i) = V 8 i := q.2.2.2.2.2.1
theorem is_6 {C : Ch} {h : Hp} {s : Int} {V : Ch} (q : isS C h s V) : ∀ i, 0 ≤ i → i < sz C → gI h 92 0 (9 * s + sl C i) = V 6 i := q.2.2.2.2.2.2
theorem isS_eq {C V : Ch} {h h2 : Hp} {s : Int} (e : ∀ (r : Nat) (k : Int), 84 ≤ r → r ≤ 92 → r ≠ 87 → r ≠ 89 → gI h2 r 0 k = gI h r 0 k) (q : isS C h s V) : isS C h2 s V := by
  unfold isS at q ⊢
  simp only [e 84 _ (by decide) (by decide) (by decide) (by decide), e 85 _ (by decide) (by decide) (by decide) (by decide), e 86 _ (by decide) (by decide) (by decide) (by decide), e 88 _ (by decide) (by decide) (by decide) (by decide), e 90 _ (by decide) (by decide) (by decide) (by decide), e 91 _ (by decide) (by decide) (by decide) (by decide), e 92 _ (by decide) (by decide) (by decide) (by decide)]
  exact q
theorem isS_fr {W : Nat → Int → Int → Prop} {C V : Ch} {h h2 : Hp} {s : Int} (f : Fr W h h2) (d : ∀ (r : Nat) (k : Int), 84 ≤ r → r ≤ 92 → r ≠ 87 → r ≠ 89 → ¬ W r 0 k) (q : isS C h s V) : isS C h2 s V := isS_eq (fun r k a b c1 c2 => f.1 r 0 k (d r k a b c1 c2)) q
/-- what is tried otherwise: the same one as the class's -/
def isT (C : Ch) (h : Hp) (tw ta : Int) : Prop := gI h 12 0 55 = tw ∧ (tw = 3 → gI h 12 0 56 = sl C ta ∧ 0 ≤ ta ∧ ta < sz C)
theorem isT_eq {C : Ch} {h h2 : Hp} {tw ta : Int} (e1 : gI h2 12 0 55 = gI h 12 0 55) (e2 : gI h2 12 0 56 = gI h 12 0 56) (q : isT C h tw ta) : isT C h2 tw ta := by
  unfold isT at q ⊢
  rw [e1, e2]; exact q
/-- the sea goes both ways -/
theorem stC_s {C : Ch} (w : CW C) : ∀ b k : Int, 0 ≤ k → k < 4 → wtC C b → wtC C (stC C b k) → ∃ j : Int, 0 ≤ j ∧ j < 4 ∧ stC C (stC C b k) j = b := fun b k k1 k2 h1 h2 => stepF_s (cw_W w) h1.1 k1 k2 h2.1
theorem far_b {h : Hp} {C : Ch} {x : Int} (q : isR h C) (w : CW C) (x1 : 0 ≤ x) (x2 : x < 64) : gI h 83 0 (64 * x + C 4 0) = C 35 x := by
  have hm := sea_mul (cw_W w)
  have b := cw_B w
  have a := ir_f q x (C 4 0) x1 x2 b.1 (by have := b.2; omega)
  exact farV_u a (farV_s (stC_s w) (cw_F w x x1 x2))
theorem far_i {h : Hp} {C : Ch} {i x : Int} (q : isR h C) (w : CW C) (i1 : 0 ≤ i) (i2 : i < C 5 0) (x1 : 0 ≤ x) (x2 : x < 64) : gI h 83 0 (64 * C 7 i + x) = C 36 (64 * i + x) := by
  have hm := sea_mul (cw_W w)
  have b := (cw_i w i i1 i2).1.1
  have a := ir_f q (C 7 i) x b.1 (by have := b.2; omega) x1 x2
  exact farV_u a (cw_f w i x i1 i2 x1 x2)
section
variable {h : Hp} {s m i x k tw ta : Int} {C V : Ch}
def dxF (k : Int) : Int := if k = 1 then 1 else if k = 3 then -1 else 0
def dyF (k : Int) : Int := if k = 2 then 1 else if k = 0 then -1 else 0
def leadsR (W H x k : Int) : Int := if x % W + dxF k < 0 ∨ x / W + dyF k < 0 ∨ W ≤ x % W + dxF k ∨ H ≤ x / W + dyF k then -1 else (x / W + dyF k) * W + (x % W + dxF k)
theorem leads_e {W H x k : Int} (hb : 1 ≤ W ∧ W ≤ 8 ∧ 1 ≤ H ∧ H ≤ 8) (c1 : 0 ≤ x ∧ x < W * H) (k1 : 0 ≤ k) (k2 : k < 4) : leadsR W H x k = stepF W H x k := by
  have eW : W = 1 ∨ W = 2 ∨ W = 3 ∨ W = 4 ∨ W = 5 ∨ W = 6 ∨ W = 7 ∨ W = 8 := by omega
  have ek : k = 0 ∨ k = 1 ∨ k = 2 ∨ k = 3 := by omega
  have cc : cellP W H x := c1
  unfold leadsR stepF
  rw [if_pos cc]
  clear cc
  rcases ek with e | e | e | e <;> subst e <;> simp only [dxF, dyF] <;> rcases eW with e | e | e | e | e | e | e | e <;> subst e <;> (simp only [reduceIte, Int.reduceEq]) <;> split <;> (try split) <;> omega
theorem p_X12_leads (q : isR h C) (w : CW C) (c1 : cellP (C 0 0) (C 1 0) x) (k1 : 0 ≤ k) (k2 : k < 4) : f_X12_leads x k h = some (stC C x k, h) := by
  have e0 := ir_0 q
  have e1 := ir_1 q
  have hb := cw_W w
  rw [show stC C x k = leadsR (C 0 0) (C 1 0) x k from (leads_e hb c1 k1 k2).symm]
  generalize C 0 0 = W at e0 hb c1 ⊢
  generalize C 1 0 = H at e1 hb c1 ⊢
  clear q w
  have m1 := Int.emod_nonneg x (show W ≠ 0 by omega)
  have m2 := Int.emod_lt_of_pos x (show 0 < W by omega)
  have d1 : 0 ≤ x / W := Int.ediv_nonneg c1.1 (by omega)
  have d2 : x / W < H := Int.ediv_lt_of_lt_mul (by omega) (by have := c1.2; rw [Int.mul_comm]; exact this)
  have c2 := c1.1
  clear c1
  have dx : -1 ≤ dxF k ∧ dxF k ≤ 1 := by unfold dxF; split; omega; split <;> omega
  have dy : -1 ≤ dyF k ∧ dyF k ≤ 1 := by unfold dyF; split; omega; split <;> omega
  have no : ∀ n : Nat, 1 ≤ n → (x % W + dxF k < 0 ∨ x / W + dyF k < 0 ∨ W ≤ x % W + dxF k ∨ H ≤ x / W + dyF k) → ok (g_X12_leads n 3 [] h) (fun r h' => r = leadsR W H x k ∧ h' = h) := by
    intro n hn z
    refine s_X12_leads_3 (by omega) ?_
    unfold b_X12_leads_3
    exact ok_some ⟨by unfold leadsR; rw [if_pos z], rfl⟩
  have two : ∀ n : Nat, 5 ≤ n → ok (g_X12_leads n 2 [x % W + dxF k, dyF k, x / W] h) (fun r h' => r = leadsR W H x k ∧ h' = h) := by
    intro n hn
    refine s_X12_leads_2 (by omega) ?_
    unfold b_X12_leads_2
    rw [e0, e1]
    refine ok_ck (by omega) (ok_lt (ok_if (fun z => no _ (by omega) (Or.inl z)) (fun z => ok_if (fun z2 => no _ (by omega) (Or.inr (Or.inl z2))) (fun z2 => ok_ck (by omega) (ok_if (fun z3 => no _ (by omega) (Or.inr (Or.inr (Or.inl z3)))) (fun z3 => ok_ck (by omega) (ok_if (fun z4 => ok_ck (by omega) ?_) (fun z4 => no _ (by omega) (Or.inr (Or.inr (Or.inr (by omega))))))))))))
    have mb : 0 ≤ (x / W + dyF k) * W ∧ (x / W + dyF k) * W ≤ 64 := by
      refine ⟨Int.mul_nonneg (by omega) (by omega), ?_⟩
      have := Int.mul_le_mul (show x / W + dyF k ≤ 8 by omega) (show W ≤ 8 by omega) (by omega) (by omega)
      omega
    refine ok_ck (by omega) (ok_ck (by omega) (ok_some ⟨?_, rfl⟩))
    unfold leadsR
    rw [if_neg (by omega)]
  have one : ∀ n : Nat, 10 ≤ n → ok (g_X12_leads n 1 [x, k, dxF k, x % W] h) (fun r h' => r = leadsR W H x k ∧ h' = h) := by
    intro n hn
    refine s_X12_leads_1 (by omega) ?_
    unfold b_X12_leads_1
    rw [e0]
    have t2 := two (n - 1) (by omega)
    refine ok_ck (by omega) (ok_lt (ok_ck (by omega) (ok_ck (by omega) (ok_if (fun z => ?_) (fun z => ok_if (fun z2 => ?_) (fun z2 => ?_))))))
    · rw [show dyF k = 1 from if_pos z] at t2; exact t2
    · rw [show dyF k = -1 by unfold dyF; rw [if_neg z, if_pos z2]] at t2; exact t2
    · rw [show dyF k = 0 by unfold dyF; rw [if_neg z, if_neg z2]] at t2; exact t2
  refine ok_eq.mp ?_
  refine fuv_X12_leads (fun n hn => ?_)
  refine s_X12_leads_0 (by omega) ?_
  unfold b_X12_leads_0
  rw [e0]
  have t1 := one (n - 1) (by omega)
  refine ok_ck (by omega) (ok_ck (by omega) (ok_if (fun z => ?_) (fun z => ok_if (fun z2 => ?_) (fun z2 => ?_))))
  · rw [show dxF k = 1 from if_pos z] at t1; exact t1
  · rw [show dxF k = -1 by unfold dxF; rw [if_neg z, if_pos z2]] at t1; exact t1
  · rw [show dxF k = 0 by unfold dxF; rw [if_neg z, if_neg z2]] at t1; exact t1
theorem p_X12_isThere (q : isR h C) (m1 : 0 ≤ m) (m2 : m < 9) : f_X12_isThere m h = some (b2i (thP C m), h) := by
  have e12 := ir_12 q
  have e13 := ir_13 q
  refine ok_eq.mp ?_
  refine fuv_X12_isThere (fun nFU hFU => ?_)
  refine s_X12_isThere_0 (by first | omega | decide) ?_
  unfold b_X12_isThere_0
  refine ok_if (fun q1 => ?_) (fun q1 => ?_)
  · refine ok_ck (by omega) ?_
    refine ok_ck (by omega) ?_
    refine ok_if (fun q2 => ?_) (fun q2 => ?_)
    · exact ok_some ⟨by unfold b2i thP; split <;> omega, rfl⟩
    · exact ok_some ⟨by unfold b2i thP; split <;> omega, rfl⟩
  · refine ok_ck (by omega) ?_
    refine ok_if (fun q3 => ?_) (fun q3 => ?_)
    · exact ok_some ⟨by unfold b2i thP; split <;> omega, rfl⟩
    · exact ok_some ⟨by unfold b2i thP; split <;> omega, rfl⟩
set_option maxHeartbeats 8000000 in
theorem p_X12_isAboard (q : isR h C) (w : CW C) (hs : isS C h s V) (vw : VW C V) (ht : isT C h tw ta) (s1 : 0 ≤ s) (s2 : s < 23) (m1 : 0 ≤ m) (m2 : m < 9) : f_X12_isAboard s m h = some (b2i (thP C m ∧ abP C V tw ta (ix C m)), h) := by
  refine ok_eq.mp ?_
  refine fuv_X12_isAboard (fun nFU hFU => ?_)
  refine s_X12_isAboard_0 (by first | omega | decide) ?_
  unfold b_X12_isAboard_0
  refine ok_be (p_X12_isThere q m1 m2) (ok_if (fun y => ok_some ⟨?_, rfl⟩) (fun y => ?_))
  · have y := b2i_0.mp y
    exact (b2i_0.mpr (fun z => y z.1)).symm
  · have y := b2i_n.mp y
    obtain ⟨i1, i2, i3⟩ := ix_r w m1 y
    obtain ⟨t1, t2⟩ := ht
    have cm := cw_m w _ i1 i2
    obtain ⟨-, -, n3, n4, -, -, -, -⟩ := ir_m q _ i1 i2
    have v0 := is_0 hs
    have v5 := is_5 hs
    have v6 := is_6 hs _ i1 i2
    have vl := vw_l vw _ i1 i2
    rw [i3] at n3 n4 v6
    have t3 : tw = 3 → (ta = ix C m ↔ gI h 12 0 56 = m) := fun z => by
      obtain ⟨a, b, c⟩ := t2 z
      rw [a]
      constructor
      · intro d; rw [d]; exact i3
      · intro d; exact sl_inj w b c i1 i2 (d.trans i3.symm)
    have bm : (m < 5 → ix C m < C 20 0) ∧ (5 ≤ m → ix C m - C 20 0 = m - 5 ∧ C 20 0 ≤ ix C m) := by
      have := sz_r w
      unfold thP at y
      unfold ix
      split <;> omega
    have key : ∀ r : Int, (r = 1 ∧ abP C V tw ta (ix C m)) ∨ (r = 0 ∧ ¬ abP C V tw ta (ix C m)) → r = b2i (thP C m ∧ abP C V tw ta (ix C m)) := by
      intro r z
      unfold b2i
      rcases z with ⟨a, b⟩ | ⟨a, b⟩
      · rw [if_pos ⟨y, b⟩]; exact a
      · rw [if_neg (fun c => b c.2)]; exact a
    refine ok_ck (by omega) ?_
    refine ok_if (fun q11 => ?_) (fun q11 => ?_)
    · refine ok_some ⟨key _ ?_, rfl⟩
      unfold abP bit
      grind
    · refine ok_if (fun q12 => ?_) (fun q12 => ?_)
      · refine ok_if (fun q13 => ?_) (fun q13 => ?_)
        · refine ok_some ⟨key _ ?_, rfl⟩
          unfold abP bit
          grind
        · refine s_X12_isAboard_1 (by first | omega | decide) ?_
          unfold b_X12_isAboard_1
          refine ok_if (fun q14 => ?_) (fun q14 => ?_)
          · refine s_X12_isAboard_2 (by first | omega | decide) ?_
            unfold b_X12_isAboard_2
            refine ok_ck (by omega) ?_
            refine ok_ck (by omega) ?_
            refine ok_if (fun q15 => ?_) (fun q15 => ?_)
            · refine ok_some ⟨key _ ?_, rfl⟩
              unfold abP bit
              grind
            · refine ok_ck (by omega) ?_
              refine ok_ck (by omega) ?_
              refine ok_if (fun q16 => ?_) (fun q16 => ?_)
              · refine ok_some ⟨key _ ?_, rfl⟩
                unfold abP bit
                grind
              · refine ok_ck (by omega) ?_
                refine ok_ck (by omega) ?_
                refine ok_ck (by omega) ?_
                refine ok_if (fun q17 => ?_) (fun q17 => ?_)
                · refine ok_some ⟨key _ ?_, rfl⟩
                  unfold abP bit
                  grind
                · refine ok_some ⟨key _ ?_, rfl⟩
                  unfold abP bit
                  grind
          · refine ok_ck (by omega) ?_
            refine ok_ck (by omega) ?_
            refine ok_if (fun q18 => ?_) (fun q18 => ?_)
            · refine ok_some ⟨key _ ?_, rfl⟩
              unfold abP bit
              grind
            · refine s_X12_isAboard_2 (by first | omega | decide) ?_
              unfold b_X12_isAboard_2
              refine ok_ck (by omega) ?_
              refine ok_ck (by omega) ?_
              refine ok_if (fun q19 => ?_) (fun q19 => ?_)
              · refine ok_some ⟨key _ ?_, rfl⟩
                unfold abP bit
                grind
              · refine ok_ck (by omega) ?_
                refine ok_ck (by omega) ?_
                refine ok_if (fun q20 => ?_) (fun q20 => ?_)
                · refine ok_some ⟨key _ ?_, rfl⟩
                  unfold abP bit
                  grind
                · refine ok_ck (by omega) ?_
                  refine ok_ck (by omega) ?_
                  refine ok_ck (by omega) ?_
                  refine ok_if (fun q21 => ?_) (fun q21 => ?_)
                  · refine ok_some ⟨key _ ?_, rfl⟩
                    unfold abP bit
                    grind
                  · refine ok_some ⟨key _ ?_, rfl⟩
                    unfold abP bit
                    grind
      · refine s_X12_isAboard_1 (by first | omega | decide) ?_
        unfold b_X12_isAboard_1
        refine ok_if (fun q22 => ?_) (fun q22 => ?_)
        · refine s_X12_isAboard_2 (by first | omega | decide) ?_
          unfold b_X12_isAboard_2
          refine ok_ck (by omega) ?_
          refine ok_ck (by omega) ?_
          refine ok_if (fun q23 => ?_) (fun q23 => ?_)
          · refine ok_some ⟨key _ ?_, rfl⟩
            unfold abP bit
            grind
          · refine ok_ck (by omega) ?_
            refine ok_ck (by omega) ?_
            refine ok_if (fun q24 => ?_) (fun q24 => ?_)
            · refine ok_some ⟨key _ ?_, rfl⟩
              unfold abP bit
              grind
            · refine ok_ck (by omega) ?_
              refine ok_ck (by omega) ?_
              refine ok_ck (by omega) ?_
              refine ok_if (fun q25 => ?_) (fun q25 => ?_)
              · refine ok_some ⟨key _ ?_, rfl⟩
                unfold abP bit
                grind
              · refine ok_some ⟨key _ ?_, rfl⟩
                unfold abP bit
                grind
        · refine ok_ck (by omega) ?_
          refine ok_ck (by omega) ?_
          refine ok_if (fun q26 => ?_) (fun q26 => ?_)
          · refine ok_some ⟨key _ ?_, rfl⟩
            unfold abP bit
            grind
          · refine s_X12_isAboard_2 (by first | omega | decide) ?_
            unfold b_X12_isAboard_2
            refine ok_ck (by omega) ?_
            refine ok_ck (by omega) ?_
            refine ok_if (fun q27 => ?_) (fun q27 => ?_)
            · refine ok_some ⟨key _ ?_, rfl⟩
              unfold abP bit
              grind
            · refine ok_ck (by omega) ?_
              refine ok_ck (by omega) ?_
              refine ok_if (fun q28 => ?_) (fun q28 => ?_)
              · refine ok_some ⟨key _ ?_, rfl⟩
                unfold abP bit
                grind
              · refine ok_ck (by omega) ?_
                refine ok_ck (by omega) ?_
                refine ok_ck (by omega) ?_
                refine ok_if (fun q29 => ?_) (fun q29 => ?_)
                · refine ok_some ⟨key _ ?_, rfl⟩
                  unfold abP bit
                  grind
                · refine ok_some ⟨key _ ?_, rfl⟩
                  unfold abP bit
                  grind
theorem p_X12_platesOf (q : isR h C) (w : CW C) (hs : isS C h s V) (vw : VW C V) (ht : isT C h tw ta) (s1 : 0 ≤ s) (s2 : s < 23) (m1 : 0 ≤ m) (m2 : m < 9) (m3 : thP C m) : f_X12_platesOf s m h = some (poF C V tw (ix C m), h) := by
  obtain ⟨i1, i2, i3⟩ := ix_r w m1 m3
  obtain ⟨t1, t2⟩ := ht
  obtain ⟨-, n2, -, -, n5, -, -, -⟩ := ir_m q _ i1 i2
  have v0 := is_0 hs
  have vm := vw_m vw
  rw [i3] at n2 n5
  have n6 := n5 (V 0 0) vm.1
  refine ok_eq.mp ?_
  refine fuv_X12_platesOf (fun nFU hFU => ?_)
  unfold poF
  refine s_X12_platesOf_0 (by first | omega | decide) ?_
  unfold b_X12_platesOf_0
  refine ok_if (fun q1 => ?_) (fun q1 => ?_)
  · refine s_X12_platesOf_1 (by first | omega | decide) ?_
    unfold b_X12_platesOf_1
    refine ok_ck (by omega) ?_
    exact ok_some ⟨by grind, rfl⟩
  · refine ok_ck (by omega) ?_
    refine ok_ck (by omega) ?_
    refine ok_if (fun q2 => ?_) (fun q2 => ?_)
    · refine s_X12_platesOf_1 (by first | omega | decide) ?_
      unfold b_X12_platesOf_1
      refine ok_ck (by omega) ?_
      exact ok_some ⟨by grind, rfl⟩
    · refine ok_ck (by omega) ?_
      refine ok_ck (by omega) ?_
      refine ok_if (fun q3 => ?_) (fun q3 => ?_)
      · refine s_X12_platesOf_1 (by first | omega | decide) ?_
        unfold b_X12_platesOf_1
        refine ok_ck (by omega) ?_
        exact ok_some ⟨by grind, rfl⟩
      · exact ok_some ⟨by grind, rfl⟩
theorem p_X12_windOf (q : isR h C) (w : CW C) (i1 : 0 ≤ i) : f_X12_windOf i h = some (wnF C i, h) := by
  have e6 := ir_6 q
  have n := cw_N w
  have m1 := Int.emod_nonneg i (b := C 10 0)
  have m2 := Int.emod_lt_of_pos i (b := C 10 0)
  have e7 := ir_w q (i % C 10 0)
  refine ok_eq.mp ?_
  refine fuv_X12_windOf (fun nFU hFU => ?_)
  refine s_X12_windOf_0 (by first | omega | decide) ?_
  unfold b_X12_windOf_0 wnF
  rw [e6]
  refine ok_ck (by omega) (ok_if (fun y => ok_some ⟨by rw [if_pos y], rfl⟩) (fun y => ok_ck (by omega) (ok_ck (by omega) (ok_ck ?_ (ok_some ⟨?_, rfl⟩)))))
  · have := m1 y; have := m2 (by omega); omega
  · rw [if_neg y]; exact e7 (m1 y) (m2 (by omega))
end
