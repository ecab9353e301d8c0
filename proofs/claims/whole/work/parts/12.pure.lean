/-! PURE: stretches of cells that are filled -/
abbrev b2i (p : Prop) [Decidable p] : Int := if p then 1 else 0
theorem b2i_0 {p : Prop} [Decidable p] : b2i p = 0 ↔ ¬ p := by unfold b2i; split <;> simp_all
theorem b2i_n {p : Prop} [Decidable p] : ¬ b2i p = 0 ↔ p := by unfold b2i; split <;> simp_all
theorem b2i_ok {p : Prop} [Decidable p] : 0 ≤ b2i p ∧ b2i p < 2 := by unfold b2i; split <;> decide
theorem hp_ext {h h2 : Hp} (e1 : ∀ r i k, gI h r i k = gI h2 r i k) (e2 : h.2 = h2.2) : h = h2 := by
  obtain ⟨f, g⟩ := h
  obtain ⟨f2, g2⟩ := h2
  have e3 : f = f2 := by funext r i k; exact e1 r i k
  subst e3
  cases e2
  rfl
/-- the places a .. b (b not) of the cell r, i hold g -/
def fl (h : Hp) (r : Nat) (i a b : Int) (g : Int → Int) : Hp := (fun r' i' k' => if r' = r ∧ i' = i ∧ a ≤ k' ∧ k' < b then g k' else h.1 r' i' k', h.2)
theorem gI_fl {h : Hp} {r r' : Nat} {i i' a b k : Int} {g : Int → Int} : gI (fl h r i a b g) r' i' k = if r' = r ∧ i' = i ∧ a ≤ k ∧ k < b then g k else gI h r' i' k := rfl
theorem gI_fl_nr {h : Hp} {r r' : Nat} {i i' a b k : Int} {g : Int → Int} (e : r' ≠ r) : gI (fl h r i a b g) r' i' k = gI h r' i' k := by rw [gI_fl, if_neg (fun q => e q.1)]
theorem gI_fl_ni {h : Hp} {r r' : Nat} {i i' a b k : Int} {g : Int → Int} (e : i' ≠ i) : gI (fl h r i a b g) r' i' k = gI h r' i' k := by rw [gI_fl, if_neg (fun q => e q.2.1)]
theorem gI_fl_in {h : Hp} {r : Nat} {i a b k : Int} {g : Int → Int} (e : a ≤ k ∧ k < b) : gI (fl h r i a b g) r i k = g k := by rw [gI_fl, if_pos ⟨rfl, rfl, e⟩]
theorem gI_fl_out {h : Hp} {r r' : Nat} {i i' a b k : Int} {g : Int → Int} (e : k < a ∨ b ≤ k) : gI (fl h r i a b g) r' i' k = gI h r' i' k := by rw [gI_fl, if_neg (fun q => by omega)]
theorem gR_fl {h : Hp} {r r' : Nat} {i i' a b k : Int} {g : Int → Int} : gR (fl h r i a b g) r' i' k = gR h r' i' k := rfl
theorem fl_0 {h : Hp} {r : Nat} {i a b : Int} {g : Int → Int} (e : b ≤ a) : fl h r i a b g = h := hp_ext (fun r' i' k => gI_fl_out (by omega)) rfl
theorem fl_s {h : Hp} {r : Nat} {i a b v c : Int} {g : Int → Int} (e : a ≤ b) (hv : g b = v) (hc : b + 1 = c) : sI (fl h r i a b g) r i b v = fl h r i a c g := by
  subst hv
  subst hc
  refine hp_ext (fun r' i' k => ?_) rfl
  rw [gI_sI, gI_fl, gI_fl]
  by_cases q : r' = r ∧ i' = i ∧ k = b
  · obtain ⟨q1, q2, q3⟩ := q
    subst q3
    rw [if_pos ⟨q1, q2, rfl⟩, if_pos ⟨q1, q2, e, by omega⟩]
  · rw [if_neg q]
    by_cases q2 : r' = r ∧ i' = i ∧ a ≤ k ∧ k < b
    · rw [if_pos q2, if_pos ⟨q2.1, q2.2.1, q2.2.2.1, by omega⟩]
    · rw [if_neg q2, if_neg (fun z => q2 ⟨z.1, z.2.1, z.2.2.1, by have := fun w => q ⟨z.1, z.2.1, w⟩; omega⟩)]
theorem fl_c {h : Hp} {r : Nat} {i a b : Int} {g g2 : Int → Int} (e : ∀ k, a ≤ k → k < b → g k = g2 k) : fl h r i a b g = fl h r i a b g2 := by
  refine hp_ext (fun r' i' k => ?_) rfl
  rw [gI_fl, gI_fl]
  by_cases q : r' = r ∧ i' = i ∧ a ≤ k ∧ k < b
  · rw [if_pos q, if_pos q, e k q.2.2.1 q.2.2.2]
  · rw [if_neg q, if_neg q]
theorem sI_same {h : Hp} {r : Nat} {i k v : Int} (e : gI h r i k = v) : sI h r i k v = h := by
  subst e
  refine hp_ext (fun r' i' k' => ?_) rfl
  rw [gI_sI]
  split
  · rename_i q; rw [q.1, q.2.1, q.2.2]
  · rfl
theorem sI_twice {h : Hp} {r : Nat} {i k v v2 : Int} : sI (sI h r i k v) r i k v2 = sI h r i k v2 := by
  refine hp_ext (fun r' i' k' => ?_) rfl
  rw [gI_sI, gI_sI, gI_sI]
  split <;> rfl
theorem sI_swap {h : Hp} {r r2 : Nat} {i k v i2 k2 v2 : Int} (e : ¬ (r2 = r ∧ i2 = i ∧ k2 = k)) : sI (sI h r i k v) r2 i2 k2 v2 = sI (sI h r2 i2 k2 v2) r i k v := by
  refine hp_ext (fun r' i' k' => ?_) rfl
  rw [gI_sI, gI_sI, gI_sI, gI_sI]
  by_cases q1 : r' = r2 ∧ i' = i2 ∧ k' = k2
  · rw [if_pos q1, if_pos q1, if_neg (fun z => e ⟨q1.1.symm.trans z.1, q1.2.1.symm.trans z.2.1, q1.2.2.symm.trans z.2.2⟩)]
  · rw [if_neg q1, if_neg q1]
theorem fl_sI {h : Hp} {r r2 : Nat} {i a b i2 k2 v2 : Int} {g : Int → Int} (e : ¬ (r2 = r ∧ i2 = i ∧ a ≤ k2 ∧ k2 < b)) : sI (fl h r i a b g) r2 i2 k2 v2 = fl (sI h r2 i2 k2 v2) r i a b g := by
  refine hp_ext (fun r' i' k' => ?_) rfl
  rw [gI_sI, gI_fl, gI_fl, gI_sI]
  by_cases q1 : r' = r2 ∧ i' = i2 ∧ k' = k2
  · rw [if_pos q1, if_pos q1, if_neg (fun z => e ⟨q1.1.symm.trans z.1, q1.2.1.symm.trans z.2.1, by rw [← q1.2.2]; exact z.2.2.1, by rw [← q1.2.2]; exact z.2.2.2⟩)]
  · rw [if_neg q1, if_neg q1]
