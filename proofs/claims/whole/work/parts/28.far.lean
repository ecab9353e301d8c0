/-! HOW FAR: ways by water -/
/-- a way of n steps from a to c, by water alone -/
def pth (st : Int → Int → Int) (wt : Int → Prop) : Nat → Int → Int → Prop
  | 0, a, c => a = c ∧ wt a
  | n + 1, a, c => ∃ b k : Int, pth st wt n a b ∧ 0 ≤ k ∧ k < 4 ∧ st b k = c ∧ wt c
def farV (st : Int → Int → Int) (wt : Int → Prop) (a c v : Int) : Prop := (v = 99 ∧ ∀ n, ¬ pth st wt n a c) ∨ (0 ≤ v ∧ v < 64 ∧ pth st wt v.toNat a c ∧ ∀ n : Nat, pth st wt n a c → v ≤ n)
section
variable {st : Int → Int → Int} {wt : Int → Prop} {a b c d v v2 : Int}
theorem farV_u (h1 : farV st wt a c v) (h2 : farV st wt a c v2) : v = v2 := by
  rcases h1 with ⟨a1, a2⟩ | ⟨a1, a2, a3, a4⟩ <;> rcases h2 with ⟨b1, b2⟩ | ⟨b1, b2, b3, b4⟩
  · omega
  · exact absurd b3 (a2 _)
  · exact absurd a3 (b2 _)
  · have e1 := a4 _ b3
    have e2 := b4 _ a3
    omega
theorem farV_r (h1 : farV st wt a c v) : 0 ≤ v ∧ v ≤ 99 ∧ (v = 99 ∨ v < 64) := by
  rcases h1 with ⟨a1, a2⟩ | ⟨a1, a2, a3, a4⟩ <;> omega
theorem pth_w : ∀ {n : Nat} {a c : Int}, pth st wt n a c → wt a ∧ wt c
  | 0, a, c, h => ⟨h.2, h.1 ▸ h.2⟩
  | n + 1, a, c, ⟨b, k, p, _, _, _, w⟩ => ⟨(pth_w p).1, w⟩
theorem pth_cons : ∀ {n : Nat} {a b c k : Int}, wt a → 0 ≤ k → k < 4 → st a k = b → wt b → pth st wt n b c → pth st wt (n + 1) a c
  | 0, a, b, c, k, wa, k1, k2, e, wb, p => ⟨a, k, ⟨rfl, wa⟩, k1, k2, by rw [e]; exact p.1, p.1 ▸ wb⟩
  | n + 1, a, b, c, k, wa, k1, k2, e, wb, ⟨d, j, p, j1, j2, e2, wc⟩ => ⟨d, j, pth_cons wa k1 k2 e wb p, j1, j2, e2, wc⟩
theorem pth_rev (sy : ∀ b k : Int, 0 ≤ k → k < 4 → wt b → wt (st b k) → ∃ j : Int, 0 ≤ j ∧ j < 4 ∧ st (st b k) j = b) : ∀ {n : Nat} {a c : Int}, pth st wt n a c → pth st wt n c a
  | 0, a, c, h => ⟨h.1.symm, h.1 ▸ h.2⟩
  | n + 1, a, c, ⟨b, k, p, k1, k2, e, w⟩ => by
    subst e
    obtain ⟨j, j1, j2, e2⟩ := sy b k k1 k2 (pth_w p).2 w
    exact pth_cons w j1 j2 e2 (pth_w p).2 (pth_rev sy p)
theorem farV_s (sy : ∀ b k : Int, 0 ≤ k → k < 4 → wt b → wt (st b k) → ∃ j : Int, 0 ≤ j ∧ j < 4 ∧ st (st b k) j = b) (h : farV st wt a c v) : farV st wt c a v := by
  rcases h with ⟨a1, a2⟩ | ⟨a1, a2, a3, a4⟩
  · exact Or.inl ⟨a1, fun n p => a2 n (pth_rev sy p)⟩
  · exact Or.inr ⟨a1, a2, pth_rev sy a3, fun n p => a4 n (pth_rev sy p)⟩
/-- a row that is 99 all over, from land -/
theorem farV_no (ha : ¬ wt a) : farV st wt a c 99 := Or.inl ⟨rfl, fun _ p => ha (pth_w p).1⟩
/-- labels: each but the first has one ahead of it that is one less -/
def lb2 (st : Int → Int → Int) (a : Int) (r : Int → Int) : Prop := ∀ c : Int, 0 ≤ c → c < 64 → r c ≠ 99 → c ≠ a → ∃ b k : Int, 0 ≤ b ∧ b < 64 ∧ r b ≠ 99 ∧ 0 ≤ k ∧ k < 4 ∧ st b k = c ∧ r c = r b + 1
/-- what lies beside b is labelled, and no further than one more -/
def lb3 (st : Int → Int → Int) (wt : Int → Prop) (r : Int → Int) (b : Int) : Prop := ∀ k : Int, 0 ≤ k → k < 4 → wt (st b k) → r (st b k) ≠ 99 ∧ r (st b k) ≤ r b + 1
def lb1 (wt : Int → Prop) (r : Int → Int) : Prop := ∀ c : Int, 0 ≤ c → c < 64 → r c = 99 ∨ (0 ≤ r c ∧ r c < 64 ∧ wt c)
theorem far_of {r : Int → Int} (hw : ∀ c, wt c → 0 ≤ c ∧ c < 64) (ha : wt a) (h0 : r a = 0) (h1 : lb1 wt r) (h2 : lb2 st a r) (h3 : ∀ b : Int, 0 ≤ b → b < 64 → r b ≠ 99 → lb3 st wt r b) : ∀ c : Int, 0 ≤ c → c < 64 → farV st wt a c (r c) := by
  have A : ∀ (n : Nat) (c : Int), pth st wt n a c → r c ≠ 99 ∧ r c ≤ n := by
    intro n
    induction n with
    | zero => intro c p; rw [← p.1, h0]; exact ⟨by omega, by omega⟩
    | succ n ih =>
      intro c p
      obtain ⟨b, k, p, k1, k2, e, w⟩ := p
      have q := ih b p
      have wb := hw b (pth_w p).2
      subst e
      have z := h3 b wb.1 wb.2 q.1 k k1 k2 w
      refine ⟨z.1, ?_⟩
      have := z.2
      omega
  have B : ∀ (m : Nat) (c : Int), 0 ≤ c → c < 64 → r c ≠ 99 → r c = (m : Int) → pth st wt m a c := by
    intro m
    induction m with
    | zero =>
      intro c c1 c2 c3 e
      by_cases q : c = a
      · subst q; exact ⟨rfl, ha⟩
      · obtain ⟨b, k, b1, b2, b3, -, -, -, e2⟩ := h2 c c1 c2 c3 q
        have := h1 b b1 b2
        omega
    | succ m ih =>
      intro c c1 c2 c3 e
      by_cases q : c = a
      · subst q; omega
      · obtain ⟨b, k, b1, b2, b3, k1, k2, e3, e2⟩ := h2 c c1 c2 c3 q
        have w : wt c := by
          rcases h1 c c1 c2 with z | z
          · exact absurd z c3
          · exact z.2.2
        exact ⟨b, k, ih b b1 b2 b3 (by omega), k1, k2, e3, w⟩
  intro c c1 c2
  by_cases q : r c = 99
  · exact Or.inl ⟨q, fun n p => (A n c p).1 q⟩
  · rcases h1 c c1 c2 with z | z
    · exact absurd z q
    · refine Or.inr ⟨z.1, z.2.1, B _ c c1 c2 q (by omega), fun n p => (A n c p).2⟩
end
/-- how many of the first n have no label -/
def us (r : Int → Int) : Nat → Int
  | 0 => 0
  | n + 1 => us r n + (if r n = 99 then 1 else 0)
theorem us_r {r : Int → Int} : ∀ n : Nat, 0 ≤ us r n ∧ us r n ≤ n
  | 0 => by simp [us]
  | n + 1 => by
    have := us_r (r := r) n
    unfold us
    split <;> omega
theorem us_c {r r2 : Int → Int} : ∀ n : Nat, (∀ c : Int, 0 ≤ c → c < n → r2 c = r c) → us r2 n = us r n
  | 0, _ => rfl
  | n + 1, h => by
    unfold us
    rw [us_c n (fun c c1 c2 => h c c1 (by omega)), h n (by omega) (by omega)]
theorem us_set {r r2 : Int → Int} {d : Int} (h1 : r d = 99) (h2 : r2 d ≠ 99) (h3 : ∀ c, c ≠ d → r2 c = r c) : ∀ n : Nat, 0 ≤ d → d < n → us r2 n + 1 = us r n
  | 0, a, b => by omega
  | n + 1, a, b => by
    unfold us
    by_cases q : d = n
    · subst q
      rw [if_neg h2, if_pos h1, us_c n (fun c c1 c2 => h3 c (by omega))]
      omega
    · rw [h3 n (fun z => q z.symm)]
      have := us_set h1 h2 h3 n a (by omega)
      omega
theorem us_pos {r : Int → Int} {d : Int} (h1 : r d = 99) : ∀ n : Nat, 0 ≤ d → d < n → 1 ≤ us r n
  | 0, a, b => by omega
  | n + 1, a, b => by
    unfold us
    by_cases q : d = n
    · subst q
      have := us_r (r := r) n
      rw [if_pos h1]; omega
    · have := us_pos h1 n a (by omega)
      split <;> omega
theorem us_99 {r : Int → Int} : ∀ n : Nat, (∀ c : Int, 0 ≤ c → c < n → r c = 99) → us r n = n
  | 0, _ => rfl
  | n + 1, h => by
    unfold us
    rw [us_99 n (fun c c1 c2 => h c c1 (by omega)), if_pos (h n (by omega) (by omega))]
    omega
/-- the steps of the sea -/
theorem stepF_r {W H c k : Int} (hb : 1 ≤ W ∧ W ≤ 8 ∧ 1 ≤ H ∧ H ≤ 8) (hc : cellP W H c) : stepF W H c k = -1 ∨ cellP W H (stepF W H c k) := by
  obtain ⟨c1, c2⟩ := hc
  have m1 := Int.emod_nonneg c (show W ≠ 0 by omega)
  have m2 := Int.emod_lt_of_pos c (show 0 < W by omega)
  unfold stepF
  rw [if_pos ⟨c1, c2⟩]
  have key : c % W + 1 < W → c + 1 < W * H := by
    intro q
    have e : W = 1 ∨ W = 2 ∨ W = 3 ∨ W = 4 ∨ W = 5 ∨ W = 6 ∨ W = 7 ∨ W = 8 := by omega
    rcases e with e | e | e | e | e | e | e | e <;> subst e <;> omega
  have key2 : 0 < c % W → 0 < c := by
    intro q
    by_cases z : c = 0
    · subst z; simp at q
    · omega
  split
  · split
    · exact Or.inr ⟨by omega, by omega⟩
    · exact Or.inl rfl
  · split
    · split
      · exact Or.inr ⟨by omega, by rename_i q; exact key q⟩
      · exact Or.inl rfl
    · split
      · split
        · exact Or.inr ⟨by omega, by omega⟩
        · exact Or.inl rfl
      · split
        · split
          · rename_i q; have := key2 q; exact Or.inr ⟨by omega, by omega⟩
          · exact Or.inl rfl
        · exact Or.inl rfl
theorem stepF_s {W H c k : Int} (hb : 1 ≤ W ∧ W ≤ 8 ∧ 1 ≤ H ∧ H ≤ 8) (hc : cellP W H c) (k1 : 0 ≤ k) (k2 : k < 4) (hd : cellP W H (stepF W H c k)) : ∃ j : Int, 0 ≤ j ∧ j < 4 ∧ stepF W H (stepF W H c k) j = c := by
  have m1 := Int.emod_nonneg c (show W ≠ 0 by omega)
  have m2 := Int.emod_lt_of_pos c (show 0 < W by omega)
  have e0 : k = 0 ∨ k = 1 ∨ k = 2 ∨ k = 3 := by omega
  have eW : W = 1 ∨ W = 2 ∨ W = 3 ∨ W = 4 ∨ W = 5 ∨ W = 6 ∨ W = 7 ∨ W = 8 := by omega
  have nn : ¬ cellP W H (-1) := fun q => by have := q.1; omega
  rcases e0 with e | e | e | e <;> subst e
  · have s : stepF W H c 0 = if W ≤ c then c - W else -1 := by simp [stepF, hc]
    by_cases q : W ≤ c
    · rw [s, if_pos q] at hd ⊢
      refine ⟨2, by omega, by omega, ?_⟩
      unfold stepF
      rw [if_pos hd, if_neg (by omega), if_neg (by omega), if_pos rfl, if_pos (by have := hc.2; omega)]
      omega
    · rw [s, if_neg q] at hd; exact absurd hd nn
  · have s : stepF W H c 1 = if c % W + 1 < W then c + 1 else -1 := by simp [stepF, hc]
    by_cases q : c % W + 1 < W
    · rw [s, if_pos q] at hd ⊢
      refine ⟨3, by omega, by omega, ?_⟩
      unfold stepF
      rw [if_pos hd, if_neg (by omega), if_neg (by omega), if_neg (by omega), if_pos rfl, if_pos (by rcases eW with e | e | e | e | e | e | e | e <;> subst e <;> omega)]
      omega
    · rw [s, if_neg q] at hd; exact absurd hd nn
  · have s : stepF W H c 2 = if c + W < W * H then c + W else -1 := by simp [stepF, hc]
    by_cases q : c + W < W * H
    · rw [s, if_pos q] at hd ⊢
      refine ⟨0, by omega, by omega, ?_⟩
      unfold stepF
      rw [if_pos hd, if_pos rfl, if_pos (by have := hc.1; omega)]
      omega
    · rw [s, if_neg q] at hd; exact absurd hd nn
  · have s : stepF W H c 3 = if 0 < c % W then c - 1 else -1 := by simp [stepF, hc]
    by_cases q : 0 < c % W
    · rw [s, if_pos q] at hd ⊢
      refine ⟨1, by omega, by omega, ?_⟩
      unfold stepF
      rw [if_pos hd, if_neg (by omega), if_pos rfl, if_pos (by rcases eW with e | e | e | e | e | e | e | e <;> subst e <;> omega)]
      omega
    · rw [s, if_neg q] at hd; exact absurd hd nn
