/-! THE PICTURE: a chart C and a voyage V, as functions of field and place, against which both sides are held.
C: 0 wide 1 high 2 land 3 start 4 bahia 5 isles 6 their names 7 cells 8 reaches 9 goats 10 winds 11 wind 12 gales 13 meal 14 course 15 plates 16 storm 17 its plates 18 soup 19 seed 20 mouths 21 mays 22 name 23 plates 24 odds 25 from 26 till 27 sick from 28 sick to 29 loses 30 code from 31 code to 32 knots 33 kind 34 value 35 how far from bahia 36 from isles (64 each).
V: 0 meal 1 cell 2 soup 3 number 4 fed 5 may 6 leapt 7 arrived 8 lost. -/
abbrev Ch : Type := Nat → Int → Int
abbrev bit (x i : Int) : Int := band (bshr x i) 1
abbrev sz (C : Ch) : Int := C 20 0 + C 21 0
abbrev stC (C : Ch) : Int → Int → Int := stepF (C 0 0) (C 1 0)
abbrev wtC (C : Ch) (x : Int) : Prop := cellP (C 0 0) (C 1 0) x ∧ C 2 x = 0
/-- how deep the stack is behind n knots, if it never falls short -/
def vd (C : Ch) : Nat → Int → Nat → Option Nat
  | 0, _, d => some d
  | n + 1, k, d => if C 33 k = 0 ∨ C 33 k = 1 then vd C n (k + 1) (d + 1) else if C 33 k = 4 then (if 1 ≤ d then vd C n (k + 1) d else none) else if 2 ≤ d then vd C n (k + 1) (d - 1) else none
def CW (C : Ch) : Prop :=
  (1 ≤ C 0 0 ∧ C 0 0 ≤ 8 ∧ 1 ≤ C 1 0 ∧ C 1 0 ≤ 8) ∧
  (∀ x, 0 ≤ x → x < 64 → C 2 x = 0 ∨ C 2 x = 1) ∧
  (cellP (C 0 0) (C 1 0) (C 3 0)) ∧
  (cellP (C 0 0) (C 1 0) (C 4 0)) ∧
  (0 ≤ C 5 0 ∧ C 5 0 ≤ 3) ∧
  (∀ i, 0 ≤ i → i < C 5 0 → wtC C (C 7 i) ∧ 0 ≤ C 8 i ∧ C 8 i ≤ 9 ∧ 1 ≤ C 9 i ∧ C 9 i ≤ 9) ∧
  (0 ≤ C 10 0 ∧ C 10 0 ≤ 8) ∧
  (∀ k, 0 ≤ k → k < C 10 0 → 0 ≤ C 11 k ∧ C 11 k < 4) ∧
  (0 ≤ C 12 0 ∧ C 12 0 ≤ 4) ∧
  (∀ k, 0 ≤ k → k < C 12 0 → 0 ≤ C 14 k ∧ C 14 k < 4 ∧ 1 ≤ C 15 k ∧ C 15 k ≤ 99) ∧
  (0 ≤ C 16 0 ∧ C 16 0 ≤ 99 ∧ 1 ≤ C 17 0 ∧ C 17 0 ≤ 99 ∧ 0 ≤ C 18 0 ∧ C 18 0 ≤ 9999 ∧ 0 ≤ C 19 0 ∧ C 19 0 ≤ 99999) ∧
  (0 ≤ C 20 0 ∧ C 20 0 ≤ 5 ∧ 0 ≤ C 21 0 ∧ C 21 0 ≤ 4) ∧
  (∀ i, 0 ≤ i → i < sz C → 0 ≤ C 23 i ∧ C 23 i ≤ 9 ∧ 0 ≤ C 25 i ∧ C 26 i ≤ 59 ∧ -1 ≤ C 28 i ∧ C 28 i ≤ 59 ∧ 1 ≤ C 29 i ∧ C 29 i ≤ 99 ∧ 0 ≤ C 30 i ∧ C 30 i ≤ C 31 i ∧ C 31 i ≤ C 32 0) ∧
  (∀ i, 0 ≤ i → i < sz C → vd C (C 31 i - C 30 i).toNat (C 30 i) 0 = some 1) ∧
  (∀ i, C 20 0 ≤ i → i < sz C → 1 ≤ C 24 i ∧ C 24 i ≤ 99) ∧
  (0 ≤ C 32 0 ∧ C 32 0 ≤ 64) ∧
  (∀ k, 0 ≤ k → k < C 32 0 → 0 ≤ C 33 k ∧ C 33 k ≤ 14 ∧ (C 33 k = 0 → 0 ≤ C 34 k ∧ C 34 k ≤ 9999) ∧ (C 33 k = 1 → 0 ≤ C 34 k ∧ C 34 k < 7)) ∧
  (∀ x, 0 ≤ x → x < 64 → farV (stC C) (wtC C) (C 4 0) x (C 35 x)) ∧
  (∀ i x, 0 ≤ i → i < C 5 0 → 0 ≤ x → x < 64 → farV (stC C) (wtC C) (C 7 i) x (C 36 (64 * i + x)))
theorem cw_W {C : Ch} (q : CW C) : 1 ≤ C 0 0 ∧ C 0 0 ≤ 8 ∧ 1 ≤ C 1 0 ∧ C 1 0 ≤ 8 := q.1
theorem cw_L {C : Ch} (q : CW C) : ∀ x, 0 ≤ x → x < 64 → C 2 x = 0 ∨ C 2 x = 1 := q.2.1
theorem cw_S {C : Ch} (q : CW C) : cellP (C 0 0) (C 1 0) (C 3 0) := q.2.2.1
theorem cw_B {C : Ch} (q : CW C) : cellP (C 0 0) (C 1 0) (C 4 0) := q.2.2.2.1
theorem cw_I {C : Ch} (q : CW C) : 0 ≤ C 5 0 ∧ C 5 0 ≤ 3 := q.2.2.2.2.1
theorem cw_i {C : Ch} (q : CW C) : ∀ i, 0 ≤ i → i < C 5 0 → wtC C (C 7 i) ∧ 0 ≤ C 8 i ∧ C 8 i ≤ 9 ∧ 1 ≤ C 9 i ∧ C 9 i ≤ 9 := q.2.2.2.2.2.1
theorem cw_N {C : Ch} (q : CW C) : 0 ≤ C 10 0 ∧ C 10 0 ≤ 8 := q.2.2.2.2.2.2.1
theorem cw_n {C : Ch} (q : CW C) : ∀ k, 0 ≤ k → k < C 10 0 → 0 ≤ C 11 k ∧ C 11 k < 4 := q.2.2.2.2.2.2.2.1
theorem cw_G {C : Ch} (q : CW C) : 0 ≤ C 12 0 ∧ C 12 0 ≤ 4 := q.2.2.2.2.2.2.2.2.1
theorem cw_g {C : Ch} (q : CW C) : ∀ k, 0 ≤ k → k < C 12 0 → 0 ≤ C 14 k ∧ C 14 k < 4 ∧ 1 ≤ C 15 k ∧ C 15 k ≤ 99 := q.2.2.2.2.2.2.2.2.2.1
theorem cw_T {C : Ch} (q : CW C) : 0 ≤ C 16 0 ∧ C 16 0 ≤ 99 ∧ 1 ≤ C 17 0 ∧ C 17 0 ≤ 99 ∧ 0 ≤ C 18 0 ∧ C 18 0 ≤ 9999 ∧ 0 ≤ C 19 0 ∧ C 19 0 ≤ 99999 := q.2.2.2.2.2.2.2.2.2.2.1
theorem cw_M {C : Ch} (q : CW C) : 0 ≤ C 20 0 ∧ C 20 0 ≤ 5 ∧ 0 ≤ C 21 0 ∧ C 21 0 ≤ 4 := q.2.2.2.2.2.2.2.2.2.2.2.1
theorem cw_m {C : Ch} (q : CW C) : ∀ i, 0 ≤ i → i < sz C → 0 ≤ C 23 i ∧ C 23 i ≤ 9 ∧ 0 ≤ C 25 i ∧ C 26 i ≤ 59 ∧ -1 ≤ C 28 i ∧ C 28 i ≤ 59 ∧ 1 ≤ C 29 i ∧ C 29 i ≤ 99 ∧ 0 ≤ C 30 i ∧ C 30 i ≤ C 31 i ∧ C 31 i ≤ C 32 0 := q.2.2.2.2.2.2.2.2.2.2.2.2.1
theorem cw_v {C : Ch} (q : CW C) : ∀ i, 0 ≤ i → i < sz C → vd C (C 31 i - C 30 i).toNat (C 30 i) 0 = some 1 := q.2.2.2.2.2.2.2.2.2.2.2.2.2.1
theorem cw_O {C : Ch} (q : CW C) : ∀ i, C 20 0 ≤ i → i < sz C → 1 ≤ C 24 i ∧ C 24 i ≤ 99 := q.2.2.2.2.2.2.2.2.2.2.2.2.2.2.1
theorem cw_K {C : Ch} (q : CW C) : 0 ≤ C 32 0 ∧ C 32 0 ≤ 64 := q.2.2.2.2.2.2.2.2.2.2.2.2.2.2.2.1
theorem cw_k {C : Ch} (q : CW C) : ∀ k, 0 ≤ k → k < C 32 0 → 0 ≤ C 33 k ∧ C 33 k ≤ 14 ∧ (C 33 k = 0 → 0 ≤ C 34 k ∧ C 34 k ≤ 9999) ∧ (C 33 k = 1 → 0 ≤ C 34 k ∧ C 34 k < 7) := q.2.2.2.2.2.2.2.2.2.2.2.2.2.2.2.2.1
theorem cw_F {C : Ch} (q : CW C) : ∀ x, 0 ≤ x → x < 64 → farV (stC C) (wtC C) (C 4 0) x (C 35 x) := q.2.2.2.2.2.2.2.2.2.2.2.2.2.2.2.2.2.1
theorem cw_f {C : Ch} (q : CW C) : ∀ i x, 0 ≤ i → i < C 5 0 → 0 ≤ x → x < 64 → farV (stC C) (wtC C) (C 7 i) x (C 36 (64 * i + x)) := q.2.2.2.2.2.2.2.2.2.2.2.2.2.2.2.2.2.2
def isC (h : Hp) (c : Int) (C : Ch) : Prop :=
  (gI h 9 c 0 = C 0 0) ∧
  (gI h 9 c 1 = C 1 0) ∧
  (∀ x, 0 ≤ x → x < 64 → (lbit (gI h 9 c 2) x ↔ C 2 x = 1)) ∧
  (gI h 9 c 4 = C 3 0) ∧
  (gI h 9 c 5 = C 4 0) ∧
  (gI h 9 c 6 = C 5 0) ∧
  (∀ i, 0 ≤ i → i < C 5 0 → gI h 51 c i = C 6 i ∧ gI h 52 c i = C 7 i ∧ gI h 53 c i = C 8 i ∧ gI h 54 c i = C 9 i) ∧
  (gI h 0 c 6 = C 10 0) ∧
  (∀ k, 0 ≤ k → k < C 10 0 → gI h 21 c k = C 11 k) ∧
  (gI h 0 c 10 = C 12 0) ∧
  (∀ k, 0 ≤ k → k < C 12 0 → gI h 22 c k = C 13 k ∧ gI h 23 c k = C 14 k ∧ gI h 24 c k = C 15 k) ∧
  (gI h 0 c 11 = C 16 0) ∧
  (gI h 0 c 12 = C 17 0) ∧
  (gI h 0 c 13 = C 18 0) ∧
  (gI h 0 c 14 = C 19 0) ∧
  (gI h 0 c 3 = C 20 0) ∧
  (gI h 0 c 4 = C 21 0) ∧
  (∀ i, 0 ≤ i → i < sz C → ∃ m, gR h 20 c i = some (4, m) ∧ gI h 4 m 0 = C 22 i ∧ gI h 4 m 1 = C 23 i ∧ gI h 4 m 2 = C 24 i ∧ gI h 4 m 3 = C 25 i ∧ gI h 4 m 4 = C 26 i ∧ gI h 4 m 5 = C 27 i ∧ gI h 4 m 6 = C 28 i ∧ gI h 4 m 7 = C 29 i ∧ gI h 4 m 8 = C 30 i ∧ gI h 4 m 9 = C 31 i) ∧
  (gI h 1 c 2 = C 32 0) ∧
  (∀ k, 0 ≤ k → k < C 32 0 → gI h 25 c k = C 33 k ∧ gI h 26 c k = C 34 k) ∧
  (∀ x, 0 ≤ x → x < 64 → gI h 55 c (192 + x) = C 35 x) ∧
  (∀ i x, 0 ≤ i → i < 3 → i < C 5 0 → 0 ≤ x → x < 64 → gI h 55 c (64 * i + x) = C 36 (64 * i + x))
theorem ic_0 {h : Hp} {c : Int} {C : Ch} (q : isC h c C) : gI h 9 c 0 = C 0 0 := q.1
theorem ic_1 {h : Hp} {c : Int} {C : Ch} (q : isC h c C) : gI h 9 c 1 = C 1 0 := q.2.1
theorem ic_2 {h : Hp} {c : Int} {C : Ch} (q : isC h c C) : ∀ x, 0 ≤ x → x < 64 → (lbit (gI h 9 c 2) x ↔ C 2 x = 1) := q.2.2.1
theorem ic_3 {h : Hp} {c : Int} {C : Ch} (q : isC h c C) : gI h 9 c 4 = C 3 0 := q.2.2.2.1
theorem ic_4 {h : Hp} {c : Int} {C : Ch} (q : isC h c C) : gI h 9 c 5 = C 4 0 := q.2.2.2.2.1
theorem ic_5 {h : Hp} {c : Int} {C : Ch} (q : isC h c C) : gI h 9 c 6 = C 5 0 := q.2.2.2.2.2.1
theorem ic_6 {h : Hp} {c : Int} {C : Ch} (q : isC h c C) : ∀ i, 0 ≤ i → i < C 5 0 → gI h 51 c i = C 6 i ∧ gI h 52 c i = C 7 i ∧ gI h 53 c i = C 8 i ∧ gI h 54 c i = C 9 i := q.2.2.2.2.2.2.1
theorem ic_10 {h : Hp} {c : Int} {C : Ch} (q : isC h c C) : gI h 0 c 6 = C 10 0 := q.2.2.2.2.2.2.2.1
theorem ic_11 {h : Hp} {c : Int} {C : Ch} (q : isC h c C) : ∀ k, 0 ≤ k → k < C 10 0 → gI h 21 c k = C 11 k := q.2.2.2.2.2.2.2.2.1
theorem ic_12 {h : Hp} {c : Int} {C : Ch} (q : isC h c C) : gI h 0 c 10 = C 12 0 := q.2.2.2.2.2.2.2.2.2.1
theorem ic_13 {h : Hp} {c : Int} {C : Ch} (q : isC h c C) : ∀ k, 0 ≤ k → k < C 12 0 → gI h 22 c k = C 13 k ∧ gI h 23 c k = C 14 k ∧ gI h 24 c k = C 15 k := q.2.2.2.2.2.2.2.2.2.2.1
theorem ic_16 {h : Hp} {c : Int} {C : Ch} (q : isC h c C) : gI h 0 c 11 = C 16 0 := q.2.2.2.2.2.2.2.2.2.2.2.1
theorem ic_17 {h : Hp} {c : Int} {C : Ch} (q : isC h c C) : gI h 0 c 12 = C 17 0 := q.2.2.2.2.2.2.2.2.2.2.2.2.1
theorem ic_18 {h : Hp} {c : Int} {C : Ch} (q : isC h c C) : gI h 0 c 13 = C 18 0 := q.2.2.2.2.2.2.2.2.2.2.2.2.2.1
theorem ic_19 {h : Hp} {c : Int} {C : Ch} (q : isC h c C) : gI h 0 c 14 = C 19 0 := q.2.2.2.2.2.2.2.2.2.2.2.2.2.2.1
theorem ic_20 {h : Hp} {c : Int} {C : Ch} (q : isC h c C) : gI h 0 c 3 = C 20 0 := q.2.2.2.2.2.2.2.2.2.2.2.2.2.2.2.1
theorem ic_21 {h : Hp} {c : Int} {C : Ch} (q : isC h c C) : gI h 0 c 4 = C 21 0 := q.2.2.2.2.2.2.2.2.2.2.2.2.2.2.2.2.1
theorem ic_22 {h : Hp} {c : Int} {C : Ch} (q : isC h c C) : ∀ i, 0 ≤ i → i < sz C → ∃ m, gR h 20 c i = some (4, m) ∧ gI h 4 m 0 = C 22 i ∧ gI h 4 m 1 = C 23 i ∧ gI h 4 m 2 = C 24 i ∧ gI h 4 m 3 = C 25 i ∧ gI h 4 m 4 = C 26 i ∧ gI h 4 m 5 = C 27 i ∧ gI h 4 m 6 = C 28 i ∧ gI h 4 m 7 = C 29 i ∧ gI h 4 m 8 = C 30 i ∧ gI h 4 m 9 = C 31 i := q.2.2.2.2.2.2.2.2.2.2.2.2.2.2.2.2.2.1
theorem ic_32 {h : Hp} {c : Int} {C : Ch} (q : isC h c C) : gI h 1 c 2 = C 32 0 := q.2.2.2.2.2.2.2.2.2.2.2.2.2.2.2.2.2.2.1
theorem ic_33 {h : Hp} {c : Int} {C : Ch} (q : isC h c C) : ∀ k, 0 ≤ k → k < C 32 0 → gI h 25 c k = C 33 k ∧ gI h 26 c k = C 34 k := q.2.2.2.2.2.2.2.2.2.2.2.2.2.2.2.2.2.2.2.1
theorem ic_35 {h : Hp} {c : Int} {C : Ch} (q : isC h c C) : ∀ x, 0 ≤ x → x < 64 → gI h 55 c (192 + x) = C 35 x := q.2.2.2.2.2.2.2.2.2.2.2.2.2.2.2.2.2.2.2.2.1
theorem ic_36 {h : Hp} {c : Int} {C : Ch} (q : isC h c C) : ∀ i x, 0 ≤ i → i < 3 → i < C 5 0 → 0 ≤ x → x < 64 → gI h 55 c (64 * i + x) = C 36 (64 * i + x) := q.2.2.2.2.2.2.2.2.2.2.2.2.2.2.2.2.2.2.2.2.2
/-- where a chart of the class lies -/
def inC (r : Nat) (k : Int) : Prop := r = 0 ∨ r = 1 ∨ r = 4 ∨ r = 9 ∨ r = 21 ∨ r = 22 ∨ r = 23 ∨ r = 24 ∨ r = 25 ∨ r = 26 ∨ r = 51 ∨ r = 52 ∨ r = 53 ∨ r = 54 ∨ (r = 55 ∧ k < 256)
theorem gR_2 {h h2 : Hp} (e : h2.2 = h.2) {r : Nat} {i k : Int} : gR h2 r i k = gR h r i k := by unfold gR; rw [e]
theorem isC_eq {h h2 : Hp} {c : Int} {C : Ch} (e : ∀ (r : Nat) (i k : Int), inC r k → gI h2 r i k = gI h r i k) (e2 : h2.2 = h.2) (q : isC h c C) : isC h2 c C := by
  refine ⟨?_, ?_, ?_, ?_, ?_, ?_, ?_, ?_, ?_, ?_, ?_, ?_, ?_, ?_, ?_, ?_, ?_, ?_, ?_, ?_, ?_, ?_⟩
  · rw [e _ _ _ (by unfold inC; omega)]; exact ic_0 q
  · rw [e _ _ _ (by unfold inC; omega)]; exact ic_1 q
  · intro k k1 k2; rw [e 9 c _ (by unfold inC; omega)]; exact ic_2 q k k1 k2
  · rw [e _ _ _ (by unfold inC; omega)]; exact ic_3 q
  · rw [e _ _ _ (by unfold inC; omega)]; exact ic_4 q
  · rw [e _ _ _ (by unfold inC; omega)]; exact ic_5 q
  · intro k k1 k2; rw [e 51 c _ (by unfold inC; omega), e 52 c _ (by unfold inC; omega), e 53 c _ (by unfold inC; omega), e 54 c _ (by unfold inC; omega)]; exact ic_6 q k k1 k2
  · rw [e _ _ _ (by unfold inC; omega)]; exact ic_10 q
  · intro k k1 k2; rw [e 21 c _ (by unfold inC; omega)]; exact ic_11 q k k1 k2
  · rw [e _ _ _ (by unfold inC; omega)]; exact ic_12 q
  · intro k k1 k2; rw [e 22 c _ (by unfold inC; omega), e 23 c _ (by unfold inC; omega), e 24 c _ (by unfold inC; omega)]; exact ic_13 q k k1 k2
  · rw [e _ _ _ (by unfold inC; omega)]; exact ic_16 q
  · rw [e _ _ _ (by unfold inC; omega)]; exact ic_17 q
  · rw [e _ _ _ (by unfold inC; omega)]; exact ic_18 q
  · rw [e _ _ _ (by unfold inC; omega)]; exact ic_19 q
  · rw [e _ _ _ (by unfold inC; omega)]; exact ic_20 q
  · rw [e _ _ _ (by unfold inC; omega)]; exact ic_21 q
  · intro i i1 i2
    obtain ⟨m, z⟩ := ic_22 q i i1 i2
    refine ⟨m, ?_⟩
    rw [gR_2 e2, e 4 m 0 (by unfold inC; omega), e 4 m 1 (by unfold inC; omega), e 4 m 2 (by unfold inC; omega), e 4 m 3 (by unfold inC; omega), e 4 m 4 (by unfold inC; omega), e 4 m 5 (by unfold inC; omega), e 4 m 6 (by unfold inC; omega), e 4 m 7 (by unfold inC; omega), e 4 m 8 (by unfold inC; omega), e 4 m 9 (by unfold inC; omega)]
    exact z
  · rw [e _ _ _ (by unfold inC; omega)]; exact ic_32 q
  · intro k k1 k2; rw [e 25 c _ (by unfold inC; omega), e 26 c _ (by unfold inC; omega)]; exact ic_33 q k k1 k2
  · intro x; intros; rw [e 55 _ _ (by unfold inC; omega)]; exact ic_35 q _ (by assumption) (by assumption)
  · intro i x; intros; rw [e 55 _ _ (by unfold inC; omega)]; exact ic_36 q _ _ (by assumption) (by assumption) (by assumption) (by omega) (by omega)
def VW (C : Ch) (V : Ch) : Prop :=
  (0 ≤ V 0 0 ∧ V 0 0 ≤ 60) ∧
  (cellP (C 0 0) (C 1 0) (V 1 0)) ∧
  (0 ≤ V 2 0 ∧ V 2 0 ≤ 9999) ∧
  (0 ≤ V 5 0 ∧ V 5 0 < 16) ∧
  (∀ i, 0 ≤ i → i < sz C → V 6 i = 0 ∨ V 6 i = 1) ∧
  (-1 ≤ V 7 0 ∧ V 7 0 ≤ 60) ∧
  (∀ i, 0 ≤ i → i < sz C → 0 ≤ V 8 i ∧ V 8 i ≤ V 0 0)
theorem vw_m {C : Ch} {V : Ch} (q : VW C V) : 0 ≤ V 0 0 ∧ V 0 0 ≤ 60 := q.1
theorem vw_c {C : Ch} {V : Ch} (q : VW C V) : cellP (C 0 0) (C 1 0) (V 1 0) := q.2.1
theorem vw_s {C : Ch} {V : Ch} (q : VW C V) : 0 ≤ V 2 0 ∧ V 2 0 ≤ 9999 := q.2.2.1
theorem vw_y {C : Ch} {V : Ch} (q : VW C V) : 0 ≤ V 5 0 ∧ V 5 0 < 16 := q.2.2.2.1
theorem vw_l {C : Ch} {V : Ch} (q : VW C V) : ∀ i, 0 ≤ i → i < sz C → V 6 i = 0 ∨ V 6 i = 1 := q.2.2.2.2.1
theorem vw_a {C : Ch} {V : Ch} (q : VW C V) : -1 ≤ V 7 0 ∧ V 7 0 ≤ 60 := q.2.2.2.2.2.1
theorem vw_o {C : Ch} {V : Ch} (q : VW C V) : ∀ i, 0 ≤ i → i < sz C → 0 ≤ V 8 i ∧ V 8 i ≤ V 0 0 := q.2.2.2.2.2.2
def isV (C : Ch) (h : Hp) (v : Int) (V : Ch) : Prop :=
  (gI h 10 v 0 = V 0 0) ∧
  (gI h 10 v 1 = V 1 0) ∧
  (gI h 10 v 2 = V 2 0) ∧
  (gI h 10 v 5 = V 5 0) ∧
  (∀ i, 0 ≤ i → i < sz C → bit (gI h 10 v 6) i = V 6 i) ∧
  (gI h 10 v 7 = V 7 0) ∧
  (∀ i, 0 ≤ i → i < sz C → gI h 57 v i = V 8 i)
theorem iv_0 {C : Ch} {h : Hp} {v : Int} {V : Ch} (q : isV C h v V) : gI h 10 v 0 = V 0 0 := q.1
theorem iv_1 {C : Ch} {h : Hp} {v : Int} {V : Ch} (q : isV C h v V) : gI h 10 v 1 = V 1 0 := q.2.1
theorem iv_2 {C : Ch} {h : Hp} {v : Int} {V : Ch} (q : isV C h v V) : gI h 10 v 2 = V 2 0 := q.2.2.1
theorem iv_5 {C : Ch} {h : Hp} {v : Int} {V : Ch} (q : isV C h v V) : gI h 10 v 5 = V 5 0 := q.2.2.2.1
theorem iv_6 {C : Ch} {h : Hp} {v : Int} {V : Ch} (q : isV C h v V) : ∀ i, 0 ≤ i → i < sz C → bit (gI h 10 v 6) i = V 6 i := q.2.2.2.2.1
theorem iv_7 {C : Ch} {h : Hp} {v : Int} {V : Ch} (q : isV C h v V) : gI h 10 v 7 = V 7 0 := q.2.2.2.2.2.1
theorem iv_8 {C : Ch} {h : Hp} {v : Int} {V : Ch} (q : isV C h v V) : ∀ i, 0 ≤ i → i < sz C → gI h 57 v i = V 8 i := q.2.2.2.2.2.2
theorem isV_eq {C V : Ch} {h h2 : Hp} {v : Int} (e : ∀ k, gI h2 10 v k = gI h 10 v k) (e2 : ∀ k, gI h2 57 v k = gI h 57 v k) (q : isV C h v V) : isV C h2 v V := by
  unfold isV at q ⊢
  simp only [e, e2]
  exact q
/-- the class's chart is c, and C is its picture -/
def CX (h : Hp) (c : Int) (C : Ch) : Prop := gR h 2 0 0 = some (0, c) ∧ isC h c C ∧ CW C
theorem CX_eq {h h2 : Hp} {c : Int} {C : Ch} (e : ∀ (r : Nat) (i k : Int), inC r k → gI h2 r i k = gI h r i k) (e2 : h2.2 = h.2) (q : CX h c C) : CX h2 c C := ⟨by rw [gR_2 e2]; exact q.1, isC_eq e e2 q.2.1, q.2.2⟩
theorem CX_fr {W : Nat → Int → Int → Prop} {h h2 : Hp} {c : Int} {C : Ch} (f : Fr W h h2) (d : ∀ (r : Nat) (i k : Int), inC r k → ¬ W r i k) (q : CX h c C) : CX h2 c C := CX_eq (fun r i k z => f.1 r i k (d r i k z)) f.2 q
theorem CX_sI {h : Hp} {c : Int} {C : Ch} {r : Nat} {i k v : Int} (d : ∀ k, ¬ inC r k) (q : CX h c C) : CX (sI h r i k v) c C := CX_eq (fun r' i' k' z => gI_nr (fun y => d k' (y ▸ z))) rfl q
theorem isC_sI {h : Hp} {c : Int} {C : Ch} {r : Nat} {i k v : Int} (d : ∀ k, ¬ inC r k) (q : isC h c C) : isC (sI h r i k v) c C := isC_eq (fun r' i' k' z => gI_nr (fun y => d k' (y ▸ z))) rfl q
theorem isV_sI {C V : Ch} {h : Hp} {v : Int} {r : Nat} {i k x : Int} (d : (r ≠ 10 ∧ r ≠ 57) ∨ v ≠ i) (q : isV C h v V) : isV C (sI h r i k x) v V := by
  refine isV_eq (fun k' => ?_) (fun k' => ?_) q
  · rcases d with d | d
    · exact gI_nr (fun y => d.1 y.symm)
    · exact gI_ni d
  · rcases d with d | d
    · exact gI_nr (fun y => d.2 y.symm)
    · exact gI_ni d
theorem isV_fr {W : Nat → Int → Int → Prop} {C V : Ch} {h h2 : Hp} {v : Int} (f : Fr W h h2) (d : ∀ k, ¬ W 10 v k ∧ ¬ W 57 v k) (q : isV C h v V) : isV C h2 v V := isV_eq (fun k => f.1 10 v k (d k).1) (fun k => f.1 57 v k (d k).2) q
theorem sz_r {C : Ch} (q : CW C) : 0 ≤ C 20 0 ∧ 0 ≤ C 21 0 ∧ C 20 0 ≤ 5 ∧ C 21 0 ≤ 4 ∧ sz C = C 20 0 + C 21 0 := by have := cw_M q; exact ⟨by omega, by omega, by omega, by omega, rfl⟩
theorem lbit_w {h : Hp} {c : Int} {C : Ch} {x : Int} (q : isC h c C) (w : CW C) : wtr h c x ↔ wtC C x := by
  unfold wtr wtC
  rw [ic_0 q, ic_1 q]
  have hm := sea_mul (cw_W w)
  constructor
  · intro z
    have a := ic_2 q x z.1.1 (by have := z.1.2; omega)
    have b := cw_L w x z.1.1 (by have := z.1.2; omega)
    exact ⟨z.1, by rcases b with b | b; exact b; exact absurd (a.mpr b) z.2⟩
  · intro z
    have a := ic_2 q x z.1.1 (by have := z.1.2; omega)
    exact ⟨z.1, fun y => by have := a.mp y; have := z.2; omega⟩

