/-! TEXT, 1: tokens, without the machine. b: the bytes, n: how many -/
def byt (b : Int → Int) (n i : Nat) : Int := if i < n then b i else -1
def rnT (P : Int → Bool) (b : Int → Int) (n : Nat) : Nat → Nat → Nat
  | 0, i => i
  | f + 1, i => if P (byt b n i) = true then rnT P b n f (i + 1) else i
/-- the first place from i on where P ends -/
def run (P : Int → Bool) (b : Int → Int) (n i : Nat) : Nat := rnT P b n (n - i) i
section
variable {P : Int → Bool} {b : Int → Int} {n i : Nat}
theorem run_t (h : i < n) (p : P (byt b n i) = true) : run P b n i = run P b n (i + 1) := by
  unfold run
  rw [show n - i = (n - (i + 1)) + 1 by omega]
  exact if_pos p
theorem run_f (p : ¬ P (byt b n i) = true) : run P b n i = i := by
  unfold run
  cases n - i with
  | zero => rfl
  | succ f => exact if_neg p
theorem rnT_r : ∀ (f i : Nat), i ≤ rnT P b n f i ∧ rnT P b n f i ≤ i + f
  | 0, i => ⟨Nat.le_refl _, Nat.le_refl _⟩
  | f + 1, i => by
    show i ≤ (if P (byt b n i) = true then rnT P b n f (i + 1) else i) ∧ (if P (byt b n i) = true then rnT P b n f (i + 1) else i) ≤ i + (f + 1)
    have := rnT_r f (i + 1)
    split <;> omega
theorem run_ge : i ≤ run P b n i := (rnT_r _ _).1
theorem run_n (h : i ≤ n) : run P b n i ≤ n := by
  have := (rnT_r (P := P) (b := b) (n := n) (n - i) i).2
  unfold run
  omega
theorem rnT_all : ∀ (f i k : Nat), i ≤ k → k < rnT P b n f i → P (byt b n k) = true
  | 0, i, k, h1, h2 => by
    have : rnT P b n 0 i = i := rfl
    omega
  | f + 1, i, k, h1, h2 => by
    have e : rnT P b n (f + 1) i = if P (byt b n i) = true then rnT P b n f (i + 1) else i := rfl
    rw [e] at h2
    by_cases p : P (byt b n i) = true
    · rw [if_pos p] at h2
      by_cases q : k = i
      · rw [q]; exact p
      · exact rnT_all f (i + 1) k (by omega) h2
    · rw [if_neg p] at h2; omega
theorem rnT_end (p : P (-1) = false) : ∀ (f i : Nat), n ≤ i + f → ¬ P (byt b n (rnT P b n f i)) = true
  | 0, i, h => by
    have e : byt b n (rnT P b n 0 i) = -1 := if_neg (show ¬ i < n by omega)
    rw [e, p]; decide
  | f + 1, i, h => by
    show ¬ P (byt b n (if P (byt b n i) = true then rnT P b n f (i + 1) else i)) = true
    by_cases y : P (byt b n i) = true
    · rw [if_pos y]; exact rnT_end p f (i + 1) (by omega)
    · rw [if_neg y]; exact y
theorem run_end (p : P (-1) = false) : ¬ P (byt b n (run P b n i)) = true := rnT_end p _ _ (by omega)
theorem run_all {k : Nat} (h1 : i ≤ k) (h2 : k < run P b n i) : P (byt b n k) = true := rnT_all _ _ _ h1 h2
end
def isBl (c : Int) : Bool := decide (c = 10 ∨ c = 32)
def isLe (c : Int) : Bool := decide (97 ≤ c ∧ c ≤ 122)
def isDg (c : Int) : Bool := decide (48 ≤ c ∧ c ≤ 57)
theorem isBl_i {c : Int} : isBl c = true ↔ c = 10 ∨ c = 32 := by unfold isBl; exact decide_eq_true_iff
theorem isLe_i {c : Int} : isLe c = true ↔ 97 ≤ c ∧ c ≤ 122 := by unfold isLe; exact decide_eq_true_iff
theorem isDg_i {c : Int} : isDg c = true ↔ 48 ≤ c ∧ c ≤ 57 := by unfold isDg; exact decide_eq_true_iff
/-! words -/
def dgt (b : Int → Int) (j l i : Nat) : Int := if i < l then b ((j + i : Nat) : Int) - 96 else 0
def pkN (b : Int → Int) (j l : Nat) : Nat → Int
  | 0 => 0
  | k + 1 => 32 * pkN b j l k + dgt b j l k
def offK : List Nat := [0, 4, 9, 14, 20, 25, 30, 35, 41, 46, 51, 57, 61, 66, 71, 76, 81, 87, 90, 94, 98, 105, 109, 115, 120, 127, 132]
def lenK : List Nat := [3, 4, 4, 5, 4, 4, 4, 5, 4, 4, 5, 3, 4, 4, 4, 4, 5, 2, 3, 3, 6, 3, 5, 4, 6, 4, 5]
def keyD (k i : Nat) : Int := if i < lenK.getD k 0 then xTb.getD (offK.getD k 0 + i) 0 - 96 else 0
def keyV (k : Nat) : Int := ((((keyD k 0 * 32 + keyD k 1) * 32 + keyD k 2) * 32 + keyD k 3) * 32 + keyD k 4) * 32 + keyD k 5
theorem key_t : ∀ k : Nat, k < 27 → lenK.getD k 0 ≤ 6 ∧ 1 ≤ lenK.getD k 0 ∧ offK.getD k 0 + lenK.getD k 0 < 138 ∧ xTb.getD (offK.getD k 0 + lenK.getD k 0) 0 = 32 ∧ (∀ i : Nat, i < lenK.getD k 0 → 97 ≤ xTb.getD (offK.getD k 0 + i) 0 ∧ xTb.getD (offK.getD k 0 + i) 0 ≤ 122) ∧ offK.getD (k + 1) 138 = offK.getD k 0 + lenK.getD k 0 + 1 := by decide +kernel
theorem keyD_r : ∀ k : Nat, k < 27 → ∀ i : Nat, i < 6 → 0 ≤ keyD k i ∧ keyD k i < 32 := by decide +kernel
theorem keyV_r : ∀ k : Nat, k < 27 → 0 ≤ keyV k ∧ keyV k < 1073741824 := by decide +kernel
def kyS (p : Nat → Bool) : Nat → Nat → Int
  | 0, _ => -1
  | f + 1, k => if p k = true then (k : Int) else kyS p f (k + 1)
def isKy (b : Int → Int) (j l k : Nat) : Bool := decide (pkN b j l 6 = keyV k)
def keyF (b : Int → Int) (j l : Nat) : Int := kyS (isKy b j l) 27 0
theorem kyS_r {p : Nat → Bool} : ∀ (f k : Nat), kyS p f k = -1 ∨ ((k : Int) ≤ kyS p f k ∧ kyS p f k < (k : Int) + f)
  | 0, k => Or.inl rfl
  | f + 1, k => by
    show (if p k = true then (k : Int) else kyS p f (k + 1)) = -1 ∨ ((k : Int) ≤ (if p k = true then (k : Int) else kyS p f (k + 1)) ∧ (if p k = true then (k : Int) else kyS p f (k + 1)) < (k : Int) + ((f + 1 : Nat) : Int))
    have := kyS_r (p := p) f (k + 1)
    split <;> omega
section
variable {b : Int → Int} {j l : Nat}
theorem dgt_r (hl : ∀ i : Nat, i < l → 97 ≤ b ((j + i : Nat) : Int) ∧ b ((j + i : Nat) : Int) ≤ 122) (i : Nat) : 0 ≤ dgt b j l i ∧ dgt b j l i < 32 ∧ (dgt b j l i = 0 ↔ l ≤ i) := by
  unfold dgt
  by_cases h : i < l
  · have := hl i h
    rw [if_pos h]
    omega
  · rw [if_neg h]
    omega
theorem pkN_6 : pkN b j l 6 = ((((dgt b j l 0 * 32 + dgt b j l 1) * 32 + dgt b j l 2) * 32 + dgt b j l 3) * 32 + dgt b j l 4) * 32 + dgt b j l 5 := by
  simp only [pkN]
  omega
theorem pkN_r (hl : ∀ i : Nat, i < l → 97 ≤ b ((j + i : Nat) : Int) ∧ b ((j + i : Nat) : Int) ≤ 122) : ∀ k : Nat, 0 ≤ pkN b j l k ∧ pkN b j l k < 32 ^ k
  | 0 => by
    show (0 : Int) ≤ 0 ∧ (0 : Int) < 32 ^ 0
    decide
  | k + 1 => by
    have := pkN_r hl k
    have d := dgt_r hl k
    show 0 ≤ 32 * pkN b j l k + dgt b j l k ∧ 32 * pkN b j l k + dgt b j l k < 32 ^ (k + 1)
    rw [Int.pow_succ]
    omega
theorem dig1 {A B x y : Int} (e : A * 32 + x = B * 32 + y) (a : 0 ≤ x ∧ x < 32) (b : 0 ≤ y ∧ y < 32) : A = B ∧ x = y := by omega
/-- the word's letters are those of key k -/
theorem key_m {k : Nat} (hk : k < 27) (hl : ∀ i : Nat, i < l → 97 ≤ b ((j + i : Nat) : Int) ∧ b ((j + i : Nat) : Int) ≤ 122) (l6 : l ≤ 6) : pkN b j l 6 = keyV k ↔ (l = lenK.getD k 0 ∧ ∀ i : Nat, i < l → b ((j + i : Nat) : Int) = xTb.getD (offK.getD k 0 + i) 0) := by
  have t := key_t k hk
  have dr : ∀ i, 0 ≤ dgt b j l i ∧ dgt b j l i < 32 := fun i => ⟨(dgt_r hl i).1, (dgt_r hl i).2.1⟩
  have e : pkN b j l 6 = keyV k ↔ ∀ i : Nat, i < 6 → dgt b j l i = keyD k i := by
    rw [pkN_6]
    unfold keyV
    constructor
    · intro q i hi
      obtain ⟨q, z5⟩ := dig1 q (dr 5) (keyD_r k hk 5 (by decide))
      obtain ⟨q, z4⟩ := dig1 q (dr 4) (keyD_r k hk 4 (by decide))
      obtain ⟨q, z3⟩ := dig1 q (dr 3) (keyD_r k hk 3 (by decide))
      obtain ⟨q, z2⟩ := dig1 q (dr 2) (keyD_r k hk 2 (by decide))
      obtain ⟨z0, z1⟩ := dig1 q (dr 1) (keyD_r k hk 1 (by decide))
      have c : i = 0 ∨ i = 1 ∨ i = 2 ∨ i = 3 ∨ i = 4 ∨ i = 5 := by omega
      rcases c with c | c | c | c | c | c <;> subst c <;> assumption
    · intro q
      rw [q 0 (by decide), q 1 (by decide), q 2 (by decide), q 3 (by decide), q 4 (by decide), q 5 (by decide)]
  rw [e]
  constructor
  · intro q
    have ll : l = lenK.getD k 0 := by
      rcases Nat.lt_trichotomy l (lenK.getD k 0) with y | y | y
      · have z := q l (by omega)
        have u := (dgt_r hl l).2.2.mpr (Nat.le_refl _)
        have v := t.2.2.2.2.1 l y
        unfold keyD at z
        rw [if_pos y] at z
        omega
      · exact y
      · have z := q (lenK.getD k 0) (by omega)
        unfold keyD at z
        rw [if_neg (by omega)] at z
        have := (dgt_r hl _).2.2.mp z
        omega
    refine ⟨ll, fun i hi => ?_⟩
    have := q i (by omega)
    unfold dgt keyD at this
    rw [if_pos hi, if_pos (by omega)] at this
    omega
  · intro ⟨q1, q2⟩ i hi
    unfold dgt keyD
    by_cases h : i < l
    · rw [if_pos h, if_pos (by omega), q2 i h]
    · rw [if_neg h, if_neg (by omega)]
end
/-! numbers -/
def nuC (b : Int → Int) (j : Nat) : Nat → Int
  | 0 => 0
  | k + 1 => min 1000000 (nuC b j k * 10 + b ((j + k : Nat) : Int) - 48)
def nuR (b : Int → Int) (j : Nat) : Nat → Int
  | 0 => 0
  | k + 1 => if nuR b j k ≤ 99999 then 10 * nuR b j k + b ((j + k : Nat) : Int) - 48 else nuR b j k
theorem nu_r {b : Int → Int} {j : Nat} : ∀ k : Nat, (∀ i : Nat, i < k → 48 ≤ b ((j + i : Nat) : Int) ∧ b ((j + i : Nat) : Int) ≤ 57) → 0 ≤ nuC b j k ∧ nuC b j k ≤ 1000000 ∧ nuR b j k ≤ 999999 ∧ (nuC b j k ≤ 99999 → nuR b j k = nuC b j k) ∧ (99999 < nuC b j k → 99999 < nuR b j k)
  | 0, _ => by
    have e1 : nuC b j 0 = 0 := rfl
    have e2 : nuR b j 0 = 0 := rfl
    omega
  | k + 1, q => by
    have ih := nu_r k (fun i hi => q i (by omega))
    have d := q k (by omega)
    have e1 : nuC b j (k + 1) = min 1000000 (nuC b j k * 10 + b ((j + k : Nat) : Int) - 48) := rfl
    have e2 : nuR b j (k + 1) = if nuR b j k ≤ 99999 then 10 * nuR b j k + b ((j + k : Nat) : Int) - 48 else nuR b j k := rfl
    rw [e1, e2]
    by_cases y : nuC b j k ≤ 99999
    · have := ih.2.2.2.1 y
      rw [if_pos (by omega)]
      omega
    · have := ih.2.2.2.2 (by omega)
      rw [if_neg (by omega)]
      omega
/-! signs -/
def sgV (c d : Int) : Int := if c = 40 then 15 else if c = 41 then 16 else if c = 42 then 13 else if c = 43 then 11 else if c = 45 then 12 else if c = 47 then 14 else if c = 59 then 17 else if c = 60 then (if d = 61 then 6 else if d = 62 then 8 else 5) else if c = 61 then 7 else if c = 62 then (if d = 61 then 9 else 10) else -1
def sgL (c d : Int) : Nat := if c = 60 then (if d = 61 ∨ d = 62 then 2 else 1) else if c = 62 then (if d = 61 then 2 else 1) else 1
/-! a token: kind, value, place, what is next -/
abbrev Tk := Int × Int × Nat × Nat
def tokW (b : Int → Int) (n j : Nat) : Tk := if 6 < run isLe b n j - j then (5, 0, j, run isLe b n j) else if keyF b j (run isLe b n j - j) = -1 then (1, pkN b j (run isLe b n j - j) 6, j, run isLe b n j) else (2, keyF b j (run isLe b n j - j), j, run isLe b n j)
def tokN (b : Int → Int) (n j : Nat) : Tk := (3, nuC b j (run isDg b n j - j), j, run isDg b n j)
def tokS (b : Int → Int) (n j : Nat) : Tk := if sgV (byt b n j) (byt b n (j + 1)) = -1 then (5, 0, j, j + 1) else (4, sgV (byt b n j) (byt b n (j + 1)), j, j + sgL (byt b n j) (byt b n (j + 1)))
def tokJ (b : Int → Int) (n j : Nat) : Tk := if n ≤ j then (0, 0, j, j) else if isLe (byt b n j) = true then tokW b n j else if isDg (byt b n j) = true then tokN b n j else tokS b n j
def tok (b : Int → Int) (n i : Nat) : Tk := tokJ b n (run isBl b n i)
/-- where token t is looked for -/
def pos (b : Int → Int) (n : Nat) : Nat → Nat
  | 0 => 0
  | t + 1 => (tok b n (pos b n t)).2.2.2
abbrev tkK (b : Int → Int) (n t : Nat) : Int := (tok b n (pos b n t)).1
abbrev tkV (b : Int → Int) (n t : Nat) : Int := (tok b n (pos b n t)).2.1
abbrev tkP (b : Int → Int) (n t : Nat) : Nat := (tok b n (pos b n t)).2.2.1
section
variable {b : Int → Int} {n i j : Nat}
theorem sgL_r {c d : Int} : 1 ≤ sgL c d ∧ sgL c d ≤ 2 ∧ (sgL c d = 2 → d = 61 ∨ d = 62) := by
  unfold sgL
  split
  · split <;> omega
  · split
    · split <;> omega
    · omega
theorem tokJ_r (hj : j ≤ n) : (tokJ b n j).2.2.1 = j ∧ j ≤ (tokJ b n j).2.2.2 ∧ (tokJ b n j).2.2.2 ≤ n ∧ ((tokJ b n j).1 ≠ 0 → j < (tokJ b n j).2.2.2) ∧ ((tokJ b n j).1 = 0 ↔ n ≤ j) ∧ 0 ≤ (tokJ b n j).1 ∧ (tokJ b n j).1 ≤ 5 := by
  unfold tokJ
  by_cases h1 : n ≤ j
  · rw [if_pos h1]
    exact ⟨rfl, Nat.le_refl _, hj, fun z => absurd rfl z, ⟨fun _ => h1, fun _ => rfl⟩, by dsimp only; decide, by dsimp only; decide⟩
  · rw [if_neg h1]
    by_cases h2 : isLe (byt b n j) = true
    · rw [if_pos h2]
      have a := run_n (P := isLe) (b := b) hj
      have c : j < run isLe b n j := by
        rw [run_t (by omega) h2]
        exact run_ge
      unfold tokW
      split
      · exact ⟨rfl, Nat.le_of_lt c, a, fun _ => c, ⟨fun z => absurd z (by dsimp only; decide), fun z => absurd z h1⟩, by dsimp only; decide, by dsimp only; decide⟩
      · split
        · exact ⟨rfl, Nat.le_of_lt c, a, fun _ => c, ⟨fun z => absurd z (by dsimp only; decide), fun z => absurd z h1⟩, by dsimp only; decide, by dsimp only; decide⟩
        · exact ⟨rfl, Nat.le_of_lt c, a, fun _ => c, ⟨fun z => absurd z (by dsimp only; decide), fun z => absurd z h1⟩, by dsimp only; decide, by dsimp only; decide⟩
    · rw [if_neg h2]
      by_cases h3 : isDg (byt b n j) = true
      · rw [if_pos h3]
        have a := run_n (P := isDg) (b := b) hj
        have c : j < run isDg b n j := by
          rw [run_t (by omega) h3]
          exact run_ge
        unfold tokN
        exact ⟨rfl, Nat.le_of_lt c, a, fun _ => c, ⟨fun z => absurd z (by dsimp only; decide), fun z => absurd z h1⟩, by dsimp only; decide, by dsimp only; decide⟩
      · rw [if_neg h3]
        unfold tokS
        have s := sgL_r (c := byt b n j) (d := byt b n (j + 1))
        split
        · exact ⟨rfl, Nat.le_succ _, by show j + 1 ≤ n; omega, fun _ => Nat.lt_succ_self _, ⟨fun z => absurd z (by dsimp only; decide), fun z => absurd z h1⟩, by dsimp only; decide, by dsimp only; decide⟩
        · refine ⟨rfl, Nat.le_add_right _ _, ?_, fun _ => ?_, ⟨fun z => absurd z (by dsimp only; decide), fun z => absurd z h1⟩, by dsimp only; decide, by dsimp only; decide⟩
          · show j + sgL (byt b n j) (byt b n (j + 1)) ≤ n
            by_cases y : sgL (byt b n j) (byt b n (j + 1)) = 2
            · have u := s.2.2 y
              have : j + 1 < n := by
                by_cases v : j + 1 < n
                · exact v
                · have w : byt b n (j + 1) = -1 := if_neg v
                  omega
              omega
            · omega
          · show j < j + sgL (byt b n j) (byt b n (j + 1))
            omega
theorem tok_r (hi : i ≤ n) : i ≤ (tok b n i).2.2.1 ∧ (tok b n i).2.2.1 ≤ (tok b n i).2.2.2 ∧ (tok b n i).2.2.2 ≤ n ∧ ((tok b n i).1 ≠ 0 → i < (tok b n i).2.2.2) ∧ ((tok b n i).1 = 0 → (tok b n i).2.2.2 = n ∧ (tok b n i).2.2.1 = n) ∧ 0 ≤ (tok b n i).1 ∧ (tok b n i).1 ≤ 5 := by
  have a := run_ge (P := isBl) (b := b) (n := n) (i := i)
  have c := run_n (P := isBl) (b := b) hi
  have r := tokJ_r (b := b) c
  unfold tok
  refine ⟨by omega, by omega, r.2.2.1, fun z => ?_, fun z => ?_, r.2.2.2.2.2⟩
  · have := r.2.2.2.1 z; omega
  · have := r.2.2.2.2.1.mp z; omega
theorem pos_n : ∀ t : Nat, pos b n t ≤ n
  | 0 => Nat.zero_le _
  | t + 1 => (tok_r (pos_n t)).2.2.1
theorem pos_t : ∀ t : Nat, (∀ s : Nat, s < t → tkK b n s ≠ 0) → t ≤ pos b n t
  | 0, _ => Nat.zero_le _
  | t + 1, q => by
    have ih := pos_t t (fun s hs => q s (by omega))
    have := (tok_r (b := b) (pos_n (b := b) (n := n) t)).2.2.2.1 (q t (by omega))
    show t + 1 ≤ (tok b n (pos b n t)).2.2.2
    omega
theorem tok_end : tok b n n = (0, 0, n, n) := by
  unfold tok
  have e : run isBl b n n = n := run_f (by rw [isBl_i]; unfold byt; rw [if_neg (Nat.lt_irrefl n)]; omega)
  rw [e]
  unfold tokJ
  exact if_pos (Nat.le_refl _)
/-- behind the end there is the end -/
theorem pos_end {t : Nat} (z : tkK b n t = 0) : ∀ s : Nat, tkK b n (t + s) = 0 ∧ tkP b n (t + s) = n ∧ pos b n (t + s + 1) = n
  | 0 => by
    have r := (tok_r (b := b) (pos_n (b := b) (n := n) t)).2.2.2.2.1 z
    exact ⟨z, r.2, r.1⟩
  | s + 1 => by
    have ih := (pos_end z s).2.2
    have e : tok b n (pos b n (t + (s + 1))) = (0, 0, n, n) := by
      rw [show t + (s + 1) = t + s + 1 by omega, ih]
      exact tok_end
    refine ⟨?_, ?_, ?_⟩
    · show (tok b n (pos b n (t + (s + 1)))).1 = 0; rw [e]
    · show (tok b n (pos b n (t + (s + 1)))).2.2.1 = n; rw [e]
    · show (tok b n (pos b n (t + (s + 1)))).2.2.2 = n; rw [e]
end
/-! what words are by bits -/
theorem bvI {x : Nat} (h : x < 2147483648) : (BitVec.ofNat 32 x).toInt = (x : Int) := by
  have e : (BitVec.ofNat 32 x).toNat = x := by rw [BitVec.toNat_ofNat]; omega
  rw [BitVec.toInt_eq_toNat_of_lt (by rw [e]; omega), e]
theorem bsh_n {v m : Nat} (hm : m < 31) (hv : v * 2 ^ m < 2147483648) : bshl (v : Int) (m : Int) = ((v * 2 ^ m : Nat) : Int) := by
  have v1 : v ≤ v * 2 ^ m := Nat.le_mul_of_pos_right v (Nat.two_pow_pos m)
  unfold bshl
  rw [ofI_n, ofI_n]
  have e : (nI v <<< (nI m &&& 31)).toBitVec = BitVec.ofNat 32 (v * 2 ^ m) := by
    rw [Int32.toBitVec_shiftLeft]
    show ((nI v).toBitVec <<< ((nI m &&& 31).toBitVec.smod 32).toNat) = _
    rw [s_l m (by omega)]
    refine BitVec.eq_of_toNat_eq ?_
    rw [BitVec.toNat_shiftLeft]
    show (BitVec.ofNat 32 v).toNat <<< m % 2 ^ 32 = _
    rw [BitVec.toNat_ofNat, BitVec.toNat_ofNat, Nat.mod_eq_of_lt (show v < 2 ^ 32 by omega), Nat.shiftLeft_eq]
  show (nI v <<< (nI m &&& 31)).toBitVec.toInt = _
  rw [e, bvI hv]
theorem bor_d {v d : Nat} (hv : v < 67108864) (hd : d < 32) : bor ((32 * v : Nat) : Int) (d : Int) = ((32 * v + d : Nat) : Int) := by
  unfold bor
  rw [ofI_n, ofI_n]
  have e : (nI (32 * v) ||| nI d).toBitVec = BitVec.ofNat 32 (32 * v + d) := by
    rw [Int32.toBitVec_or]
    refine BitVec.eq_of_toNat_eq ?_
    rw [BitVec.toNat_or]
    show (BitVec.ofNat 32 (32 * v)).toNat ||| (BitVec.ofNat 32 d).toNat = _
    rw [BitVec.toNat_ofNat, BitVec.toNat_ofNat, BitVec.toNat_ofNat, Nat.mod_eq_of_lt (show 32 * v < 2 ^ 32 by omega), Nat.mod_eq_of_lt (show d < 2 ^ 32 by omega), Nat.mod_eq_of_lt (show 32 * v + d < 2 ^ 32 by omega)]
    have := Nat.shiftLeft_add_eq_or_of_lt (i := 5) (show d < 2 ^ 5 by omega) v
    rw [Nat.shiftLeft_eq, show v * 2 ^ 5 = 32 * v by omega] at this
    exact this.symm
  show (nI (32 * v) ||| nI d).toBitVec.toInt = _
  rw [e, bvI (by omega)]
theorem bor_i {v d : Int} (v1 : 0 ≤ v) (v2 : v < 67108864) (d1 : 0 ≤ d) (d2 : d < 32) : bor (bshl v 5) d = 32 * v + d := by
  have e1 : v = ((v.toNat : Nat) : Int) := by omega
  have e2 : d = ((d.toNat : Nat) : Int) := by omega
  have a : bshl (v.toNat : Int) ((5 : Nat) : Int) = ((v.toNat * 2 ^ 5 : Nat) : Int) := bsh_n (by decide) (by omega)
  rw [e1, show (5 : Int) = ((5 : Nat) : Int) from rfl, a, e2, show v.toNat * 2 ^ 5 = 32 * v.toNat by omega, bor_d (by omega) (by omega)]
  omega
