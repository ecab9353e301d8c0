/-! POWER, 1: sums over sets -/
def sm (F : Nat → Int) : Nat → Int
  | 0 => 0
  | k + 1 => sm F k + F k
theorem sm_add {F : Nat → Int} {a : Nat} : ∀ b : Nat, sm F (a + b) = sm F a + sm (fun j => F (a + j)) b
  | 0 => by simp [sm]
  | b + 1 => by
    show sm F (a + b) + F (a + b) = sm F a + (sm (fun j => F (a + j)) b + F (a + b))
    rw [sm_add b]; omega
theorem sm_c {F G : Nat → Int} : ∀ n : Nat, (∀ j, j < n → F j = G j) → sm F n = sm G n
  | 0, _ => rfl
  | n + 1, h => by
    show sm F n + F n = sm G n + G n
    rw [sm_c n (fun j hj => h j (by omega)), h n (by omega)]
theorem sm_0 : ∀ n : Nat, sm (fun _ => 0) n = 0
  | 0 => rfl
  | n + 1 => by
    show sm (fun _ => 0) n + 0 = 0
    rw [sm_0 n]; omega
theorem bitN {n i : Nat} (hn : n < 65536) (hi : i < 32) : bit (n : Int) i = if n.testBit i then 1 else 0 := by
  rw [bit_tb (by omega) (by omega), tb_n (by omega) (by omega) (by omega) (by omega)]
  rw [show ((n : Int)).toNat = n by omega, show ((i : Int)).toNat = i by omega]
section
variable {f : Int → Int → Int} {M W : Nat → Int}
/-- a set's part: those of its first n, from the last on -/
def gS (f : Int → Int → Int) (M W : Nat → Int) : Nat → Int → Int → Int → Int
  | 0, _, s, c => f s c
  | n + 1, x, s, c => if bit x n = 1 then (if M n = 1 then gS f M W n x (s + W n) (c + 1) else 0) else gS f M W n x s c
def GS (f : Int → Int → Int) (M W : Nat → Int) : Nat → Int → Int → Int
  | 0, s, c => f s c
  | n + 1, s, c => GS f M W n s c + (if M n = 1 then GS f M W n (s + W n) (c + 1) else 0)
theorem gS_c : ∀ (n : Nat) (x y s c : Int), (∀ k : Nat, k < n → bit x k = bit y k) → gS f M W n x s c = gS f M W n y s c
  | 0, _, _, _, _, _ => rfl
  | n + 1, x, y, s, c, h => by
    unfold gS
    rw [h n (by omega), gS_c n x y s c (fun k hk => h k (by omega)), gS_c n x y (s + W n) (c + 1) (fun k hk => h k (by omega))]
theorem gS_sum : ∀ (n : Nat) (s c : Int), n ≤ 15 → sm (fun x => gS f M W n (x : Int) s c) (2 ^ n) = GS f M W n s c
  | 0, s, c, _ => by
    show 0 + f s c = f s c
    omega
  | n + 1, s, c, h => by
    have hp : 2 ^ n ≤ 2 ^ 14 := Nat.pow_le_pow_right (by decide) (by omega)
    rw [show 2 ^ (n + 1) = 2 ^ n + 2 ^ n by rw [Nat.pow_succ]; omega, sm_add]
    have e1 : sm (fun x => gS f M W (n + 1) (x : Int) s c) (2 ^ n) = GS f M W n s c := by
      rw [← gS_sum n s c (by omega)]
      refine sm_c _ (fun j hj => ?_)
      show (if bit (j : Int) n = 1 then _ else gS f M W n j s c) = _
      rw [if_neg (by rw [bitN (by omega) (by omega), Nat.testBit_lt_two_pow hj]; simp)]
    have e2 : sm (fun j => gS f M W (n + 1) ((2 ^ n + j : Nat) : Int) s c) (2 ^ n) = if M n = 1 then GS f M W n (s + W n) (c + 1) else 0 := by
      have eb : ∀ j, j < 2 ^ n → bit ((2 ^ n + j : Nat) : Int) n = 1 := fun j hj => by
        rw [bitN (by omega) (by omega), Nat.testBit_two_pow_add_eq, Nat.testBit_lt_two_pow hj]; simp
      by_cases y : M n = 1
      · rw [if_pos y, ← gS_sum n (s + W n) (c + 1) (by omega)]
        refine sm_c _ (fun j hj => ?_)
        show (if bit ((2 ^ n + j : Nat) : Int) n = 1 then (if M n = 1 then gS f M W n ((2 ^ n + j : Nat) : Int) (s + W n) (c + 1) else 0) else _) = _
        rw [if_pos (eb j hj), if_pos y]
        refine gS_c n _ _ _ _ (fun k hk => ?_)
        rw [bitN (by omega) (by omega), bitN (by omega) (by omega), Nat.testBit_two_pow_add_gt hk]
      · rw [if_neg y, ← sm_0 (2 ^ n)]
        refine sm_c _ (fun j hj => ?_)
        show (if bit ((2 ^ n + j : Nat) : Int) n = 1 then (if M n = 1 then gS f M W n ((2 ^ n + j : Nat) : Int) (s + W n) (c + 1) else 0) else _) = _
        rw [if_pos (eb j hj), if_neg y]
    rw [e1, e2]; rfl
/-- the sum, and the number, of those in a set -/
def dtF (W : Nat → Int) (x : Int) : Nat → Int
  | 0 => 0
  | n + 1 => dtF W x n + if bit x n = 1 then W n else 0
def pcF (x : Int) : Nat → Int
  | 0 => 0
  | n + 1 => pcF x n + bit x n
theorem pcF_r {x : Int} : ∀ n : Nat, 0 ≤ pcF x n ∧ pcF x n ≤ n
  | 0 => by simp [pcF]
  | n + 1 => by
    have := pcF_r (x := x) n
    have b := bit01 (x := x) (i := (n : Int))
    show 0 ≤ pcF x n + bit x n ∧ pcF x n + bit x n ≤ _
    omega
theorem gS_y : ∀ (n : Nat) (x s c : Int), (∀ k : Nat, k < n → bit x k = 1 → M k = 1) → gS f M W n x s c = f (s + dtF W x n) (c + pcF x n)
  | 0, x, s, c, _ => by
    show f s c = f (s + 0) (c + 0)
    rw [Int.add_zero, Int.add_zero]
  | n + 1, x, s, c, h => by
    have b := bit01 (x := x) (i := (n : Int))
    unfold gS dtF pcF
    by_cases y : bit x n = 1
    · rw [if_pos y, if_pos (h n (by omega) y), gS_y n x _ _ (fun k hk => h k (by omega)), if_pos y, y]
      congr 1 <;> omega
    · rw [if_neg y, gS_y n x _ _ (fun k hk => h k (by omega)), if_neg y, show bit x n = 0 by omega]
      congr 1 <;> omega
theorem gS_n : ∀ (n : Nat) (x s c : Int) (k : Nat), k < n → bit x k = 1 → ¬ M k = 1 → gS f M W n x s c = 0
  | 0, _, _, _, _, h, _, _ => by omega
  | n + 1, x, s, c, k, h, b, m => by
    unfold gS
    by_cases e : k = n
    · subst e; rw [if_pos b, if_neg m]
    · rw [gS_n n x _ _ k (by omega) b m, gS_n n x _ _ k (by omega) b m]
      split
      · split <;> rfl
      · rfl
end
/-! numbers of orders -/
def faF : Nat → Int
  | 0 => 1
  | n + 1 => faF n * (n + 1)
theorem faF_e : ∀ n, n < 10 → xOrd.getD n 0 = faF n := by decide
theorem faF_r : ∀ n, n < 10 → 1 ≤ faF n ∧ faF n ≤ 362880 := by decide
theorem p_X12_factorial {h : Hp} {x : Int} (x1 : 0 ≤ x) (x2 : x < 10) : f_X12_factorial x h = some (faF x.toNat, h) := by
  have key : ∀ (d n : Nat) (p y : Int) (k : Nat), x.toNat - k = d → y = (k : Int) + 1 → 1 ≤ k → d + 2 ≤ n → p = faF k → (k ≤ x.toNat ∨ (k = 1 ∧ x = 0)) → ok (g_X12_factorial n 1 [x, p, y] h) (fun r h' => r = faF x.toNat ∧ h' = h) := by
    intro d
    induction d with
    | zero =>
      intro n p y k hd hy hk hn hp ho
      refine s_X12_factorial_1 (by omega) ?_
      unfold b_X12_factorial_1
      refine ok_t (by omega) (ok_some ⟨?_, rfl⟩)
      rcases ho with ho | ⟨h1, h2⟩
      · rw [hp, show k = x.toNat by omega]
      · rw [hp, h1, h2]; decide
    | succ d ih =>
      intro n p y k hd hy hk hn hp ho
      have r1 := faF_r k (by omega)
      have r2 := faF_r (k + 1) (by omega)
      have ep : p * y = faF (k + 1) := by rw [hp, hy]; rfl
      refine s_X12_factorial_1 (by omega) ?_
      unfold b_X12_factorial_1
      rw [ep]
      exact ok_f (by omega) (ok_ck (by omega) (ok_lt (ok_ck (by omega) (ih _ _ _ (k + 1) (by omega) (by omega) (by omega) (by omega) rfl (Or.inl (by omega))))))
  refine ok_eq.mp (fuv_X12_factorial (fun n hn => ?_))
  refine s_X12_factorial_0 (by omega) ?_
  unfold b_X12_factorial_0
  exact key _ _ _ _ 1 rfl (by omega) (by omega) (by omega) (by decide) (by omega)
theorem p_X12_bitsOf {h : Hp} {x : Int} : f_X12_bitsOf x h = some (pcF x 9, h) := by
  have key : ∀ (d n : Nat) (p y : Int) (k : Nat), 9 - k = d → k ≤ 9 → y = (k : Int) → d + 2 ≤ n → p = pcF x k → ok (g_X12_bitsOf n 1 [x, p, y] h) (fun r h' => r = pcF x 9 ∧ h' = h) := by
    intro d
    induction d with
    | zero =>
      intro n p y k hd hk hy hn hp
      have ek : k = 9 := by omega
      subst ek
      refine s_X12_bitsOf_1 (by omega) ?_
      unfold b_X12_bitsOf_1
      exact ok_t (by omega) (ok_some ⟨hp, rfl⟩)
    | succ d ih =>
      intro n p y k hd hk hy hn hp
      subst hy
      have r := pcF_r (x := x) k
      have b := bit01 (x := x) (i := (k : Int))
      have ep : p + band (bshr x k) 1 = pcF x (k + 1) := by rw [hp]; rfl
      have r2 := pcF_r (x := x) (k + 1)
      refine s_X12_bitsOf_1 (by omega) ?_
      unfold b_X12_bitsOf_1
      rw [ep]
      exact ok_f (by omega) (ok_ck (by omega) (ok_lt (ok_ck (by omega) (ih _ _ _ (k + 1) (by omega) (by omega) (by omega) (by omega) rfl))))
  refine ok_eq.mp (fuv_X12_bitsOf (fun n hn => ?_))
  refine s_X12_bitsOf_0 (by omega) ?_
  unfold b_X12_bitsOf_0
  exact key 9 _ _ _ 0 (by omega) (by omega) (by omega) (by omega) rfl
/-- the JDK's way to count bits -/
def bcF (x : Int) : Int :=
  let z1 := w32 (x - (band (bushr x 1) 1431655765))
  let z2 := w32 ((band z1 858993459) + (band (bushr z1 2) 858993459))
  let z3 := band (w32 (z2 + (bushr z2 4))) 252645135
  let z4 := w32 (z3 + (bushr z3 8))
  let z5 := w32 (z4 + (bushr z4 16))
  band z5 63
theorem bcF_e : ∀ n : Nat, n < 512 → bcF (n : Int) = pcF (n : Int) 9 := by decide +kernel
theorem p_bitCount {h : Hp} {x : Int} (x1 : 0 ≤ x) (x2 : x < 512) : f_J6_bitCount_0f7a4 x h = some (pcF x 9, h) := by
  have e := bcF_e x.toNat (by omega)
  rw [show ((x.toNat : Nat) : Int) = x by omega] at e
  refine ok_eq.mp (fuv_J6_bitCount_0f7a4 (fun n hn => ?_))
  refine s_J6_bitCount_0f7a4_0 (by omega) ?_
  unfold b_J6_bitCount_0f7a4_0
  exact ok_lt (ok_lt (ok_lt (ok_lt (ok_lt (ok_some ⟨e, rfl⟩)))))
