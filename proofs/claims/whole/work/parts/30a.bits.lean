def bt (x : Int32) (i : Nat) : Bool := x.toBitVec.getLsbD i
theorem b_ext {x y : Int32} (h : ∀ i, i < 32 → bt x i = bt y i) : x = y := Int32.toBitVec_inj.mp (BitVec.eq_of_getLsbD_eq (fun i hi => h i hi))
theorem b_or (x y : Int32) (i : Nat) : bt (x ||| y) i = (bt x i || bt y i) := by unfold bt; rw [Int32.toBitVec_or, BitVec.getLsbD_or]
theorem b_and (x y : Int32) (i : Nat) : bt (x &&& y) i = (bt x i && bt y i) := by unfold bt; rw [Int32.toBitVec_and, BitVec.getLsbD_and]
theorem b_xor (x y : Int32) (i : Nat) : bt (x ^^^ y) i = (bt x i ^^ bt y i) := by unfold bt; rw [Int32.toBitVec_xor, BitVec.getLsbD_xor]
theorem b_big {x : Int32} {i : Nat} (h : 32 ≤ i) : bt x i = false := BitVec.getLsbD_of_ge _ _ h
theorem b_255 (i : Nat) : bt 255 i = decide (i < 8) := by
  rcases Nat.lt_or_ge i 32 with h | h
  · exact (by decide +kernel : ∀ i, i < 32 → bt 255 i = decide (i < 8)) i h
  · rw [b_big h, decide_eq_false (by omega)]
theorem b_65535 (i : Nat) : bt 65535 i = decide (i < 16) := by
  rcases Nat.lt_or_ge i 32 with h | h
  · exact (by decide +kernel : ∀ i, i < 32 → bt 65535 i = decide (i < 16)) i h
  · rw [b_big h, decide_eq_false (by omega)]
theorem b_m1 : ∀ i, i < 32 → bt (-1) i = true := by decide +kernel
theorem b_0 (i : Nat) : bt 0 i = false := BitVec.getLsbD_zero
theorem s_l : ∀ n, n < 32 → ((nI n &&& 31).toBitVec.smod 32).toNat = n := by decide +kernel
theorem s_u : ∀ n, n < 32 → (((nI n).toUInt32 &&& Int32.toUInt32 31).toBitVec % 32).toNat = n := by decide +kernel
theorem b_shl (n : Nat) (hn : n < 32) (x : Int32) {i : Nat} (hi : i < 32) : bt (x <<< (nI n &&& 31)) i = (decide (n ≤ i) && bt x (i - n)) := by
  unfold bt
  rw [Int32.toBitVec_shiftLeft]
  show (x.toBitVec <<< ((nI n &&& 31).toBitVec.smod 32).toNat).getLsbD i = _
  rw [s_l n hn, BitVec.getLsbD_shiftLeft]
  rcases Nat.lt_or_ge i n with h | h
  · simp [h, Nat.not_le.mpr h]
  · simp [hi, h, Nat.not_lt.mpr h]
theorem b_ushr (n : Nat) (hn : n < 32) (x : Int32) (i : Nat) : bt ((x.toUInt32 >>> ((nI n).toUInt32 &&& Int32.toUInt32 31)).toInt32) i = bt x (n + i) := by
  show (x.toUInt32 >>> ((nI n).toUInt32 &&& Int32.toUInt32 31)).toBitVec.getLsbD i = x.toUInt32.toBitVec.getLsbD (n + i)
  rw [UInt32.toBitVec_shiftRight]
  show (x.toUInt32.toBitVec >>> (((nI n).toUInt32 &&& Int32.toUInt32 31).toBitVec % 32).toNat).getLsbD i = _
  rw [s_u n hn, BitVec.getLsbD_ushiftRight]
theorem b_sshr (n : Nat) (hn : n < 32) (x : Int32) {i : Nat} (hi : i < 32) : bt (x >>> (nI n &&& 31)) i = if n + i < 32 then bt x (n + i) else bt x 31 := by
  unfold bt
  rw [Int32.toBitVec_shiftRight]
  show (x.toBitVec.sshiftRight ((nI n &&& 31).toBitVec.smod 32).toNat).getLsbD i = _
  rw [s_l n hn, BitVec.getLsbD_sshiftRight, BitVec.msb_eq_getLsbD_last]
  simp [hi]

/-! bits of numbers -/
theorem ofI_n (n : Nat) : Int32.ofInt (n : Int) = nI n := by
  refine Int32.toBitVec_inj.mp ?_
  show BitVec.ofInt 32 (n : Int) = BitVec.ofNat 32 n
  exact BitVec.ofInt_natCast 32 n
theorem ofI_i {i : Int} (h : 0 ≤ i) : Int32.ofInt i = nI i.toNat := by
  have e : i = ((i.toNat : Nat) : Int) := by omega
  exact (congrArg Int32.ofInt e).trans (ofI_n _)
theorem bt_1 (j : Nat) : bt (Int32.ofInt 1) j = decide (j = 0) := by
  unfold bt
  show (BitVec.ofInt 32 1).getLsbD j = _
  rcases Nat.lt_or_ge j 32 with h | h
  · exact (show ∀ j, j < 32 → (BitVec.ofInt 32 1).getLsbD j = decide (j = 0) by decide +kernel) j h
  · rw [BitVec.getLsbD_of_ge _ _ h, eq_comm, decide_eq_false_iff_not]; omega
/-- the bit i of x, as a truth value -/
def tb (x i : Int) : Bool := bt (Int32.ofInt x) i.toNat
theorem band1 (y : Int) : band y 1 = if bt (Int32.ofInt y) 0 then 1 else 0 := by
  unfold band
  have e : (Int32.ofInt y &&& Int32.ofInt 1) = if bt (Int32.ofInt y) 0 then Int32.ofInt 1 else Int32.ofInt 0 := by
    refine b_ext fun i hi => ?_
    rw [b_and, bt_1]
    by_cases q : i = 0
    · subst q; cases bt (Int32.ofInt y) 0 <;> decide
    · have z : bt (Int32.ofInt 0) i = false := b_0 i
      cases bt (Int32.ofInt y) 0
      · rw [if_neg (by decide), z]; simp [q]
      · rw [if_pos rfl, bt_1]; simp [q]
  rw [e]
  cases bt (Int32.ofInt y) 0 <;> decide
theorem bit_tb {x i : Int} (h1 : 0 ≤ i) (h2 : i < 32) : bit x i = if tb x i then 1 else 0 := by
  unfold bit tb
  rw [band1]
  have e : bt (Int32.ofInt (bshr x i)) 0 = bt (Int32.ofInt x) i.toNat := by
    unfold bshr
    rw [bo_i, ofI_i h1, b_sshr i.toNat (by omega) _ (by decide), if_pos (by omega), Nat.add_zero]
  rw [e]
theorem bit01 {x i : Int} : bit x i = 0 ∨ bit x i = 1 := by
  unfold bit; rw [band1]; cases bt (Int32.ofInt (bshr x i)) 0 <;> simp
theorem tb_or {x y i : Int} : tb (bor x y) i = (tb x i || tb y i) := by unfold tb bor; rw [bo_i, b_or]
theorem tb_and {x y i : Int} : tb (band x y) i = (tb x i && tb y i) := by unfold tb band; rw [bo_i, b_and]
theorem tb_shl1 {j i : Int} (j1 : 0 ≤ j) (j2 : j < 32) (i1 : 0 ≤ i) (i2 : i < 32) : tb (bshl 1 j) i = decide (i = j) := by
  unfold tb bshl
  rw [bo_i, ofI_i j1, b_shl j.toNat (by omega) _ (by omega), bt_1]
  by_cases q : i = j
  · subst q; simp
  · by_cases z : j.toNat ≤ i.toNat
    · have : ¬ (i.toNat - j.toNat = 0) := by omega
      simp [q, this]
    · simp [q, z]
theorem bit_or1 {x i j : Int} (j1 : 0 ≤ j) (j2 : j < 31) (i1 : 0 ≤ i) (i2 : i < 31) : bit (bor x (bshl 1 j)) i = if i = j then 1 else bit x i := by
  rw [bit_tb i1 (by omega), bit_tb i1 (by omega), tb_or, tb_shl1 j1 (by omega) i1 (by omega)]
  by_cases q : i = j <;> simp [q]
theorem bshl1 {j : Int} (j1 : 0 ≤ j) (j2 : j < 31) : bshl 1 j = 2 ^ j.toNat := by
  have e : j = ((j.toNat : Nat) : Int) := by omega
  have k : ∀ n : Nat, n < 31 → bshl 1 (n : Int) = 2 ^ n := by
    intro n hn
    unfold bshl
    rw [ofI_n]
    exact (show ∀ n, n < 31 → (Int32.ofInt 1 <<< (nI n &&& 31)).toInt = 2 ^ n by decide +kernel) n hn
  have := k j.toNat (by omega)
  rw [← e] at this
  exact this

