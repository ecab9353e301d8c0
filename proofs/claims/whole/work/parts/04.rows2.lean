/-! THE LAYER, 3: the rest of the arithmetic, the stack, branches, locals -/
theorem i3_div {x y : Int} (hx : 0 ≤ x ∧ x < 2147483648) (hy : 0 < y ∧ y < 2147483648) : Int32.ofInt x / Int32.ofInt y = Int32.ofInt (x / y) := by
  rw [← Int32.toInt_inj, Int32.toInt_div, i3_of ⟨by omega, hx.2⟩, i3_of ⟨by omega, hy.2⟩, Int32.toInt_ofInt, Int.tdiv_eq_ediv_of_nonneg hx.1]
theorem i3_rem {x y : Int} (hx : 0 ≤ x ∧ x < 2147483648) (hy : 0 < y ∧ y < 2147483648) : Int32.ofInt x - Int32.ofInt x / Int32.ofInt y * Int32.ofInt y = Int32.ofInt (x % y) := by
  rw [i3_div hx hy, ← Int32.ofInt_mul, ← Int32.ofInt_sub]
  congr 1
  have := Int.mul_ediv_add_emod x y
  have e2 : x / y * y = y * (x / y) := Int.mul_comm _ _
  omega
theorem l6_div {x y : Int} (hx : -9223372036854775808 ≤ x ∧ x < 9223372036854775808) (hy : -9223372036854775808 ≤ y ∧ y < 9223372036854775808) : Int64.ofInt x / Int64.ofInt y = Int64.ofInt (x.tdiv y) := by
  rw [← Int64.toInt_inj, Int64.toInt_div, l6_of hx, l6_of hy, Int64.toInt_ofInt]
theorem emod_ok {x y : Int} (hy : 0 < y ∧ y < 2147483648) : -2147483648 ≤ x % y ∧ x % y < 2147483648 := by
  have h1 := Int.emod_lt_of_pos x hy.1
  have h2 := Int.emod_nonneg x (show y ≠ 0 by omega)
  omega
theorem ediv_ok {x y : Int} (hx : 0 ≤ x ∧ x < 2147483648) (hy : 0 < y) : -2147483648 ≤ x / y ∧ x / y < 2147483648 := by
  have h1 := Int.ediv_nonneg hx.1 (show 0 ≤ y by omega)
  have h2 := Int.ediv_le_self y hx.1
  omega
/-- lcmp -/
def lc (x y : Int) : Int := if y < x then 1 else if x = y then 0 else -1
theorem lc_ok (x y : Int) : -2147483648 ≤ lc x y ∧ lc x y < 2147483648 := by
  unfold lc
  split
  · decide
  · split <;> decide
theorem lc_lt0 {x y : Int} : lc x y < 0 ↔ x < y := by
  unfold lc
  split
  · omega
  · split <;> omega
theorem lc_le0 {x y : Int} : lc x y ≤ 0 ↔ x ≤ y := by
  unfold lc
  split
  · omega
  · split <;> omega
theorem lc_eq0 {x y : Int} : lc x y = 0 ↔ x = y := by
  unfold lc
  split
  · omega
  · split <;> omega
theorem lc_gt0 {x y : Int} : 0 < lc x y ↔ y < x := by
  unfold lc
  split
  · omega
  · split <;> omega
theorem lc_ge0 {x y : Int} : 0 ≤ lc x y ↔ y ≤ x := by
  unfold lc
  split
  · omega
  · split <;> omega
theorem lc_cmp {x y : Int} (hx : -9223372036854775808 ≤ x ∧ x < 9223372036854775808) (hy : -9223372036854775808 ≤ y ∧ y < 9223372036854775808) : lg_cmp (Int64.ofInt x) (Int64.ofInt y) = Int32.ofInt (lc x y) := by
  unfold lg_cmp lc
  have e1 : (Int64.ofInt x > Int64.ofInt y) ↔ y < x := l6_lt hy hx
  have e2 := l6_eq hx hy
  by_cases h1 : y < x
  · rw [if_pos (e1.mpr h1), if_pos h1]; rfl
  · rw [if_neg (fun q => h1 (e1.mp q)), if_neg h1]
    by_cases h2 : x = y
    · rw [if_pos (e2.mpr h2), if_pos h2]; rfl
    · rw [if_neg (fun q => h2 (e2.mp q)), if_neg h2]; rfl
section
variable {E : xE} {M : Mth} {d : Nat} {B u : Nat × Nat} {pc b : Nat} {ls ls2 : List (Option Av)} {st : List Av} {h : Hp} {Q : Option Av → Hp → Prop}

theorem x_irem {x y : Int} (hd : decode (mCC M) pc = .ok (.irem, 1)) (hx0 : 0 ≤ x) (hy : 0 < y) (hb : pc + 1 = b) (k : X E M d B u b ls (xi (x % y) :: st) h Q) : X E M d B u pc ls (xi y :: xi x :: st) h Q := by
  subst hb
  intro wf ho hl hx p e s m args below meth c H locs L C hR hS hL
  have hC := C
  obtain ⟨c1, c2, c3, c4, c5, c6, c7, c8, c9⟩ := C
  have h1 : vok h (xi x) := ho _ (List.mem_cons_of_mem _ (List.mem_cons_self))
  have h2 : vok h (xi y) := ho _ List.mem_cons_self
  have kk := k wf (List.forall_mem_cons.mpr ⟨emod_ok ⟨hy, h2.2⟩, fun v hv => ho v (List.mem_cons_of_mem _ (List.mem_cons_of_mem _ hv))⟩) hl hx p e s m args below meth c H locs L hC hR hS hL
  have e1 : cv h (xi (x % y)) = .int (Int32.ofInt x - Int32.ofInt x / Int32.ofInt y * Int32.ofInt y) := by simp only [cv]; rw [i3_rem ⟨hx0, h1.2⟩ ⟨hy, h2.2⟩]
  rw [List.map_cons, e1] at kk
  exact lv_irem c1 c2 hd (fun q => by have := (i3_eq h2 v_0).mp (q.trans i3_0.symm); omega) kk
theorem x_idiv {x y : Int} (hd : decode (mCC M) pc = .ok (.idiv, 1)) (hx0 : 0 ≤ x) (hy : 0 < y) (hb : pc + 1 = b) (k : X E M d B u b ls (xi (x / y) :: st) h Q) : X E M d B u pc ls (xi y :: xi x :: st) h Q := by
  subst hb
  intro wf ho hl hx p e s m args below meth c H locs L C hR hS hL
  have hC := C
  obtain ⟨c1, c2, c3, c4, c5, c6, c7, c8, c9⟩ := C
  have h1 : vok h (xi x) := ho _ (List.mem_cons_of_mem _ (List.mem_cons_self))
  have h2 : vok h (xi y) := ho _ List.mem_cons_self
  have kk := k wf (List.forall_mem_cons.mpr ⟨ediv_ok ⟨hx0, h1.2⟩ hy, fun v hv => ho v (List.mem_cons_of_mem _ (List.mem_cons_of_mem _ hv))⟩) hl hx p e s m args below meth c H locs L hC hR hS hL
  have e1 : cv h (xi (x / y)) = .int (Int32.ofInt x / Int32.ofInt y) := by simp only [cv]; rw [i3_div ⟨hx0, h1.2⟩ ⟨hy, h2.2⟩]
  rw [List.map_cons, e1] at kk
  exact lv_idiv c1 c2 hd (fun q => by have := (i3_eq h2 v_0).mp (q.trans i3_0.symm); omega) kk
theorem x_ladd {x y : Int} (hd : decode (mCC M) pc = .ok (.ladd, 1)) (hv : -9223372036854775808 ≤ x + y ∧ x + y < 9223372036854775808) (hb : pc + 1 = b) (k : X E M d B u b ls (xl (x + y) :: st) h Q) : X E M d B u pc ls (xl y :: xl x :: st) h Q := by
  subst hb
  intro wf ho hl hx p e s m args below meth c H locs L C hR hS hL
  have hC := C
  obtain ⟨c1, c2, c3, c4, c5, c6, c7, c8, c9⟩ := C
  have h1 : vok h (xl x) := ho _ (List.mem_cons_of_mem _ (List.mem_cons_self))
  have h2 : vok h (xl y) := ho _ List.mem_cons_self
  have kk := k wf (List.forall_mem_cons.mpr ⟨hv, fun v hv => ho v (List.mem_cons_of_mem _ (List.mem_cons_of_mem _ hv))⟩) hl hx p e s m args below meth c H locs L hC hR hS hL
  have e1 : cv h (xl (x + y)) = .long (Int64.ofInt x + Int64.ofInt y) := by simp [cv]
  rw [List.map_cons, e1] at kk
  exact lv_ladd c1 c2 hd kk
theorem x_lsub {x y : Int} (hd : decode (mCC M) pc = .ok (.lsub, 1)) (hv : -9223372036854775808 ≤ x - y ∧ x - y < 9223372036854775808) (hb : pc + 1 = b) (k : X E M d B u b ls (xl (x - y) :: st) h Q) : X E M d B u pc ls (xl y :: xl x :: st) h Q := by
  subst hb
  intro wf ho hl hx p e s m args below meth c H locs L C hR hS hL
  have hC := C
  obtain ⟨c1, c2, c3, c4, c5, c6, c7, c8, c9⟩ := C
  have h1 : vok h (xl x) := ho _ (List.mem_cons_of_mem _ (List.mem_cons_self))
  have h2 : vok h (xl y) := ho _ List.mem_cons_self
  have kk := k wf (List.forall_mem_cons.mpr ⟨hv, fun v hv => ho v (List.mem_cons_of_mem _ (List.mem_cons_of_mem _ hv))⟩) hl hx p e s m args below meth c H locs L hC hR hS hL
  have e1 : cv h (xl (x - y)) = .long (Int64.ofInt x - Int64.ofInt y) := by simp [cv]
  rw [List.map_cons, e1] at kk
  exact lv_lsub c1 c2 hd kk
theorem x_lmul {x y : Int} (hd : decode (mCC M) pc = .ok (.lmul, 1)) (hv : -9223372036854775808 ≤ x * y ∧ x * y < 9223372036854775808) (hb : pc + 1 = b) (k : X E M d B u b ls (xl (x * y) :: st) h Q) : X E M d B u pc ls (xl y :: xl x :: st) h Q := by
  subst hb
  intro wf ho hl hx p e s m args below meth c H locs L C hR hS hL
  have hC := C
  obtain ⟨c1, c2, c3, c4, c5, c6, c7, c8, c9⟩ := C
  have h1 : vok h (xl x) := ho _ (List.mem_cons_of_mem _ (List.mem_cons_self))
  have h2 : vok h (xl y) := ho _ List.mem_cons_self
  have kk := k wf (List.forall_mem_cons.mpr ⟨hv, fun v hv => ho v (List.mem_cons_of_mem _ (List.mem_cons_of_mem _ hv))⟩) hl hx p e s m args below meth c H locs L hC hR hS hL
  have e1 : cv h (xl (x * y)) = .long (Int64.ofInt x * Int64.ofInt y) := by simp [cv]
  rw [List.map_cons, e1] at kk
  exact lv_lmul c1 c2 hd kk
theorem x_ldiv {x y : Int} (hd : decode (mCC M) pc = .ok (.ldiv, 1)) (hy : y ≠ 0) (hv : -9223372036854775808 ≤ x.tdiv y ∧ x.tdiv y < 9223372036854775808) (hb : pc + 1 = b) (k : X E M d B u b ls (xl (x.tdiv y) :: st) h Q) : X E M d B u pc ls (xl y :: xl x :: st) h Q := by
  subst hb
  intro wf ho hl hx p e s m args below meth c H locs L C hR hS hL
  have hC := C
  obtain ⟨c1, c2, c3, c4, c5, c6, c7, c8, c9⟩ := C
  have h1 : vok h (xl x) := ho _ (List.mem_cons_of_mem _ (List.mem_cons_self))
  have h2 : vok h (xl y) := ho _ List.mem_cons_self
  have kk := k wf (List.forall_mem_cons.mpr ⟨hv, fun v hv => ho v (List.mem_cons_of_mem _ (List.mem_cons_of_mem _ hv))⟩) hl hx p e s m args below meth c H locs L hC hR hS hL
  have e1 : cv h (xl (x.tdiv y)) = .long (Int64.ofInt x / Int64.ofInt y) := by simp only [cv]; rw [l6_div h1 h2]
  rw [List.map_cons, e1] at kk
  exact lv_ldiv c1 c2 hd (fun q => hy ((l6_eq h2 (by decide)).mp (q.trans (show (0 : Int64) = Int64.ofInt 0 from rfl)))) kk
def bandL (x y : Int) : Int := (Int64.ofInt x &&& Int64.ofInt y).toInt
theorem lo_ok (a : Int64) : -9223372036854775808 ≤ a.toInt ∧ a.toInt < 9223372036854775808 := by
  have h1 := Int64.le_toInt a
  have h2 := Int64.toInt_lt a
  omega
theorem lo_i (a : Int64) : Int64.ofInt a.toInt = a := Int64.ofInt_toInt _
/-- 1L << k, x >>> k, x | y of longs -/
def bshlL (x y : Int) : Int := (Int64.ofInt x <<< ((Int32.ofInt y).toInt64 &&& 63)).toInt
def bushrL (x y : Int) : Int := ((Int64.ofInt x).toUInt64 >>> ((Int32.ofInt y).toInt64.toUInt64 &&& Int64.toUInt64 63)).toInt64.toInt
def borL (x y : Int) : Int := (Int64.ofInt x ||| Int64.ofInt y).toInt
theorem x_land {x y : Int} (hd : decode (mCC M) pc = .ok (.land, 1))  (hb : pc + 1 = b) (k : X E M d B u b ls (xl (bandL x y) :: st) h Q) : X E M d B u pc ls (xl y :: xl x :: st) h Q := by
  subst hb
  intro wf ho hl hx p e s m args below meth c H locs L C hR hS hL
  have hC := C
  obtain ⟨c1, c2, c3, c4, c5, c6, c7, c8, c9⟩ := C
  have h1 : vok h (xl x) := ho _ (List.mem_cons_of_mem _ (List.mem_cons_self))
  have h2 : vok h (xl y) := ho _ List.mem_cons_self
  have kk := k wf (List.forall_mem_cons.mpr ⟨lo_ok _, fun v hv => ho v (List.mem_cons_of_mem _ (List.mem_cons_of_mem _ hv))⟩) hl hx p e s m args below meth c H locs L hC hR hS hL
  have e1 : cv h (xl (bandL x y)) = .long (Int64.ofInt x &&& Int64.ofInt y) := by simp only [cv, bandL, lo_i]
  rw [List.map_cons, e1] at kk
  exact lv_land c1 c2 hd kk
theorem x_lor {x y : Int} (hd : decode (mCC M) pc = .ok (.lor, 1))  (hb : pc + 1 = b) (k : X E M d B u b ls (xl (borL x y) :: st) h Q) : X E M d B u pc ls (xl y :: xl x :: st) h Q := by
  subst hb
  intro wf ho hl hx p e s m args below meth c H locs L C hR hS hL
  have hC := C
  obtain ⟨c1, c2, c3, c4, c5, c6, c7, c8, c9⟩ := C
  have h1 : vok h (xl x) := ho _ (List.mem_cons_of_mem _ (List.mem_cons_self))
  have h2 : vok h (xl y) := ho _ List.mem_cons_self
  have kk := k wf (List.forall_mem_cons.mpr ⟨lo_ok _, fun v hv => ho v (List.mem_cons_of_mem _ (List.mem_cons_of_mem _ hv))⟩) hl hx p e s m args below meth c H locs L hC hR hS hL
  have e1 : cv h (xl (borL x y)) = .long (Int64.ofInt x ||| Int64.ofInt y) := by simp only [cv, borL, lo_i]
  rw [List.map_cons, e1] at kk
  exact lv_lor c1 c2 hd kk
theorem x_lshl {x y : Int} (hd : decode (mCC M) pc = .ok (.lshl, 1)) (hb : pc + 1 = b) (k : X E M d B u b ls (xl (bshlL x y) :: st) h Q) : X E M d B u pc ls (xi y :: xl x :: st) h Q := by
  subst hb
  intro wf ho hl hx p e s m args below meth c H locs L C hR hS hL
  have hC := C
  obtain ⟨c1, c2, c3, c4, c5, c6, c7, c8, c9⟩ := C
  have kk := k wf (List.forall_mem_cons.mpr ⟨lo_ok _, fun v hv => ho v (List.mem_cons_of_mem _ (List.mem_cons_of_mem _ hv))⟩) hl hx p e s m args below meth c H locs L hC hR hS hL
  have e1 : cv h (xl (bshlL x y)) = .long (Int64.ofInt x <<< ((Int32.ofInt y).toInt64 &&& 63)) := by simp only [cv, bshlL, lo_i]
  rw [List.map_cons, e1] at kk
  exact lv_lshl c1 c2 hd rfl kk
theorem x_lushr {x y : Int} (hd : decode (mCC M) pc = .ok (.lushr, 1)) (hb : pc + 1 = b) (k : X E M d B u b ls (xl (bushrL x y) :: st) h Q) : X E M d B u pc ls (xi y :: xl x :: st) h Q := by
  subst hb
  intro wf ho hl hx p e s m args below meth c H locs L C hR hS hL
  have hC := C
  obtain ⟨c1, c2, c3, c4, c5, c6, c7, c8, c9⟩ := C
  have kk := k wf (List.forall_mem_cons.mpr ⟨lo_ok _, fun v hv => ho v (List.mem_cons_of_mem _ (List.mem_cons_of_mem _ hv))⟩) hl hx p e s m args below meth c H locs L hC hR hS hL
  have e1 : cv h (xl (bushrL x y)) = .long ((Int64.ofInt x).toUInt64 >>> ((Int32.ofInt y).toInt64.toUInt64 &&& Int64.toUInt64 63)).toInt64 := by simp only [cv, bushrL, lo_i]
  rw [List.map_cons, e1] at kk
  exact lv_lushr c1 c2 hd rfl kk
theorem x_lcmp {x y : Int} (hd : decode (mCC M) pc = .ok (.lcmp, 1)) (hb : pc + 1 = b) (k : X E M d B u b ls (xi (lc x y) :: st) h Q) : X E M d B u pc ls (xl y :: xl x :: st) h Q := by
  subst hb
  intro wf ho hl hx p e s m args below meth c H locs L C hR hS hL
  have hC := C
  obtain ⟨c1, c2, c3, c4, c5, c6, c7, c8, c9⟩ := C
  have h1 : vok h (xl x) := ho _ (List.mem_cons_of_mem _ (List.mem_cons_self))
  have h2 : vok h (xl y) := ho _ List.mem_cons_self
  have kk := k wf (List.forall_mem_cons.mpr ⟨lc_ok x y, fun v hv => ho v (List.mem_cons_of_mem _ (List.mem_cons_of_mem _ hv))⟩) hl hx p e s m args below meth c H locs L hC hR hS hL
  have e1 : cv h (xi (lc x y)) = .int (lg_cmp (Int64.ofInt x) (Int64.ofInt y)) := by simp only [cv]; rw [lc_cmp h1 h2]
  rw [List.map_cons, e1] at kk
  exact W.lcmp c1 c2 hd kk
theorem x_i2l {x : Int} (hd : decode (mCC M) pc = .ok (.i2l, 1)) (hb : pc + 1 = b) (k : X E M d B u b ls (xl x :: st) h Q) : X E M d B u pc ls (xi x :: st) h Q := by
  subst hb
  intro wf ho hl hx p e s m args below meth c H locs L C hR hS hL
  have hC := C
  obtain ⟨c1, c2, c3, c4, c5, c6, c7, c8, c9⟩ := C
  have h1 : vok h (xi x) := ho _ List.mem_cons_self
  have hv : (Int32.ofInt x).toInt64 = Int64.ofInt x := by
    have h3 := h1.1
    have h4 := h1.2
    rw [← Int64.toInt_inj, Int32.toInt_toInt64, i3_of h1, l6_of ⟨by omega, by omega⟩]
  exact lv_i2l c1 c2 hd hv (k wf (List.forall_mem_cons.mpr ⟨(by have h1 : vok h (xi x) := ho _ List.mem_cons_self; exact ⟨by have := h1.1; omega, by have := h1.2; omega⟩), fun v hv => ho v (List.mem_cons_of_mem _ hv)⟩) hl hx p e s m args below meth c H locs L hC hR hS hL)
theorem x_l2i {x : Int} (hd : decode (mCC M) pc = .ok (.l2i, 1)) (hv : -2147483648 ≤ x ∧ x < 2147483648) (hb : pc + 1 = b) (k : X E M d B u b ls (xi x :: st) h Q) : X E M d B u pc ls (xl x :: st) h Q := by
  subst hb
  intro wf ho hl hx p e s m args below meth c H locs L C hR hS hL
  have hC := C
  obtain ⟨c1, c2, c3, c4, c5, c6, c7, c8, c9⟩ := C
  have h2 : vok h (xl x) := ho _ List.mem_cons_self
  have e1 : (Int64.ofInt x).toInt32 = Int32.ofInt x := by
    rw [← Int32.toInt_inj, Int64.toInt_toInt32, l6_of h2, Int32.toInt_ofInt]
  exact lv_l2i c1 c2 hd e1 (k wf (List.forall_mem_cons.mpr ⟨hv, fun v hv => ho v (List.mem_cons_of_mem _ hv)⟩) hl hx p e s m args below meth c H locs L hC hR hS hL)
def tobyte (x : Int) : Int := (Int32.ofInt x).toInt8.toInt
theorem tobyte_ok (x : Int) : -128 ≤ tobyte x ∧ tobyte x < 128 := by
  have h1 := Int8.le_toInt (Int32.ofInt x).toInt8
  have h2 := Int8.toInt_lt (Int32.ofInt x).toInt8
  unfold tobyte
  omega
theorem x_i2b {x : Int} (hd : decode (mCC M) pc = .ok (.i2b, 1)) (hb : pc + 1 = b) (k : X E M d B u b ls (xi (tobyte x) :: st) h Q) : X E M d B u pc ls (xi x :: st) h Q := by
  subst hb
  intro wf ho hl hx p e s m args below meth c H locs L C hR hS hL
  have hC := C
  obtain ⟨c1, c2, c3, c4, c5, c6, c7, c8, c9⟩ := C
  have e1 : (Int32.ofInt x).toInt8.toInt32 = Int32.ofInt (tobyte x) := by unfold tobyte; exact (Int32.ofInt_int8ToInt _).symm
  exact lv_i2b c1 c2 hd e1 (k wf (List.forall_mem_cons.mpr ⟨(by have := tobyte_ok x; exact ⟨by omega, by omega⟩), fun v hv => ho v (List.mem_cons_of_mem _ hv)⟩) hl hx p e s m args below meth c H locs L hC hR hS hL)
theorem cat_i {h : Hp} {x : Int} : (cv h (xi x)).category = 1 := rfl
theorem cat_l {h : Hp} {x : Int} : (cv h (xl x)).category = 2 := rfl
theorem cat_o {h : Hp} {o : Option (Nat × Int)} : (cv h (xo o)).category = 1 := by
  unfold cv; simp only; cases xoa h o <;> rfl
/-- of one word -/
def one (v : Av) : Bool := match v with
  | .inr (.inl _) => false
  | _ => true
theorem cat_1 {h : Hp} {v : Av} (hv : one v = true) : (cv h v).category = 1 := by
  match v, hv with
  | .inl _, _ => rfl
  | .inr (.inr o), _ => exact cat_o
theorem x_dup {v : Av} (hd : decode (mCC M) pc = .ok (.dup, 1)) (hv : one v = true) (hb : pc + 1 = b) (k : X E M d B u b ls (v :: v :: st) h Q) : X E M d B u pc ls (v :: st) h Q := by
  subst hb
  intro wf ho hl hx p e s m args below meth c H locs L C hR hS hL
  have hC := C
  obtain ⟨c1, c2, c3, c4, c5, c6, c7, c8, c9⟩ := C
  exact lv_dup c1 c2 hd (cat_1 hv) (k wf (List.forall_mem_cons.mpr ⟨ho _ List.mem_cons_self, ho⟩) hl hx p e s m args below meth c H locs L hC hR hS hL)
theorem x_dup2 {v w : Av} (hd : decode (mCC M) pc = .ok (.dup2, 1)) (hv : one v = true) (hw : one w = true) (hb : pc + 1 = b) (k : X E M d B u b ls (v :: w :: v :: w :: st) h Q) : X E M d B u pc ls (v :: w :: st) h Q := by
  subst hb
  intro wf ho hl hx p e s m args below meth c H locs L C hR hS hL
  have hC := C
  obtain ⟨c1, c2, c3, c4, c5, c6, c7, c8, c9⟩ := C
  exact lv_dup2_11 c1 c2 hd (cat_1 hv) (cat_1 hw) (k wf (List.forall_mem_cons.mpr ⟨ho _ List.mem_cons_self, List.forall_mem_cons.mpr ⟨ho _ (List.mem_cons_of_mem _ (List.mem_cons_self)), ho⟩⟩) hl hx p e s m args below meth c H locs L hC hR hS hL)
theorem x_dup_x1 {v w : Av} (hd : decode (mCC M) pc = .ok (.dup_x1, 1)) (hv : one v = true) (hw : one w = true) (hb : pc + 1 = b) (k : X E M d B u b ls (v :: w :: v :: st) h Q) : X E M d B u pc ls (v :: w :: st) h Q := by
  subst hb
  intro wf ho hl hx p e s m args below meth c H locs L C hR hS hL
  have hC := C
  obtain ⟨c1, c2, c3, c4, c5, c6, c7, c8, c9⟩ := C
  exact lv_dup_x1 c1 c2 hd (cat_1 hv) (cat_1 hw) (k wf (List.forall_mem_cons.mpr ⟨ho _ List.mem_cons_self, List.forall_mem_cons.mpr ⟨ho _ (List.mem_cons_of_mem _ (List.mem_cons_self)), List.forall_mem_cons.mpr ⟨ho _ List.mem_cons_self, fun v hv => ho v (List.mem_cons_of_mem _ (List.mem_cons_of_mem _ hv))⟩⟩⟩) hl hx p e s m args below meth c H locs L hC hR hS hL)
theorem x_pop {v : Av} (hd : decode (mCC M) pc = .ok (.pop, 1)) (hv : one v = true) (hb : pc + 1 = b) (k : X E M d B u b ls (st) h Q) : X E M d B u pc ls (v :: st) h Q := by
  subst hb
  intro wf ho hl hx p e s m args below meth c H locs L C hR hS hL
  have hC := C
  obtain ⟨c1, c2, c3, c4, c5, c6, c7, c8, c9⟩ := C
  exact lv_pop c1 c2 hd (cat_1 hv) (k wf (fun v hv => ho v (List.mem_cons_of_mem _ hv)) hl hx p e s m args below meth c H locs L hC hR hS hL)
theorem x_icmp_eq {x y : Int} {off : Int} {tgt : Nat} (hd : decode (mCC M) pc = .ok (.if_icmp .eq off, 3)) (ht : (pc : Int) + off = (tgt : Int)) (hb : pc + 3 = b) (kt : x = y → X E M d B u tgt ls st h Q) (kf : ¬ x = y → X E M d B u b ls st h Q) : X E M d B u pc ls (xi y :: xi x :: st) h Q := by
  subst hb
  intro wf ho hl hx p e s m args below meth c H locs L C hR hS hL
  have hC := C
  obtain ⟨c1, c2, c3, c4, c5, c6, c7, c8, c9⟩ := C
  have h1 : vok h (xi x) := ho _ (List.mem_cons_of_mem _ (List.mem_cons_self))
  have h2 : vok h (xi y) := ho _ List.mem_cons_self
  have hi := i3_eq h1 h2
  exact lv_icmp_eq c1 c2 hd ht (fun q => kt (hi.mp q) wf (fun v hv => ho v (List.mem_cons_of_mem _ (List.mem_cons_of_mem _ hv))) hl hx p e s m args below meth c H locs L hC hR hS hL) (fun q => kf (fun z => q (hi.mpr z)) wf (fun v hv => ho v (List.mem_cons_of_mem _ (List.mem_cons_of_mem _ hv))) hl hx p e s m args below meth c H locs L hC hR hS hL)
theorem x_if_eq {x : Int} {off : Int} {tgt : Nat} (hd : decode (mCC M) pc = .ok (.ifCond .eq off, 3)) (ht : (pc : Int) + off = (tgt : Int)) (hb : pc + 3 = b) (kt : x = 0 → X E M d B u tgt ls st h Q) (kf : ¬ x = 0 → X E M d B u b ls st h Q) : X E M d B u pc ls (xi x :: st) h Q := by
  subst hb
  intro wf ho hl hx p e s m args below meth c H locs L C hR hS hL
  have hC := C
  obtain ⟨c1, c2, c3, c4, c5, c6, c7, c8, c9⟩ := C
  have h1 : vok h (xi x) := ho _ List.mem_cons_self
  have h2 := v_0
  have hi := i3_eq h1 h2
  exact lv_if_eq c1 c2 hd ht (fun q => kt (hi.mp q) wf (fun v hv => ho v (List.mem_cons_of_mem _ hv)) hl hx p e s m args below meth c H locs L hC hR hS hL) (fun q => kf (fun z => q (hi.mpr z)) wf (fun v hv => ho v (List.mem_cons_of_mem _ hv)) hl hx p e s m args below meth c H locs L hC hR hS hL)
theorem x_icmp_ne {x y : Int} {off : Int} {tgt : Nat} (hd : decode (mCC M) pc = .ok (.if_icmp .ne off, 3)) (ht : (pc : Int) + off = (tgt : Int)) (hb : pc + 3 = b) (kt : ¬ x = y → X E M d B u tgt ls st h Q) (kf : x = y → X E M d B u b ls st h Q) : X E M d B u pc ls (xi y :: xi x :: st) h Q := by
  subst hb
  intro wf ho hl hx p e s m args below meth c H locs L C hR hS hL
  have hC := C
  obtain ⟨c1, c2, c3, c4, c5, c6, c7, c8, c9⟩ := C
  have h1 : vok h (xi x) := ho _ (List.mem_cons_of_mem _ (List.mem_cons_self))
  have h2 : vok h (xi y) := ho _ List.mem_cons_self
  have hi := not_congr (i3_eq h1 h2)
  exact lv_icmp_ne c1 c2 hd ht (fun q => kt (hi.mp q) wf (fun v hv => ho v (List.mem_cons_of_mem _ (List.mem_cons_of_mem _ hv))) hl hx p e s m args below meth c H locs L hC hR hS hL) (fun q => kf ((i3_eq h1 h2).mp q) wf (fun v hv => ho v (List.mem_cons_of_mem _ (List.mem_cons_of_mem _ hv))) hl hx p e s m args below meth c H locs L hC hR hS hL)
theorem x_if_ne {x : Int} {off : Int} {tgt : Nat} (hd : decode (mCC M) pc = .ok (.ifCond .ne off, 3)) (ht : (pc : Int) + off = (tgt : Int)) (hb : pc + 3 = b) (kt : ¬ x = 0 → X E M d B u tgt ls st h Q) (kf : x = 0 → X E M d B u b ls st h Q) : X E M d B u pc ls (xi x :: st) h Q := by
  subst hb
  intro wf ho hl hx p e s m args below meth c H locs L C hR hS hL
  have hC := C
  obtain ⟨c1, c2, c3, c4, c5, c6, c7, c8, c9⟩ := C
  have h1 : vok h (xi x) := ho _ List.mem_cons_self
  have h2 := v_0
  have hi := not_congr (i3_eq h1 h2)
  exact lv_if_ne c1 c2 hd ht (fun q => kt (hi.mp q) wf (fun v hv => ho v (List.mem_cons_of_mem _ hv)) hl hx p e s m args below meth c H locs L hC hR hS hL) (fun q => kf ((i3_eq h1 h2).mp q) wf (fun v hv => ho v (List.mem_cons_of_mem _ hv)) hl hx p e s m args below meth c H locs L hC hR hS hL)
theorem x_icmp_lt {x y : Int} {off : Int} {tgt : Nat} (hd : decode (mCC M) pc = .ok (.if_icmp .lt off, 3)) (ht : (pc : Int) + off = (tgt : Int)) (hb : pc + 3 = b) (kt : x < y → X E M d B u tgt ls st h Q) (kf : ¬ x < y → X E M d B u b ls st h Q) : X E M d B u pc ls (xi y :: xi x :: st) h Q := by
  subst hb
  intro wf ho hl hx p e s m args below meth c H locs L C hR hS hL
  have hC := C
  obtain ⟨c1, c2, c3, c4, c5, c6, c7, c8, c9⟩ := C
  have h1 : vok h (xi x) := ho _ (List.mem_cons_of_mem _ (List.mem_cons_self))
  have h2 : vok h (xi y) := ho _ List.mem_cons_self
  have hi := i3_lt h1 h2
  exact lv_icmp_lt c1 c2 hd ht (fun q => kt (hi.mp q) wf (fun v hv => ho v (List.mem_cons_of_mem _ (List.mem_cons_of_mem _ hv))) hl hx p e s m args below meth c H locs L hC hR hS hL) (fun q => kf (fun z => q (hi.mpr z)) wf (fun v hv => ho v (List.mem_cons_of_mem _ (List.mem_cons_of_mem _ hv))) hl hx p e s m args below meth c H locs L hC hR hS hL)
theorem x_if_lt {x : Int} {off : Int} {tgt : Nat} (hd : decode (mCC M) pc = .ok (.ifCond .lt off, 3)) (ht : (pc : Int) + off = (tgt : Int)) (hb : pc + 3 = b) (kt : x < 0 → X E M d B u tgt ls st h Q) (kf : ¬ x < 0 → X E M d B u b ls st h Q) : X E M d B u pc ls (xi x :: st) h Q := by
  subst hb
  intro wf ho hl hx p e s m args below meth c H locs L C hR hS hL
  have hC := C
  obtain ⟨c1, c2, c3, c4, c5, c6, c7, c8, c9⟩ := C
  have h1 : vok h (xi x) := ho _ List.mem_cons_self
  have h2 := v_0
  have hi := i3_lt h1 h2
  exact lv_if_lt c1 c2 hd ht (fun q => kt (hi.mp q) wf (fun v hv => ho v (List.mem_cons_of_mem _ hv)) hl hx p e s m args below meth c H locs L hC hR hS hL) (fun q => kf (fun z => q (hi.mpr z)) wf (fun v hv => ho v (List.mem_cons_of_mem _ hv)) hl hx p e s m args below meth c H locs L hC hR hS hL)
theorem x_icmp_ge {x y : Int} {off : Int} {tgt : Nat} (hd : decode (mCC M) pc = .ok (.if_icmp .ge off, 3)) (ht : (pc : Int) + off = (tgt : Int)) (hb : pc + 3 = b) (kt : y ≤ x → X E M d B u tgt ls st h Q) (kf : ¬ y ≤ x → X E M d B u b ls st h Q) : X E M d B u pc ls (xi y :: xi x :: st) h Q := by
  subst hb
  intro wf ho hl hx p e s m args below meth c H locs L C hR hS hL
  have hC := C
  obtain ⟨c1, c2, c3, c4, c5, c6, c7, c8, c9⟩ := C
  have h1 : vok h (xi x) := ho _ (List.mem_cons_of_mem _ (List.mem_cons_self))
  have h2 : vok h (xi y) := ho _ List.mem_cons_self
  have hi := i3_le h2 h1
  exact lv_icmp_ge c1 c2 hd ht (fun q => kt (hi.mp q) wf (fun v hv => ho v (List.mem_cons_of_mem _ (List.mem_cons_of_mem _ hv))) hl hx p e s m args below meth c H locs L hC hR hS hL) (fun q => kf (fun z => q (hi.mpr z)) wf (fun v hv => ho v (List.mem_cons_of_mem _ (List.mem_cons_of_mem _ hv))) hl hx p e s m args below meth c H locs L hC hR hS hL)
theorem x_if_ge {x : Int} {off : Int} {tgt : Nat} (hd : decode (mCC M) pc = .ok (.ifCond .ge off, 3)) (ht : (pc : Int) + off = (tgt : Int)) (hb : pc + 3 = b) (kt : 0 ≤ x → X E M d B u tgt ls st h Q) (kf : ¬ 0 ≤ x → X E M d B u b ls st h Q) : X E M d B u pc ls (xi x :: st) h Q := by
  subst hb
  intro wf ho hl hx p e s m args below meth c H locs L C hR hS hL
  have hC := C
  obtain ⟨c1, c2, c3, c4, c5, c6, c7, c8, c9⟩ := C
  have h1 : vok h (xi x) := ho _ List.mem_cons_self
  have h2 := v_0
  have hi := i3_le h2 h1
  exact lv_if_ge c1 c2 hd ht (fun q => kt (hi.mp q) wf (fun v hv => ho v (List.mem_cons_of_mem _ hv)) hl hx p e s m args below meth c H locs L hC hR hS hL) (fun q => kf (fun z => q (hi.mpr z)) wf (fun v hv => ho v (List.mem_cons_of_mem _ hv)) hl hx p e s m args below meth c H locs L hC hR hS hL)
theorem x_icmp_gt {x y : Int} {off : Int} {tgt : Nat} (hd : decode (mCC M) pc = .ok (.if_icmp .gt off, 3)) (ht : (pc : Int) + off = (tgt : Int)) (hb : pc + 3 = b) (kt : y < x → X E M d B u tgt ls st h Q) (kf : ¬ y < x → X E M d B u b ls st h Q) : X E M d B u pc ls (xi y :: xi x :: st) h Q := by
  subst hb
  intro wf ho hl hx p e s m args below meth c H locs L C hR hS hL
  have hC := C
  obtain ⟨c1, c2, c3, c4, c5, c6, c7, c8, c9⟩ := C
  have h1 : vok h (xi x) := ho _ (List.mem_cons_of_mem _ (List.mem_cons_self))
  have h2 : vok h (xi y) := ho _ List.mem_cons_self
  have hi := i3_lt h2 h1
  exact lv_icmp_gt c1 c2 hd ht (fun q => kt (hi.mp q) wf (fun v hv => ho v (List.mem_cons_of_mem _ (List.mem_cons_of_mem _ hv))) hl hx p e s m args below meth c H locs L hC hR hS hL) (fun q => kf (fun z => q (hi.mpr z)) wf (fun v hv => ho v (List.mem_cons_of_mem _ (List.mem_cons_of_mem _ hv))) hl hx p e s m args below meth c H locs L hC hR hS hL)
theorem x_if_gt {x : Int} {off : Int} {tgt : Nat} (hd : decode (mCC M) pc = .ok (.ifCond .gt off, 3)) (ht : (pc : Int) + off = (tgt : Int)) (hb : pc + 3 = b) (kt : 0 < x → X E M d B u tgt ls st h Q) (kf : ¬ 0 < x → X E M d B u b ls st h Q) : X E M d B u pc ls (xi x :: st) h Q := by
  subst hb
  intro wf ho hl hx p e s m args below meth c H locs L C hR hS hL
  have hC := C
  obtain ⟨c1, c2, c3, c4, c5, c6, c7, c8, c9⟩ := C
  have h1 : vok h (xi x) := ho _ List.mem_cons_self
  have h2 := v_0
  have hi := i3_lt h2 h1
  exact lv_if_gt c1 c2 hd ht (fun q => kt (hi.mp q) wf (fun v hv => ho v (List.mem_cons_of_mem _ hv)) hl hx p e s m args below meth c H locs L hC hR hS hL) (fun q => kf (fun z => q (hi.mpr z)) wf (fun v hv => ho v (List.mem_cons_of_mem _ hv)) hl hx p e s m args below meth c H locs L hC hR hS hL)
theorem x_icmp_le {x y : Int} {off : Int} {tgt : Nat} (hd : decode (mCC M) pc = .ok (.if_icmp .le off, 3)) (ht : (pc : Int) + off = (tgt : Int)) (hb : pc + 3 = b) (kt : x ≤ y → X E M d B u tgt ls st h Q) (kf : ¬ x ≤ y → X E M d B u b ls st h Q) : X E M d B u pc ls (xi y :: xi x :: st) h Q := by
  subst hb
  intro wf ho hl hx p e s m args below meth c H locs L C hR hS hL
  have hC := C
  obtain ⟨c1, c2, c3, c4, c5, c6, c7, c8, c9⟩ := C
  have h1 : vok h (xi x) := ho _ (List.mem_cons_of_mem _ (List.mem_cons_self))
  have h2 : vok h (xi y) := ho _ List.mem_cons_self
  have hi := i3_le h1 h2
  exact lv_icmp_le c1 c2 hd ht (fun q => kt (hi.mp q) wf (fun v hv => ho v (List.mem_cons_of_mem _ (List.mem_cons_of_mem _ hv))) hl hx p e s m args below meth c H locs L hC hR hS hL) (fun q => kf (fun z => q (hi.mpr z)) wf (fun v hv => ho v (List.mem_cons_of_mem _ (List.mem_cons_of_mem _ hv))) hl hx p e s m args below meth c H locs L hC hR hS hL)
theorem x_if_le {x : Int} {off : Int} {tgt : Nat} (hd : decode (mCC M) pc = .ok (.ifCond .le off, 3)) (ht : (pc : Int) + off = (tgt : Int)) (hb : pc + 3 = b) (kt : x ≤ 0 → X E M d B u tgt ls st h Q) (kf : ¬ x ≤ 0 → X E M d B u b ls st h Q) : X E M d B u pc ls (xi x :: st) h Q := by
  subst hb
  intro wf ho hl hx p e s m args below meth c H locs L C hR hS hL
  have hC := C
  obtain ⟨c1, c2, c3, c4, c5, c6, c7, c8, c9⟩ := C
  have h1 : vok h (xi x) := ho _ List.mem_cons_self
  have h2 := v_0
  have hi := i3_le h1 h2
  exact lv_if_le c1 c2 hd ht (fun q => kt (hi.mp q) wf (fun v hv => ho v (List.mem_cons_of_mem _ hv)) hl hx p e s m args below meth c H locs L hC hR hS hL) (fun q => kf (fun z => q (hi.mpr z)) wf (fun v hv => ho v (List.mem_cons_of_mem _ hv)) hl hx p e s m args below meth c H locs L hC hR hS hL)
theorem x_goto {off : Int} {tgt : Nat} (hd : decode (mCC M) pc = .ok (.goto off, 3)) (ht : (pc : Int) + off = (tgt : Int)) (k : X E M d B u tgt ls st h Q) : X E M d B u pc ls st h Q := by
  intro wf ho hl hx p e s m args below meth c H locs L C hR hS hL
  have hC := C
  obtain ⟨c1, c2, c3, c4, c5, c6, c7, c8, c9⟩ := C
  exact lv_goto c1 c2 hd ht (k wf ho hl hx p e s m args below meth c H locs L hC hR hS hL)
theorem x_tableOut {dflt lo hi x : Int} {offs : Array Int} {len tgt : Nat} (hd : decode (mCC M) pc = .ok (.tableswitch dflt lo hi offs, len)) (hv : x < lo ∨ hi < x) (ht : (pc : Int) + dflt = (tgt : Int)) (k : X E M d B u tgt ls st h Q) : X E M d B u pc ls (xi x :: st) h Q := by
  intro wf ho hl hx p e s m args below meth c H locs L C hR hS hL
  have hC := C
  obtain ⟨c1, c2, c3, c4, c5, c6, c7, c8, c9⟩ := C
  have h1 : vok h (xi x) := ho _ List.mem_cons_self
  exact lv_tableOut c1 c2 hd (by rw [i3_of h1]; exact hv) ht (k wf (fun v hv => ho v (List.mem_cons_of_mem _ hv)) hl hx p e s m args below meth c H locs L hC hR hS hL)
theorem x_tableIn {dflt lo hi x off : Int} {offs : Array Int} {len tgt : Nat} (hd : decode (mCC M) pc = .ok (.tableswitch dflt lo hi offs, len)) (n : Int) (hn : x = n) (hv : ¬ n < lo ∧ ¬ hi < n) (hf : offs[(n - lo).toNat]? = some off) (ht : (pc : Int) + off = (tgt : Int)) (k : X E M d B u tgt ls st h Q) : X E M d B u pc ls (xi x :: st) h Q := by
  subst hn
  intro wf ho hl hx p e s m args below meth c H locs L C hR hS hL
  have hC := C
  obtain ⟨c1, c2, c3, c4, c5, c6, c7, c8, c9⟩ := C
  have h1 : vok h (xi x) := ho _ List.mem_cons_self
  exact lv_tableIn c1 c2 hd (by rw [i3_of h1]; exact hv.1) (by rw [i3_of h1]; exact hv.2) (by rw [i3_of h1]; exact hf) ht (k wf (fun v hv => ho v (List.mem_cons_of_mem _ hv)) hl hx p e s m args below meth c H locs L hC hR hS hL)
theorem x_lookup {dflt x off : Int} {ps : Array (Int × Int)} {len tgt : Nat} (hd : decode (mCC M) pc = .ok (.lookupswitch dflt ps, len)) (hp : (ps.toList.zip (ps.toList.drop 1)).all (fun (a, next) => a.1 < next.1) = true) (hf : Op.lookupswitch.offset ps.toList dflt x = off) (ht : (pc : Int) + off = (tgt : Int)) (k : X E M d B u tgt ls st h Q) : X E M d B u pc ls (xi x :: st) h Q := by
  intro wf ho hl hx p e s m args below meth c H locs L C hR hS hL
  have hC := C
  obtain ⟨c1, c2, c3, c4, c5, c6, c7, c8, c9⟩ := C
  have h1 : vok h (xi x) := ho _ List.mem_cons_self
  exact lv_lookup c1 c2 hd hp (by rw [i3_of h1]; exact hf) ht (k wf (fun v hv => ho v (List.mem_cons_of_mem _ hv)) hl hx p e s m args below meth c H locs L hC hR hS hL)

end
