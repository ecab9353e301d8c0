/-! THE LAYER, 2: a row an instruction, over the judgement X -/
theorem i3_of {x : Int} (h : -2147483648 ≤ x ∧ x < 2147483648) : (Int32.ofInt x).toInt = x := Int32.toInt_ofInt_of_le (by omega) (by omega)
theorem l6_of {x : Int} (h : -9223372036854775808 ≤ x ∧ x < 9223372036854775808) : (Int64.ofInt x).toInt = x := Int64.toInt_ofInt_of_le (by omega) (by omega)
theorem i3_lt {x y : Int} (hx : -2147483648 ≤ x ∧ x < 2147483648) (hy : -2147483648 ≤ y ∧ y < 2147483648) : Int32.ofInt x < Int32.ofInt y ↔ x < y := by rw [Int32.lt_iff_toInt_lt, i3_of hx, i3_of hy]
theorem i3_le {x y : Int} (hx : -2147483648 ≤ x ∧ x < 2147483648) (hy : -2147483648 ≤ y ∧ y < 2147483648) : Int32.ofInt x ≤ Int32.ofInt y ↔ x ≤ y := by rw [Int32.le_iff_toInt_le, i3_of hx, i3_of hy]
theorem i3_eq {x y : Int} (hx : -2147483648 ≤ x ∧ x < 2147483648) (hy : -2147483648 ≤ y ∧ y < 2147483648) : Int32.ofInt x = Int32.ofInt y ↔ x = y := by rw [← Int32.toInt_inj, i3_of hx, i3_of hy]
theorem l6_lt {x y : Int} (hx : -9223372036854775808 ≤ x ∧ x < 9223372036854775808) (hy : -9223372036854775808 ≤ y ∧ y < 9223372036854775808) : Int64.ofInt x < Int64.ofInt y ↔ x < y := by rw [Int64.lt_iff_toInt_lt, l6_of hx, l6_of hy]
theorem l6_eq {x y : Int} (hx : -9223372036854775808 ≤ x ∧ x < 9223372036854775808) (hy : -9223372036854775808 ≤ y ∧ y < 9223372036854775808) : Int64.ofInt x = Int64.ofInt y ↔ x = y := by rw [← Int64.toInt_inj, l6_of hx, l6_of hy]
theorem i3_0 : Int32.ofInt 0 = 0 := rfl
theorem v_0 : -2147483648 ≤ (0 : Int) ∧ (0 : Int) < 2147483648 := by decide
/-- what is above 32 bits is cut -/
def w32 (z : Int) : Int := (Int32.ofInt z).toInt
theorem w32_of {z : Int} (h : -2147483648 ≤ z ∧ z < 2147483648) : w32 z = z := i3_of h
theorem w32_ok (z : Int) : -2147483648 ≤ w32 z ∧ w32 z < 2147483648 := by
  have h1 := Int32.le_toInt (Int32.ofInt z)
  have h2 := Int32.toInt_lt (Int32.ofInt z)
  unfold w32
  omega
theorem w32_i (z : Int) : Int32.ofInt (w32 z) = Int32.ofInt z := Int32.ofInt_toInt _
def w64 (z : Int) : Int := (Int64.ofInt z).toInt
theorem w64_of {z : Int} (h : -9223372036854775808 ≤ z ∧ z < 9223372036854775808) : w64 z = z := l6_of h
theorem w64_ok (z : Int) : -9223372036854775808 ≤ w64 z ∧ w64 z < 9223372036854775808 := by
  have h1 := Int64.le_toInt (Int64.ofInt z)
  have h2 := Int64.toInt_lt (Int64.ofInt z)
  unfold w64
  omega
theorem w64_i (z : Int) : Int64.ofInt (w64 z) = Int64.ofInt z := Int64.ofInt_toInt _
section
variable {E : xE} {M : Mth} {d : Nat} {B u : Nat × Nat} {pc b : Nat} {ls ls' : List (Option Av)} {st : List Av} {h : Hp} {Q : Option Av → Hp → Prop}
theorem X.at {ls2 : List (Option Av)} {st2 : List Av} {b2 : Nat} (e1 : pc = b2) (e2 : ls = ls2) (e3 : st = st2) (k : X E M d B u b2 ls2 st2 h Q) : X E M d B u pc ls st h Q := by
  subst e1; subst e2; subst e3; exact k

theorem bo_ok (a : Int32) : -2147483648 ≤ a.toInt ∧ a.toInt < 2147483648 := by
  have h1 := Int32.le_toInt a
  have h2 := Int32.toInt_lt a
  omega
theorem bo_i (a : Int32) : Int32.ofInt a.toInt = a := Int32.ofInt_toInt _
def band (x y : Int) : Int := (Int32.ofInt x &&& Int32.ofInt y).toInt
def bor (x y : Int) : Int := (Int32.ofInt x ||| Int32.ofInt y).toInt
def bxor (x y : Int) : Int := (Int32.ofInt x ^^^ Int32.ofInt y).toInt
def bshl (x y : Int) : Int := (Int32.ofInt x <<< (Int32.ofInt y &&& 31)).toInt
def bshr (x y : Int) : Int := (Int32.ofInt x >>> (Int32.ofInt y &&& 31)).toInt

theorem x_iconst {n : Int} (hd : decode (mCC M) pc = .ok (.iconst n, 1)) (hn : -2147483648 ≤ n ∧ n < 2147483648) (hb : pc + 1 = b) (k : X E M d B u b ls (xi n :: st) h Q) : X E M d B u pc ls (st) h Q := by
  subst hb
  intro wf ho hl hx p e s m args below meth c H locs L C hR hS hL
  have hC := C
  obtain ⟨c1, c2, c3, c4, c5, c6, c7, c8, c9⟩ := C
  exact lv_iconst c1 c2 hd rfl (k wf (List.forall_mem_cons.mpr ⟨hn, ho⟩) hl hx p e s m args below meth c H locs L hC hR hS hL)
theorem x_bipush {n : Int} (hd : decode (mCC M) pc = .ok (.bipush n, 2)) (hn : -128 ≤ n ∧ n < 128) (hb : pc + 2 = b) (k : X E M d B u b ls (xi n :: st) h Q) : X E M d B u pc ls (st) h Q := by
  subst hb
  intro wf ho hl hx p e s m args below meth c H locs L C hR hS hL
  have hC := C
  obtain ⟨c1, c2, c3, c4, c5, c6, c7, c8, c9⟩ := C
  have hv : (Int8.ofInt n).toInt32 = Int32.ofInt n := by
    rw [← Int32.toInt_inj, Int8.toInt_toInt32, Int8.toInt_ofInt_of_le (by omega) (by omega), i3_of ⟨by omega, by omega⟩]
  exact lv_bipush c1 c2 hd hv (k wf (List.forall_mem_cons.mpr ⟨(⟨by omega, by omega⟩ : -2147483648 ≤ n ∧ n < 2147483648), ho⟩) hl hx p e s m args below meth c H locs L hC hR hS hL)
theorem x_sipush {n : Int} (hd : decode (mCC M) pc = .ok (.sipush n, 3)) (hn : -32768 ≤ n ∧ n < 32768) (hb : pc + 3 = b) (k : X E M d B u b ls (xi n :: st) h Q) : X E M d B u pc ls (st) h Q := by
  subst hb
  intro wf ho hl hx p e s m args below meth c H locs L C hR hS hL
  have hC := C
  obtain ⟨c1, c2, c3, c4, c5, c6, c7, c8, c9⟩ := C
  have hv : (Int16.ofInt n).toInt32 = Int32.ofInt n := by
    rw [← Int32.toInt_inj, Int16.toInt_toInt32, Int16.toInt_ofInt_of_le (by omega) (by omega), i3_of ⟨by omega, by omega⟩]
  exact lv_sipush c1 c2 hd hv (k wf (List.forall_mem_cons.mpr ⟨(⟨by omega, by omega⟩ : -2147483648 ≤ n ∧ n < 2147483648), ho⟩) hl hx p e s m args below meth c H locs L hC hR hS hL)
theorem x_lconst {n : Fin 2} {z : Int} (hd : decode (mCC M) pc = .ok (.lconst n, 1)) (hz : Int64.ofNat (n : Nat) = Int64.ofInt z) (hn : -9223372036854775808 ≤ z ∧ z < 9223372036854775808) (hb : pc + 1 = b) (k : X E M d B u b ls (xl z :: st) h Q) : X E M d B u pc ls (st) h Q := by
  subst hb
  intro wf ho hl hx p e s m args below meth c H locs L C hR hS hL
  have hC := C
  obtain ⟨c1, c2, c3, c4, c5, c6, c7, c8, c9⟩ := C
  exact lv_lconst c1 c2 hd hz (k wf (List.forall_mem_cons.mpr ⟨hn, ho⟩) hl hx p e s m args below meth c H locs L hC hR hS hL)
theorem x_ldc {i : Nat} {z : Int} (hd : decode (mCC M) pc = .ok (.ldc i, 2)) (hw : Cond.constant (mOwn M) i (Int32.ofInt z) ∈ Gw) (hn : -2147483648 ≤ z ∧ z < 2147483648) (hb : pc + 2 = b) (k : X E M d B u b ls (xi z :: st) h Q) : X E M d B u pc ls (st) h Q := by
  subst hb
  intro wf ho hl hx p e s m args below meth c H locs L C hR hS hL
  have hC := C
  obtain ⟨c1, c2, c3, c4, c5, c6, c7, c8, c9⟩ := C
  exact lv_ldc c1 c2 c5 (c7 _ hw) hd (k wf (List.forall_mem_cons.mpr ⟨hn, ho⟩) hl hx p e s m args below meth c H locs L hC hR hS hL)
theorem x_ldc2 {i : Nat} {z : Int} (hd : decode (mCC M) pc = .ok (.ldc2_w i, 3)) (hw : Cond.constantLong (mOwn M) i (Int64.ofInt z) ∈ Gw) (hn : -9223372036854775808 ≤ z ∧ z < 9223372036854775808) (hb : pc + 3 = b) (k : X E M d B u b ls (xl z :: st) h Q) : X E M d B u pc ls (st) h Q := by
  subst hb
  intro wf ho hl hx p e s m args below meth c H locs L C hR hS hL
  have hC := C
  obtain ⟨c1, c2, c3, c4, c5, c6, c7, c8, c9⟩ := C
  exact lv_ldc2 c1 c2 c5 (c7 _ hw) hd (k wf (List.forall_mem_cons.mpr ⟨hn, ho⟩) hl hx p e s m args below meth c H locs L hC hR hS hL)
theorem x_aconst_null (hd : decode (mCC M) pc = .ok (.aconst_null, 1)) (hb : pc + 1 = b) (k : X E M d B u b ls (xo none :: st) h Q) : X E M d B u pc ls (st) h Q := by
  subst hb
  intro wf ho hl hx p e s m args below meth c H locs L C hR hS hL
  have hC := C
  obtain ⟨c1, c2, c3, c4, c5, c6, c7, c8, c9⟩ := C
  exact lv_null c1 c2 hd (k wf (List.forall_mem_cons.mpr ⟨(fun _ h9 => (by cases h9)), ho⟩) hl hx p e s m args below meth c H locs L hC hR hS hL)
theorem x_iload_n {j : Fin 4} {i : Nat} {x : Int} (hd : decode (mCC M) pc = .ok (.iload_n j, 1)) (hj : (j : Nat) = i) (hi : ls[i]? = some (some (xi x))) (hb : pc + 1 = b) (k : X E M d B u b ls (xi x :: st) h Q) : X E M d B u pc ls (st) h Q := by
  subst hb
  intro wf ho hl hx p e s m args below meth c H locs L C hR hS hL
  have hC := C
  obtain ⟨c1, c2, c3, c4, c5, c6, c7, c8, c9⟩ := C
  exact lv_iload_n c1 c2 hd hj (hL.2.2 _ _ hi) (k wf (List.forall_mem_cons.mpr ⟨hl _ (List.mem_of_getElem? hi), ho⟩) hl hx p e s m args below meth c H locs L hC hR hS hL)
theorem x_iload {i : Nat} {x : Int} (hd : decode (mCC M) pc = .ok (.iload i, 2)) (hi : ls[i]? = some (some (xi x))) (hb : pc + 2 = b) (k : X E M d B u b ls (xi x :: st) h Q) : X E M d B u pc ls (st) h Q := by
  subst hb
  intro wf ho hl hx p e s m args below meth c H locs L C hR hS hL
  have hC := C
  obtain ⟨c1, c2, c3, c4, c5, c6, c7, c8, c9⟩ := C
  exact lv_iload c1 c2 hd (hL.2.2 _ _ hi) (k wf (List.forall_mem_cons.mpr ⟨hl _ (List.mem_of_getElem? hi), ho⟩) hl hx p e s m args below meth c H locs L hC hR hS hL)
theorem x_lload_n {j : Fin 4} {i : Nat} {x : Int} (hd : decode (mCC M) pc = .ok (.lload_n j, 1)) (hj : (j : Nat) = i) (hi : ls[i]? = some (some (xl x))) (hb : pc + 1 = b) (k : X E M d B u b ls (xl x :: st) h Q) : X E M d B u pc ls (st) h Q := by
  subst hb
  intro wf ho hl hx p e s m args below meth c H locs L C hR hS hL
  have hC := C
  obtain ⟨c1, c2, c3, c4, c5, c6, c7, c8, c9⟩ := C
  exact lv_lload_n c1 c2 hd hj (hL.2.2 _ _ hi) (k wf (List.forall_mem_cons.mpr ⟨hl _ (List.mem_of_getElem? hi), ho⟩) hl hx p e s m args below meth c H locs L hC hR hS hL)
theorem x_lload {i : Nat} {x : Int} (hd : decode (mCC M) pc = .ok (.lload i, 2)) (hi : ls[i]? = some (some (xl x))) (hb : pc + 2 = b) (k : X E M d B u b ls (xl x :: st) h Q) : X E M d B u pc ls (st) h Q := by
  subst hb
  intro wf ho hl hx p e s m args below meth c H locs L C hR hS hL
  have hC := C
  obtain ⟨c1, c2, c3, c4, c5, c6, c7, c8, c9⟩ := C
  exact lv_lload c1 c2 hd (hL.2.2 _ _ hi) (k wf (List.forall_mem_cons.mpr ⟨hl _ (List.mem_of_getElem? hi), ho⟩) hl hx p e s m args below meth c H locs L hC hR hS hL)
theorem x_aload_n {j : Fin 4} {i r : Nat} {n : Int} (hd : decode (mCC M) pc = .ok (.aload_n j, 1)) (hj : (j : Nat) = i) (hi : ls[i]? = some (some (xr r n))) (hb : pc + 1 = b) (k : X E M d B u b ls (xr r n :: st) h Q) : X E M d B u pc ls (st) h Q := by
  subst hb
  intro wf ho hl hx p e s m args below meth c H locs L C hR hS hL
  have hC := C
  obtain ⟨c1, c2, c3, c4, c5, c6, c7, c8, c9⟩ := C
  have hv := hl _ (List.mem_of_getElem? hi)
  obtain ⟨a, ha⟩ := hv _ rfl
  have h2 := hL.2.2 _ _ hi
  have e1 : cv h (xr r n) = .ref a := by simp [cv, xoa, ha, va_rf]
  rw [e1] at h2
  have kk := k wf (List.forall_mem_cons.mpr ⟨hl _ (List.mem_of_getElem? hi), ho⟩) hl hx p e s m args below meth c H locs L hC hR hS hL
  rw [List.map_cons, e1] at kk
  exact lv_aload_n c1 c2 hd hj h2 kk
theorem x_aload {i r : Nat} {n : Int} (hd : decode (mCC M) pc = .ok (.aload i, 2)) (hi : ls[i]? = some (some (xr r n))) (hb : pc + 2 = b) (k : X E M d B u b ls (xr r n :: st) h Q) : X E M d B u pc ls (st) h Q := by
  subst hb
  intro wf ho hl hx p e s m args below meth c H locs L C hR hS hL
  have hC := C
  obtain ⟨c1, c2, c3, c4, c5, c6, c7, c8, c9⟩ := C
  have hv := hl _ (List.mem_of_getElem? hi)
  obtain ⟨a, ha⟩ := hv _ rfl
  have h2 := hL.2.2 _ _ hi
  have e1 : cv h (xr r n) = .ref a := by simp [cv, xoa, ha, va_rf]
  rw [e1] at h2
  have kk := k wf (List.forall_mem_cons.mpr ⟨hl _ (List.mem_of_getElem? hi), ho⟩) hl hx p e s m args below meth c H locs L hC hR hS hL
  rw [List.map_cons, e1] at kk
  exact lv_aload c1 c2 hd h2 kk
theorem x_iadd {x y : Int} (hd : decode (mCC M) pc = .ok (.iadd, 1)) (hv : -2147483648 ≤ x + y ∧ x + y < 2147483648) (hb : pc + 1 = b) (k : X E M d B u b ls (xi (x + y) :: st) h Q) : X E M d B u pc ls (xi y :: xi x :: st) h Q := by
  subst hb
  intro wf ho hl hx p e s m args below meth c H locs L C hR hS hL
  have hC := C
  obtain ⟨c1, c2, c3, c4, c5, c6, c7, c8, c9⟩ := C
  have kk := k wf (List.forall_mem_cons.mpr ⟨hv, fun v hv => ho v (List.mem_cons_of_mem _ (List.mem_cons_of_mem _ hv))⟩) hl hx p e s m args below meth c H locs L hC hR hS hL
  have e1 : cv h (xi (x + y)) = .int (Int32.ofInt x + Int32.ofInt y) := by simp [cv]
  rw [List.map_cons, e1] at kk
  exact lv_iadd c1 c2 hd kk
theorem x_isub {x y : Int} (hd : decode (mCC M) pc = .ok (.isub, 1)) (hv : -2147483648 ≤ x - y ∧ x - y < 2147483648) (hb : pc + 1 = b) (k : X E M d B u b ls (xi (x - y) :: st) h Q) : X E M d B u pc ls (xi y :: xi x :: st) h Q := by
  subst hb
  intro wf ho hl hx p e s m args below meth c H locs L C hR hS hL
  have hC := C
  obtain ⟨c1, c2, c3, c4, c5, c6, c7, c8, c9⟩ := C
  have kk := k wf (List.forall_mem_cons.mpr ⟨hv, fun v hv => ho v (List.mem_cons_of_mem _ (List.mem_cons_of_mem _ hv))⟩) hl hx p e s m args below meth c H locs L hC hR hS hL
  have e1 : cv h (xi (x - y)) = .int (Int32.ofInt x - Int32.ofInt y) := by simp [cv]
  rw [List.map_cons, e1] at kk
  exact lv_isub c1 c2 hd kk
theorem x_imul {x y : Int} (hd : decode (mCC M) pc = .ok (.imul, 1)) (hv : -2147483648 ≤ x * y ∧ x * y < 2147483648) (hb : pc + 1 = b) (k : X E M d B u b ls (xi (x * y) :: st) h Q) : X E M d B u pc ls (xi y :: xi x :: st) h Q := by
  subst hb
  intro wf ho hl hx p e s m args below meth c H locs L C hR hS hL
  have hC := C
  obtain ⟨c1, c2, c3, c4, c5, c6, c7, c8, c9⟩ := C
  have kk := k wf (List.forall_mem_cons.mpr ⟨hv, fun v hv => ho v (List.mem_cons_of_mem _ (List.mem_cons_of_mem _ hv))⟩) hl hx p e s m args below meth c H locs L hC hR hS hL
  have e1 : cv h (xi (x * y)) = .int (Int32.ofInt x * Int32.ofInt y) := by simp [cv]
  rw [List.map_cons, e1] at kk
  exact lv_imul c1 c2 hd kk
theorem x_iaddw {x y : Int} (hd : decode (mCC M) pc = .ok (.iadd, 1)) (hb : pc + 1 = b) (k : X E M d B u b ls (xi (w32 (x + y)) :: st) h Q) : X E M d B u pc ls (xi y :: xi x :: st) h Q := by
  subst hb
  intro wf ho hl hx p e s m args below meth c H locs L C hR hS hL
  have hC := C
  obtain ⟨c1, c2, c3, c4, c5, c6, c7, c8, c9⟩ := C
  have kk := k wf (List.forall_mem_cons.mpr ⟨w32_ok _, fun v hv => ho v (List.mem_cons_of_mem _ (List.mem_cons_of_mem _ hv))⟩) hl hx p e s m args below meth c H locs L hC hR hS hL
  have e1 : cv h (xi (w32 (x + y))) = .int (Int32.ofInt x + Int32.ofInt y) := by simp [cv, w32_i, bo_i, band, bor, bxor, bshl, bshr]
  rw [List.map_cons, e1] at kk
  exact lv_iadd c1 c2 hd kk
theorem x_isubw {x y : Int} (hd : decode (mCC M) pc = .ok (.isub, 1)) (hb : pc + 1 = b) (k : X E M d B u b ls (xi (w32 (x - y)) :: st) h Q) : X E M d B u pc ls (xi y :: xi x :: st) h Q := by
  subst hb
  intro wf ho hl hx p e s m args below meth c H locs L C hR hS hL
  have hC := C
  obtain ⟨c1, c2, c3, c4, c5, c6, c7, c8, c9⟩ := C
  have kk := k wf (List.forall_mem_cons.mpr ⟨w32_ok _, fun v hv => ho v (List.mem_cons_of_mem _ (List.mem_cons_of_mem _ hv))⟩) hl hx p e s m args below meth c H locs L hC hR hS hL
  have e1 : cv h (xi (w32 (x - y))) = .int (Int32.ofInt x - Int32.ofInt y) := by simp [cv, w32_i, bo_i, band, bor, bxor, bshl, bshr]
  rw [List.map_cons, e1] at kk
  exact lv_isub c1 c2 hd kk
theorem x_imulw {x y : Int} (hd : decode (mCC M) pc = .ok (.imul, 1)) (hb : pc + 1 = b) (k : X E M d B u b ls (xi (w32 (x * y)) :: st) h Q) : X E M d B u pc ls (xi y :: xi x :: st) h Q := by
  subst hb
  intro wf ho hl hx p e s m args below meth c H locs L C hR hS hL
  have hC := C
  obtain ⟨c1, c2, c3, c4, c5, c6, c7, c8, c9⟩ := C
  have kk := k wf (List.forall_mem_cons.mpr ⟨w32_ok _, fun v hv => ho v (List.mem_cons_of_mem _ (List.mem_cons_of_mem _ hv))⟩) hl hx p e s m args below meth c H locs L hC hR hS hL
  have e1 : cv h (xi (w32 (x * y))) = .int (Int32.ofInt x * Int32.ofInt y) := by simp [cv, w32_i, bo_i, band, bor, bxor, bshl, bshr]
  rw [List.map_cons, e1] at kk
  exact lv_imul c1 c2 hd kk
theorem x_iand {x y : Int} (hd : decode (mCC M) pc = .ok (.iand, 1)) (hb : pc + 1 = b) (k : X E M d B u b ls (xi (band x y) :: st) h Q) : X E M d B u pc ls (xi y :: xi x :: st) h Q := by
  subst hb
  intro wf ho hl hx p e s m args below meth c H locs L C hR hS hL
  have hC := C
  obtain ⟨c1, c2, c3, c4, c5, c6, c7, c8, c9⟩ := C
  have kk := k wf (List.forall_mem_cons.mpr ⟨bo_ok _, fun v hv => ho v (List.mem_cons_of_mem _ (List.mem_cons_of_mem _ hv))⟩) hl hx p e s m args below meth c H locs L hC hR hS hL
  have e1 : cv h (xi (band x y)) = .int (Int32.ofInt x &&& Int32.ofInt y) := by simp [cv, w32_i, bo_i, band, bor, bxor, bshl, bshr]
  rw [List.map_cons, e1] at kk
  exact lv_iand c1 c2 hd kk
theorem x_ior {x y : Int} (hd : decode (mCC M) pc = .ok (.ior, 1)) (hb : pc + 1 = b) (k : X E M d B u b ls (xi (bor x y) :: st) h Q) : X E M d B u pc ls (xi y :: xi x :: st) h Q := by
  subst hb
  intro wf ho hl hx p e s m args below meth c H locs L C hR hS hL
  have hC := C
  obtain ⟨c1, c2, c3, c4, c5, c6, c7, c8, c9⟩ := C
  have kk := k wf (List.forall_mem_cons.mpr ⟨bo_ok _, fun v hv => ho v (List.mem_cons_of_mem _ (List.mem_cons_of_mem _ hv))⟩) hl hx p e s m args below meth c H locs L hC hR hS hL
  have e1 : cv h (xi (bor x y)) = .int (Int32.ofInt x ||| Int32.ofInt y) := by simp [cv, w32_i, bo_i, band, bor, bxor, bshl, bshr]
  rw [List.map_cons, e1] at kk
  exact lv_ior c1 c2 hd kk
theorem x_ixor {x y : Int} (hd : decode (mCC M) pc = .ok (.ixor, 1)) (hb : pc + 1 = b) (k : X E M d B u b ls (xi (bxor x y) :: st) h Q) : X E M d B u pc ls (xi y :: xi x :: st) h Q := by
  subst hb
  intro wf ho hl hx p e s m args below meth c H locs L C hR hS hL
  have hC := C
  obtain ⟨c1, c2, c3, c4, c5, c6, c7, c8, c9⟩ := C
  have kk := k wf (List.forall_mem_cons.mpr ⟨bo_ok _, fun v hv => ho v (List.mem_cons_of_mem _ (List.mem_cons_of_mem _ hv))⟩) hl hx p e s m args below meth c H locs L hC hR hS hL
  have e1 : cv h (xi (bxor x y)) = .int (Int32.ofInt x ^^^ Int32.ofInt y) := by simp [cv, w32_i, bo_i, band, bor, bxor, bshl, bshr]
  rw [List.map_cons, e1] at kk
  exact lv_ixor c1 c2 hd kk
theorem x_ishl {x y : Int} (hd : decode (mCC M) pc = .ok (.ishl, 1)) (hb : pc + 1 = b) (k : X E M d B u b ls (xi (bshl x y) :: st) h Q) : X E M d B u pc ls (xi y :: xi x :: st) h Q := by
  subst hb
  intro wf ho hl hx p e s m args below meth c H locs L C hR hS hL
  have hC := C
  obtain ⟨c1, c2, c3, c4, c5, c6, c7, c8, c9⟩ := C
  have kk := k wf (List.forall_mem_cons.mpr ⟨bo_ok _, fun v hv => ho v (List.mem_cons_of_mem _ (List.mem_cons_of_mem _ hv))⟩) hl hx p e s m args below meth c H locs L hC hR hS hL
  have e1 : cv h (xi (bshl x y)) = .int (Int32.ofInt x <<< (Int32.ofInt y &&& 31)) := by simp [cv, w32_i, bo_i, band, bor, bxor, bshl, bshr]
  rw [List.map_cons, e1] at kk
  exact lv_ishl c1 c2 hd kk
theorem x_ishr {x y : Int} (hd : decode (mCC M) pc = .ok (.ishr, 1)) (hb : pc + 1 = b) (k : X E M d B u b ls (xi (bshr x y) :: st) h Q) : X E M d B u pc ls (xi y :: xi x :: st) h Q := by
  subst hb
  intro wf ho hl hx p e s m args below meth c H locs L C hR hS hL
  have hC := C
  obtain ⟨c1, c2, c3, c4, c5, c6, c7, c8, c9⟩ := C
  have kk := k wf (List.forall_mem_cons.mpr ⟨bo_ok _, fun v hv => ho v (List.mem_cons_of_mem _ (List.mem_cons_of_mem _ hv))⟩) hl hx p e s m args below meth c H locs L hC hR hS hL
  have e1 : cv h (xi (bshr x y)) = .int (Int32.ofInt x >>> (Int32.ofInt y &&& 31)) := by simp [cv, w32_i, bo_i, band, bor, bxor, bshl, bshr]
  rw [List.map_cons, e1] at kk
  exact lv_ishr c1 c2 hd kk
end
