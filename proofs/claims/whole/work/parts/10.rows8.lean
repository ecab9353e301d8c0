/-! THE LAYER, 9: Math, the constant arrays -/
def Mw (own : String) (idx : Nat) (y : MethodName) (cc : ByteArray) (n : Nat) (ret : Option FieldType) : Prop := Cond.methodLink own idx y ∈ Gw ∧ Cond.static y ∈ Gw ∧ Cond.initialized "java/lang/Math" ∈ Gw ∧ Cond.code y cc n ret ∈ Gw
def xtl : List (List (Option (Nat × Int × Bool))) := [[some (9, 0, true), some (1, 0, true), some (20, 0, true), none, none, some (21, 0, true), none, some (22, 0, true), some (23, 0, true), some (24, 0, true), none, none, none, none, none], [some (25, 0, true), some (26, 0, true), none, some (27, 0, true), some (28, 0, true)], [none, none, none, some (29, 0, true), some (30, 0, true), some (31, 0, true), some (32, 0, true), none, none, some (33, 0, true), none], [some (34, 0, true), some (35, 0, true), some (36, 0, true), some (37, 0, true), some (38, 0, true)], [none, none, none, none, none, none, none, none, none, none], [some (39, 0, true), some (40, 0, true), some (41, 0, true), some (42, 0, true), none, none], [some (2, 0, false), some (43, 0, true), some (44, 0, true), some (45, 0, true), none, none], [some (8, 0, false), none, none, none, none, none, none, none, none, none, none, none, none, none, some (46, 0, true), none, none, none, none], [some (47, 0, true), some (58, 0, false), none, none, none, none, some (48, 0, true), some (49, 0, true), some (50, 0, true), none], [none, none, none, none, none, none, none, some (51, 0, true), some (52, 0, true), some (53, 0, true), some (54, 0, true), some (55, 0, true), some (56, 0, true)], [none, none, none, none, none, none, none, none, some (57, 0, true)], [some (58, 0, true), none, none, none, some (7, 0, false), some (2, 0, false), some (6, 0, false), some (10, 0, false), some (3, 0, false), some (59, 0, true), none, some (10, 21, false), some (3, 1, false), none, some (5, 0, false), some (10, 22, false), none], [none, some (60, 0, true), none, some (61, 0, true), some (62, 0, true), some (63, 0, true), some (64, 0, true), some (65, 0, true), some (66, 0, true), some (67, 0, true), some (68, 0, true), some (69, 0, true), some (70, 0, true), some (71, 0, true), some (72, 0, true), some (73, 0, true), some (74, 0, true), some (75, 0, true), some (76, 0, true), some (77, 0, true), some (78, 0, true), some (79, 0, true), some (80, 0, true), some (81, 0, true), some (82, 0, true), none, none, none, none, none, none, none, none, none, none, none, none, none, some (83, 0, true), some (84, 0, true), some (85, 0, true), some (86, 0, true), some (87, 0, true), some (88, 0, true), some (89, 0, true), some (90, 0, true), some (91, 0, true), some (92, 0, true), some (93, 0, true), some (94, 0, true), some (95, 0, true), some (96, 0, true), some (97, 0, true), none, none, none, none, none, some (98, 0, true), some (99, 0, true), none, some (100, 0, true), some (101, 0, true), some (102, 0, true), none, some (103, 0, true), some (104, 0, true), none, none, some (105, 0, true), some (106, 0, true), some (107, 0, true), some (108, 0, true), some (109, 0, true), none, none, some (110, 0, true), some (111, 0, true), some (112, 0, true), some (113, 0, true)]]
section
variable {E : xE} {M : Mth} {d : Nat} {B u : Nat × Nat} {pc b : Nat} {ls ls2 : List (Option Av)} {st : List Av} {h : Hp} {Q : Option Av → Hp → Prop}
theorem x_min {x y : Int} {idx : Nat} (hd : decode (mCC M) pc = .ok (.invokestatic idx, 3)) (hw : Mw (mOwn M) idx Lib.Math.min.name Lib.Math.min.code 2 (some .int)) (hcat : (st.map wid).sum ≤ 8) (hu : u.1 ≤ B.1 ∧ u.2 ≤ B.2) (hb : pc + 3 = b) (k : X E M (d + 1) B u b ls (xi (min x y) :: st) h Q) : X E M (d + 1) B u pc ls (xi y :: xi x :: st) h Q := by
  subst hb
  intro wf ho hl hx p e s m args below meth c H locs L C hR hS hL
  have hC := C
  obtain ⟨c1, c2, c3, c4, c5, c6, c7, c8, c9⟩ := C
  have h1 : vok h (xi x) := ho _ (List.mem_cons_of_mem _ List.mem_cons_self)
  have h2 : vok h (xi y) := ho _ List.mem_cons_self
  have hv : vok h (xi (min x y)) := by
    show -2147483648 ≤ min x y ∧ min x y < 2147483648
    have q1 := h1.1
    have q2 := h1.2
    have q3 := h2.1
    have q4 := h2.2
    omega
  have kk := k wf (List.forall_mem_cons.mpr ⟨hv, fun v hv => ho v (List.mem_cons_of_mem _ (List.mem_cons_of_mem _ hv))⟩) hl hx p e s m args below meth c H locs L hC hR hS hL
  have e1 : cv h (xi (min x y)) = .int (if Int32.ofInt y < Int32.ofInt x then Int32.ofInt y else Int32.ofInt x) := by
    simp only [cv]
    congr 1
    have hi := i3_lt h2 h1
    by_cases q : y < x
    · rw [if_pos (hi.mpr q)]; congr 1; omega
    · rw [if_neg (fun z => q (hi.mp z))]; congr 1; omega
  rw [List.map_cons, e1] at kk
  refine va_mmin c1 c2 (c4.trans hL.1.symm) c5 (c7 _ hw.1) (c7 _ hw.2.1) (c7 _ hw.2.2.1) (c7 _ hw.2.2.2) (show 1 ≤ d + 1 by omega) ?_ hu.1 hu.2 hd kk
  rw [wid_sum]
  show (st.map wid).sum + 13 ≤ 64 * (d + 1)
  omega
theorem x_max {x y : Int} {idx : Nat} (hd : decode (mCC M) pc = .ok (.invokestatic idx, 3)) (hw : Mw (mOwn M) idx Lib.Math.max.name Lib.Math.max.code 2 (some .int)) (hcat : (st.map wid).sum ≤ 8) (hu : u.1 ≤ B.1 ∧ u.2 ≤ B.2) (hb : pc + 3 = b) (k : X E M (d + 1) B u b ls (xi (max x y) :: st) h Q) : X E M (d + 1) B u pc ls (xi y :: xi x :: st) h Q := by
  subst hb
  intro wf ho hl hx p e s m args below meth c H locs L C hR hS hL
  have hC := C
  obtain ⟨c1, c2, c3, c4, c5, c6, c7, c8, c9⟩ := C
  have h1 : vok h (xi x) := ho _ (List.mem_cons_of_mem _ List.mem_cons_self)
  have h2 : vok h (xi y) := ho _ List.mem_cons_self
  have hv : vok h (xi (max x y)) := by
    show -2147483648 ≤ max x y ∧ max x y < 2147483648
    have q1 := h1.1
    have q2 := h1.2
    have q3 := h2.1
    have q4 := h2.2
    omega
  have kk := k wf (List.forall_mem_cons.mpr ⟨hv, fun v hv => ho v (List.mem_cons_of_mem _ (List.mem_cons_of_mem _ hv))⟩) hl hx p e s m args below meth c H locs L hC hR hS hL
  have e1 : cv h (xi (max x y)) = .int (if Int32.ofInt x < Int32.ofInt y then Int32.ofInt y else Int32.ofInt x) := by
    simp only [cv]
    congr 1
    have hi := i3_lt h1 h2
    by_cases q : x < y
    · rw [if_pos (hi.mpr q)]; congr 1; omega
    · rw [if_neg (fun z => q (hi.mp z))]; congr 1; omega
  rw [List.map_cons, e1] at kk
  refine va_mmax c1 c2 (c4.trans hL.1.symm) c5 (c7 _ hw.1) (c7 _ hw.2.1) (c7 _ hw.2.2.1) (c7 _ hw.2.2.2) (show 1 ≤ d + 1 by omega) ?_ hu.1 hu.2 hd kk
  rw [wid_sum]
  show (st.map wid).sum + 13 ≤ 64 * (d + 1)
  omega
theorem x_labs {x : Int} {idx : Nat} (hd : decode (mCC M) pc = .ok (.invokestatic idx, 3)) (hw : Mw (mOwn M) idx Lib.MathLoose.abs_long.x Lib.MathLoose.abs_long.code 2 (some .long)) (hcat : (st.map wid).sum ≤ 8) (hu : u.1 ≤ B.1 ∧ u.2 ≤ B.2) (hn : -9223372036854775808 < x) (hb : pc + 3 = b) (k : X E M (d + 1) B u b ls (xl (if 0 < x then x else -x) :: st) h Q) : X E M (d + 1) B u pc ls (xl x :: st) h Q := by
  subst hb
  intro wf ho hl hx p e s m args below meth c H locs L C hR hS hL
  have hC := C
  obtain ⟨c1, c2, c3, c4, c5, c6, c7, c8, c9⟩ := C
  have h1 : vok h (xl x) := ho _ List.mem_cons_self
  have hv : vok h (xl (if 0 < x then x else -x)) := by
    show -9223372036854775808 ≤ (if 0 < x then x else -x) ∧ (if 0 < x then x else -x) < 9223372036854775808
    have q1 := h1.1
    have q2 := h1.2
    split <;> omega
  have kk := k wf (List.forall_mem_cons.mpr ⟨hv, fun v hv => ho v (List.mem_cons_of_mem _ hv)⟩) hl hx p e s m args below meth c H locs L hC hR hS hL
  have e1 : cv h (xl (if 0 < x then x else -x)) = .long (if 0 < Int64.ofInt x then Int64.ofInt x else -Int64.ofInt x) := by
    simp only [cv]
    congr 1
    have hi : (0 : Int64) < Int64.ofInt x ↔ 0 < x := l6_lt (x := 0) (by decide) h1
    by_cases q : 0 < x
    · rw [if_pos (hi.mpr q), if_pos q]
    · rw [if_neg (fun z => q (hi.mp z)), if_neg q, Int64.ofInt_neg]
  rw [List.map_cons, e1] at kk
  refine va_mabs_long c1 c2 (c4.trans hL.1.symm) c5 (c7 _ hw.1) (c7 _ hw.2.1) (c7 _ hw.2.2.1) (c7 _ hw.2.2.2) (show 1 ≤ d + 1 by omega) ?_ hu.1 hu.2 hd kk
  rw [wid_sum]
  show (st.map wid).sum + 13 ≤ 64 * (d + 1)
  omega
theorem x_gsOrd {idx : Nat} (ho1 : mOwn M = "PlateVote") (hd : decode (mCC M) pc = .ok (.getstatic idx, 3)) (hw : Cond.fieldLink (mOwn M) idx "PlateVote" "ORDERS" "[I" ∈ Gw) (hb : pc + 3 = b) (k : X E M d B u b ls (xr 900 0 :: st) h Q) : X E M d B u pc ls st h Q := by
  subst hb
  intro wf ho hl hx p e s m args below meth c H locs L C hR hS hL
  have hC := C
  obtain ⟨c1, c2, c3, c4, c5, c6, c7, c8, c9⟩ := C
  have hA : h.2.2 900 0 = some (E.1.2.2.2 0) := wf.2.2.2.1
  have hv : vok h (xr 900 0) := fun q hq => by cases hq; exact ⟨_, hA⟩
  have kk := k wf (List.forall_mem_cons.mpr ⟨hv, ho⟩) hl hx p e s m args below meth c H locs L hC hR hS hL
  have e1 : cv h (xr 900 0) = .ref (E.1.2.2.2 0) := by simp [cv, xoa, hA, va_rf]
  rw [List.map_cons, e1] at kk
  exact va_gets c1 c2 c8.2.2.1 hS c5 (c7 _ hw) (fun _ h9 => h9) hd kk
theorem x_gsOrdN {idx : Nat} (ho1 : mOwn M = "PlateVote$Galley") (hd : decode (mCC M) pc = .ok (.getstatic 252, 3)) (hb : pc + 3 = b) (k : X E M d B u b ls (xr 900 0 :: st) h Q) : X E M d B u pc ls st h Q := by
  subst hb
  intro wf ho hl hx p e s m args below meth c H locs L C hR hS hL
  have hC := C
  obtain ⟨c1, c2, c3, c4, c5, c6, c7, c8, c9⟩ := C
  have hA : h.2.2 900 0 = some (E.1.2.2.2 0) := wf.2.2.2.1
  have hv : vok h (xr 900 0) := fun q hq => by cases hq; exact ⟨_, hA⟩
  have kk := k wf (List.forall_mem_cons.mpr ⟨hv, ho⟩) hl hx p e s m args below meth c H locs L hC hR hS hL
  have e1 : cv h (xr 900 0) = .ref (E.1.2.2.2 0) := by simp [cv, xoa, hA, va_rf]
  rw [List.map_cons, e1] at kk
  exact va_getsN c1 c2 c8.2.2.1 hS (by rw [← ho1]; exact c5) (va_Nw.use rfl c8.2.2.2.2.2.2.1) (fun _ h9 => h9) hd kk
theorem x_gsRnk {idx : Nat} (ho1 : mOwn M = "PlateVote$Reader") (hd : decode (mCC M) pc = .ok (.getstatic idx, 3)) (hw : Cond.fieldLink (mOwn M) idx "PlateVote$Reader" "RANK" "[I" ∈ Gw) (hb : pc + 3 = b) (k : X E M d B u b ls (xr 901 0 :: st) h Q) : X E M d B u pc ls st h Q := by
  subst hb
  intro wf ho hl hx p e s m args below meth c H locs L C hR hS hL
  have hC := C
  obtain ⟨c1, c2, c3, c4, c5, c6, c7, c8, c9⟩ := C
  have hA : h.2.2 901 0 = some (E.1.2.2.2 1) := wf.2.2.2.2.1
  have hv : vok h (xr 901 0) := fun q hq => by cases hq; exact ⟨_, hA⟩
  have kk := k wf (List.forall_mem_cons.mpr ⟨hv, ho⟩) hl hx p e s m args below meth c H locs L hC hR hS hL
  have e1 : cv h (xr 901 0) = .ref (E.1.2.2.2 1) := by simp [cv, xoa, hA, va_rf]
  rw [List.map_cons, e1] at kk
  exact va_gets c1 c2 c8.2.2.2.2.1 hS c5 (c7 _ hw) (fun _ h9 => h9) hd kk
theorem x_ialdO {x v : Int} (hd : decode (mCC M) pc = .ok (.iaload, 1)) (hi : 0 ≤ x ∧ x < 10) (hv : xOrd.getD x.toNat 0 = v) (hb : pc + 1 = b) (k : X E M d B u b ls (xi v :: st) h Q) : X E M d B u pc ls (xi x :: xr 900 0 :: st) h Q := by
  subst hb
  subst hv
  intro wf ho hl hx p e s m args below meth c H locs L C hR hS hL
  have hC := C
  obtain ⟨c1, c2, c3, c4, c5, c6, c7, c8, c9⟩ := C
  have hA : h.2.2 900 0 = some (E.1.2.2.2 0) := wf.2.2.2.1
  have e1 : cv h (xr 900 0) = .ref (E.1.2.2.2 0) := by simp [cv, xoa, hA, va_rf]
  obtain ⟨i1, i2⟩ := in_of (n := 10) (by decide) hi
  have hvv : vok h (xi (xOrd.getD x.toNat 0)) := by
    have hall : ∀ j, j < 10 → -2147483648 ≤ xOrd.getD j 0 ∧ xOrd.getD j 0 < 2147483648 := by decide
    exact hall _ (by omega)
  have kk := k wf (List.forall_mem_cons.mpr ⟨hvv, fun v hv => ho v (List.mem_cons_of_mem _ (List.mem_cons_of_mem _ hv))⟩) hl hx p e s m args below meth c H locs L hC hR hS hL
  rw [List.map_cons, List.map_cons, e1]
  exact va_ti c1 c2 c8.2.2.2.1 hS i1 (by rw [i2]; rfl) hd kk
theorem x_alenO {v : Int} (hd : decode (mCC M) pc = .ok (.arraylength, 1)) (hv : 10 = v) (hb : pc + 1 = b) (k : X E M d B u b ls (xi v :: st) h Q) : X E M d B u pc ls (xr 900 0 :: st) h Q := by
  subst hb
  subst hv
  intro wf ho hl hx p e s m args below meth c H locs L C hR hS hL
  have hC := C
  obtain ⟨c1, c2, c3, c4, c5, c6, c7, c8, c9⟩ := C
  have hA : h.2.2 900 0 = some (E.1.2.2.2 0) := wf.2.2.2.1
  have e1 : cv h (xr 900 0) = .ref (E.1.2.2.2 0) := by simp [cv, xoa, hA, va_rf]
  have kk := k wf (List.forall_mem_cons.mpr ⟨(by decide : -2147483648 ≤ (10 : Int) ∧ (10 : Int) < 2147483648), fun v hv => ho v (List.mem_cons_of_mem _ hv)⟩) hl hx p e s m args below meth c H locs L hC hR hS hL
  rw [List.map_cons, e1]
  exact va_tlen c1 c2 c8.2.2.2.1 hS rfl hd kk
theorem x_ialdR {x v : Int} (hd : decode (mCC M) pc = .ok (.iaload, 1)) (hi : 0 ≤ x ∧ x < 16) (hv : xRnk.getD x.toNat 0 = v) (hb : pc + 1 = b) (k : X E M d B u b ls (xi v :: st) h Q) : X E M d B u pc ls (xi x :: xr 901 0 :: st) h Q := by
  subst hb
  subst hv
  intro wf ho hl hx p e s m args below meth c H locs L C hR hS hL
  have hC := C
  obtain ⟨c1, c2, c3, c4, c5, c6, c7, c8, c9⟩ := C
  have hA : h.2.2 901 0 = some (E.1.2.2.2 1) := wf.2.2.2.2.1
  have e1 : cv h (xr 901 0) = .ref (E.1.2.2.2 1) := by simp [cv, xoa, hA, va_rf]
  obtain ⟨i1, i2⟩ := in_of (n := 16) (by decide) hi
  have hvv : vok h (xi (xRnk.getD x.toNat 0)) := by
    have hall : ∀ j, j < 16 → -2147483648 ≤ xRnk.getD j 0 ∧ xRnk.getD j 0 < 2147483648 := by decide
    exact hall _ (by omega)
  have kk := k wf (List.forall_mem_cons.mpr ⟨hvv, fun v hv => ho v (List.mem_cons_of_mem _ (List.mem_cons_of_mem _ hv))⟩) hl hx p e s m args below meth c H locs L hC hR hS hL
  rw [List.map_cons, List.map_cons, e1]
  exact va_ti c1 c2 c8.2.2.2.2.2.1 hS i1 (by rw [i2]; rfl) hd kk
theorem x_alenR {v : Int} (hd : decode (mCC M) pc = .ok (.arraylength, 1)) (hv : 16 = v) (hb : pc + 1 = b) (k : X E M d B u b ls (xi v :: st) h Q) : X E M d B u pc ls (xr 901 0 :: st) h Q := by
  subst hb
  subst hv
  intro wf ho hl hx p e s m args below meth c H locs L C hR hS hL
  have hC := C
  obtain ⟨c1, c2, c3, c4, c5, c6, c7, c8, c9⟩ := C
  have hA : h.2.2 901 0 = some (E.1.2.2.2 1) := wf.2.2.2.2.1
  have e1 : cv h (xr 901 0) = .ref (E.1.2.2.2 1) := by simp [cv, xoa, hA, va_rf]
  have kk := k wf (List.forall_mem_cons.mpr ⟨(by decide : -2147483648 ≤ (16 : Int) ∧ (16 : Int) < 2147483648), fun v hv => ho v (List.mem_cons_of_mem _ hv)⟩) hl hx p e s m args below meth c H locs L hC hR hS hL
  rw [List.map_cons, e1]
  exact va_tlen c1 c2 c8.2.2.2.2.2.1 hS rfl hd kk
/-- where the references that never change lead: region, number, whether it is the owner's own number -/
def xtg (r k : Nat) : Option (Nat × Int × Bool) := (((xtl.getD r []).getD k none) : Option (Nat × Int × Bool))
def Lay (h : Hp) : Prop := ∀ (r k : Nat) (i : Int) (a : Nat) (t : Nat × Int × Bool), h.2.2 r i = some a → xtg r k = some t → h.2.1 r i k = some (t.1, if t.2.2 then i else t.2.1)
theorem x_getL {idx r k : Nat} {ft : FieldType} {fin : Bool} {i j : Int} {t : Nat × Int × Bool} (hf : Fk (mOwn M) idx r k ft fin) (hd : decode (mCC M) pc = .ok (.getfield idx, 3)) (hk : xkd r k = 4) (hL : Lay h) (ht : xtg r k = some t) (hj : (if t.2.2 then i else t.2.1) = j) (hb : pc + 3 = b) (kk : X E M d B u b ls (xr t.1 j :: st) h Q) : X E M d B u pc ls (xr r i :: st) h Q := by
  intro wf ho hl
  have hv : vok h (xr r i) := ho _ List.mem_cons_self
  obtain ⟨a, ha⟩ := hv _ rfl
  refine x_getR hf hd hk (v := some (t.1, j)) ?_ hb kk wf ho hl
  subst hj
  exact hL r k i a t ha ht
end
