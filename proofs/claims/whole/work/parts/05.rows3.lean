/-! THE LAYER, 4: locals that change, answers -/
/-- the listed locals, as the kit has them -/
def lcs (h : Hp) : Nat → List (Option Av) → List (Nat × Value)
  | _, [] => []
  | n, none :: l => lcs h (n + 1) l
  | n, some v :: l => (n, cv h v) :: lcs h (n + 1) l
theorem lcs_mem {h : Hp} {q : Nat × Value} : ∀ {ls : List (Option Av)} {n : Nat}, q ∈ lcs h n ls ↔ ∃ (i : Nat) (v : Av), ls[i]? = some (some v) ∧ q = (n + i, cv h v)
  | [], n => by simp [lcs]
  | none :: l, n => by
    rw [lcs, lcs_mem]
    constructor
    · rintro ⟨i, v, h1, h2⟩
      exact ⟨i + 1, v, by simpa using h1, by rw [h2]; congr 1; omega⟩
    · rintro ⟨i, v, h1, h2⟩
      cases i with
      | zero => simp at h1
      | succ i => exact ⟨i, v, by simpa using h1, by rw [h2]; congr 1; omega⟩
  | some w :: l, n => by
    rw [lcs, List.mem_cons, lcs_mem]
    constructor
    · rintro (h1 | ⟨i, v, h1, h2⟩)
      · exact ⟨0, w, rfl, by rw [h1]; rfl⟩
      · exact ⟨i + 1, v, by simpa using h1, by rw [h2]; congr 1; omega⟩
    · rintro ⟨i, v, h1, h2⟩
      cases i with
      | zero =>
        simp at h1
        subst h1
        exact Or.inl (by rw [h2]; rfl)
      | succ i => exact Or.inr ⟨i, v, by simpa using h1, by rw [h2]; congr 1; omega⟩
theorem Lh.has {h : Hp} {L : Array Slot} {n : Nat} {ls : List (Option Av)} (hL : Lh h L n ls) : lv_has L n (lcs h 0 ls) := by
  refine ⟨hL.1, hL.2.1, fun q hq => ?_⟩
  obtain ⟨i, v, h1, h2⟩ := lcs_mem.mp hq
  rw [h2, Nat.zero_add]
  exact hL.2.2 i v h1
theorem Lh.of {h : Hp} {L : Array Slot} {n : Nat} {ls : List (Option Av)} {l : List (Nat × Value)} (hL : lv_has L n l) (hs : ∀ (i : Nat) (v : Av), ls[i]? = some (some v) → (i, cv h v) ∈ l) : Lh h L n ls := ⟨hL.1, hL.2.1, fun i v hi => hL.2.2 (i, cv h v) (hs i v hi)⟩
theorem Lh.heap {h h2 : Hp} {L : Array Slot} {n : Nat} {ls : List (Option Av)} (hL : Lh h L n ls) (e : ∀ v, some v ∈ ls → cv h2 v = cv h v) : Lh h2 L n ls := ⟨hL.1, hL.2.1, fun i v hi => by rw [e v (List.mem_of_getElem? hi)]; exact hL.2.2 i v hi⟩
/-- the long whose second half is overwritten is forgotten -/
def clr (ls : List (Option Av)) (i : Nat) : List (Option Av) := match i with
  | 0 => ls
  | i + 1 => match ls[i]? with
    | some (some (.inr (.inl _))) => ls.set i none
    | _ => ls
theorem clr_get {ls : List (Option Av)} {i j : Nat} {v : Av} (hj : (clr ls i)[j]? = some (some v)) : ls[j]? = some (some v) ∧ ¬ (j + 1 = i ∧ one v = false) := by
  unfold clr at hj
  match i with
  | 0 => exact ⟨hj, fun q => absurd q.1 (by omega)⟩
  | i + 1 =>
    simp only at hj
    split at hj
    · rename_i z hz
      by_cases hij : i = j
      · subst hij
        have : i < ls.length := (List.getElem?_eq_some_iff.mp hz).1
        rw [List.getElem?_set_self this] at hj
        cases hj
      · rw [List.getElem?_set_ne hij] at hj
        exact ⟨hj, fun q => hij (by omega)⟩
    · rename_i hz
      refine ⟨hj, fun q => ?_⟩
      have hij : i = j := by omega
      subst hij
      match v, q.2 with
      | .inr (.inl z), _ => exact hz z hj
theorem one_cat {h : Hp} {v : Av} (hv : (cv h v).category = 2) : one v = false := by
  match v with
  | .inl _ => cases hv
  | .inr (.inl _) => rfl
  | .inr (.inr o) => rw [show (cv h (.inr (.inr o))).category = 1 from cat_o] at hv; cases hv
def st1 (ls : List (Option Av)) (i : Nat) (v : Av) : List (Option Av) := (clr ls i).set i (some v)
def st2 (ls : List (Option Av)) (i : Nat) (v : Av) : List (Option Av) := ((clr ls i).set i (some v)).set (i + 1) none
theorem st1_has {h : Hp} {ls : List (Option Av)} {i j : Nat} {v w : Av} (hj : (st1 ls i v)[j]? = some (some w)) : (j, cv h w) ∈ (i, cv h v) :: (lcs h 0 ls).filter (fun q => !(q.1 == i) && !(q.1 + 1 == i && q.2.category == 2)) := by
  unfold st1 at hj
  by_cases hij : i = j
  · subst hij
    by_cases hl : i < (clr ls i).length
    · rw [List.getElem?_set_self hl] at hj
      cases hj
      exact List.mem_cons_self
    · rw [List.getElem?_set] at hj
      simp [hl] at hj
  · rw [List.getElem?_set_ne hij] at hj
    obtain ⟨h1, h2⟩ := clr_get hj
    refine List.mem_cons_of_mem _ (List.mem_filter.mpr ⟨lcs_mem.mpr ⟨j, w, h1, by rw [Nat.zero_add]⟩, ?_⟩)
    simp only [Bool.and_eq_true, Bool.not_eq_true', beq_eq_false_iff_ne, ne_eq, Bool.and_eq_false_iff]
    refine ⟨fun q => hij q.symm, ?_⟩
    by_cases q1 : j + 1 = i
    · exact Or.inr (fun q2 => h2 ⟨q1, one_cat q2⟩)
    · exact Or.inl q1
theorem st2_has {h : Hp} {ls : List (Option Av)} {i j : Nat} {v w : Av} (hj : (st2 ls i v)[j]? = some (some w)) : (j, cv h w) ∈ (i, cv h v) :: (lcs h 0 ls).filter (fun q => !(q.1 == i) && (!(q.1 == i + 1) && !(q.1 + 1 == i && q.2.category == 2))) := by
  unfold st2 at hj
  by_cases hk : i + 1 = j
  · subst hk
    rw [List.getElem?_set] at hj
    by_cases hz : i + 1 < ((clr ls i).set i (some v)).length
    · simp [hz] at hj
    · simp [hz] at hj
  · rw [List.getElem?_set_ne hk] at hj
    by_cases hij : i = j
    · subst hij
      by_cases hl : i < (clr ls i).length
      · rw [List.getElem?_set_self hl] at hj
        cases hj
        exact List.mem_cons_self
      · rw [List.getElem?_set] at hj
        simp [hl] at hj
    · rw [List.getElem?_set_ne hij] at hj
      obtain ⟨h1, h2⟩ := clr_get hj
      refine List.mem_cons_of_mem _ (List.mem_filter.mpr ⟨lcs_mem.mpr ⟨j, w, h1, by rw [Nat.zero_add]⟩, ?_⟩)
      simp only [Bool.and_eq_true, Bool.not_eq_true', beq_eq_false_iff_ne, ne_eq, Bool.and_eq_false_iff]
      refine ⟨fun q => hij q.symm, fun q => hk q.symm, ?_⟩
      by_cases q1 : j + 1 = i
      · exact Or.inr (fun q2 => h2 ⟨q1, one_cat q2⟩)
      · exact Or.inl q1
theorem mem_set {ls : List (Option Av)} {i : Nat} {v w : Av} (hw : some w ∈ ls.set i (some v)) : w = v ∨ some w ∈ ls := by
  rcases List.mem_or_eq_of_mem_set hw with h1 | h1
  · exact Or.inr h1
  · exact Or.inl (Option.some.inj h1)
theorem clr_mem {ls : List (Option Av)} {i : Nat} {w : Av} (hw : some w ∈ clr ls i) : some w ∈ ls := by
  obtain ⟨j, hj⟩ := List.getElem?_of_mem hw
  exact List.mem_of_getElem? (clr_get hj).1
theorem st1_ok {h : Hp} {ls : List (Option Av)} {i : Nat} {v : Av} (hl : ∀ v, some v ∈ ls → vok h v) (hv : vok h v) : ∀ w, some w ∈ st1 ls i v → vok h w := by
  intro w hw
  rcases mem_set hw with h1 | h1
  · rw [h1]; exact hv
  · exact hl w (clr_mem h1)
theorem st2_ok {h : Hp} {ls : List (Option Av)} {i : Nat} {v : Av} (hl : ∀ v, some v ∈ ls → vok h v) (hv : vok h v) : ∀ w, some w ∈ st2 ls i v → vok h w := by
  intro w hw
  rcases List.mem_or_eq_of_mem_set hw with h1 | h1
  · rcases mem_set h1 with h2 | h2
    · rw [h2]; exact hv
    · exact hl w (clr_mem h2)
  · cases h1
section
variable {E : xE} {M : Mth} {d : Nat} {B u : Nat × Nat} {pc b : Nat} {ls ls2 : List (Option Av)} {st : List Av} {h : Hp} {Q : Option Av → Hp → Prop}
theorem x_istore_n {j : Fin 4} {i : Nat} {x : Int} (hd : decode (mCC M) pc = .ok (.istore_n j, 1)) (hj : (j : Nat) = i) (hn : i < mNL M) (he : st1 ls i (xi x) = ls2) (hb : pc + 1 = b) (k : X E M d B u b ls2 st h Q) : X E M d B u pc ls (xi x :: st) h Q := by
  subst hb
  subst he
  intro wf ho hl hx p e s m args below meth c H locs L C hR hS hL
  have hC := C
  obtain ⟨c1, c2, c3, c4, c5, c6, c7, c8, c9⟩ := C
  have hv := ho _ List.mem_cons_self
  exact lv_istore_n c1 c2 hd hj hL.has hn rfl (fun L2 hL2 => k wf (fun v hv => ho v (List.mem_cons_of_mem _ hv)) (st1_ok hl hv) hx p e s m args below meth c H locs L2 hC hR hS (Lh.of hL2 (fun _ _ hj => st1_has hj)))
theorem x_istore {i : Nat} {x : Int} (hd : decode (mCC M) pc = .ok (.istore i, 2)) (hn : i < mNL M) (he : st1 ls i (xi x) = ls2) (hb : pc + 2 = b) (k : X E M d B u b ls2 st h Q) : X E M d B u pc ls (xi x :: st) h Q := by
  subst hb
  subst he
  intro wf ho hl hx p e s m args below meth c H locs L C hR hS hL
  have hC := C
  obtain ⟨c1, c2, c3, c4, c5, c6, c7, c8, c9⟩ := C
  have hv := ho _ List.mem_cons_self
  exact lv_istore c1 c2 hd  hL.has hn rfl (fun L2 hL2 => k wf (fun v hv => ho v (List.mem_cons_of_mem _ hv)) (st1_ok hl hv) hx p e s m args below meth c H locs L2 hC hR hS (Lh.of hL2 (fun _ _ hj => st1_has hj)))
theorem x_lstore_n {j : Fin 4} {i : Nat} {x : Int} (hd : decode (mCC M) pc = .ok (.lstore_n j, 1)) (hj : (j : Nat) = i) (hn : i + 1 < mNL M) (he : st2 ls i (xl x) = ls2) (hb : pc + 1 = b) (k : X E M d B u b ls2 st h Q) : X E M d B u pc ls (xl x :: st) h Q := by
  subst hb
  subst he
  intro wf ho hl hx p e s m args below meth c H locs L C hR hS hL
  have hC := C
  obtain ⟨c1, c2, c3, c4, c5, c6, c7, c8, c9⟩ := C
  have hv := ho _ List.mem_cons_self
  exact lv_lstore_n c1 c2 hd hj hL.has hn rfl (fun L2 hL2 => k wf (fun v hv => ho v (List.mem_cons_of_mem _ hv)) (st2_ok hl hv) hx p e s m args below meth c H locs L2 hC hR hS (Lh.of hL2 (fun _ _ hj => st2_has hj)))
theorem x_lstore {i : Nat} {x : Int} (hd : decode (mCC M) pc = .ok (.lstore i, 2)) (hn : i + 1 < mNL M) (he : st2 ls i (xl x) = ls2) (hb : pc + 2 = b) (k : X E M d B u b ls2 st h Q) : X E M d B u pc ls (xl x :: st) h Q := by
  subst hb
  subst he
  intro wf ho hl hx p e s m args below meth c H locs L C hR hS hL
  have hC := C
  obtain ⟨c1, c2, c3, c4, c5, c6, c7, c8, c9⟩ := C
  have hv := ho _ List.mem_cons_self
  exact lv_lstore c1 c2 hd  hL.has hn rfl (fun L2 hL2 => k wf (fun v hv => ho v (List.mem_cons_of_mem _ hv)) (st2_ok hl hv) hx p e s m args below meth c H locs L2 hC hR hS (Lh.of hL2 (fun _ _ hj => st2_has hj)))
theorem x_astore_n {j : Fin 4} {i r : Nat} {n : Int} (hd : decode (mCC M) pc = .ok (.astore_n j, 1)) (hj : (j : Nat) = i) (hn : i < mNL M) (he : st1 ls i (xr r n) = ls2) (hb : pc + 1 = b) (k : X E M d B u b ls2 st h Q) : X E M d B u pc ls (xr r n :: st) h Q := by
  subst hb
  subst he
  intro wf ho hl hx p e s m args below meth c H locs L C hR hS hL
  have hC := C
  obtain ⟨c1, c2, c3, c4, c5, c6, c7, c8, c9⟩ := C
  have hv := ho _ List.mem_cons_self
  obtain ⟨a, ha⟩ := hv _ rfl
  have e1 : cv h (xr r n) = .ref a := by simp [cv, xoa, ha, va_rf]
  rw [List.map_cons, e1]
  exact lv_astore_n c1 c2 hd hj hL.has hn rfl (fun L2 hL2 => k wf (fun v hv => ho v (List.mem_cons_of_mem _ hv)) (st1_ok hl hv) hx p e s m args below meth c H locs L2 hC hR hS (Lh.of hL2 (fun _ _ hj => by rw [← e1]; exact st1_has hj)))
theorem x_astore {i r : Nat} {n : Int} (hd : decode (mCC M) pc = .ok (.astore i, 2)) (hn : i < mNL M) (he : st1 ls i (xr r n) = ls2) (hb : pc + 2 = b) (k : X E M d B u b ls2 st h Q) : X E M d B u pc ls (xr r n :: st) h Q := by
  subst hb
  subst he
  intro wf ho hl hx p e s m args below meth c H locs L C hR hS hL
  have hC := C
  obtain ⟨c1, c2, c3, c4, c5, c6, c7, c8, c9⟩ := C
  have hv := ho _ List.mem_cons_self
  obtain ⟨a, ha⟩ := hv _ rfl
  have e1 : cv h (xr r n) = .ref a := by simp [cv, xoa, ha, va_rf]
  rw [List.map_cons, e1]
  exact lv_astore c1 c2 hd  hL.has hn rfl (fun L2 hL2 => k wf (fun v hv => ho v (List.mem_cons_of_mem _ hv)) (st1_ok hl hv) hx p e s m args below meth c H locs L2 hC hR hS (Lh.of hL2 (fun _ _ hj => by rw [← e1]; exact st1_has hj)))
theorem x_iinc {i : Nat} {x n : Int} (hd : decode (mCC M) pc = .ok (.iinc i n, 3)) (hi : ls[i]? = some (some (xi x))) (hn : i < mNL M) (hv : -2147483648 ≤ x + n ∧ x + n < 2147483648) (he : st1 ls i (xi (x + n)) = ls2) (hb : pc + 3 = b) (k : X E M d B u b ls2 st h Q) : X E M d B u pc ls st h Q := by
  subst hb
  subst he
  intro wf ho hl hx p e s m args below meth c H locs L C hR hS hL
  have hC := C
  obtain ⟨c1, c2, c3, c4, c5, c6, c7, c8, c9⟩ := C
  obtain ⟨q, hq⟩ := List.getElem?_of_mem (lcs_mem (h := h) (n := 0) |>.mpr ⟨i, xi x, hi, rfl⟩)
  rw [Nat.zero_add] at hq
  exact lv_iinc c1 c2 hd hL.has hq (by rw [← Int32.ofInt_add]) hn rfl (fun L2 hL2 => k wf ho (st1_ok hl (show vok h (xi (x + n)) from hv)) hx p e s m args below meth c H locs L2 hC hR hS (Lh.of hL2 (fun _ _ hj => st1_has (v := xi (x + n)) hj)))
/-- fewer locals -/
theorem x_drop (he : ∀ (i : Nat) (v : Av), ls2[i]? = some (some v) → ls[i]? = some (some v)) (k : X E M d B u pc ls2 st h Q) : X E M d B u pc ls st h Q := by
  intro wf ho hl hx p e s m args below meth c H locs L C hR hS hL
  have hC := C
  obtain ⟨c1, c2, c3, c4, c5, c6, c7, c8, c9⟩ := C
  refine k wf ho (fun v hv => ?_) hx p e s m args below meth c H locs L hC hR hS ⟨hL.1, hL.2.1, fun i v hi => hL.2.2 i v (he i v hi)⟩
  obtain ⟨i, hi⟩ := List.getElem?_of_mem hv
  exact hl v (List.mem_of_getElem? (he i v hi))
/-- what is known of the numbers at hand -/
theorem x_rng {i : Nat} {x : Int} (hi : ls[i]? = some (some (xi x))) (k : -2147483648 ≤ x ∧ x < 2147483648 → X E M d B u pc ls st h Q) : X E M d B u pc ls st h Q :=
  fun wf ho hl => k (hl _ (List.mem_of_getElem? hi)) wf ho hl
theorem x_rngl {i : Nat} {x : Int} (hi : ls[i]? = some (some (xl x))) (k : -9223372036854775808 ≤ x ∧ x < 9223372036854775808 → X E M d B u pc ls st h Q) : X E M d B u pc ls st h Q :=
  fun wf ho hl => k (hl _ (List.mem_of_getElem? hi)) wf ho hl
theorem x_top {x : Int} (k : -2147483648 ≤ x ∧ x < 2147483648 → X E M d B u pc ls (xi x :: st) h Q) : X E M d B u pc ls (xi x :: st) h Q :=
  fun wf ho hl => k (ho _ List.mem_cons_self) wf ho hl
theorem x_wf (k : (∀ (r : Nat) (i k : Int), r < 900 → xrg (xkd r k) (gI h r i k)) → X E M d B u pc ls st h Q) : X E M d B u pc ls st h Q :=
  fun wf => k wf.2.1 wf
/-- a number by another name -/
theorem x_eq {x y : Int} (e : x = y) (k : X E M d B u pc ls (xi y :: st) h Q) : X E M d B u pc ls (xi x :: st) h Q := e ▸ k
theorem x_eql {x y : Int} (e : x = y) (k : X E M d B u pc ls (xl y :: st) h Q) : X E M d B u pc ls (xl x :: st) h Q := e ▸ k
/-- a heap by another name -/
theorem x_hp {h2 : Hp} (e : h = h2) (k : X E M d B u pc ls st h2 Q) : X E M d B u pc ls st h Q := e ▸ k
/-- the machine's end of a method, out of the layer's -/
theorem x_q {w : wk} {a0 : Nat → Int → Option Nat} {H : Heap} {s t : State} {args : Array Value} {locs : List Loc} {r : Option Av} (q : Q r h) (hx : ∀ (r : Nat) (i : Int) (a : Nat), a0 r i = some a → h.2.2 r i = some a) (wf : Wf w h) (hr : ∀ v, r = some v → vok h v) (hR : Rep w h H) (hS : va_S (wA w) s.heap H locs) (ht : t.heap = H) : Qm w a0 Q args s (.returned (r.map (cv h))) t :=
  ⟨⟨r, h, rfl, q, hx, wf, hr, by rw [ht]; exact hR⟩, hS.F ht⟩
theorem x_ireturn {x : Int} (hd : decode (mCC M) pc = .ok (.ireturn, 1)) (hr : mRet M = some .int) (hu : u.1 ≤ B.1 ∧ u.2 ≤ B.2) (q : Q (some (xi x)) h) : X E M d B u pc ls [xi x] h Q := by
  intro wf ho hl hx p e s m args below meth c H locs L C hR hS hL
  have hC := C
  obtain ⟨c1, c2, c3, c4, c5, c6, c7, c8, c9⟩ := C
  refine W.widen (k := B.1) (n := B.2) hu.1 hu.2 ?_
  exact W.iret c1 c2 (c3.trans hr) (fun t ht hW => x_q (r := some (xi x)) q hx wf (fun v hv => by cases hv; exact ho _ List.mem_cons_self) hR hS ht) hS.2.2 hd c6
theorem i3_nz {x : Int} (h : 0 ≤ x ∧ x < 2) : narrow .boolean (.int (Int32.ofInt x)) = .int (Int32.ofInt x) := by
  have : x = 0 ∨ x = 1 := by omega
  rcases this with rfl | rfl <;> rfl
theorem x_zreturn {x : Int} (hd : decode (mCC M) pc = .ok (.ireturn, 1)) (hr : mRet M = some .boolean) (hu : u.1 ≤ B.1 ∧ u.2 ≤ B.2) (hv : 0 ≤ x ∧ x < 2) (q : Q (some (xi x)) h) : X E M d B u pc ls [xi x] h Q := by
  intro wf ho hl hx p e s m args below meth c H locs L C hR hS hL
  have hC := C
  obtain ⟨c1, c2, c3, c4, c5, c6, c7, c8, c9⟩ := C
  refine W.widen (k := B.1) (n := B.2) hu.1 hu.2 ?_
  exact W.zret c1 c2 (c3.trans hr) (i3_nz hv) (fun t ht hW => x_q (r := some (xi x)) q hx wf (fun v hv => by cases hv; exact ho _ List.mem_cons_self) hR hS ht) hS.2.2 hd c6
theorem x_lreturn {x : Int} (hd : decode (mCC M) pc = .ok (.lreturn, 1)) (hr : mRet M = some .long) (hu : u.1 ≤ B.1 ∧ u.2 ≤ B.2) (q : Q (some (xl x)) h) : X E M d B u pc ls [xl x] h Q := by
  intro wf ho hl hx p e s m args below meth c H locs L C hR hS hL
  have hC := C
  obtain ⟨c1, c2, c3, c4, c5, c6, c7, c8, c9⟩ := C
  refine W.widen (k := B.1) (n := B.2) hu.1 hu.2 ?_
  exact W.lret c1 c2 (c3.trans hr) (fun t ht hW => x_q (r := some (xl x)) q hx wf (fun v hv => by cases hv; exact ho _ List.mem_cons_self) hR hS ht) hS.2.2 hd c6
theorem x_return (hd : decode (mCC M) pc = .ok (.return_, 1)) (hr : mRet M = none) (hu : u.1 ≤ B.1 ∧ u.2 ≤ B.2) (q : Q none h) : X E M d B u pc ls [] h Q := by
  intro wf ho hl hx p e s m args below meth c H locs L C hR hS hL
  have hC := C
  obtain ⟨c1, c2, c3, c4, c5, c6, c7, c8, c9⟩ := C
  refine W.widen (k := B.1) (n := B.2) hu.1 hu.2 ?_
  exact W.vret c1 c2 (c3.trans hr) (fun t ht hW => x_q (r := none) q hx wf (fun v hv => by cases hv) hR hS ht) hS.2.2 hd c6

end
