/-! THE LAYER, 7: fields and arrays over X -/
theorem map_set {n k : Nat} {f g : Nat → Value} {x : Value} (hx : g k = x) (hne : ∀ j, j ≠ k → g j = f j) : ((List.range n).map f).set k x = (List.range n).map g := by
  refine List.ext_getElem? (fun j => ?_)
  by_cases hj : k = j
  · subst hj
    by_cases hl : k < n
    · rw [List.getElem?_set_self (by simpa using hl), List.getElem?_map, List.getElem?_range hl, ← hx]
      rfl
    · rw [List.getElem?_eq_none (by simp; omega), List.getElem?_eq_none (by simp; omega)]
  · rw [List.getElem?_set_ne hj, List.getElem?_map, List.getElem?_map]
    by_cases hl : j < n
    · rw [List.getElem?_range hl]
      exact congrArg some (hne j (fun q => hj q.symm)).symm
    · rw [List.getElem?_eq_none (by simp; omega)]
      rfl
theorem slv_sI {h : Hp} {r k j : Nat} {i v : Int} (hj : j ≠ k) : slv (sI h r i k v) r i j = slv h r i j := by
  have e1 : (sI h r i k v).1 r i j = h.1 r i j := by
    show (if r = r ∧ i = i ∧ (j : Int) = k then v else h.1 r i j) = _
    rw [if_neg (fun q => hj (by have := q.2.2; omega))]
  unfold slv
  rw [e1]
  rfl
theorem slv_sR {h : Hp} {r k j : Nat} {i : Int} {v : Option (Nat × Int)} (hj : j ≠ k) : slv (sR h r i k v) r i j = slv h r i j := by
  have e1 : (sR h r i k v).2.1 r i j = h.2.1 r i j := by
    show (if r = r ∧ i = i ∧ (j : Int) = k then v else h.2.1 r i j) = _
    rw [if_neg (fun q => hj (by have := q.2.2; omega))]
  unfold slv
  rw [e1]
  rfl
theorem ref_at {h : Hp} {r : Nat} {i : Int} (hv : vok h (xr r i)) : ∃ a, h.2.2 r i = some a ∧ cv h (xr r i) = .ref a := by
  obtain ⟨a, ha⟩ := hv _ rfl
  exact ⟨a, ha, by simp [cv, xoa, ha, va_rf]⟩
section
variable {E : xE} {M : Mth} {d : Nat} {B u : Nat × Nat} {pc b : Nat} {ls ls2 : List (Option Av)} {st : List Av} {h : Hp} {Q : Option Av → Hp → Prop}
theorem x_getI {idx r k : Nat} {ft : FieldType} {fin : Bool} {i : Int} {v : Int} (hf : Fk (mOwn M) idx r k ft fin) (hd : decode (mCC M) pc = .ok (.getfield idx, 3)) (hk : xkd r k < 3) (hv : gI h r i k = v) (hb : pc + 3 = b) (kk : X E M d B u b ls (xi v :: st) h Q) : X E M d B u pc ls (xr r i :: st) h Q := by
  subst hb
  subst hv
  intro wf ho hl hx p e s m args below meth c H locs L C hR hS hL
  have hC := C
  obtain ⟨c1, c2, c3, c4, c5, c6, c7, c8, c9⟩ := C
  obtain ⟨C, T, N, ty0, f1, f2, f3, f4, f5, f6, f7, f8, f9, f10, f11⟩ := hf
  obtain ⟨a, ha, e1⟩ := ref_at (ho _ List.mem_cons_self)
  obtain ⟨g1, g2⟩ := hR.1 r i a (by omega) ha
  rw [cel_o f2] at g2
  have hrg := wf.2.1 r i k (by omega)
  have hvv : vok h (xi (gI h r i k)) := by
    have h2 : xkd r k = 0 ∨ xkd r k = 1 ∨ xkd r k = 2 := by omega
    show -2147483648 ≤ h.1 r i k ∧ h.1 r i k < 2147483648
    rcases h2 with q | q | q <;> rw [q] at hrg <;> simp [xrg] at hrg <;> omega
  have es : slv h r i k = cv h (xi (gI h r i k)) := by
    unfold slv
    rw [if_neg (by omega), if_neg (by omega)]
    rfl
  rw [List.map_cons, e1]
  refine va_get (ws := [(a, .inr (r, (List.range (xnf r)).map (slv h r i)))]) (v := cv h (xi (gI h r i k))) c1 c2 c7 f5 c5 c8.1 (w_one g2) 0 rfl f1 k f3 (c7 _ f6) (fun _ h9 => h9) (by rw [slv_get f4 f3, es]) hd ?_
  exact kk wf (List.forall_mem_cons.mpr ⟨hvv, fun v hv => ho v (List.mem_cons_of_mem _ hv)⟩) hl hx p e s m args below meth c H locs L hC hR hS hL
theorem x_getJ {idx r k : Nat} {ft : FieldType} {fin : Bool} {i : Int} {v : Int} (hf : Fk (mOwn M) idx r k ft fin) (hd : decode (mCC M) pc = .ok (.getfield idx, 3)) (hk : xkd r k = 3) (hv : gI h r i k = v) (hb : pc + 3 = b) (kk : X E M d B u b ls (xl v :: st) h Q) : X E M d B u pc ls (xr r i :: st) h Q := by
  subst hb
  subst hv
  intro wf ho hl hx p e s m args below meth c H locs L C hR hS hL
  have hC := C
  obtain ⟨c1, c2, c3, c4, c5, c6, c7, c8, c9⟩ := C
  obtain ⟨C, T, N, ty0, f1, f2, f3, f4, f5, f6, f7, f8, f9, f10, f11⟩ := hf
  obtain ⟨a, ha, e1⟩ := ref_at (ho _ List.mem_cons_self)
  obtain ⟨g1, g2⟩ := hR.1 r i a (by omega) ha
  rw [cel_o f2] at g2
  have hrg := wf.2.1 r i k (by omega)
  rw [hk] at hrg
  have hvv : vok h (xl (gI h r i k)) := hrg
  have es : slv h r i k = cv h (xl (gI h r i k)) := by
    unfold slv
    rw [if_neg (by omega), if_pos hk]
    rfl
  rw [List.map_cons, e1]
  refine va_get (ws := [(a, .inr (r, (List.range (xnf r)).map (slv h r i)))]) (v := cv h (xl (gI h r i k))) c1 c2 c7 f5 c5 c8.1 (w_one g2) 0 rfl f1 k f3 (c7 _ f6) (fun _ h9 => h9) (by rw [slv_get f4 f3, es]) hd ?_
  exact kk wf (List.forall_mem_cons.mpr ⟨hvv, fun v hv => ho v (List.mem_cons_of_mem _ hv)⟩) hl hx p e s m args below meth c H locs L hC hR hS hL
theorem x_getR {idx r k : Nat} {ft : FieldType} {fin : Bool} {i : Int} {v : Option (Nat × Int)} (hf : Fk (mOwn M) idx r k ft fin) (hd : decode (mCC M) pc = .ok (.getfield idx, 3)) (hk : xkd r k = 4) (hv : gR h r i k = v) (hb : pc + 3 = b) (kk : X E M d B u b ls (xo v :: st) h Q) : X E M d B u pc ls (xr r i :: st) h Q := by
  subst hb
  subst hv
  intro wf ho hl hx p e s m args below meth c H locs L C hR hS hL
  have hC := C
  obtain ⟨c1, c2, c3, c4, c5, c6, c7, c8, c9⟩ := C
  obtain ⟨C, T, N, ty0, f1, f2, f3, f4, f5, f6, f7, f8, f9, f10, f11⟩ := hf
  obtain ⟨a, ha, e1⟩ := ref_at (ho _ List.mem_cons_self)
  obtain ⟨g1, g2⟩ := hR.1 r i a (by omega) ha
  rw [cel_o f2] at g2
  have hvv : vok h (xo (gR h r i k)) := fun q hq => wf.2.2.1 r i k q hq
  have es : slv h r i k = cv h (xo (gR h r i k)) := by
    unfold slv
    rw [if_pos hk]
    rfl
  rw [List.map_cons, e1]
  refine va_get (ws := [(a, .inr (r, (List.range (xnf r)).map (slv h r i)))]) (v := cv h (xo (gR h r i k))) c1 c2 c7 f5 c5 c8.1 (w_one g2) 0 rfl f1 k f3 (c7 _ f6) (fun _ h9 => h9) (by rw [slv_get f4 f3, es]) hd ?_
  exact kk wf (List.forall_mem_cons.mpr ⟨hvv, fun v hv => ho v (List.mem_cons_of_mem _ hv)⟩) hl hx p e s m args below meth c H locs L hC hR hS hL
theorem fit_z {v : Int} (hz : 0 ≤ v ∧ v < 2) : fits .boolean (.int (Int32.ofInt v)) = true := by
  have : v = 0 ∨ v = 1 := by omega
  rcases this with q | q <;> subst q <;> rfl
theorem nar_o {h : Hp} {v : Option (Nat × Int)} {C : String} : narrow (.object C) (cv h (xo v)) = cv h (xo v) := by
  unfold cv; simp only; cases xoa h v <;> rfl
theorem fit_o {h : Hp} {v : Option (Nat × Int)} {C : String} : fits (.object C) (cv h (xo v)) = true := by
  unfold cv; simp only; cases xoa h v <;> rfl
theorem nar_a {h : Hp} {v : Option (Nat × Int)} {C : FieldType} : narrow (.array C) (cv h (xo v)) = cv h (xo v) := by
  unfold cv; simp only; cases xoa h v <;> rfl
theorem fit_a {h : Hp} {v : Option (Nat × Int)} {C : FieldType} : fits (.array C) (cv h (xo v)) = true := by
  unfold cv; simp only; cases xoa h v <;> rfl
theorem x_putI {idx r k : Nat} {i : Int} {v : Int} (hf : Fk (mOwn M) idx r k .int false) (hd : decode (mCC M) pc = .ok (.putfield idx, 3)) (hk : xkd r k = 0) (hb : pc + 3 = b) (z9 : Int) (hz9 : (k : Int) = z9) (kk : X E M d B u b ls st (sI h r i z9 v) Q) : X E M d B u pc ls (xi v :: xr r i :: st) h Q := by
  subst hb
  subst hz9
  intro wf ho hl hx p e s m args below meth c H locs L C hR hS hL
  have hC := C
  obtain ⟨c1, c2, c3, c4, c5, c6, c7, c8, c9⟩ := C
  obtain ⟨C, T, N, ty0, f1, f2, f3, f4, f5, f6, f7, f8, f9, f10, f11⟩ := hf
  have hvk : vok h (xi v) := ho _ List.mem_cons_self
  obtain ⟨a, ha, e1⟩ := ref_at (ho _ (List.mem_cons_of_mem _ List.mem_cons_self))
  obtain ⟨g1, g2⟩ := hR.1 r i a (by omega) ha
  rw [cel_o f2] at g2
  have es : slv (sI h r i k v) r i k = cv h (xi v) := by
    unfold slv
    rw [if_neg (by omega), if_neg (by omega), show (sI h r i k v).1 r i k = v from gI_eq]
    rfl
  rw [List.map_cons, List.map_cons, e1]
  refine w_put c1 c2 c7 f5 ty0 f7 f8 c5 c8.1 g2 hS g1 f1 k f3 (c7 _ f6) f10 (ty := .int) (v := cv h (xi v)) (by rw [f7 k f3, f9]) (vp_nar_int _) (rfl) (by simpa [f4] using f3) hd fun H1 locs1 z1 z2 zs z3 => ?_
  refine kk (wf_sI wf (by rw [hk]; exact hvk)) (fun v hv => ho v (List.mem_cons_of_mem _ (List.mem_cons_of_mem _ hv))) hl hx p e s m args below meth c H1 locs1 L hC (rep_sI hR wf (by omega) ha ?_ z2 zs) z3 hL
  rw [cel_o f2, ← map_set es (fun j hj => slv_sI hj)]
  exact z1
theorem x_putZ {idx r k : Nat} {i : Int} {v : Int} (hf : Fk (mOwn M) idx r k .boolean false) (hd : decode (mCC M) pc = .ok (.putfield idx, 3)) (hk : xkd r k = 2) (hz : 0 ≤ v ∧ v < 2) (hb : pc + 3 = b) (z9 : Int) (hz9 : (k : Int) = z9) (kk : X E M d B u b ls st (sI h r i z9 v) Q) : X E M d B u pc ls (xi v :: xr r i :: st) h Q := by
  subst hb
  subst hz9
  intro wf ho hl hx p e s m args below meth c H locs L C hR hS hL
  have hC := C
  obtain ⟨c1, c2, c3, c4, c5, c6, c7, c8, c9⟩ := C
  obtain ⟨C, T, N, ty0, f1, f2, f3, f4, f5, f6, f7, f8, f9, f10, f11⟩ := hf
  have hvk : vok h (xi v) := ho _ List.mem_cons_self
  obtain ⟨a, ha, e1⟩ := ref_at (ho _ (List.mem_cons_of_mem _ List.mem_cons_self))
  obtain ⟨g1, g2⟩ := hR.1 r i a (by omega) ha
  rw [cel_o f2] at g2
  have es : slv (sI h r i k v) r i k = cv h (xi v) := by
    unfold slv
    rw [if_neg (by omega), if_neg (by omega), show (sI h r i k v).1 r i k = v from gI_eq]
    rfl
  rw [List.map_cons, List.map_cons, e1]
  refine w_put c1 c2 c7 f5 ty0 f7 f8 c5 c8.1 g2 hS g1 f1 k f3 (c7 _ f6) f10 (ty := .boolean) (v := cv h (xi v)) (by rw [f7 k f3, f9]) (i3_nz hz) (fit_z hz) (by simpa [f4] using f3) hd fun H1 locs1 z1 z2 zs z3 => ?_
  refine kk (wf_sI wf (by rw [hk]; exact hz)) (fun v hv => ho v (List.mem_cons_of_mem _ (List.mem_cons_of_mem _ hv))) hl hx p e s m args below meth c H1 locs1 L hC (rep_sI hR wf (by omega) ha ?_ z2 zs) z3 hL
  rw [cel_o f2, ← map_set es (fun j hj => slv_sI hj)]
  exact z1
theorem x_putJ {idx r k : Nat} {i : Int} {v : Int} (hf : Fk (mOwn M) idx r k .long false) (hd : decode (mCC M) pc = .ok (.putfield idx, 3)) (hk : xkd r k = 3) (hb : pc + 3 = b) (z9 : Int) (hz9 : (k : Int) = z9) (kk : X E M d B u b ls st (sI h r i z9 v) Q) : X E M d B u pc ls (xl v :: xr r i :: st) h Q := by
  subst hb
  subst hz9
  intro wf ho hl hx p e s m args below meth c H locs L C hR hS hL
  have hC := C
  obtain ⟨c1, c2, c3, c4, c5, c6, c7, c8, c9⟩ := C
  obtain ⟨C, T, N, ty0, f1, f2, f3, f4, f5, f6, f7, f8, f9, f10, f11⟩ := hf
  have hvk : vok h (xl v) := ho _ List.mem_cons_self
  obtain ⟨a, ha, e1⟩ := ref_at (ho _ (List.mem_cons_of_mem _ List.mem_cons_self))
  obtain ⟨g1, g2⟩ := hR.1 r i a (by omega) ha
  rw [cel_o f2] at g2
  have es : slv (sI h r i k v) r i k = cv h (xl v) := by
    unfold slv
    rw [if_neg (by omega), if_pos hk, show (sI h r i k v).1 r i k = v from gI_eq]
    rfl
  rw [List.map_cons, List.map_cons, e1]
  refine w_put c1 c2 c7 f5 ty0 f7 f8 c5 c8.1 g2 hS g1 f1 k f3 (c7 _ f6) f10 (ty := .long) (v := cv h (xl v)) (by rw [f7 k f3, f9]) (rfl) (rfl) (by simpa [f4] using f3) hd fun H1 locs1 z1 z2 zs z3 => ?_
  refine kk (wf_sI wf (by rw [hk]; exact hvk)) (fun v hv => ho v (List.mem_cons_of_mem _ (List.mem_cons_of_mem _ hv))) hl hx p e s m args below meth c H1 locs1 L hC (rep_sI hR wf (by omega) ha ?_ z2 zs) z3 hL
  rw [cel_o f2, ← map_set es (fun j hj => slv_sI hj)]
  exact z1
theorem x_putR {idx r k : Nat} {ft9 : String} {i : Int} {v : Option (Nat × Int)} (hf : Fk (mOwn M) idx r k (.object ft9) false) (hd : decode (mCC M) pc = .ok (.putfield idx, 3)) (hk : xkd r k = 4) (hb : pc + 3 = b) (z9 : Int) (hz9 : (k : Int) = z9) (kk : X E M d B u b ls st (sR h r i z9 v) Q) : X E M d B u pc ls (xo v :: xr r i :: st) h Q := by
  subst hb
  subst hz9
  intro wf ho hl hx p e s m args below meth c H locs L C hR hS hL
  have hC := C
  obtain ⟨c1, c2, c3, c4, c5, c6, c7, c8, c9⟩ := C
  obtain ⟨C, T, N, ty0, f1, f2, f3, f4, f5, f6, f7, f8, f9, f10, f11⟩ := hf
  have hvk : vok h (xo v) := ho _ List.mem_cons_self
  obtain ⟨a, ha, e1⟩ := ref_at (ho _ (List.mem_cons_of_mem _ List.mem_cons_self))
  obtain ⟨g1, g2⟩ := hR.1 r i a (by omega) ha
  rw [cel_o f2] at g2
  have es : slv (sR h r i k v) r i k = cv h (xo v) := by
    unfold slv
    rw [if_pos hk, show (sR h r i k v).2.1 r i k = v from gR_eq]
    rfl
  rw [List.map_cons, List.map_cons, e1]
  refine w_put c1 c2 c7 f5 ty0 f7 f8 c5 c8.1 g2 hS g1 f1 k f3 (c7 _ f6) f10 (ty := (.object ft9)) (v := cv h (xo v)) (by rw [f7 k f3, f9]) (nar_o) (fit_o) (by simpa [f4] using f3) hd fun H1 locs1 z1 z2 zs z3 => ?_
  refine kk (wf_sR wf hvk) (fun v hv => ho v (List.mem_cons_of_mem _ (List.mem_cons_of_mem _ hv))) hl hx p e s m args below meth c H1 locs1 L hC (rep_sR hR wf (by omega) ha ?_ z2 zs) z3 hL
  rw [cel_o f2, ← map_set es (fun j hj => slv_sR hj)]
  exact z1
theorem x_putA {idx r k : Nat} {ft9 : FieldType} {i : Int} {v : Option (Nat × Int)} (hf : Fk (mOwn M) idx r k (.array ft9) false) (hd : decode (mCC M) pc = .ok (.putfield idx, 3)) (hk : xkd r k = 4) (hb : pc + 3 = b) (z9 : Int) (hz9 : (k : Int) = z9) (kk : X E M d B u b ls st (sR h r i z9 v) Q) : X E M d B u pc ls (xo v :: xr r i :: st) h Q := by
  subst hb
  subst hz9
  intro wf ho hl hx p e s m args below meth c H locs L C hR hS hL
  have hC := C
  obtain ⟨c1, c2, c3, c4, c5, c6, c7, c8, c9⟩ := C
  obtain ⟨C, T, N, ty0, f1, f2, f3, f4, f5, f6, f7, f8, f9, f10, f11⟩ := hf
  have hvk : vok h (xo v) := ho _ List.mem_cons_self
  obtain ⟨a, ha, e1⟩ := ref_at (ho _ (List.mem_cons_of_mem _ List.mem_cons_self))
  obtain ⟨g1, g2⟩ := hR.1 r i a (by omega) ha
  rw [cel_o f2] at g2
  have es : slv (sR h r i k v) r i k = cv h (xo v) := by
    unfold slv
    rw [if_pos hk, show (sR h r i k v).2.1 r i k = v from gR_eq]
    rfl
  rw [List.map_cons, List.map_cons, e1]
  refine w_put c1 c2 c7 f5 ty0 f7 f8 c5 c8.1 g2 hS g1 f1 k f3 (c7 _ f6) f10 (ty := (.array ft9)) (v := cv h (xo v)) (by rw [f7 k f3, f9]) (nar_a) (fit_a) (by simpa [f4] using f3) hd fun H1 locs1 z1 z2 zs z3 => ?_
  refine kk (wf_sR wf hvk) (fun v hv => ho v (List.mem_cons_of_mem _ (List.mem_cons_of_mem _ hv))) hl hx p e s m args below meth c H1 locs1 L hC (rep_sR hR wf (by omega) ha ?_ z2 zs) z3 hL
  rw [cel_o f2, ← map_set es (fun j hj => slv_sR hj)]
  exact z1
theorem x_putIF {idx r k : Nat} {i : Int} {v : Int} (hf : Fk (mOwn M) idx r k .int true) (hd : decode (mCC M) pc = .ok (.putfield idx, 3)) (hk : xkd r k = 0) (hin2 : (mY M).name = "<init>") (hdecl : ∀ C T N, vwCl[r]? = some (C, T, N) → C = mOwn M) (hb : pc + 3 = b) (z9 : Int) (hz9 : (k : Int) = z9) (kk : X E M d B u b ls st (sI h r i z9 v) Q) : X E M d B u pc ls (xi v :: xr r i :: st) h Q := by
  subst hb
  subst hz9
  intro wf ho hl hx p e s m args below meth c H locs L C hR hS hL
  have hC := C
  obtain ⟨c1, c2, c3, c4, c5, c6, c7, c8, c9⟩ := C
  obtain ⟨C, T, N, ty0, f1, f2, f3, f4, f5, f6, f7, f8, f9, f10, f11⟩ := hf
  have hvk : vok h (xi v) := ho _ List.mem_cons_self
  obtain ⟨a, ha, e1⟩ := ref_at (ho _ (List.mem_cons_of_mem _ List.mem_cons_self))
  obtain ⟨g1, g2⟩ := hR.1 r i a (by omega) ha
  rw [cel_o f2] at g2
  have es : slv (sI h r i k v) r i k = cv h (xi v) := by
    unfold slv
    rw [if_neg (by omega), if_neg (by omega), show (sI h r i k v).1 r i k = v from gI_eq]
    rfl
  rw [List.map_cons, List.map_cons, e1]
  refine w_putF c1 c2 c7 f5 ty0 f7 f8 c5 c8.1 g2 hS g1 f1 k f3 (c7 _ f6) f10 (c9.trans hin2) (f11.trans (hdecl _ _ _ f1)) (ty := .int) (v := cv h (xi v)) (by rw [f7 k f3, f9]) (vp_nar_int _) (rfl) (by simpa [f4] using f3) hd fun H1 locs1 z1 z2 zs z3 => ?_
  refine kk (wf_sI wf (by rw [hk]; exact hvk)) (fun v hv => ho v (List.mem_cons_of_mem _ (List.mem_cons_of_mem _ hv))) hl hx p e s m args below meth c H1 locs1 L hC (rep_sI hR wf (by omega) ha ?_ z2 zs) z3 hL
  rw [cel_o f2, ← map_set es (fun j hj => slv_sI hj)]
  exact z1
theorem x_putZF {idx r k : Nat} {i : Int} {v : Int} (hf : Fk (mOwn M) idx r k .boolean true) (hd : decode (mCC M) pc = .ok (.putfield idx, 3)) (hk : xkd r k = 2) (hin2 : (mY M).name = "<init>") (hdecl : ∀ C T N, vwCl[r]? = some (C, T, N) → C = mOwn M) (hz : 0 ≤ v ∧ v < 2) (hb : pc + 3 = b) (z9 : Int) (hz9 : (k : Int) = z9) (kk : X E M d B u b ls st (sI h r i z9 v) Q) : X E M d B u pc ls (xi v :: xr r i :: st) h Q := by
  subst hb
  subst hz9
  intro wf ho hl hx p e s m args below meth c H locs L C hR hS hL
  have hC := C
  obtain ⟨c1, c2, c3, c4, c5, c6, c7, c8, c9⟩ := C
  obtain ⟨C, T, N, ty0, f1, f2, f3, f4, f5, f6, f7, f8, f9, f10, f11⟩ := hf
  have hvk : vok h (xi v) := ho _ List.mem_cons_self
  obtain ⟨a, ha, e1⟩ := ref_at (ho _ (List.mem_cons_of_mem _ List.mem_cons_self))
  obtain ⟨g1, g2⟩ := hR.1 r i a (by omega) ha
  rw [cel_o f2] at g2
  have es : slv (sI h r i k v) r i k = cv h (xi v) := by
    unfold slv
    rw [if_neg (by omega), if_neg (by omega), show (sI h r i k v).1 r i k = v from gI_eq]
    rfl
  rw [List.map_cons, List.map_cons, e1]
  refine w_putF c1 c2 c7 f5 ty0 f7 f8 c5 c8.1 g2 hS g1 f1 k f3 (c7 _ f6) f10 (c9.trans hin2) (f11.trans (hdecl _ _ _ f1)) (ty := .boolean) (v := cv h (xi v)) (by rw [f7 k f3, f9]) (i3_nz hz) (fit_z hz) (by simpa [f4] using f3) hd fun H1 locs1 z1 z2 zs z3 => ?_
  refine kk (wf_sI wf (by rw [hk]; exact hz)) (fun v hv => ho v (List.mem_cons_of_mem _ (List.mem_cons_of_mem _ hv))) hl hx p e s m args below meth c H1 locs1 L hC (rep_sI hR wf (by omega) ha ?_ z2 zs) z3 hL
  rw [cel_o f2, ← map_set es (fun j hj => slv_sI hj)]
  exact z1
theorem x_putJF {idx r k : Nat} {i : Int} {v : Int} (hf : Fk (mOwn M) idx r k .long true) (hd : decode (mCC M) pc = .ok (.putfield idx, 3)) (hk : xkd r k = 3) (hin2 : (mY M).name = "<init>") (hdecl : ∀ C T N, vwCl[r]? = some (C, T, N) → C = mOwn M) (hb : pc + 3 = b) (z9 : Int) (hz9 : (k : Int) = z9) (kk : X E M d B u b ls st (sI h r i z9 v) Q) : X E M d B u pc ls (xl v :: xr r i :: st) h Q := by
  subst hb
  subst hz9
  intro wf ho hl hx p e s m args below meth c H locs L C hR hS hL
  have hC := C
  obtain ⟨c1, c2, c3, c4, c5, c6, c7, c8, c9⟩ := C
  obtain ⟨C, T, N, ty0, f1, f2, f3, f4, f5, f6, f7, f8, f9, f10, f11⟩ := hf
  have hvk : vok h (xl v) := ho _ List.mem_cons_self
  obtain ⟨a, ha, e1⟩ := ref_at (ho _ (List.mem_cons_of_mem _ List.mem_cons_self))
  obtain ⟨g1, g2⟩ := hR.1 r i a (by omega) ha
  rw [cel_o f2] at g2
  have es : slv (sI h r i k v) r i k = cv h (xl v) := by
    unfold slv
    rw [if_neg (by omega), if_pos hk, show (sI h r i k v).1 r i k = v from gI_eq]
    rfl
  rw [List.map_cons, List.map_cons, e1]
  refine w_putF c1 c2 c7 f5 ty0 f7 f8 c5 c8.1 g2 hS g1 f1 k f3 (c7 _ f6) f10 (c9.trans hin2) (f11.trans (hdecl _ _ _ f1)) (ty := .long) (v := cv h (xl v)) (by rw [f7 k f3, f9]) (rfl) (rfl) (by simpa [f4] using f3) hd fun H1 locs1 z1 z2 zs z3 => ?_
  refine kk (wf_sI wf (by rw [hk]; exact hvk)) (fun v hv => ho v (List.mem_cons_of_mem _ (List.mem_cons_of_mem _ hv))) hl hx p e s m args below meth c H1 locs1 L hC (rep_sI hR wf (by omega) ha ?_ z2 zs) z3 hL
  rw [cel_o f2, ← map_set es (fun j hj => slv_sI hj)]
  exact z1
theorem x_putRF {idx r k : Nat} {ft9 : String} {i : Int} {v : Option (Nat × Int)} (hf : Fk (mOwn M) idx r k (.object ft9) true) (hd : decode (mCC M) pc = .ok (.putfield idx, 3)) (hk : xkd r k = 4) (hin2 : (mY M).name = "<init>") (hdecl : ∀ C T N, vwCl[r]? = some (C, T, N) → C = mOwn M) (hb : pc + 3 = b) (z9 : Int) (hz9 : (k : Int) = z9) (kk : X E M d B u b ls st (sR h r i z9 v) Q) : X E M d B u pc ls (xo v :: xr r i :: st) h Q := by
  subst hb
  subst hz9
  intro wf ho hl hx p e s m args below meth c H locs L C hR hS hL
  have hC := C
  obtain ⟨c1, c2, c3, c4, c5, c6, c7, c8, c9⟩ := C
  obtain ⟨C, T, N, ty0, f1, f2, f3, f4, f5, f6, f7, f8, f9, f10, f11⟩ := hf
  have hvk : vok h (xo v) := ho _ List.mem_cons_self
  obtain ⟨a, ha, e1⟩ := ref_at (ho _ (List.mem_cons_of_mem _ List.mem_cons_self))
  obtain ⟨g1, g2⟩ := hR.1 r i a (by omega) ha
  rw [cel_o f2] at g2
  have es : slv (sR h r i k v) r i k = cv h (xo v) := by
    unfold slv
    rw [if_pos hk, show (sR h r i k v).2.1 r i k = v from gR_eq]
    rfl
  rw [List.map_cons, List.map_cons, e1]
  refine w_putF c1 c2 c7 f5 ty0 f7 f8 c5 c8.1 g2 hS g1 f1 k f3 (c7 _ f6) f10 (c9.trans hin2) (f11.trans (hdecl _ _ _ f1)) (ty := (.object ft9)) (v := cv h (xo v)) (by rw [f7 k f3, f9]) (nar_o) (fit_o) (by simpa [f4] using f3) hd fun H1 locs1 z1 z2 zs z3 => ?_
  refine kk (wf_sR wf hvk) (fun v hv => ho v (List.mem_cons_of_mem _ (List.mem_cons_of_mem _ hv))) hl hx p e s m args below meth c H1 locs1 L hC (rep_sR hR wf (by omega) ha ?_ z2 zs) z3 hL
  rw [cel_o f2, ← map_set es (fun j hj => slv_sR hj)]
  exact z1
theorem x_putAF {idx r k : Nat} {ft9 : FieldType} {i : Int} {v : Option (Nat × Int)} (hf : Fk (mOwn M) idx r k (.array ft9) true) (hd : decode (mCC M) pc = .ok (.putfield idx, 3)) (hk : xkd r k = 4) (hin2 : (mY M).name = "<init>") (hdecl : ∀ C T N, vwCl[r]? = some (C, T, N) → C = mOwn M) (hb : pc + 3 = b) (z9 : Int) (hz9 : (k : Int) = z9) (kk : X E M d B u b ls st (sR h r i z9 v) Q) : X E M d B u pc ls (xo v :: xr r i :: st) h Q := by
  subst hb
  subst hz9
  intro wf ho hl hx p e s m args below meth c H locs L C hR hS hL
  have hC := C
  obtain ⟨c1, c2, c3, c4, c5, c6, c7, c8, c9⟩ := C
  obtain ⟨C, T, N, ty0, f1, f2, f3, f4, f5, f6, f7, f8, f9, f10, f11⟩ := hf
  have hvk : vok h (xo v) := ho _ List.mem_cons_self
  obtain ⟨a, ha, e1⟩ := ref_at (ho _ (List.mem_cons_of_mem _ List.mem_cons_self))
  obtain ⟨g1, g2⟩ := hR.1 r i a (by omega) ha
  rw [cel_o f2] at g2
  have es : slv (sR h r i k v) r i k = cv h (xo v) := by
    unfold slv
    rw [if_pos hk, show (sR h r i k v).2.1 r i k = v from gR_eq]
    rfl
  rw [List.map_cons, List.map_cons, e1]
  refine w_putF c1 c2 c7 f5 ty0 f7 f8 c5 c8.1 g2 hS g1 f1 k f3 (c7 _ f6) f10 (c9.trans hin2) (f11.trans (hdecl _ _ _ f1)) (ty := (.array ft9)) (v := cv h (xo v)) (by rw [f7 k f3, f9]) (nar_a) (fit_a) (by simpa [f4] using f3) hd fun H1 locs1 z1 z2 zs z3 => ?_
  refine kk (wf_sR wf hvk) (fun v hv => ho v (List.mem_cons_of_mem _ (List.mem_cons_of_mem _ hv))) hl hx p e s m args below meth c H1 locs1 L hC (rep_sR hR wf (by omega) ha ?_ z2 zs) z3 hL
  rw [cel_o f2, ← map_set es (fun j hj => slv_sR hj)]
  exact z1
/-- an array's region: its kind, its class -/
def Ak (r kind ct : Nat) : Prop := ¬ r < 13 ∧ r < 900 ∧ xkd r 0 = kind ∧ xct r = ct ∧ xln r < 2147483648
theorem Ak.kd {r kind ct : Nat} (h : Ak r kind ct) (k : Int) : xkd r k = kind := by
  have h2 := h.2.2.1
  unfold xkd at h2 ⊢
  rw [if_neg h.1] at h2 ⊢
  exact h2
theorem in_of {x : Int} {n : Nat} (hn : n < 2147483648) (hi : 0 ≤ x ∧ x < n) : vp_in (Int32.ofInt x) n ∧ (Int32.ofInt x).toNatClampNeg = x.toNat := by
  have e1 : (Int32.ofInt x).toNatClampNeg = x.toNat := Int32.toNatClampNeg_ofInt_of_le (by omega) (by omega)
  refine ⟨?_, e1⟩
  rintro (q | q)
  · have := (i3_lt (show -2147483648 ≤ x ∧ x < 2147483648 by omega) v_0).mp q
    omega
  · rw [e1] at q
    omega
theorem cel_i {y : Nat → ClassId} {h : Hp} {r kind ct : Nat} {i : Int} (hk : Ak r kind ct) (h3 : kind < 3) : cel y h r i = .inl (y ct, xln r, .inl fun j => Int32.ofInt (h.1 r i (j : Int))) := by
  obtain ⟨k1, k2, k3, k4, k5⟩ := hk
  unfold cel
  rw [if_neg k1, k3, k4, if_neg (by omega), if_neg (by omega)]
theorem cel_l {y : Nat → ClassId} {h : Hp} {r kind ct : Nat} {i : Int} (hk : Ak r kind ct) (h3 : kind = 3) : cel y h r i = .inl (y ct, xln r, .inr (.inl fun j => Int64.ofInt (h.1 r i (j : Int)))) := by
  obtain ⟨k1, k2, k3, k4, k5⟩ := hk
  unfold cel
  rw [if_neg k1, k3, k4, if_neg (by omega), if_pos h3]
theorem cel_q {y : Nat → ClassId} {h : Hp} {r kind ct : Nat} {i : Int} (hk : Ak r kind ct) (h3 : kind = 4) : cel y h r i = .inl (y ct, xln r, .inr (.inr (.inr (.inr fun j => xoa h (h.2.1 r i (j : Int)))))) := by
  obtain ⟨k1, k2, k3, k4, k5⟩ := hk
  unfold cel
  rw [if_neg k1, k3, k4, if_pos h3]
theorem x_iald {r : Nat} {i x : Int} {v : Int} (hk : Ak r 0 0) (hd : decode (mCC M) pc = .ok (.iaload, 1)) (hi : 0 ≤ x ∧ x < xln r) (hv : gI h r i x = v) (hb : pc + 1 = b) (kk : X E M d B u b ls (xi v :: st) h Q) : X E M d B u pc ls (xi x :: xr r i :: st) h Q := by
  subst hb
  subst hv
  intro wf ho hl hx p e s m args below meth c H locs L C hR hS hL
  have hC := C
  obtain ⟨c1, c2, c3, c4, c5, c6, c7, c8, c9⟩ := C
  obtain ⟨a, ha, e1⟩ := ref_at (ho _ (List.mem_cons_of_mem _ List.mem_cons_self))
  obtain ⟨g1, g2⟩ := hR.1 r i a hk.2.1 ha
  rw [cel_i hk (by decide)] at g2
  obtain ⟨i1, i2⟩ := in_of hk.2.2.2.2 hi
  have rgx : xrg (xkd r x) (gI h r i x) := wf.2.1 r i x hk.2.1
  rw [hk.kd] at rgx
  rw [List.map_cons, List.map_cons, e1]
  refine va_iald (ws := [_]) c1 c2 c8.1 (w_one g2) 0 0 rfl rfl i1 hd ?_
  have kk2 := kk wf (List.forall_mem_cons.mpr ⟨rgx, fun v hv => ho v (List.mem_cons_of_mem _ (List.mem_cons_of_mem _ hv))⟩) hl hx p e s m args below meth c H locs L hC hR hS hL
  rw [i2, Int.toNat_of_nonneg hi.1]
  exact kk2
theorem x_bald {r : Nat} {i x : Int} {v : Int} (hk : Ak r 1 1) (hd : decode (mCC M) pc = .ok (.baload, 1)) (hi : 0 ≤ x ∧ x < xln r) (hv : gI h r i x = v) (hb : pc + 1 = b) (kk : X E M d B u b ls (xi v :: st) h Q) : X E M d B u pc ls (xi x :: xr r i :: st) h Q := by
  subst hb
  subst hv
  intro wf ho hl hx p e s m args below meth c H locs L C hR hS hL
  have hC := C
  obtain ⟨c1, c2, c3, c4, c5, c6, c7, c8, c9⟩ := C
  obtain ⟨a, ha, e1⟩ := ref_at (ho _ (List.mem_cons_of_mem _ List.mem_cons_self))
  obtain ⟨g1, g2⟩ := hR.1 r i a hk.2.1 ha
  rw [cel_i hk (by decide)] at g2
  obtain ⟨i1, i2⟩ := in_of hk.2.2.2.2 hi
  have rgx : xrg (xkd r x) (gI h r i x) := wf.2.1 r i x hk.2.1
  rw [hk.kd] at rgx
  rw [List.map_cons, List.map_cons, e1]
  refine va_bald (ws := [_]) c1 c2 c8.1 (w_one g2) 0 1 rfl rfl i1 hd ?_
  have kk2 := kk wf (List.forall_mem_cons.mpr ⟨(⟨by have := rgx.1; omega, by have := rgx.2; omega⟩ : -2147483648 ≤ gI h r i x ∧ gI h r i x < 2147483648), fun v hv => ho v (List.mem_cons_of_mem _ (List.mem_cons_of_mem _ hv))⟩) hl hx p e s m args below meth c H locs L hC hR hS hL
  rw [i2, Int.toNat_of_nonneg hi.1]
  exact kk2
theorem x_zald {r : Nat} {i x : Int} {v : Int} (hk : Ak r 2 2) (hd : decode (mCC M) pc = .ok (.baload, 1)) (hi : 0 ≤ x ∧ x < xln r) (hv : gI h r i x = v) (hb : pc + 1 = b) (kk : X E M d B u b ls (xi v :: st) h Q) : X E M d B u pc ls (xi x :: xr r i :: st) h Q := by
  subst hb
  subst hv
  intro wf ho hl hx p e s m args below meth c H locs L C hR hS hL
  have hC := C
  obtain ⟨c1, c2, c3, c4, c5, c6, c7, c8, c9⟩ := C
  obtain ⟨a, ha, e1⟩ := ref_at (ho _ (List.mem_cons_of_mem _ List.mem_cons_self))
  obtain ⟨g1, g2⟩ := hR.1 r i a hk.2.1 ha
  rw [cel_i hk (by decide)] at g2
  obtain ⟨i1, i2⟩ := in_of hk.2.2.2.2 hi
  have rgx : xrg (xkd r x) (gI h r i x) := wf.2.1 r i x hk.2.1
  rw [hk.kd] at rgx
  rw [List.map_cons, List.map_cons, e1]
  refine va_zald (ws := [_]) c1 c2 c8.1 (w_one g2) 0 2 rfl rfl i1 hd ?_
  have kk2 := kk wf (List.forall_mem_cons.mpr ⟨(⟨by have := rgx.1; omega, by have := rgx.2; omega⟩ : -2147483648 ≤ gI h r i x ∧ gI h r i x < 2147483648), fun v hv => ho v (List.mem_cons_of_mem _ (List.mem_cons_of_mem _ hv))⟩) hl hx p e s m args below meth c H locs L hC hR hS hL
  rw [i2, Int.toNat_of_nonneg hi.1]
  exact kk2
theorem x_lald {r : Nat} {i x : Int} {v : Int} (hk : Ak r 3 3) (hd : decode (mCC M) pc = .ok (.laload, 1)) (hi : 0 ≤ x ∧ x < xln r) (hv : gI h r i x = v) (hb : pc + 1 = b) (kk : X E M d B u b ls (xl v :: st) h Q) : X E M d B u pc ls (xi x :: xr r i :: st) h Q := by
  subst hb
  subst hv
  intro wf ho hl hx p e s m args below meth c H locs L C hR hS hL
  have hC := C
  obtain ⟨c1, c2, c3, c4, c5, c6, c7, c8, c9⟩ := C
  obtain ⟨a, ha, e1⟩ := ref_at (ho _ (List.mem_cons_of_mem _ List.mem_cons_self))
  obtain ⟨g1, g2⟩ := hR.1 r i a hk.2.1 ha
  rw [cel_l hk (by decide)] at g2
  obtain ⟨i1, i2⟩ := in_of hk.2.2.2.2 hi
  have rgx : xrg (xkd r x) (gI h r i x) := wf.2.1 r i x hk.2.1
  rw [hk.kd] at rgx
  rw [List.map_cons, List.map_cons, e1]
  refine va_lald (ws := [_]) c1 c2 c8.1 (w_one g2) 0 3 rfl rfl i1 hd ?_
  have kk2 := kk wf (List.forall_mem_cons.mpr ⟨rgx, fun v hv => ho v (List.mem_cons_of_mem _ (List.mem_cons_of_mem _ hv))⟩) hl hx p e s m args below meth c H locs L hC hR hS hL
  rw [i2, Int.toNat_of_nonneg hi.1]
  exact kk2
theorem x_aaldM {r : Nat} {i x : Int} {v : Option (Nat × Int)} (hk : Ak r 4 4) (hd : decode (mCC M) pc = .ok (.aaload, 1)) (hi : 0 ≤ x ∧ x < xln r) (hv : gR h r i x = v) (hb : pc + 1 = b) (kk : X E M d B u b ls (xo v :: st) h Q) : X E M d B u pc ls (xi x :: xr r i :: st) h Q := by
  subst hb
  subst hv
  intro wf ho hl hx p e s m args below meth c H locs L C hR hS hL
  have hC := C
  obtain ⟨c1, c2, c3, c4, c5, c6, c7, c8, c9⟩ := C
  obtain ⟨a, ha, e1⟩ := ref_at (ho _ (List.mem_cons_of_mem _ List.mem_cons_self))
  obtain ⟨g1, g2⟩ := hR.1 r i a hk.2.1 ha
  rw [cel_q hk (by decide)] at g2
  obtain ⟨i1, i2⟩ := in_of hk.2.2.2.2 hi
  rw [List.map_cons, List.map_cons, e1]
  refine va_aldq (ws := [_]) c1 c2 c8.1 (w_one g2) 0 4 rfl rfl i1 hd ?_
  have kk2 := kk wf (List.forall_mem_cons.mpr ⟨(fun q hq => wf.2.2.1 r i x q hq), fun v hv => ho v (List.mem_cons_of_mem _ (List.mem_cons_of_mem _ hv))⟩) hl hx p e s m args below meth c H locs L hC hR hS hL
  rw [i2, Int.toNat_of_nonneg hi.1]
  exact kk2
theorem x_aaldV {r : Nat} {i x : Int} {v : Option (Nat × Int)} (hk : Ak r 4 5) (hd : decode (mCC M) pc = .ok (.aaload, 1)) (hi : 0 ≤ x ∧ x < xln r) (hv : gR h r i x = v) (hb : pc + 1 = b) (kk : X E M d B u b ls (xo v :: st) h Q) : X E M d B u pc ls (xi x :: xr r i :: st) h Q := by
  subst hb
  subst hv
  intro wf ho hl hx p e s m args below meth c H locs L C hR hS hL
  have hC := C
  obtain ⟨c1, c2, c3, c4, c5, c6, c7, c8, c9⟩ := C
  obtain ⟨a, ha, e1⟩ := ref_at (ho _ (List.mem_cons_of_mem _ List.mem_cons_self))
  obtain ⟨g1, g2⟩ := hR.1 r i a hk.2.1 ha
  rw [cel_q hk (by decide)] at g2
  obtain ⟨i1, i2⟩ := in_of hk.2.2.2.2 hi
  rw [List.map_cons, List.map_cons, e1]
  refine va_aldq (ws := [_]) c1 c2 c8.1 (w_one g2) 0 5 rfl rfl i1 hd ?_
  have kk2 := kk wf (List.forall_mem_cons.mpr ⟨(fun q hq => wf.2.2.1 r i x q hq), fun v hv => ho v (List.mem_cons_of_mem _ (List.mem_cons_of_mem _ hv))⟩) hl hx p e s m args below meth c H locs L hC hR hS hL
  rw [i2, Int.toNat_of_nonneg hi.1]
  exact kk2
theorem x_alen {r kind ct : Nat} {i : Int} (hk : Ak r kind ct) (hct : ct < 6) (hd : decode (mCC M) pc = .ok (.arraylength, 1)) (hb : pc + 1 = b) (kk : X E M d B u b ls (xi (xln r) :: st) h Q) : X E M d B u pc ls (xr r i :: st) h Q := by
  subst hb
  intro wf ho hl hx p e s m args below meth c H locs L C hR hS hL
  have hC := C
  obtain ⟨c1, c2, c3, c4, c5, c6, c7, c8, c9⟩ := C
  obtain ⟨a, ha, e1⟩ := ref_at (ho _ List.mem_cons_self)
  obtain ⟨g1, g2⟩ := hR.1 r i a hk.2.1 ha
  have hcel : ∃ z, cel E.1.2.1 h r i = .inl (E.1.2.1 ct, xln r, z) := by
    unfold cel
    rw [if_neg hk.1, hk.2.2.2.1]
    exact ⟨_, rfl⟩
  obtain ⟨z, hz⟩ := hcel
  rw [hz] at g2
  have kk2 := kk wf (List.forall_mem_cons.mpr ⟨(⟨by omega, by have := hk.2.2.2.2; omega⟩ : -2147483648 ≤ (xln r : Int) ∧ (xln r : Int) < 2147483648), fun v hv => ho v (List.mem_cons_of_mem _ hv)⟩) hl hx p e s m args below meth c H locs L hC hR hS hL
  rw [List.map_cons, e1]
  have e2 : Int32.ofNat (xln r) = Int32.ofInt (xln r) := (Int32.ofInt_eq_ofNat).symm
  have ht : ∃ ty, (wty E.1)[ct]? = some (E.1.2.1 ct, ty) := by
    have : ct = 0 ∨ ct = 1 ∨ ct = 2 ∨ ct = 3 ∨ ct = 4 ∨ ct = 5 := by omega
    rcases this with q | q | q | q | q | q <;> subst q <;> exact ⟨_, rfl⟩
  obtain ⟨ty, ht⟩ := ht
  exact va_alen (ws := [_]) c1 c2 c8.1 (w_one g2) 0 ct rfl ht e2 hd kk2
theorem nar_b {v : Int} (hv : -128 ≤ v ∧ v < 128) : vp_nar .byte (Int32.ofInt v) = Int32.ofInt v := by
  rw [vp_nar_byte, ← Int32.toInt_inj, Int8.toInt_toInt32, Int32.toInt_toInt8, i3_of (by omega)]
  exact Int.bmod_eq_of_le (by omega) (by omega)
theorem nar_z {v : Int} (hv : 0 ≤ v ∧ v < 2) : vp_nar .boolean (Int32.ofInt v) = Int32.ofInt v := by
  have : v = 0 ∨ v = 1 := by omega
  rcases this with q | q <;> subst q <;> rfl
theorem x_iast {r : Nat} {i x v : Int} (hk : Ak r 0 0) (hd : decode (mCC M) pc = .ok (.iastore, 1)) (hi : 0 ≤ x ∧ x < xln r) (hb : pc + 1 = b) (kk : X E M d B u b ls st (sI h r i x v) Q) : X E M d B u pc ls (xi v :: xi x :: xr r i :: st) h Q := by
  subst hb
  intro wf ho hl hx p e s m args below meth c H locs L C hR hS hL
  have hC := C
  obtain ⟨c1, c2, c3, c4, c5, c6, c7, c8, c9⟩ := C
  have hvk : vok h (xi v) := ho _ List.mem_cons_self
  obtain ⟨a, ha, e1⟩ := ref_at (ho _ (List.mem_cons_of_mem _ (List.mem_cons_of_mem _ List.mem_cons_self)))
  obtain ⟨g1, g2⟩ := hR.1 r i a hk.2.1 ha
  rw [cel_i hk (by decide)] at g2
  obtain ⟨i1, i2⟩ := in_of hk.2.2.2.2 hi
  rw [List.map_cons, List.map_cons, List.map_cons, e1]
  refine w_iast c1 c2 c8.1 hS g1 0 g2 rfl i1 hd fun H1 locs1 z1 z2 zs z3 => ?_
  refine kk (wf_sI wf (by rw [hk.kd]; exact hvk)) (fun v hv => ho v (List.mem_cons_of_mem _ (List.mem_cons_of_mem _ (List.mem_cons_of_mem _ hv)))) hl hx p e s m args below meth c H1 locs1 L hC (rep_sI hR wf hk.2.1 ha ?_ z2 zs) z3 hL
  rw [cel_i hk (by decide)]
  rw [i2] at z1
  have e3 : (fun j : Nat => Int32.ofInt ((sI h r i x v).1 r i (j : Int))) = upd (fun j => Int32.ofInt (h.1 r i (j : Int))) x.toNat (Int32.ofInt v) := by
    funext j
    show Int32.ofInt (if r = r ∧ i = i ∧ (j : Int) = x then v else h.1 r i j) = if j = x.toNat then _ else _
    by_cases q : j = x.toNat
    · rw [if_pos q, if_pos ⟨rfl, rfl, by omega⟩]
    · rw [if_neg q, if_neg (fun z => q (by have := z.2.2; omega))]
  rw [e3]
  exact z1
theorem x_bast {r : Nat} {i x v : Int} (hk : Ak r 1 1) (hd : decode (mCC M) pc = .ok (.bastore, 1)) (hi : 0 ≤ x ∧ x < xln r) (hb8 : -128 ≤ v ∧ v < 128) (hb : pc + 1 = b) (kk : X E M d B u b ls st (sI h r i x v) Q) : X E M d B u pc ls (xi v :: xi x :: xr r i :: st) h Q := by
  subst hb
  intro wf ho hl hx p e s m args below meth c H locs L C hR hS hL
  have hC := C
  obtain ⟨c1, c2, c3, c4, c5, c6, c7, c8, c9⟩ := C
  have hvk : vok h (xi v) := ho _ List.mem_cons_self
  obtain ⟨a, ha, e1⟩ := ref_at (ho _ (List.mem_cons_of_mem _ (List.mem_cons_of_mem _ List.mem_cons_self)))
  obtain ⟨g1, g2⟩ := hR.1 r i a hk.2.1 ha
  rw [cel_i hk (by decide)] at g2
  obtain ⟨i1, i2⟩ := in_of hk.2.2.2.2 hi
  rw [List.map_cons, List.map_cons, List.map_cons, e1]
  refine w_bast c1 c2 c8.1 hS g1 1 g2 rfl i1 hd fun H1 locs1 z1 z2 zs z3 => ?_
  refine kk (wf_sI wf (by rw [hk.kd]; exact hb8)) (fun v hv => ho v (List.mem_cons_of_mem _ (List.mem_cons_of_mem _ (List.mem_cons_of_mem _ hv)))) hl hx p e s m args below meth c H1 locs1 L hC (rep_sI hR wf hk.2.1 ha ?_ z2 zs) z3 hL
  rw [cel_i hk (by decide)]
  rw [i2, nar_b hb8] at z1
  have e3 : (fun j : Nat => Int32.ofInt ((sI h r i x v).1 r i (j : Int))) = upd (fun j => Int32.ofInt (h.1 r i (j : Int))) x.toNat (Int32.ofInt v) := by
    funext j
    show Int32.ofInt (if r = r ∧ i = i ∧ (j : Int) = x then v else h.1 r i j) = if j = x.toNat then _ else _
    by_cases q : j = x.toNat
    · rw [if_pos q, if_pos ⟨rfl, rfl, by omega⟩]
    · rw [if_neg q, if_neg (fun z => q (by have := z.2.2; omega))]
  rw [e3]
  exact z1
theorem x_zast {r : Nat} {i x v : Int} (hk : Ak r 2 2) (hd : decode (mCC M) pc = .ok (.bastore, 1)) (hi : 0 ≤ x ∧ x < xln r) (hz : 0 ≤ v ∧ v < 2) (hb : pc + 1 = b) (kk : X E M d B u b ls st (sI h r i x v) Q) : X E M d B u pc ls (xi v :: xi x :: xr r i :: st) h Q := by
  subst hb
  intro wf ho hl hx p e s m args below meth c H locs L C hR hS hL
  have hC := C
  obtain ⟨c1, c2, c3, c4, c5, c6, c7, c8, c9⟩ := C
  have hvk : vok h (xi v) := ho _ List.mem_cons_self
  obtain ⟨a, ha, e1⟩ := ref_at (ho _ (List.mem_cons_of_mem _ (List.mem_cons_of_mem _ List.mem_cons_self)))
  obtain ⟨g1, g2⟩ := hR.1 r i a hk.2.1 ha
  rw [cel_i hk (by decide)] at g2
  obtain ⟨i1, i2⟩ := in_of hk.2.2.2.2 hi
  rw [List.map_cons, List.map_cons, List.map_cons, e1]
  refine w_zast c1 c2 c8.1 hS g1 2 g2 rfl i1 hd fun H1 locs1 z1 z2 zs z3 => ?_
  refine kk (wf_sI wf (by rw [hk.kd]; exact hz)) (fun v hv => ho v (List.mem_cons_of_mem _ (List.mem_cons_of_mem _ (List.mem_cons_of_mem _ hv)))) hl hx p e s m args below meth c H1 locs1 L hC (rep_sI hR wf hk.2.1 ha ?_ z2 zs) z3 hL
  rw [cel_i hk (by decide)]
  rw [i2, nar_z hz] at z1
  have e3 : (fun j : Nat => Int32.ofInt ((sI h r i x v).1 r i (j : Int))) = upd (fun j => Int32.ofInt (h.1 r i (j : Int))) x.toNat (Int32.ofInt v) := by
    funext j
    show Int32.ofInt (if r = r ∧ i = i ∧ (j : Int) = x then v else h.1 r i j) = if j = x.toNat then _ else _
    by_cases q : j = x.toNat
    · rw [if_pos q, if_pos ⟨rfl, rfl, by omega⟩]
    · rw [if_neg q, if_neg (fun z => q (by have := z.2.2; omega))]
  rw [e3]
  exact z1
theorem x_last {r : Nat} {i x v : Int} (hk : Ak r 3 3) (hd : decode (mCC M) pc = .ok (.lastore, 1)) (hi : 0 ≤ x ∧ x < xln r) (hb : pc + 1 = b) (kk : X E M d B u b ls st (sI h r i x v) Q) : X E M d B u pc ls (xl v :: xi x :: xr r i :: st) h Q := by
  subst hb
  intro wf ho hl hx p e s m args below meth c H locs L C hR hS hL
  have hC := C
  obtain ⟨c1, c2, c3, c4, c5, c6, c7, c8, c9⟩ := C
  have hvk : vok h (xl v) := ho _ List.mem_cons_self
  obtain ⟨a, ha, e1⟩ := ref_at (ho _ (List.mem_cons_of_mem _ (List.mem_cons_of_mem _ List.mem_cons_self)))
  obtain ⟨g1, g2⟩ := hR.1 r i a hk.2.1 ha
  rw [cel_l hk (by decide)] at g2
  obtain ⟨i1, i2⟩ := in_of hk.2.2.2.2 hi
  rw [List.map_cons, List.map_cons, List.map_cons, e1]
  refine w_last c1 c2 c8.1 hS g1 3 g2 rfl i1 hd fun H1 locs1 z1 z2 zs z3 => ?_
  refine kk (wf_sI wf (by rw [hk.kd]; exact hvk)) (fun v hv => ho v (List.mem_cons_of_mem _ (List.mem_cons_of_mem _ (List.mem_cons_of_mem _ hv)))) hl hx p e s m args below meth c H1 locs1 L hC (rep_sI hR wf hk.2.1 ha ?_ z2 zs) z3 hL
  rw [cel_l hk (by decide)]
  rw [i2] at z1
  have e3 : (fun j : Nat => Int64.ofInt ((sI h r i x v).1 r i (j : Int))) = vp_updL (fun j => Int64.ofInt (h.1 r i (j : Int))) x.toNat (Int64.ofInt v) := by
    funext j
    show Int64.ofInt (if r = r ∧ i = i ∧ (j : Int) = x then v else h.1 r i j) = if j = x.toNat then _ else _
    by_cases q : j = x.toNat
    · rw [if_pos q, if_pos ⟨rfl, rfl, by omega⟩]
    · rw [if_neg q, if_neg (fun z => q (by have := z.2.2; omega))]
  rw [e3]
  exact z1
theorem x_aastM {r : Nat} {i x n : Int} (hk : Ak r 4 4) (hd : decode (mCC M) pc = .ok (.aastore, 1)) (hi : 0 ≤ x ∧ x < xln r) (hb : pc + 1 = b) (kk : X E M d B u b ls st (sR h r i x (some (4, n))) Q) : X E M d B u pc ls (xr 4 n :: xi x :: xr r i :: st) h Q := by
  subst hb
  intro wf ho hl hx p e s m args below meth c H locs L C hR hS hL
  have hC := C
  obtain ⟨c1, c2, c3, c4, c5, c6, c7, c8, c9⟩ := C
  have hvk : vok h (xr 4 n) := ho _ List.mem_cons_self
  obtain ⟨a, ha, e1⟩ := ref_at (ho _ (List.mem_cons_of_mem _ (List.mem_cons_of_mem _ List.mem_cons_self)))
  obtain ⟨av, hav, e2⟩ := ref_at hvk
  obtain ⟨g1, g2⟩ := hR.1 r i a hk.2.1 ha
  obtain ⟨g3, g4⟩ := hR.1 4 n av (by decide) hav
  rw [cel_q hk rfl] at g2
  rw [cel_o (by decide)] at g4
  obtain ⟨i1, i2⟩ := in_of hk.2.2.2.2 hi
  rw [List.map_cons, List.map_cons, List.map_cons, e1, e2]
  refine w_aast c1 c2 c8.1 hS g1 4 4 g2 rfl g4 rfl i1 hd fun H1 locs1 z1 z2 zs z3 => ?_
  refine kk (wf_sR wf hvk) (fun v hv => ho v (List.mem_cons_of_mem _ (List.mem_cons_of_mem _ (List.mem_cons_of_mem _ hv)))) hl hx p e s m args below meth c H1 locs1 L hC (rep_sR hR wf hk.2.1 ha ?_ z2 zs) z3 hL
  rw [cel_q hk rfl]
  rw [i2] at z1
  have e3 : (fun j : Nat => xoa (sR h r i x (some (4, n))) ((sR h r i x (some (4, n))).2.1 r i (j : Int))) = va_up (fun j => xoa h (h.2.1 r i (j : Int))) x.toNat (some av) := by
    funext j
    show xoa h (if r = r ∧ i = i ∧ (j : Int) = x then some (4, n) else h.2.1 r i j) = if j = x.toNat then _ else _
    by_cases q : j = x.toNat
    · rw [if_pos q, if_pos ⟨rfl, rfl, by omega⟩]
      exact hav
    · rw [if_neg q, if_neg (fun z => q (by have := z.2.2; omega))]
  rw [e3]
  exact z1
theorem x_aastV {r : Nat} {i x n : Int} (hk : Ak r 4 5) (hd : decode (mCC M) pc = .ok (.aastore, 1)) (hi : 0 ≤ x ∧ x < xln r) (hb : pc + 1 = b) (kk : X E M d B u b ls st (sR h r i x (some (10, n))) Q) : X E M d B u pc ls (xr 10 n :: xi x :: xr r i :: st) h Q := by
  subst hb
  intro wf ho hl hx p e s m args below meth c H locs L C hR hS hL
  have hC := C
  obtain ⟨c1, c2, c3, c4, c5, c6, c7, c8, c9⟩ := C
  have hvk : vok h (xr 10 n) := ho _ List.mem_cons_self
  obtain ⟨a, ha, e1⟩ := ref_at (ho _ (List.mem_cons_of_mem _ (List.mem_cons_of_mem _ List.mem_cons_self)))
  obtain ⟨av, hav, e2⟩ := ref_at hvk
  obtain ⟨g1, g2⟩ := hR.1 r i a hk.2.1 ha
  obtain ⟨g3, g4⟩ := hR.1 10 n av (by decide) hav
  rw [cel_q hk rfl] at g2
  rw [cel_o (by decide)] at g4
  obtain ⟨i1, i2⟩ := in_of hk.2.2.2.2 hi
  rw [List.map_cons, List.map_cons, List.map_cons, e1, e2]
  refine w_aast c1 c2 c8.1 hS g1 5 10 g2 rfl g4 rfl i1 hd fun H1 locs1 z1 z2 zs z3 => ?_
  refine kk (wf_sR wf hvk) (fun v hv => ho v (List.mem_cons_of_mem _ (List.mem_cons_of_mem _ (List.mem_cons_of_mem _ hv)))) hl hx p e s m args below meth c H1 locs1 L hC (rep_sR hR wf hk.2.1 ha ?_ z2 zs) z3 hL
  rw [cel_q hk rfl]
  rw [i2] at z1
  have e3 : (fun j : Nat => xoa (sR h r i x (some (10, n))) ((sR h r i x (some (10, n))).2.1 r i (j : Int))) = va_up (fun j => xoa h (h.2.1 r i (j : Int))) x.toNat (some av) := by
    funext j
    show xoa h (if r = r ∧ i = i ∧ (j : Int) = x then some (10, n) else h.2.1 r i j) = if j = x.toNat then _ else _
    by_cases q : j = x.toNat
    · rw [if_pos q, if_pos ⟨rfl, rfl, by omega⟩]
      exact hav
    · rw [if_neg q, if_neg (fun z => q (by have := z.2.2; omega))]
  rw [e3]
  exact z1
end
