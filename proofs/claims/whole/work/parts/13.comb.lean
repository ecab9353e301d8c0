/-! THE DECOMPILER'S WORDS: tests, names, calls in functions that may fail; a method's end -/
section
variable {α β : Type}
def ck (p : Prop) [Decidable p] (e : Option α) : Option α := if p then e else none
theorem ck_e {p : Prop} [Decidable p] {e : Option α} {r : α} (h : ck p e = some r) : p ∧ e = some r := by
  unfold ck at h
  split at h
  · rename_i q; exact ⟨q, h⟩
  · cases h
theorem ck_p {p : Prop} [Decidable p] {e : Option α} (h : p) : ck p e = e := if_pos h
def lt (x : α) (f : α → Option β) : Option β := f x
theorem lt_e {x : α} {f : α → Option β} {r : β} (h : lt x f = some r) : ∃ y, x = y ∧ f y = some r := ⟨x, rfl, h⟩
theorem br_T {p : Prop} [Decidable p] {a b : Option α} {r : α} (hp : p) (h : (if p then a else b) = some r) : a = some r := by rwa [if_pos hp] at h
theorem br_F {p : Prop} [Decidable p] {a b : Option α} {r : α} (hp : ¬ p) (h : (if p then a else b) = some r) : b = some r := by rwa [if_neg hp] at h
def bd (o : Option (Int × Hp)) (f : Int → Hp → Option β) : Option β := match o with
  | some q => f q.1 q.2
  | none => none
theorem bd_e {o : Option (Int × Hp)} {f : Int → Hp → Option β} {r : β} (h : bd o f = some r) : ∃ (v : Int) (h2 : Hp), o = some (v, h2) ∧ f v h2 = some r := by
  unfold bd at h
  split at h
  · rename_i q; exact ⟨q.1, q.2, rfl, h⟩
  · cases h
theorem bd_s {v : Int} {h : Hp} {f : Int → Hp → Option β} : bd (some (v, h)) f = f v h := rfl
def rf (o : Option (Nat × Int)) (r : Nat) (f : Int → Option β) : Option β := match o with
  | some q => if q.1 = r then f q.2 else none
  | none => none
theorem rf_e {o : Option (Nat × Int)} {r : Nat} {f : Int → Option β} {z : β} (h : rf o r f = some z) : ∃ j, o = some (r, j) ∧ f j = some z := by
  unfold rf at h
  split at h
  · rename_i q
    split at h
    · rename_i e; exact ⟨q.2, by rw [← e], h⟩
    · cases h
  · cases h
theorem rf_s {r : Nat} {j : Int} {f : Int → Option β} : rf (some (r, j)) r f = f j := by simp [rf]
end
/-- x >>> y -/
def bushr (x y : Int) : Int := ((Int32.ofInt x).toUInt32 >>> ((Int32.ofInt y).toUInt32 &&& Int32.toUInt32 31)).toInt32.toInt
section
variable {E : xE} {M : Mth} {d : Nat} {B u : Nat × Nat} {pc b : Nat} {ls ls2 : List (Option Av)} {st : List Av} {h : Hp} {Q : Option Av → Hp → Prop}
theorem x_iushr {x y : Int} (hd : decode (mCC M) pc = .ok (.iushr, 1)) (hb : pc + 1 = b) (k : X E M d B u b ls (xi (bushr x y) :: st) h Q) : X E M d B u pc ls (xi y :: xi x :: st) h Q := by
  subst hb
  intro wf ho hl hx p e s m args below meth c H locs L C hR hS hL
  have hC := C
  obtain ⟨c1, c2, c3, c4, c5, c6, c7, c8, c9⟩ := C
  have kk := k wf (List.forall_mem_cons.mpr ⟨bo_ok _, fun v hv => ho v (List.mem_cons_of_mem _ (List.mem_cons_of_mem _ hv))⟩) hl hx p e s m args below meth c H locs L hC hR hS hL
  have e1 : cv h (xi (bushr x y)) = .int ((Int32.ofInt x).toUInt32 >>> ((Int32.ofInt y).toUInt32 &&& Int32.toUInt32 31)).toInt32 := by simp only [cv, bushr, bo_i]
  rw [List.map_cons, e1] at kk
  exact lv_iushr c1 c2 hd rfl kk
theorem x_ldcw {i : Nat} {z : Int} (hd : decode (mCC M) pc = .ok (.ldc_w i, 3)) (hw : Cond.constant (mOwn M) i (Int32.ofInt z) ∈ Gw) (hn : -2147483648 ≤ z ∧ z < 2147483648) (hb : pc + 3 = b) (k : X E M d B u b ls (xi z :: st) h Q) : X E M d B u pc ls st h Q := by
  subst hb
  intro wf ho hl hx p e s m args below meth c H locs L C hR hS hL
  have hC := C
  obtain ⟨c1, c2, c3, c4, c5, c6, c7, c8, c9⟩ := C
  exact lv_ldcw c1 c2 c5 (c7 _ hw) hd (k wf (List.forall_mem_cons.mpr ⟨hn, ho⟩) hl hx p e s m args below meth c H locs L hC hR hS hL)
end
theorem no_e {α : Type} {r : α} {P : Prop} (h : (none : Option α) = some r) : P := by cases h
/-- how long a loop may go on -/
def FU : Nat := 1000000000
abbrev Rk : Type := Nat → List Int → Hp → Option (Int × Hp)
def PoI (r : Int × Hp) : Option Av → Hp → Prop := fun rv hh => some (xi r.1) = rv ∧ r.2 = hh ∧ Lay hh
def PoL (r : Int × Hp) : Option Av → Hp → Prop := fun rv hh => some (xl r.1) = rv ∧ r.2 = hh ∧ Lay hh
def PoV (r : Int × Hp) : Option Av → Hp → Prop := fun rv hh => none = rv ∧ r.2 = hh ∧ Lay hh
/-- fewer locals are listed -/
def ldp : List (Option Av) → List (Option Av) → Prop
  | [], _ => True
  | none :: a, _ :: b => ldp a b
  | none :: a, [] => ldp a []
  | some v :: a, some w :: b => w = v ∧ ldp a b
  | some _ :: _, _ => False
theorem ldp_get : ∀ {a b : List (Option Av)}, ldp a b → ∀ (i : Nat) (v : Av), a[i]? = some (some v) → b[i]? = some (some v)
  | [], _, _, i, v, hi => by simp at hi
  | none :: a, _ :: b, h, 0, v, hi => by simp at hi
  | none :: a, _ :: b, h, i + 1, v, hi => by
    have := ldp_get (a := a) (b := b) h i v (by simpa using hi)
    simpa using this
  | none :: a, [], h, 0, v, hi => by simp at hi
  | none :: a, [], h, i + 1, v, hi => by
    have := ldp_get (a := a) (b := []) h i v (by simpa using hi)
    simp at this
  | some x :: a, some y :: b, h, 0, v, hi => by
    simp at hi
    subst hi
    simp [h.1]
  | some x :: a, some y :: b, h, i + 1, v, hi => by
    have := ldp_get (a := a) (b := b) h.2 i v (by simpa using hi)
    simpa using this
theorem x_dp {E : xE} {M : Mth} {d : Nat} {B u : Nat × Nat} {pc : Nat} {ls ls2 : List (Option Av)} {st : List Av} {h : Hp} {Q : Option Av → Hp → Prop} (he : ldp ls2 ls) (k : X E M d B u pc ls2 st h Q) : X E M d B u pc ls st h Q := x_drop (ldp_get he) k
theorem lay_sR {h : Hp} {r : Nat} {i k : Int} {v : Option (Nat × Int)} (hL : Lay h) (hn : ∀ k2 : Nat, (k2 : Int) = k → xtg r k2 = none) : Lay (sR h r i k v) := by
  intro r' k' i' a t ha ht
  show (if r' = r ∧ i' = i ∧ (k' : Int) = k then v else h.2.1 r' i' k') = _
  rw [if_neg (fun q => by rw [q.1, hn k' q.2.2] at ht; cases ht)]
  exact hL r' k' i' a t ha ht
theorem xtg_hi {r k : Nat} (h : 13 ≤ r) : xtg r k = none := by
  have h2 : xtl[r]? = none := List.getElem?_eq_none (show xtl.length ≤ r from h)
  simp [xtg, List.getD, h2]
section
variable {E : xE} {M : Mth} {d : Nat} {B u : Nat × Nat} {pc b : Nat} {ls ls2 : List (Option Av)} {st : List Av} {h : Hp} {Q : Option Av → Hp → Prop}
/-- Galley's call of PlateVote.isCourse, a nest mate's -/
theorem x_callSN {B2 : Nat × Nat} {as rest : List Av} {Q2 : Option Av → Hp → Prop} (hs : Sp mX11_isCourse d B2 as h Q2) (ho1 : mOwn M = "PlateVote$Galley") (hd : decode (mCC M) pc = .ok (.invokestatic 205, 3)) (hst : st = as.reverse ++ rest) (hn : as.length = 1) (hcat : (rest.map wid).sum ≤ 8) (hB : u.1 + B2.1 ≤ B.1 ∧ u.2 + B2.2 ≤ B.2) (hb : pc + 3 = b)
    (k : ∀ (rv : Option Av) (h2 : Hp), Q2 rv h2 → (∀ (r : Nat) (i : Int) (a : Nat), h.2.2 r i = some a → h2.2.2 r i = some a) → X E M (d + 1) B (u.1 + B2.1, u.2 + B2.2) b ls (rv.toList ++ rest) h2 Q) : X E M (d + 1) B u pc ls st h Q := by
  subst hb
  subst hst
  intro wf ho hl hx p e s m args below meth c H locs L C hR hS hL
  have hC := C
  obtain ⟨c1, c2, c3, c4, c5, c6, c7, c8, c9⟩ := C
  have hav : ∀ v ∈ as, vok h v := fun v q => ho v (List.mem_append_left _ (List.mem_reverse.mpr q))
  have hor : ∀ v ∈ rest, vok h v := fun v hv => ho v (List.mem_append_right _ hv)
  have hMet := hs E.1 E.2.1 wf hav
  have hG : GoodIn Gw (mWs mX11_isCourse) := gw_in (gw_ws kw_1139)
  have cw := va_cnB (R := rmo (d + 1) B) (bytes := mCC mX11_isCourse) (maxL := mNL mX11_isCourse) (ret := mRet mX11_isCourse) (rm := rmo d B2) (mc := B2.1) (ms := B2.2) (own := "PlateVote$Galley") (host := "PlateVote") (index := 205) 1 c7 hG rfl rfl rfl c8.2.2.2.2.2.2.2.1 (c7 _ kw_116) ⟨by decide +kernel, by decide +kernel, by decide +kernel⟩ ⟨Nat.le_refl _, by show 8 + (1 + 11) + 64 * d ≤ 64 * (d + 1); omega⟩
  have run := va_runSN (l := E.2.1) (e := e) (below := below) (meth := meth) (H := H) (locs := locs) (cells := u.1) (slots := u.2) (As := as.map (cv h)) (rest := rest.map (cv h)) (g := F0 m pc L ((as.reverse ++ rest).map (cv h))) ⟨c1, c2, c4, by rw [← ho1]; exact c5, c7⟩ hMet ⟨cw, c7 _ kw_1138, trivial⟩
    ⟨fun a2 U g mk q => ⟨q.1, q.2.1, Kx_blind q.2.2 rfl rfl⟩, fun U hU hW => ⟨rfl, by rw [hU]; exact hR, Kx_call c8 hS hU hW⟩⟩ rfl (by rw [List.length_map]; exact hn) hL.1 (by simp) (lv_room (by rw [wid_sum]; exact hcat)) hd hB
  exact x_behind wf hor hl hx hC hS hL run (fun rv h2 H1 locs1 z1 z2 z3 z4 z5 z6 z7 z8 z9 => k rv h2 z1 z2 z3 z4 z5 z6 p e s m args below meth c H1 locs1 L hC z7 z8 z9)
end
