/-! THE STATE: chart, voyages (0 now, 1 image, 2 + k: the k-th to undo, oldest first), and the rest.
The rest, X: 0 .. 3 the log's course, plates, cell, storm of each meal, 4: whom it fed (8 t + i); 10 .. 14: the same of the image; 20 .. 22 notes: kind, meal, value; 23 how many, 24 by how many it is KNOWN; 25 how many to undo; 26 whether there is an image; 27, 28 fault; 29 bytes, 30 how many -/
abbrev Sg : Type := Ch × (Nat → Ch) × Ch
abbrev sC (σ : Sg) : Ch := σ.1
abbrev sV (σ : Sg) (k : Nat) : Ch := σ.2.1 k
abbrev sX (σ : Sg) : Ch := σ.2.2
abbrev sN (σ : Sg) : Ch := fun f => σ.2.2 (20 + f)
/-- whom meal t fed -/
abbrev sF (σ : Sg) (t : Int) : Int → Int := fun i => sX σ 4 (8 * t + i)
def sb (b : Int) : Int := if b < 128 then b else b - 256
def SW (σ : Sg) : Prop :=
  (CW (sC σ)) ∧
  (VWF (sC σ) (sV σ 0)) ∧
  (0 ≤ sX σ 25 0 ∧ sX σ 25 0 ≤ 20 ∧ sX σ 25 0 ≤ sV σ 0 0 0) ∧
  (∀ k : Nat, (k : Int) < sX σ 25 0 → VWF (sC σ) (sV σ (k + 2)) ∧ sV σ (k + 2) 0 0 = sV σ 0 0 0 - sX σ 25 0 + k) ∧
  (sX σ 26 0 = 0 ∨ sX σ 26 0 = 1) ∧
  (sX σ 26 0 = 1 → VWF (sC σ) (sV σ 1)) ∧
  (NW (sN σ) (sX σ 23 0) (sX σ 24 0)) ∧
  (0 ≤ sX σ 30 0 ∧ sX σ 30 0 ≤ 800) ∧
  (∀ k, 0 ≤ k → k < sX σ 30 0 → 0 ≤ sX σ 29 k ∧ sX σ 29 k < 256)
theorem sw_C {σ : Sg} (q : SW σ) : CW (sC σ) := q.1
theorem sw_V {σ : Sg} (q : SW σ) : VWF (sC σ) (sV σ 0) := q.2.1
theorem sw_U {σ : Sg} (q : SW σ) : 0 ≤ sX σ 25 0 ∧ sX σ 25 0 ≤ 20 ∧ sX σ 25 0 ≤ sV σ 0 0 0 := q.2.2.1
theorem sw_u {σ : Sg} (q : SW σ) : ∀ k : Nat, (k : Int) < sX σ 25 0 → VWF (sC σ) (sV σ (k + 2)) ∧ sV σ (k + 2) 0 0 = sV σ 0 0 0 - sX σ 25 0 + k := q.2.2.2.1
theorem sw_I {σ : Sg} (q : SW σ) : sX σ 26 0 = 0 ∨ sX σ 26 0 = 1 := q.2.2.2.2.1
theorem sw_i {σ : Sg} (q : SW σ) : sX σ 26 0 = 1 → VWF (sC σ) (sV σ 1) := q.2.2.2.2.2.1
theorem sw_N {σ : Sg} (q : SW σ) : NW (sN σ) (sX σ 23 0) (sX σ 24 0) := q.2.2.2.2.2.2.1
theorem sw_T {σ : Sg} (q : SW σ) : 0 ≤ sX σ 30 0 ∧ sX σ 30 0 ≤ 800 := q.2.2.2.2.2.2.2.1
theorem sw_t {σ : Sg} (q : SW σ) : ∀ k, 0 ≤ k → k < sX σ 30 0 → 0 ≤ sX σ 29 k ∧ sX σ 29 k < 256 := q.2.2.2.2.2.2.2.2
/-! the class's cells -/
def kA (h : Hp) (c : Int) (σ : Sg) : Prop := gR h 11 0 2 = some (0, c) ∧ gR h 11 0 3 = some (0, 1 - c) ∧ (c = 0 ∨ c = 1) ∧ CX h c (sC σ)
/-- the mouths of the charts, in some order -/
def kP (h : Hp) : Prop := ∀ c, c = 0 ∨ c = 1 → ∃ π : Int → Int, (∀ k, 0 ≤ k → k < 9 → gR h 20 c k = some (4, 9 * c + π k) ∧ 0 ≤ π k ∧ π k < 9) ∧ ∀ j k, 0 ≤ j → j < 9 → 0 ≤ k → k < 9 → π j = π k → j = k
theorem kP_e {h h2 : Hp} (e2 : h2.2 = h.2) (q : kP h) : kP h2 := fun c y => by
  obtain ⟨π, a, b⟩ := q c y
  exact ⟨π, fun k k1 k2 => by rw [gR_2 e2]; exact a k k1 k2, b⟩
def kR (h : Hp) : Prop := (∀ k, 0 ≤ k → k < 20 → gR h 59 0 k = some (10, 1 + k)) ∧ (∀ k, 0 ≤ k → k < 4 → gR h 43 0 k = some (10, 23 + k)) ∧ kP h
def kV (h : Hp) (σ : Sg) : Prop := isVF (sC σ) h 0 (sV σ 0)
def kG (h : Hp) : Prop := gI h 2 0 1 = -1 ∧ gI h 2 0 10 = -1
def lgC (h : Hp) (C X : Ch) (j : Int) (b : Nat) (t : Int) : Prop := gI h 34 j t = X b t ∧ gI h 35 j t = X (b + 1) t ∧ gI h 36 j t = X (b + 2) t ∧ gI h 37 j t = X (b + 3) t ∧ ∀ i, 0 ≤ i → i < C 20 0 → bit (gI h 38 j t) i = X (b + 4) (8 * t + i)
def kL (h : Hp) (σ : Sg) : Prop := ∀ t, 0 ≤ t → t < sV σ 0 0 0 → lgC h (sC σ) (sX σ) 0 0 t
def kU (h : Hp) (σ : Sg) : Prop := gI h 11 0 10 = sX σ 25 0 ∧ ∀ k : Nat, (k : Int) < sX σ 25 0 → isVF (sC σ) h (1 + (sV σ 0 0 0 - sX σ 25 0 + k) % 20) (sV σ (k + 2))
def kI (h : Hp) (σ : Sg) : Prop := gI h 11 0 13 = sX σ 26 0 ∧ (sX σ 26 0 = 1 → isVF (sC σ) h 21 (sV σ 1) ∧ ∀ t, 0 ≤ t → t < sV σ 1 0 0 → lgC h (sC σ) (sX σ) 1 10 t)
def kN (h : Hp) (σ : Sg) : Prop := isN h (sN σ) (sX σ 23 0) (sX σ 24 0)
def kT (h : Hp) (σ : Sg) : Prop := gI h 11 0 1 = sX σ 30 0 ∧ ∀ k, 0 ≤ k → k < sX σ 30 0 → gI h 58 0 k = sb (sX σ 29 k)
def kF (h : Hp) (σ : Sg) : Prop := gI h 7 0 3 = sX σ 27 0 ∧ gI h 7 0 4 = sX σ 28 0
/-! who fits: all meals held anew with another truth -/
def rnV (C X : Ch) (m : Int) : Nat → Ch
  | 0 => fun f i => if f = 5 then m else bgV C f i
  | t + 1 => hdV C (rnV C X m t) (-1) (-1) (fun i => X 4 (8 * t + i)) false
def rnc (C X : Ch) (m t : Int) : Int := wnr C (rnV C X m t.toNat) (-1) (-1) (fun i => X 4 (8 * t + i)) false
def rne (C X : Ch) (m t : Int) : Int := eaF C (rnV C X m t.toNat) (-1) (-1) (fun i => X 4 (8 * t + i))
/-- the notes of X -/
abbrev xN (X : Ch) : Ch := fun f => X (20 + f)
abbrev xK (X : Ch) : Nat := (kn (X 23 0) (X 24 0)).toNat
def fitP (C X : Ch) (M m : Int) : Prop := ∀ k, 0 ≤ k → cnP (xN X) (xK X) k → X 21 k < M ∧ X 22 k = if X 20 k = 0 then rnc C X m (X 21 k) else rne C X m (X 21 k)
def isFit (C X : Ch) (M r : Int) : Prop := 0 ≤ r ∧ r < 65536 ∧ ∀ m, 0 ≤ m → m < 16 → (bit r m = 1 ↔ (m < bshl 1 (C 21 0) ∧ fitP C X M m))
def kQ (h : Hp) (σ : Sg) : Prop := gI h 11 0 16 = -1 ∨ isFit (sC σ) (sX σ) (sV σ 0 0 0) (gI h 11 0 16)
def IC (h : Hp) (c : Int) (σ : Sg) : Prop := kA h c σ ∧ kR h ∧ kV h σ ∧ kG h ∧ kL h σ ∧ kU h σ ∧ kI h σ ∧ kN h σ ∧ kT h σ ∧ kF h σ ∧ kQ h σ
/-! the reference's -/
def rA (h : Hp) (σ : Sg) : Prop := isR h (sC σ)
def rV (h : Hp) (σ : Sg) : Prop := isSF (sC σ) h 0 (sV σ 0)
def lgR (h : Hp) (C X : Ch) (j : Int) (b : Nat) (t : Int) : Prop := gI h 93 0 (60 * j + t) = X b t ∧ gI h 94 0 (60 * j + t) = X (b + 1) t ∧ gI h 95 0 (60 * j + t) = X (b + 2) t ∧ gI h 96 0 (60 * j + t) = X (b + 3) t ∧ ∀ i, 0 ≤ i → i < C 20 0 → bit (gI h 97 0 (60 * j + t)) i = X (b + 4) (8 * t + i)
def rL (h : Hp) (σ : Sg) : Prop := ∀ t, 0 ≤ t → t < sV σ 0 0 0 → lgR h (sC σ) (sX σ) 0 0 t
def rU (h : Hp) (σ : Sg) : Prop := gI h 12 0 54 = sX σ 25 0 ∧ ∀ k : Nat, (k : Int) < sX σ 25 0 → isSF (sC σ) h (3 + k) (sV σ (k + 2))
def rI (h : Hp) (σ : Sg) : Prop := gI h 12 0 53 = sX σ 26 0 ∧ (sX σ 26 0 = 1 → isSF (sC σ) h 2 (sV σ 1) ∧ ∀ t, 0 ≤ t → t < sV σ 1 0 0 → lgR h (sC σ) (sX σ) 2 10 t)
def rN (h : Hp) (σ : Sg) : Prop := isNR h (sN σ) (sX σ 23 0) (sX σ 24 0)
def rT (h : Hp) (σ : Sg) : Prop := gI h 12 0 2 = sX σ 30 0 ∧ ∀ k, 0 ≤ k → k < sX σ 30 0 → gI h 60 0 k = sX σ 29 k
def rF (h : Hp) (σ : Sg) : Prop := gI h 12 0 34 = sX σ 27 0 ∧ gI h 12 0 35 = sX σ 28 0 ∧ -1 ≤ gI h 12 0 31 ∧ gI h 12 0 31 < 1073741824
def IR (h : Hp) (σ : Sg) : Prop := rA h σ ∧ B92 h ∧ rV h σ ∧ rL h σ ∧ rU h σ ∧ rI h σ ∧ rN h σ ∧ rT h σ ∧ rF h σ
/-! nothing else changes them -/
section
variable {h h2 : Hp} {c : Int} {σ : Sg}
theorem kA_e (e : ∀ (r : Nat) (i k : Int), inC r k → gI h2 r i k = gI h r i k) (e2 : h2.2 = h.2) (q : kA h c σ) : kA h2 c σ := ⟨by rw [gR_2 e2]; exact q.1, by rw [gR_2 e2]; exact q.2.1, q.2.2.1, CX_eq e e2 q.2.2.2⟩
theorem kR_e (e2 : h2.2 = h.2) (q : kR h) : kR h2 := ⟨fun k k1 k2 => by rw [gR_2 e2]; exact q.1 k k1 k2, fun k k1 k2 => by rw [gR_2 e2]; exact q.2.1 k k1 k2, kP_e e2 q.2.2⟩
theorem kV_e (e : ∀ k, gI h2 10 0 k = gI h 10 0 k) (e2 : ∀ k, gI h2 57 0 k = gI h 57 0 k) (q : kV h σ) : kV h2 σ := isVF_eq e e2 q
theorem kG_e (e : ∀ k, k = 1 ∨ k = 10 → gI h2 2 0 k = gI h 2 0 k) (q : kG h) : kG h2 := ⟨(e 1 (Or.inl rfl)).trans q.1, (e 10 (Or.inr rfl)).trans q.2⟩
theorem lgC_e {C X : Ch} {j t : Int} {b : Nat} (e : ∀ r : Nat, 34 ≤ r → r ≤ 38 → gI h2 r j t = gI h r j t) (q : lgC h C X j b t) : lgC h2 C X j b t := by
  unfold lgC at q ⊢
  rw [e 34 (by decide) (by decide), e 35 (by decide) (by decide), e 36 (by decide) (by decide), e 37 (by decide) (by decide), e 38 (by decide) (by decide)]
  exact q
theorem kL_e (e : ∀ (r : Nat) (k : Int), 34 ≤ r → r ≤ 38 → gI h2 r 0 k = gI h r 0 k) (q : kL h σ) : kL h2 σ := fun t t1 t2 => lgC_e (fun r a b => e r t a b) (q t t1 t2)
theorem kU_e (e0 : gI h2 11 0 10 = gI h 11 0 10) (e : ∀ v k, 1 ≤ v → v ≤ 20 → gI h2 10 v k = gI h 10 v k) (e2 : ∀ v k, 1 ≤ v → v ≤ 20 → gI h2 57 v k = gI h 57 v k) (q : kU h σ) : kU h2 σ := ⟨e0.trans q.1, fun k k1 => isVF_eq (fun j => e _ j (by omega) (by omega)) (fun j => e2 _ j (by omega) (by omega)) (q.2 k k1)⟩
theorem kI_e (e0 : gI h2 11 0 13 = gI h 11 0 13) (e : ∀ k, gI h2 10 21 k = gI h 10 21 k) (e2 : ∀ k, gI h2 57 21 k = gI h 57 21 k) (e3 : ∀ (r : Nat) (k : Int), 34 ≤ r → r ≤ 38 → gI h2 r 1 k = gI h r 1 k) (q : kI h σ) : kI h2 σ := ⟨e0.trans q.1, fun z => ⟨isVF_eq e e2 (q.2 z).1, fun t t1 t2 => lgC_e (fun r a b => e3 r t a b) ((q.2 z).2 t t1 t2)⟩⟩
theorem kN_e (e : ∀ k, k = 4 ∨ k = 5 → gI h2 5 0 k = gI h 5 0 k) (e2 : ∀ (r : Nat) (k : Int), 39 ≤ r → r ≤ 41 → gI h2 r 0 k = gI h r 0 k) (q : kN h σ) : kN h2 σ := isN_eq (e 4 (Or.inl rfl)) (e 5 (Or.inr rfl)) e2 q
theorem kT_e (e : gI h2 11 0 1 = gI h 11 0 1) (e2 : ∀ k, gI h2 58 0 k = gI h 58 0 k) (q : kT h σ) : kT h2 σ := ⟨e.trans q.1, fun k k1 k2 => (e2 k).trans (q.2 k k1 k2)⟩
theorem kF_e (e : ∀ k, k = 3 ∨ k = 4 → gI h2 7 0 k = gI h 7 0 k) (q : kF h σ) : kF h2 σ := ⟨(e 3 (Or.inl rfl)).trans q.1, (e 4 (Or.inr rfl)).trans q.2⟩
theorem kQ_e (e : gI h2 11 0 16 = gI h 11 0 16) (q : kQ h σ) : kQ h2 σ := by unfold kQ at q ⊢; rw [e]; exact q
theorem lgR_e {C X : Ch} {j t : Int} {b : Nat} (e : ∀ r : Nat, 93 ≤ r → r ≤ 97 → gI h2 r 0 (60 * j + t) = gI h r 0 (60 * j + t)) (q : lgR h C X j b t) : lgR h2 C X j b t := by
  unfold lgR at q ⊢
  rw [e 93 (by decide) (by decide), e 94 (by decide) (by decide), e 95 (by decide) (by decide), e 96 (by decide) (by decide), e 97 (by decide) (by decide)]
  exact q
theorem rV_e (w : CW (sC σ)) (e : ∀ r : Nat, 84 ≤ r → r ≤ 90 → gI h2 r 0 0 = gI h r 0 0) (e2 : ∀ m, 0 ≤ m → m < 9 → gI h2 91 0 m = gI h 91 0 m ∧ gI h2 92 0 m = gI h 92 0 m) (q : rV h σ) : rV h2 σ := isSF_eq w e (fun m m1 m2 => e2 _ (by omega) (by omega)) q
theorem rL_e (e : ∀ (r : Nat) (k : Int), 93 ≤ r → r ≤ 97 → 0 ≤ k → k < 60 → gI h2 r 0 k = gI h r 0 k) (hm : sV σ 0 0 0 ≤ 60) (q : rL h σ) : rL h2 σ := fun t t1 t2 => lgR_e (fun r a b => e r _ a b (by omega) (by omega)) (q t t1 t2)
theorem rU_e (w : CW (sC σ)) (hU : sX σ 25 0 ≤ 20) (e0 : gI h2 12 0 54 = gI h 12 0 54) (e : ∀ (r : Nat) (s : Int), 84 ≤ r → r ≤ 90 → 3 ≤ s → s < 23 → gI h2 r 0 s = gI h r 0 s) (e2 : ∀ m, 27 ≤ m → m < 207 → gI h2 91 0 m = gI h 91 0 m ∧ gI h2 92 0 m = gI h 92 0 m) (q : rU h σ) : rU h2 σ := ⟨e0.trans q.1, fun k k1 => isSF_eq w (fun r a b => e r _ a b (by omega) (by omega)) (fun m m1 m2 => e2 _ (by omega) (by omega)) (q.2 k k1)⟩
theorem rI_e (w : CW (sC σ)) (hm : sX σ 26 0 = 1 → sV σ 1 0 0 ≤ 60) (e0 : gI h2 12 0 53 = gI h 12 0 53) (e : ∀ r : Nat, 84 ≤ r → r ≤ 90 → gI h2 r 0 2 = gI h r 0 2) (e2 : ∀ m, 18 ≤ m → m < 27 → gI h2 91 0 m = gI h 91 0 m ∧ gI h2 92 0 m = gI h 92 0 m) (e3 : ∀ (r : Nat) (k : Int), 93 ≤ r → r ≤ 97 → 120 ≤ k → k < 180 → gI h2 r 0 k = gI h r 0 k) (q : rI h σ) : rI h2 σ := ⟨e0.trans q.1, fun z => ⟨isSF_eq w e (fun m m1 m2 => e2 _ (by omega) (by omega)) (q.2 z).1, fun t t1 t2 => lgR_e (fun r a b => e3 r _ a b (by omega) (by have := hm z; omega)) ((q.2 z).2 t t1 t2)⟩⟩
theorem rN_e (e : ∀ k, k = 74 ∨ k = 75 → gI h2 12 0 k = gI h 12 0 k) (e2 : ∀ (r : Nat) (k : Int), 110 ≤ r → r ≤ 112 → gI h2 r 0 k = gI h r 0 k) (q : rN h σ) : rN h2 σ := isNR_eq (e 74 (Or.inl rfl)) (e 75 (Or.inr rfl)) e2 q
theorem rT_e (e : gI h2 12 0 2 = gI h 12 0 2) (e2 : ∀ k, gI h2 60 0 k = gI h 60 0 k) (q : rT h σ) : rT h2 σ := ⟨e.trans q.1, fun k k1 k2 => (e2 k).trans (q.2 k k1 k2)⟩
theorem rF_e (e : ∀ k, k = 31 ∨ k = 34 ∨ k = 35 → gI h2 12 0 k = gI h 12 0 k) (q : rF h σ) : rF h2 σ := ⟨(e 34 (by omega)).trans q.1, (e 35 (by omega)).trans q.2.1, by rw [e 31 (by omega)]; exact q.2.2⟩
theorem B92_e (e : ∀ k, gI h2 92 0 k = gI h 92 0 k) (q : B92 h) : B92 h2 := fun k => by rw [e]; exact q k
end
/-- numbers alone: what the class's methods leave to the reference -/
def FrX (W : Nat → Int → Int → Prop) (h h2 : Hp) : Prop := ∀ (r : Nat) (i k : Int), ¬ W r i k → gI h2 r i k = gI h r i k
def ClW : Nat → Int → Int → Prop := fun r _ _ => r < 12 ∨ (20 ≤ r ∧ r ≤ 59 ∧ r ≠ 47)
def ReW : Nat → Int → Int → Prop := fun r _ _ => r = 12 ∨ (60 ≤ r ∧ r ≤ 113)
section
variable {h h2 h3 : Hp} {c : Int} {σ : Sg} {W : Nat → Int → Int → Prop}
theorem cx_rf : FrX W h h := fun _ _ _ _ => rfl
theorem cx_tr (a : FrX W h h2) (b : FrX W h2 h3) : FrX W h h3 := fun r i k q => (b r i k q).trans (a r i k q)
theorem cx_of {V : Nat → Int → Int → Prop} (a : Fr V h h2) (b : ∀ (r : Nat) (i k : Int), V r i k → W r i k) : FrX W h h2 := fun r i k q => a.1 r i k (fun z => q (b r i k z))
theorem IR_cl (w : SW σ) (f : FrX ClW h h2) (q : IR h σ) : IR h2 σ := by
  have e : ∀ (r : Nat) (i k : Int), r = 12 ∨ 60 ≤ r → gI h2 r i k = gI h r i k := fun r i k z => f r i k (by unfold ClW; omega)
  have vm := vw_m (sw_V w).1
  have wC := sw_C w
  obtain ⟨q1, q2, q3, q4, q5, q6, q7, q8, q9⟩ := q
  refine ⟨isR_eq (fun r k a b => e r 0 k (by omega)) q1, B92_e (fun k => e 92 0 k (by omega)) q2, rV_e wC (fun r a b => e r 0 0 (by omega)) (fun m _ _ => ⟨e 91 0 m (by omega), e 92 0 m (by omega)⟩) q3, rL_e (fun r k a b _ _ => e r 0 k (by omega)) vm.2 q4, rU_e wC (sw_U w).2.1 (e 12 0 54 (by omega)) (fun r s a b _ _ => e r 0 s (by omega)) (fun m _ _ => ⟨e 91 0 m (by omega), e 92 0 m (by omega)⟩) q5, rI_e wC (fun z => (vw_m (sw_i w z).1).2) (e 12 0 53 (by omega)) (fun r a b => e r 0 2 (by omega)) (fun m _ _ => ⟨e 91 0 m (by omega), e 92 0 m (by omega)⟩) (fun r k a b _ _ => e r 0 k (by omega)) q6, rN_e (fun k _ => e 12 0 k (by omega)) (fun r k a b => e r 0 k (by omega)) q7, rT_e (e 12 0 2 (by omega)) (fun k => e 60 0 k (by omega)) q8, rF_e (fun k _ => e 12 0 k (by omega)) q9⟩
theorem IC_re (f : Fr ReW h h2) (q : IC h c σ) : IC h2 c σ := by
  have e : ∀ (r : Nat) (i k : Int), r < 12 ∨ (20 ≤ r ∧ r ≤ 59) → gI h2 r i k = gI h r i k := fun r i k z => f.1 r i k (by unfold ReW; omega)
  obtain ⟨q1, q2, q3, q4, q5, q6, q7, q8, q9, q10, q11⟩ := q
  exact ⟨kA_e (fun r i k z => e r i k (by unfold inC at z; omega)) f.2 q1, kR_e f.2 q2, kV_e (fun k => e 10 0 k (by omega)) (fun k => e 57 0 k (by omega)) q3, kG_e (fun k _ => e 2 0 k (by omega)) q4, kL_e (fun r k a b => e r 0 k (by omega)) q5, kU_e (e 11 0 10 (by omega)) (fun v k _ _ => e 10 v k (by omega)) (fun v k _ _ => e 57 v k (by omega)) q6, kI_e (e 11 0 13 (by omega)) (fun k => e 10 21 k (by omega)) (fun k => e 57 21 k (by omega)) (fun r k a b => e r 1 k (by omega)) q7, kN_e (fun k _ => e 5 0 k (by omega)) (fun r k a b => e r 0 k (by omega)) q8, kT_e (e 11 0 1 (by omega)) (fun k => e 58 0 k (by omega)) q9, kF_e (fun k _ => e 7 0 k (by omega)) q10, kQ_e (e 11 0 16 (by omega)) q11⟩
/-- the reference's first act -/
theorem IR_0 (w : SW σ) (q : IR h σ) : IR (sI h 12 0 0 0) σ := by
  have e : ∀ (r : Nat) (i k : Int), r ≠ 12 ∨ k ≠ 0 → gI (sI h 12 0 0 0) r i k = gI h r i k := fun r i k z => by
    rcases z with z | z
    · exact gI_nr z
    · exact gI_nk z
  have vm := vw_m (sw_V w).1
  have wC := sw_C w
  obtain ⟨q1, q2, q3, q4, q5, q6, q7, q8, q9⟩ := q
  refine ⟨isR_eq (fun r k a b => e r 0 k (by omega)) q1, B92_e (fun k => e 92 0 k (by omega)) q2, rV_e wC (fun r a b => e r 0 0 (by omega)) (fun m _ _ => ⟨e 91 0 m (by omega), e 92 0 m (by omega)⟩) q3, rL_e (fun r k a b _ _ => e r 0 k (by omega)) vm.2 q4, rU_e wC (sw_U w).2.1 (e 12 0 54 (by omega)) (fun r s a b _ _ => e r 0 s (by omega)) (fun m _ _ => ⟨e 91 0 m (by omega), e 92 0 m (by omega)⟩) q5, rI_e wC (fun z => (vw_m (sw_i w z).1).2) (e 12 0 53 (by omega)) (fun r a b => e r 0 2 (by omega)) (fun m _ _ => ⟨e 91 0 m (by omega), e 92 0 m (by omega)⟩) (fun r k a b _ _ => e r 0 k (by omega)) q6, rN_e (fun k z => e 12 0 k (by omega)) (fun r k a b => e r 0 k (by omega)) q7, rT_e (e 12 0 2 (by omega)) (fun k => e 60 0 k (by omega)) q8, rF_e (fun k z => e 12 0 k (by omega)) q9⟩
end
