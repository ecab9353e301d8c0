/-! THE CONSTRUCTORS, 1: a heap by the list of what was done (the newest first); cells of H: as in m; other regions: as in g -/
abbrev Opn : Type := Nat × Nat × Int × Int × Int × Option (Nat × Int)
def lI : List Opn → Nat → Int → Int → Int
  | [], _, _, _ => 0
  | o :: L, r, i, k => if o.1 = 1 ∧ o.2.1 = r ∧ o.2.2.1 = i ∧ o.2.2.2.1 = k then o.2.2.2.2.1 else lI L r i k
def lR : List Opn → Nat → Int → Int → Option (Nat × Int)
  | [], _, _, _ => none
  | o :: L, r, i, k => if o.1 = 2 ∧ o.2.1 = r ∧ o.2.2.1 = i ∧ o.2.2.2.1 = k then o.2.2.2.2.2 else lR L r i k
def lA : List Opn → Nat → Int → Bool
  | [], _, _ => false
  | o :: L, r, i => if o.1 = 0 ∧ o.2.1 = r ∧ o.2.2.1 = i then true else lA L r i
/-- no operation at the cell -/
def lNo : List Opn → Nat → Int → Bool
  | [], _, _ => true
  | o :: L, r, i => if o.2.1 = r ∧ o.2.2.1 = i then false else lNo L r i
def nH : List (Nat × Int) → Nat → Int → Bool
  | [], _, _ => true
  | o :: L, r, i => if o.1 = r ∧ o.2 = i then false else nH L r i
def ZC (r : Nat) : Bool := decide (r < 12) || decide (20 ≤ r ∧ r ≤ 59)
def ZR (r : Nat) : Bool := decide (r = 12) || decide (60 ≤ r ∧ r ≤ 114)
def smC (h h2 : Hp) (r : Nat) (i : Int) : Prop := (∀ k, gI h2 r i k = gI h r i k) ∧ (∀ k, gR h2 r i k = gR h r i k) ∧ h2.2.2 r i = h.2.2 r i
def Ds (Z : Nat → Bool) (L : List Opn) (H : List (Nat × Int)) (m g h : Hp) : Prop :=
  (∀ (r : Nat) (i k : Int), Z r = true → nH H r i = true → gI h r i k = lI L r i k) ∧
  (∀ (r : Nat) (i k : Int), Z r = true → nH H r i = false → gI h r i k = gI m r i k) ∧
  (∀ (r : Nat) (i k : Int), Z r = true → gR h r i k = lR L r i k) ∧
  (∀ (r : Nat) (i : Int), Z r = true → (h.2.2 r i).isSome = lA L r i) ∧
  (∀ (r : Nat) (i : Int), Z r = false → r ≠ 999 → smC g h r i)
theorem lNo_I {r : Nat} {i k : Int} : ∀ {L : List Opn}, lNo L r i = true → lI L r i k = 0
  | [], _ => rfl
  | o :: L, e => by
    unfold lNo at e
    unfold lI
    split at e
    · cases e
    · rename_i z
      rw [if_neg (fun y => z ⟨y.2.1, y.2.2.1⟩)]; exact lNo_I e
theorem lNo_R {r : Nat} {i k : Int} : ∀ {L : List Opn}, lNo L r i = true → lR L r i k = none
  | [], _ => rfl
  | o :: L, e => by
    unfold lNo at e
    unfold lR
    split at e
    · cases e
    · rename_i z
      rw [if_neg (fun y => z ⟨y.2.1, y.2.2.1⟩)]; exact lNo_R e
theorem lNo_A {r : Nat} {i : Int} : ∀ {L : List Opn}, lNo L r i = true → lA L r i = false
  | [], _ => rfl
  | o :: L, e => by
    unfold lNo at e
    unfold lA
    split at e
    · cases e
    · rename_i z
      rw [if_neg (fun y => z ⟨y.2.1, y.2.2⟩)]; exact lNo_A e
theorem lNo_c {o : Opn} {L : List Opn} {r : Nat} {i : Int} (z : Nat.beq o.2.1 r = false) (e : lNo L r i = true) : lNo (o :: L) r i = true := by
  unfold lNo
  rw [if_neg (fun y => Nat.ne_of_beq_eq_false z y.1)]; exact e
section
variable {Z : Nat → Bool} {L : List Opn} {H : List (Nat × Int)} {m g h : Hp} {r : Nat} {i k v : Int} {w : Option (Nat × Int)} {Q : Int → Hp → Prop} {f : Hp → Option (Int × Hp)} {e : Option (Int × Hp)}
theorem ds_I (d : Ds Z L H m g h) (z : Z r = true) (n : nH H r i = true) : gI h r i k = lI L r i k := d.1 r i k z n
theorem ds_m (d : Ds Z L H m g h) (z : Z r = true) (n : nH H r i = false) : gI h r i k = gI m r i k := d.2.1 r i k z n
theorem ds_R (d : Ds Z L H m g h) (z : Z r = true) : gR h r i k = lR L r i k := d.2.2.1 r i k z
theorem ds_A (d : Ds Z L H m g h) (z : Z r = true) : (h.2.2 r i).isSome = lA L r i := d.2.2.2.1 r i z
theorem ds_g (d : Ds Z L H m g h) (z : Z r = false) (z9 : r ≠ 999) : smC g h r i := d.2.2.2.2 r i z z9
theorem ds_0 (d : Ds Z L H m g h) (z : Z r = true) (n : nH H r i = true) (a : lNo L r i = true) : gI h r i k = 0 := (ds_I d z n).trans (lNo_I a)
theorem ds_v (r : Nat) (i k : Int) (d : Ds Z L H m g h) (z : Z r = true) (n : nH H r i = true) (e : lI L r i k = v) : gI h r i k = v := (ds_I d z n).trans e
theorem ds_w (r : Nat) (i k : Int) (d : Ds Z L H m g h) (z : Z r = true) (e : lR L r i k = w) : gR h r i k = w := (ds_R d z).trans e
theorem ds_b (d : Ds Z L H m g h) (z : Z r = true) (n : nH H r i = true) (a : lNo L r i = true) : blk h r i := by
  refine ⟨?_, fun k => ds_0 d z n a, fun k => (ds_R d z).trans (lNo_R a)⟩
  have q := ds_A (i := i) d z
  rw [lNo_A a] at q
  cases y : h.2.2 r i with
  | none => rfl
  | some t => rw [y] at q; cases q
theorem ds_al (d : Ds Z L H m g h) (z : Z r = true) (z9 : Z 999 = false) : Ds Z ((0, r, i, 0, 0, none) :: L) H m g (alA h r i) := by
  have x : ∀ (r' : Nat), Z r' = true → r' ≠ 999 := fun r' a b => by rw [b, z9] at a; cases a
  refine ⟨fun r' i' k' a b => ?_, fun r' i' k' c a => ?_, fun r' i' k' a => ?_, fun r' i' a => ?_, fun r' i' a b => ?_⟩
  · show (alA h r i).1 r' i' k' = _
    rw [alA_1 (x r' a)]
    unfold lI
    rw [if_neg (fun y => by have := y.1; cases this)]
    exact d.1 r' i' k' a b
  · show (alA h r i).1 r' i' k' = _
    rw [alA_1 (x r' c)]; exact d.2.1 r' i' k' c a
  · unfold lR
    rw [if_neg (fun y => by have := y.1; cases this)]
    exact d.2.2.1 r' i' k' a
  · show (if r' = r ∧ i' = i then some (h.1 999 0 0).toNat else h.2.2 r' i').isSome = _
    unfold lA
    by_cases y : r' = r ∧ i' = i
    · rw [if_pos y, if_pos ⟨rfl, y.1.symm, y.2.symm⟩]; rfl
    · rw [if_neg y, if_neg (fun u => y ⟨u.2.1.symm, u.2.2.symm⟩)]; exact d.2.2.2.1 r' i' a
  · have q := d.2.2.2.2 r' i' a b
    refine ⟨fun j => ?_, q.2.1, ?_⟩
    · show (alA h r i).1 r' i' j = _
      rw [alA_1 b]; exact q.1 j
    · show (if r' = r ∧ i' = i then some (h.1 999 0 0).toNat else h.2.2 r' i') = _
      rw [if_neg (fun y => by rw [y.1, z] at a; cases a)]; exact q.2.2
theorem ds_sI (d : Ds Z L H m g h) (z : Z r = true) (n : nH H r i = true) : Ds Z ((1, r, i, k, v, none) :: L) H m g (sI h r i k v) := by
  refine ⟨fun r' i' k' a b => ?_, fun r' i' k' c a => ?_, fun r' i' k' a => ?_, fun r' i' a => ?_, fun r' i' a b => ?_⟩
  · rw [gI_sI]
    unfold lI
    by_cases y : r' = r ∧ i' = i ∧ k' = k
    · rw [if_pos y, if_pos ⟨rfl, y.1.symm, y.2.1.symm, y.2.2.symm⟩]
    · rw [if_neg y, if_neg (fun u => y ⟨u.2.1.symm, u.2.2.1.symm, u.2.2.2.symm⟩)]; exact d.1 r' i' k' a b
  · rw [gI_sI, if_neg (fun y => by rw [y.1, y.2.1, n] at a; cases a)]; exact d.2.1 r' i' k' c a
  · show gR h r' i' k' = _
    unfold lR
    rw [if_neg (fun y => by have := y.1; cases this)]
    exact d.2.2.1 r' i' k' a
  · show (h.2.2 r' i').isSome = _
    unfold lA
    rw [if_neg (fun y => by have := y.1; cases this)]
    exact d.2.2.2.1 r' i' a
  · have q := d.2.2.2.2 r' i' a b
    refine ⟨fun j => ?_, q.2.1, q.2.2⟩
    rw [gI_sI, if_neg (fun y => by rw [y.1, z] at a; cases a)]; exact q.1 j
theorem ds_sR (d : Ds Z L H m g h) (z : Z r = true) : Ds Z ((2, r, i, k, 0, w) :: L) H m g (sR h r i k w) := by
  refine ⟨fun r' i' k' a b => ?_, fun r' i' k' c a => ?_, fun r' i' k' a => ?_, fun r' i' a => ?_, fun r' i' a b => ?_⟩
  · show gI h r' i' k' = _
    unfold lI
    rw [if_neg (fun y => by have := y.1; cases this)]
    exact d.1 r' i' k' a b
  · exact d.2.1 r' i' k' c a
  · rw [gR_sR]
    unfold lR
    by_cases y : r' = r ∧ i' = i ∧ k' = k
    · rw [if_pos y, if_pos ⟨rfl, y.1.symm, y.2.1.symm, y.2.2.symm⟩]
    · rw [if_neg y, if_neg (fun u => y ⟨u.2.1.symm, u.2.2.1.symm, u.2.2.2.symm⟩)]; exact d.2.2.1 r' i' k' a
  · show (h.2.2 r' i').isSome = _
    unfold lA
    rw [if_neg (fun y => by have := y.1; cases this)]
    exact d.2.2.2.1 r' i' a
  · have q := d.2.2.2.2 r' i' a b
    refine ⟨q.1, fun j => ?_, q.2.2⟩
    rw [gR_sR, if_neg (fun y => by rw [y.1, z] at a; cases a)]; exact q.2.1 j
theorem ok_ckp {p : Prop} (hp : p) (q : ok e Q) : ok (ckp p e) Q := by rw [ckp_p hp]; exact q
theorem zo_al (d : Ds Z L H m g h) (z : Z r = true) (z9 : Z 999 = false) (n : nH H r i = true) (a : lNo L r i = true) (q : ∀ h', Ds Z ((0, r, i, 0, 0, none) :: L) H m g h' → ok (f h') Q) : ok (ckp (blk h r i) (lt (alA h r i) f)) Q := ok_ckp (ds_b d z n a) (q _ (ds_al d z z9))
theorem zo_sI (d : Ds Z L H m g h) (z : Z r = true) (n : nH H r i = true) (q : ∀ h', Ds Z ((1, r, i, k, v, none) :: L) H m g h' → ok (f h') Q) : ok (lt (sI h r i k v) f) Q := q _ (ds_sI d z n)
theorem zo_sR (d : Ds Z L H m g h) (z : Z r = true) (q : ∀ h', Ds Z ((2, r, i, k, 0, w) :: L) H m g h' → ok (f h') Q) : ok (lt (sR h r i k w) f) Q := q _ (ds_sR d z)
theorem zo_ck (d : Ds Z L H m g h) (z : Z r = true) (y : lR L r i k = w) (q : ok e Q) : ok (ck (gR h r i k = w) e) Q := ok_ck ((ds_R d z).trans y) q
theorem zo_rf {r0 : Nat} {j : Int} {f : Int → Option (Int × Hp)} (d : Ds Z L H m g h) (z : Z r = true) (y : lR L r i k = some (r0, j)) (q : ok (f j) Q) : ok (rf (gR h r i k) r0 f) Q := ok_rf ((ds_R d z).trans y) q
/-- a call that changes numbers of the cells T alone -/
theorem ds_hv {W : Nat → Int → Int → Prop} {H2 : List (Nat × Int)} {h2 : Hp} (d : Ds Z L H m g h) (fr : Fr W h h2) (w1 : ∀ (r : Nat) (i k : Int), W r i k → Z r = true ∧ nH H2 r i = false) (w2 : ∀ (r : Nat) (i : Int), nH H2 r i = true → nH H r i = true) : Ds Z L H2 h2 g h2 := by
  refine ⟨fun r' i' k' a b => ?_, fun r' i' k' c a => rfl, fun r' i' k' a => ?_, fun r' i' a => ?_, fun r' i' a b => ?_⟩
  · rw [fr.1 r' i' k' (fun y => by have := (w1 r' i' k' y).2; rw [b] at this; cases this)]
    exact d.1 r' i' k' a (w2 r' i' b)
  · show h2.2.1 r' i' k' = _
    rw [fr.2]; exact d.2.2.1 r' i' k' a
  · rw [fr.2]; exact d.2.2.2.1 r' i' a
  · have q := d.2.2.2.2 r' i' a b
    refine ⟨fun j => ?_, fun j => ?_, ?_⟩
    · rw [fr.1 r' i' j (fun y => by have := (w1 r' i' j y).1; rw [a] at this; cases this)]; exact q.1 j
    · show h2.2.1 r' i' j = _
      rw [fr.2]; exact q.2.1 j
    · rw [fr.2]; exact q.2.2
end
