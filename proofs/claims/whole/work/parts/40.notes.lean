/-! NOTES -/
def kn (n l : Int) : Int := if l = -1 then n else l
/-- what is STRUCK behind the last t of m -/
def skS (N : Ch) (m : Nat) : Nat → Int → Int
  | 0, _ => 0
  | t + 1, j => if N 0 ((m : Int) - 1 - t) = 2 ∧ skS N m t ((m : Int) - 1 - t) = 0 ∧ j = N 2 ((m : Int) - 1 - t) then 1 else skS N m t j
abbrev cnP (N : Ch) (m : Nat) (k : Int) : Prop := k < m ∧ skS N m m k = 0 ∧ ¬ N 0 k = 2
/-- r is the first of n that is so, -1 if none is -/
def isF (p : Int → Prop) (n r : Int) : Prop := (r = -1 ∧ ∀ j, 0 ≤ j → j < n → ¬ p j) ∨ (0 ≤ r ∧ r < n ∧ p r ∧ ∀ j, 0 ≤ j → j < r → ¬ p j)
theorem isF_u {p : Int → Prop} {n r r2 : Int} (a : isF p n r) (b : isF p n r2) : r = r2 := by
  rcases a with ⟨a1, a2⟩ | ⟨a1, a2, a3, a4⟩ <;> rcases b with ⟨b1, b2⟩ | ⟨b1, b2, b3, b4⟩
  · omega
  · exact absurd b3 (a2 _ b1 b2)
  · exact absurd a3 (b2 _ a1 a2)
  · rcases Int.lt_trichotomy r r2 with h | h | h
    · exact absurd a3 (b4 _ a1 h)
    · exact h
    · exact absurd b3 (a4 _ b1 h)
theorem isF_c {p q : Int → Prop} {n r : Int} (e : ∀ j, 0 ≤ j → j < n → (p j ↔ q j)) (a : isF p n r) : isF q n r := by
  rcases a with ⟨a1, a2⟩ | ⟨a1, a2, a3, a4⟩
  · exact Or.inl ⟨a1, fun j j1 j2 z => a2 j j1 j2 ((e j j1 j2).mpr z)⟩
  · exact Or.inr ⟨a1, a2, (e r a1 a2).mp a3, fun j j1 j2 z => a4 j j1 j2 ((e j j1 (by omega)).mpr z)⟩
theorem isF_m {p : Int → Prop} {n n2 r : Int} (e : n ≤ n2) (d : ∀ j, 0 ≤ j → j < n2 → p j → j < n) (a : isF p n r) : isF p n2 r := by
  rcases a with ⟨a1, a2⟩ | ⟨a1, a2, a3, a4⟩
  · exact Or.inl ⟨a1, fun j j1 j2 z => a2 j j1 (d j j1 j2 z) z⟩
  · exact Or.inr ⟨a1, by omega, a3, a4⟩
def NW (N : Ch) (n : Int) (l : Int) : Prop :=
  (0 ≤ n ∧ n ≤ 32) ∧
  (-1 ≤ l ∧ l ≤ n) ∧
  (∀ k, 0 ≤ k → k < n → 0 ≤ N 0 k ∧ N 0 k ≤ 2 ∧ (N 0 k = 2 → 0 ≤ N 2 k ∧ N 2 k < k) ∧ (¬ N 0 k = 2 → 0 ≤ N 1 k ∧ N 1 k < 60))
theorem nw_n {N : Ch} {n : Int} {l : Int} (q : NW N n l) : 0 ≤ n ∧ n ≤ 32 := q.1
theorem nw_l {N : Ch} {n : Int} {l : Int} (q : NW N n l) : -1 ≤ l ∧ l ≤ n := q.2.1
theorem nw_k {N : Ch} {n : Int} {l : Int} (q : NW N n l) : ∀ k, 0 ≤ k → k < n → 0 ≤ N 0 k ∧ N 0 k ≤ 2 ∧ (N 0 k = 2 → 0 ≤ N 2 k ∧ N 2 k < k) ∧ (¬ N 0 k = 2 → 0 ≤ N 1 k ∧ N 1 k < 60) := q.2.2
def isN (h : Hp) (N : Ch) (n : Int) (l : Int) : Prop :=
  (gI h 5 0 4 = n) ∧
  (gI h 5 0 5 = l) ∧
  (∀ k, 0 ≤ k → k < n → gI h 39 0 k = N 0 k ∧ gI h 41 0 k = N 2 k ∧ (¬ N 0 k = 2 → gI h 40 0 k = N 1 k))
theorem in_n {h : Hp} {N : Ch} {n : Int} {l : Int} (q : isN h N n l) : gI h 5 0 4 = n := q.1
theorem in_l {h : Hp} {N : Ch} {n : Int} {l : Int} (q : isN h N n l) : gI h 5 0 5 = l := q.2.1
theorem in_k {h : Hp} {N : Ch} {n : Int} {l : Int} (q : isN h N n l) : ∀ k, 0 ≤ k → k < n → gI h 39 0 k = N 0 k ∧ gI h 41 0 k = N 2 k ∧ (¬ N 0 k = 2 → gI h 40 0 k = N 1 k) := q.2.2
def isNR (h : Hp) (N : Ch) (n : Int) (l : Int) : Prop :=
  (gI h 12 0 74 = n) ∧
  (gI h 12 0 75 = l) ∧
  (∀ k, 0 ≤ k → k < n → gI h 111 0 k = N 0 k ∧ gI h 112 0 k = N 2 k ∧ (¬ N 0 k = 2 → gI h 110 0 k = N 1 k))
theorem ip_n {h : Hp} {N : Ch} {n : Int} {l : Int} (q : isNR h N n l) : gI h 12 0 74 = n := q.1
theorem ip_l {h : Hp} {N : Ch} {n : Int} {l : Int} (q : isNR h N n l) : gI h 12 0 75 = l := q.2.1
theorem ip_k {h : Hp} {N : Ch} {n : Int} {l : Int} (q : isNR h N n l) : ∀ k, 0 ≤ k → k < n → gI h 111 0 k = N 0 k ∧ gI h 112 0 k = N 2 k ∧ (¬ N 0 k = 2 → gI h 110 0 k = N 1 k) := q.2.2
theorem isN_eq {h h2 : Hp} {N : Ch} {n l : Int} (e1 : gI h2 5 0 4 = gI h 5 0 4) (e2 : gI h2 5 0 5 = gI h 5 0 5) (e : ∀ (r : Nat) (k : Int), 39 ≤ r → r ≤ 41 → gI h2 r 0 k = gI h r 0 k) (q : isN h N n l) : isN h2 N n l := by
  unfold isN at q ⊢
  simp only [e 39 _ (by decide) (by decide), e 40 _ (by decide) (by decide), e 41 _ (by decide) (by decide), e1, e2]
  exact q
theorem isNR_eq {h h2 : Hp} {N : Ch} {n l : Int} (e1 : gI h2 12 0 74 = gI h 12 0 74) (e2 : gI h2 12 0 75 = gI h 12 0 75) (e : ∀ (r : Nat) (k : Int), 110 ≤ r → r ≤ 112 → gI h2 r 0 k = gI h r 0 k) (q : isNR h N n l) : isNR h2 N n l := by
  unfold isNR at q ⊢
  simp only [e 110 _ (by decide) (by decide), e 111 _ (by decide) (by decide), e 112 _ (by decide) (by decide), e1, e2]
  exact q
theorem isN_fr {W : Nat → Int → Int → Prop} {h h2 : Hp} {N : Ch} {n l : Int} (f : Fr W h h2) (d1 : ¬ W 5 0 4) (d2 : ¬ W 5 0 5) (d : ∀ (r : Nat) (k : Int), 39 ≤ r → r ≤ 41 → ¬ W r 0 k) (q : isN h N n l) : isN h2 N n l := isN_eq (f.1 5 0 4 d1) (f.1 5 0 5 d2) (fun r k a b => f.1 r 0 k (d r k a b)) q
theorem isNR_fr {W : Nat → Int → Int → Prop} {h h2 : Hp} {N : Ch} {n l : Int} (f : Fr W h h2) (d1 : ¬ W 12 0 74) (d2 : ¬ W 12 0 75) (d : ∀ (r : Nat) (k : Int), 110 ≤ r → r ≤ 112 → ¬ W r 0 k) (q : isNR h N n l) : isNR h2 N n l := isNR_eq (f.1 12 0 74 d1) (f.1 12 0 75 d2) (fun r k a b => f.1 r 0 k (d r k a b)) q
theorem kn_r {N : Ch} {n l : Int} (w : NW N n l) : 0 ≤ kn n l ∧ kn n l ≤ n ∧ kn n l ≤ 32 := by
  have a := nw_n w
  have b := nw_l w
  unfold kn
  split <;> omega
section
variable {h : Hp} {n l k x y : Int} {N : Ch}
theorem p_X5_inForce (q : isN h N n l) : f_X5_inForce h = some (kn n l, h) := by
  refine ok_eq.mp ?_
  refine fuv_X5_inForce (fun nFU hFU => ?_)
  refine s_X5_inForce_0 (by first | omega | decide) ?_
  unfold b_X5_inForce_0 kn
  rw [in_n q, in_l q]
  exact ok_if (fun z => ok_some ⟨by rw [if_pos z], rfl⟩) (fun z => ok_some ⟨by rw [if_neg z], rfl⟩)
theorem p_X12_knownMany (q : isNR h N n l) : f_X12_knownMany h = some (kn n l, h) := by
  refine ok_eq.mp ?_
  refine fuv_X12_knownMany (fun nFU hFU => ?_)
  refine s_X12_knownMany_0 (by first | omega | decide) ?_
  unfold b_X12_knownMany_0 kn
  rw [ip_n q, ip_l q]
  exact ok_if (fun z => ok_some ⟨by rw [if_pos z], rfl⟩) (fun z => ok_some ⟨by rw [if_neg z], rfl⟩)
def W42 : Nat → Int → Int → Prop := fun r _ _ => r = 42
def W113 : Nat → Int → Int → Prop := fun r _ _ => r = 113
theorem isN_42 {h2 : Hp} (f : Fr W42 h h2) (q : isN h N n l) : isN h2 N n l := isN_fr f (by unfold W42; omega) (by unfold W42; omega) (fun r k a b => by unfold W42; omega) q
theorem isNR_113 {h2 : Hp} (f : Fr W113 h h2) (q : isNR h N n l) : isNR h2 N n l := isNR_fr f (by unfold W113; omega) (by unfold W113; omega) (fun r k a b => by unfold W113; omega) q
set_option maxHeartbeats 4000000 in
theorem p_X5_sift {h0 : Hp} (q0 : isN h0 N n l) (w : NW N n l) : ok (f_X5_sift h0) (fun _ h' => Fr W42 h0 h' ∧ ∀ j, 0 ≤ j → j < 32 → gI h' 42 0 j = skS N (kn n l).toNat (kn n l).toNat j) := by
  have kr := kn_r w
  have nn := nw_n w
  generalize hm : (kn n l).toNat = m
  have k2 : ∀ (d nn : Nat) (h : Hp) (x : Int) (t : Nat), m - t = d → t ≤ m → x = (m : Int) - 1 - t → 3 * d + 3 ≤ nn → Fr W42 h0 h → (∀ j, 0 ≤ j → j < 32 → gI h 42 0 j = skS N m t j) → ok (g_X5_sift nn 2 [x] h) (fun _ h' => Fr W42 h0 h' ∧ ∀ j, 0 ≤ j → j < 32 → gI h' 42 0 j = skS N m m j) := by
    intro d
    induction d with
    | zero =>
      intro nn h x t hd ht hx hn hF hs
      have e : t = m := by omega
      subst e
      refine s_X5_sift_2 (by omega) ?_
      unfold b_X5_sift_2
      exact ok_t (by omega) (ok_some ⟨hF, hs⟩)
    | succ d ih =>
      intro nn h x t hd ht hx hn hF hs
      have q := isN_42 hF q0
      obtain ⟨a1, a2, a3⟩ := in_k q x (by omega) (by omega)
      obtain ⟨b1, b2, b3, b4⟩ := nw_k w x (by omega) (by omega)
      have es : ∀ j, skS N m (t + 1) j = if N 0 x = 2 ∧ skS N m t x = 0 ∧ j = N 2 x then 1 else skS N m t j := fun j => by rw [hx]; rfl
      have next : ∀ (m' : Nat) (h' : Hp), 3 * d + 4 ≤ m' → Fr W42 h0 h' → (∀ j, 0 ≤ j → j < 32 → gI h' 42 0 j = skS N m (t + 1) j) → ok (g_X5_sift m' 3 [x] h') (fun _ h' => Fr W42 h0 h' ∧ ∀ j, 0 ≤ j → j < 32 → gI h' 42 0 j = skS N m m j) := by
        intro m' h' z1 z2 z3
        refine s_X5_sift_3 (by omega) ?_
        unfold b_X5_sift_3
        exact ok_ck (by omega) (ih _ _ _ (t + 1) (by omega) (by omega) (by omega) (by omega) z2 z3)
      have skip : ¬ (N 0 x = 2 ∧ skS N m t x = 0) → ∀ m' : Nat, 3 * d + 4 ≤ m' → ok (g_X5_sift m' 3 [x] h) (fun _ h' => Fr W42 h0 h' ∧ ∀ j, 0 ≤ j → j < 32 → gI h' 42 0 j = skS N m m j) := fun z m' hm' => next _ _ hm' hF (fun j j1 j2 => by rw [es, if_neg (fun y => z ⟨y.1, y.2.1⟩)]; exact hs j j1 j2)
      refine s_X5_sift_2 (by omega) ?_
      unfold b_X5_sift_2
      rw [a1, a2, hs x (by omega) (by omega)]
      refine ok_f (by omega) (ok_ck (by omega) (ok_lt (ok_ck (by omega) (ok_if (fun y1 => ok_ck (by omega) (ok_if (fun y2 => ?_) (fun y2 => skip (fun z => y2 z.2) _ (by omega)))) (fun y1 => skip (fun z => y1 z.1) _ (by omega))))))
      have b5 := b3 y1
      refine ok_f (by omega) (ok_f (by omega) (ok_ck (by omega) (ok_lt (next _ _ (by omega) (fr_sI hF rfl) (fun j j1 j2 => ?_)))))
      rw [es, gI_sI]
      by_cases z : j = N 2 x
      · rw [if_pos ⟨rfl, rfl, z⟩, if_pos ⟨y1, y2, z⟩]
      · rw [if_neg (fun y => z y.2.2), if_neg (fun y => z y.2.2)]; exact hs j j1 j2
  have k1 : ∀ (d nn : Nat) (h : Hp) (x : Int), (32 - x).toNat = d → 0 ≤ x → x ≤ 32 → d + 200 ≤ nn → Fr W42 h0 h → (∀ j, 0 ≤ j → j < x → gI h 42 0 j = 0) → ok (g_X5_sift nn 1 [x] h) (fun _ h' => Fr W42 h0 h' ∧ ∀ j, 0 ≤ j → j < 32 → gI h' 42 0 j = skS N m m j) := by
    intro d
    induction d with
    | zero =>
      intro nn h x hd x1 x2 hn hF hs
      refine s_X5_sift_1 (by omega) ?_
      unfold b_X5_sift_1
      refine ok_t (by omega) (ok_be (p_X5_inForce (isN_42 hF q0)) (ok_ck (by omega) (ok_lt (k2 m _ _ _ 0 (by omega) (by omega) (by omega) (by omega) hF (fun j j1 j2 => hs j j1 (by omega))))))
    | succ d ih =>
      intro nn h x hd x1 x2 hn hF hs
      refine s_X5_sift_1 (by omega) ?_
      unfold b_X5_sift_1
      refine ok_f (by omega) (ok_ck (by omega) (ok_lt (ok_ck (by omega) (ih _ _ _ (by omega) (by omega) (by omega) (by omega) (fr_sI hF rfl) (fun j j1 j2 => ?_)))))
      rw [gI_sI]
      by_cases z : j = x
      · rw [if_pos ⟨rfl, rfl, z⟩]
      · rw [if_neg (fun y => z y.2.2)]; exact hs j j1 (by omega)
  refine fuv_X5_sift (fun nFU hFU => ?_)
  refine s_X5_sift_0 (by first | omega | decide) ?_
  unfold b_X5_sift_0
  exact k1 32 _ _ _ (by omega) (by omega) (by omega) (by omega) fr_rf (fun j j1 j2 => by omega)
set_option maxHeartbeats 4000000 in
theorem p_X12_strikes {h0 : Hp} (q0 : isNR h0 N n l) (w : NW N n l) : ok (f_X12_strikes h0) (fun _ h' => Fr W113 h0 h' ∧ ∀ j, 0 ≤ j → j < kn n l → gI h' 113 0 j = skS N (kn n l).toNat (kn n l).toNat j) := by
  have kr := kn_r w
  have nn := nw_n w
  generalize hm : (kn n l).toNat = m
  have k2 : ∀ (d nn : Nat) (h : Hp) (x : Int) (t : Nat), m - t = d → t ≤ m → x = (m : Int) - 1 - t → 3 * d + 3 ≤ nn → Fr W113 h0 h → (∀ j, 0 ≤ j → j < kn n l → gI h 113 0 j = skS N m t j) → ok (g_X12_strikes nn 2 [x] h) (fun _ h' => Fr W113 h0 h' ∧ ∀ j, 0 ≤ j → j < kn n l → gI h' 113 0 j = skS N m m j) := by
    intro d
    induction d with
    | zero =>
      intro nn h x t hd ht hx hn hF hs
      have e : t = m := by omega
      subst e
      refine s_X12_strikes_2 (by omega) ?_
      unfold b_X12_strikes_2
      exact ok_t (by omega) (ok_some ⟨hF, hs⟩)
    | succ d ih =>
      intro nn h x t hd ht hx hn hF hs
      have q := isNR_113 hF q0
      obtain ⟨a1, a2, a3⟩ := ip_k q x (by omega) (by omega)
      obtain ⟨b1, b2, b3, b4⟩ := nw_k w x (by omega) (by omega)
      have es : ∀ j, skS N m (t + 1) j = if N 0 x = 2 ∧ skS N m t x = 0 ∧ j = N 2 x then 1 else skS N m t j := fun j => by rw [hx]; rfl
      have next : ∀ (m' : Nat) (h' : Hp), 3 * d + 4 ≤ m' → Fr W113 h0 h' → (∀ j, 0 ≤ j → j < kn n l → gI h' 113 0 j = skS N m (t + 1) j) → ok (g_X12_strikes m' 3 [x] h') (fun _ h' => Fr W113 h0 h' ∧ ∀ j, 0 ≤ j → j < kn n l → gI h' 113 0 j = skS N m m j) := by
        intro m' h' z1 z2 z3
        refine s_X12_strikes_3 (by omega) ?_
        unfold b_X12_strikes_3
        exact ok_ck (by omega) (ih _ _ _ (t + 1) (by omega) (by omega) (by omega) (by omega) z2 z3)
      have skip : ¬ (N 0 x = 2 ∧ skS N m t x = 0) → ∀ m' : Nat, 3 * d + 4 ≤ m' → ok (g_X12_strikes m' 3 [x] h) (fun _ h' => Fr W113 h0 h' ∧ ∀ j, 0 ≤ j → j < kn n l → gI h' 113 0 j = skS N m m j) := fun z m' hm' => next _ _ hm' hF (fun j j1 j2 => by rw [es, if_neg (fun y => z ⟨y.1, y.2.1⟩)]; exact hs j j1 j2)
      refine s_X12_strikes_2 (by omega) ?_
      unfold b_X12_strikes_2
      rw [a1, a2, hs x (by omega) (by omega)]
      refine ok_f (by omega) (ok_ck (by omega) (ok_if (fun y2 => ok_ck (by omega) (ok_if (fun y1 => ?_) (fun y1 => skip (fun z => y1 z.1) _ (by omega)))) (fun y2 => skip (fun z => y2 z.2) _ (by omega))))
      have b5 := b3 y1
      refine ok_ck (by omega) (ok_ck (by omega) (ok_lt (next _ _ (by omega) (fr_sI hF rfl) (fun j j1 j2 => ?_))))
      rw [es, gI_sI]
      by_cases z : j = N 2 x
      · rw [if_pos ⟨rfl, rfl, z⟩, if_pos ⟨y1, y2, z⟩]
      · rw [if_neg (fun y => z y.2.2), if_neg (fun y => z y.2.2)]; exact hs j j1 j2
  have k1 : ∀ (d nn : Nat) (h : Hp) (x : Int), (kn n l - x).toNat = d → 0 ≤ x → x ≤ kn n l → d + 200 ≤ nn → Fr W113 h0 h → (∀ j, 0 ≤ j → j < x → gI h 113 0 j = 0) → ok (g_X12_strikes nn 1 [x] h) (fun _ h' => Fr W113 h0 h' ∧ ∀ j, 0 ≤ j → j < kn n l → gI h' 113 0 j = skS N m m j) := by
    intro d
    induction d with
    | zero =>
      intro nn h x hd x1 x2 hn hF hs
      refine s_X12_strikes_1 (by omega) ?_
      unfold b_X12_strikes_1
      refine ok_be (p_X12_knownMany (isNR_113 hF q0)) (ok_t (by omega) (ok_be (p_X12_knownMany (isNR_113 hF q0)) (ok_ck (by omega) (ok_lt (k2 m _ _ _ 0 (by omega) (by omega) (by omega) (by omega) hF (fun j j1 j2 => hs j j1 (by omega)))))))
    | succ d ih =>
      intro nn h x hd x1 x2 hn hF hs
      refine s_X12_strikes_1 (by omega) ?_
      unfold b_X12_strikes_1
      refine ok_be (p_X12_knownMany (isNR_113 hF q0)) (ok_f (by omega) (ok_ck (by omega) (ok_lt (ok_ck (by omega) (ih _ _ _ (by omega) (by omega) (by omega) (by omega) (fr_sI hF rfl) (fun j j1 j2 => ?_))))))
      rw [gI_sI]
      by_cases z : j = x
      · rw [if_pos ⟨rfl, rfl, z⟩]
      · rw [if_neg (fun y => z y.2.2)]; exact hs j j1 (by omega)
  refine fuv_X12_strikes (fun nFU hFU => ?_)
  refine s_X12_strikes_0 (by first | omega | decide) ?_
  unfold b_X12_strikes_0
  exact k1 _ _ _ _ rfl (by omega) (by omega) (by omega) fr_rf (fun j j1 j2 => by omega)
/-- what is sifted -/
def sfO (h : Hp) (N : Ch) (n l : Int) : Prop := ∀ j, 0 ≤ j → j < 32 → gI h 42 0 j = skS N (kn n l).toNat (kn n l).toNat j
theorem p_X5_counts (q : isN h N n l) (w : NW N n l) (hs : sfO h N n l) (k1 : 0 ≤ k) (k2 : k < 32) : f_X5_counts k h = some (b2i (cnP N (kn n l).toNat k), h) := by
  have kr := kn_r w
  refine ok_eq.mp ?_
  refine fuv_X5_counts (fun nFU hFU => ?_)
  refine s_X5_counts_0 (by first | omega | decide) ?_
  unfold b_X5_counts_0
  refine ok_f (by omega) (ok_f (by omega) (ok_be (p_X5_inForce q) (ok_if (fun y => ok_some ⟨?_, rfl⟩) (fun y => ok_ck (by omega) ?_))))
  · exact (b2i_0.mpr (fun z => by have := z.1; omega)).symm
  · rw [hs k k1 k2, (in_k q k k1 (by omega)).1]
    refine ok_if (fun y1 => ok_ck (by omega) (ok_if (fun y2 => ok_some ⟨?_, rfl⟩) (fun y2 => ok_some ⟨?_, rfl⟩))) (fun y1 => ok_some ⟨?_, rfl⟩)
    · exact (b2i_0.mpr (fun z => z.2.2 y2)).symm
    · unfold b2i; rw [if_pos ⟨by omega, y1, y2⟩]
    · exact (b2i_0.mpr (fun z => y1 z.2.1)).symm
def lmE (N : Ch) (m : Nat) (b : Int) : Prop := b = -1 ∨ ∃ k, 0 ≤ k ∧ cnP N m k ∧ N 1 k = b
theorem p_X5_latestMeal (q : isN h N n l) (w : NW N n l) (hs : sfO h N n l) : ok (f_X5_latestMeal h) (fun r h' => h' = h ∧ -1 ≤ r ∧ r < 60 ∧ (∀ k, 0 ≤ k → cnP N (kn n l).toNat k → N 1 k ≤ r) ∧ lmE N (kn n l).toNat r) := by
  have kr := kn_r w
  have key : ∀ (d nn : Nat) (x b : Int), (32 - x).toNat = d → 0 ≤ x → x ≤ 32 → 3 * d + 3 ≤ nn → -1 ≤ b → b < 60 → (∀ k, 0 ≤ k → k < x → cnP N (kn n l).toNat k → N 1 k ≤ b) → lmE N (kn n l).toNat b → ok (g_X5_latestMeal nn 1 [b, x] h) (fun r h' => h' = h ∧ -1 ≤ r ∧ r < 60 ∧ (∀ k, 0 ≤ k → cnP N (kn n l).toNat k → N 1 k ≤ r) ∧ lmE N (kn n l).toNat r) := by
    intro d
    induction d with
    | zero =>
      intro nn x b hd x1 x2 hn b1 b2 b3 b4
      refine s_X5_latestMeal_1 (by omega) ?_
      unfold b_X5_latestMeal_1
      exact ok_t (by omega) (ok_some ⟨rfl, b1, b2, fun k k1 k2 => b3 k k1 (by have := k2.1; omega) k2, b4⟩)
    | succ d ih =>
      intro nn x b hd x1 x2 hn b1 b2 b3 b4
      have next : ∀ (m' : Nat) (b' : Int), 3 * d + 4 ≤ m' → -1 ≤ b' → b' < 60 → (∀ k, 0 ≤ k → k < x + 1 → cnP N (kn n l).toNat k → N 1 k ≤ b') → lmE N (kn n l).toNat b' → ok (g_X5_latestMeal m' 2 [x, b'] h) (fun r h' => h' = h ∧ -1 ≤ r ∧ r < 60 ∧ (∀ k, 0 ≤ k → cnP N (kn n l).toNat k → N 1 k ≤ r) ∧ lmE N (kn n l).toNat r) := by
        intro m' b' z1 z2 z3 z4 z5
        refine s_X5_latestMeal_2 (by omega) ?_
        unfold b_X5_latestMeal_2
        exact ok_ck (by omega) (ih _ _ _ (by omega) (by omega) (by omega) (by omega) z2 z3 z4 z5)
      refine s_X5_latestMeal_1 (by omega) ?_
      unfold b_X5_latestMeal_1
      refine ok_f (by omega) (ok_be (p_X5_counts q w hs x1 (by omega)) (ok_if (fun y => ?_) (fun y => ok_ck (by omega) ?_)))
      · replace y := b2i_0.mp y
        refine next _ _ (by omega) b1 b2 (fun k k1 k2 k3 => ?_) b4
        by_cases z : k = x
        · rw [z] at k3; exact absurd k3 y
        · exact b3 k k1 (by omega) k3
      · replace y := b2i_n.mp y
        have xn : x < n := by have := y.1; omega
        have c1 := (in_k q x x1 xn).2.2 y.2.2
        have c2 := (nw_k w x x1 xn).2.2.2 y.2.2
        rw [c1]
        refine next _ _ (by omega) (by omega) (by omega) (fun k k1 k2 k3 => ?_) ?_
        · by_cases z : k = x
          · rw [z]; omega
          · have := b3 k k1 (by omega) k3; omega
        · by_cases z : b ≤ N 1 x
          · exact Or.inr ⟨x, x1, y, by omega⟩
          · rcases b4 with b4 | ⟨k, k1, k2, k3⟩
            · omega
            · exact Or.inr ⟨k, k1, k2, by omega⟩
  refine fuv_X5_latestMeal (fun nFU hFU => ?_)
  refine s_X5_latestMeal_0 (by first | omega | decide) ?_
  unfold b_X5_latestMeal_0
  exact key 32 _ _ _ (by omega) (by omega) (by omega) (by omega) (by omega) (by omega) (fun k k1 k2 => by omega) (Or.inl rfl)
theorem p_X5_firstFrom (q : isN h N n l) (w : NW N n l) (hs : sfO h N n l) : ok (f_X5_firstFrom y h) (fun r h' => h' = h ∧ isF (fun k => cnP N (kn n l).toNat k ∧ y ≤ N 1 k) 32 r) := by
  have kr := kn_r w
  have key : ∀ (d nn : Nat) (x : Int), (32 - x).toNat = d → 0 ≤ x → x ≤ 32 → 3 * d + 3 ≤ nn → (∀ k, 0 ≤ k → k < x → ¬ (cnP N (kn n l).toNat k ∧ y ≤ N 1 k)) → ok (g_X5_firstFrom nn 1 [y, x] h) (fun r h' => h' = h ∧ isF (fun k => cnP N (kn n l).toNat k ∧ y ≤ N 1 k) 32 r) := by
    intro d
    induction d with
    | zero =>
      intro nn x hd x1 x2 hn b3
      refine s_X5_firstFrom_1 (by omega) ?_
      unfold b_X5_firstFrom_1
      exact ok_t (by omega) (ok_some ⟨rfl, Or.inl ⟨rfl, fun j j1 j2 => b3 j j1 (by omega)⟩⟩)
    | succ d ih =>
      intro nn x hd x1 x2 hn b3
      have next : ∀ (m' : Nat), 3 * d + 4 ≤ m' → ¬ (cnP N (kn n l).toNat x ∧ y ≤ N 1 x) → ok (g_X5_firstFrom m' 2 [y, x] h) (fun r h' => h' = h ∧ isF (fun k => cnP N (kn n l).toNat k ∧ y ≤ N 1 k) 32 r) := by
        intro m' z1 z2
        refine s_X5_firstFrom_2 (by omega) ?_
        unfold b_X5_firstFrom_2
        refine ok_ck (by omega) (ih _ _ (by omega) (by omega) (by omega) (by omega) (fun k k1 k2 => ?_))
        by_cases z : k = x
        · rw [z]; exact z2
        · exact b3 k k1 (by omega)
      refine s_X5_firstFrom_1 (by omega) ?_
      unfold b_X5_firstFrom_1
      refine ok_f (by omega) (ok_be (p_X5_counts q w hs x1 (by omega)) (ok_if (fun z => next _ (by omega) (fun u => b2i_0.mp z u.1)) (fun z => ok_ck (by omega) ?_)))
      replace z := b2i_n.mp z
      have xn : x < n := by have := z.1; omega
      rw [(in_k q x x1 xn).2.2 z.2.2]
      exact ok_if (fun u => next _ (by omega) (fun v => by have := v.2; omega)) (fun u => ok_some ⟨rfl, Or.inr ⟨x1, by omega, ⟨z, by omega⟩, b3⟩⟩)
  refine fuv_X5_firstFrom (fun nFU hFU => ?_)
  refine s_X5_firstFrom_0 (by first | omega | decide) ?_
  unfold b_X5_firstFrom_0
  exact key 32 _ _ (by omega) (by omega) (by omega) (by omega) (fun k k1 k2 => by omega)
theorem p_X5_firstFalse {a b c : Int} (q : isN h N n l) (w : NW N n l) (hs : sfO h N n l) : ok (f_X5_firstFalse a b c h) (fun r h' => h' = h ∧ isF (fun k => cnP N (kn n l).toNat k ∧ N 1 k = a ∧ ¬ N 2 k = if N 0 k = 0 then b else c) 32 r) := by
  have kr := kn_r w
  have key : ∀ (d nn : Nat) (x : Int), (32 - x).toNat = d → 0 ≤ x → x ≤ 32 → 4 * d + 4 ≤ nn → (∀ k, 0 ≤ k → k < x → ¬ (cnP N (kn n l).toNat k ∧ N 1 k = a ∧ ¬ N 2 k = if N 0 k = 0 then b else c)) → ok (g_X5_firstFalse nn 1 [a, b, c, x] h) (fun r h' => h' = h ∧ isF (fun k => cnP N (kn n l).toNat k ∧ N 1 k = a ∧ ¬ N 2 k = if N 0 k = 0 then b else c) 32 r) := by
    intro d
    induction d with
    | zero =>
      intro nn x hd x1 x2 hn b3
      refine s_X5_firstFalse_1 (by omega) ?_
      unfold b_X5_firstFalse_1
      exact ok_t (by omega) (ok_some ⟨rfl, Or.inl ⟨rfl, fun j j1 j2 => b3 j j1 (by omega)⟩⟩)
    | succ d ih =>
      intro nn x hd x1 x2 hn b3
      have next : ∀ (m' : Nat), 4 * d + 5 ≤ m' → ¬ (cnP N (kn n l).toNat x ∧ N 1 x = a ∧ ¬ N 2 x = if N 0 x = 0 then b else c) → ok (g_X5_firstFalse m' 3 [a, b, c, x] h) (fun r h' => h' = h ∧ isF (fun k => cnP N (kn n l).toNat k ∧ N 1 k = a ∧ ¬ N 2 k = if N 0 k = 0 then b else c) 32 r) := by
        intro m' z1 z2
        refine s_X5_firstFalse_3 (by omega) ?_
        unfold b_X5_firstFalse_3
        refine ok_ck (by omega) (ih _ _ (by omega) (by omega) (by omega) (by omega) (fun k k1 k2 => ?_))
        by_cases z : k = x
        · rw [z]; exact z2
        · exact b3 k k1 (by omega)
      have two : ∀ (m' : Nat) (y : Int), 4 * d + 6 ≤ m' → cnP N (kn n l).toNat x → N 1 x = a → y = (if N 0 x = 0 then b else c) → ok (g_X5_firstFalse m' 2 [a, b, c, x, y, N 2 x] h) (fun r h' => h' = h ∧ isF (fun k => cnP N (kn n l).toNat k ∧ N 1 k = a ∧ ¬ N 2 k = if N 0 k = 0 then b else c) 32 r) := by
        intro m' y z1 z2 z3 z4
        refine s_X5_firstFalse_2 (by omega) ?_
        unfold b_X5_firstFalse_2
        exact ok_if (fun u => next _ (by omega) (fun v => v.2.2 (u.trans z4))) (fun u => ok_some ⟨rfl, Or.inr ⟨x1, by omega, ⟨z2, z3, fun v => u (v.trans z4.symm)⟩, b3⟩⟩)
      refine s_X5_firstFalse_1 (by omega) ?_
      unfold b_X5_firstFalse_1
      refine ok_f (by omega) (ok_be (p_X5_counts q w hs x1 (by omega)) (ok_if (fun z => next _ (by omega) (fun u => b2i_0.mp z u.1)) (fun z => ok_ck (by omega) ?_)))
      replace z := b2i_n.mp z
      have xn : x < n := by have := z.1; omega
      obtain ⟨c1, c2, c3⟩ := in_k q x x1 xn
      rw [c3 z.2.2, c1, c2]
      refine ok_if (fun u => ok_ck (by omega) (ok_ck (by omega) (ok_if (fun v => two _ _ (by omega) z u (by rw [if_pos v])) (fun v => two _ _ (by omega) z u (by rw [if_neg v]))))) (fun u => next _ (by omega) (fun v => u v.2.1))
  refine fuv_X5_firstFalse (fun nFU hFU => ?_)
  refine s_X5_firstFalse_0 (by first | omega | decide) ?_
  unfold b_X5_firstFalse_0
  exact key 32 _ _ (by omega) (by omega) (by omega) (by omega) (fun k k1 k2 => by omega)
set_option maxHeartbeats 4000000 in
theorem p_X12_firstWrong {s M : Int} {Lc Le : Int → Int} (q : isNR h N n l) (w : NW N n l) (hs : ∀ j, 0 ≤ j → j < kn n l → gI h 113 0 j = skS N (kn n l).toNat (kn n l).toNat j) (s1 : 0 ≤ s) (s2 : s < 3) (hM : gI h 84 0 s = M) (m2 : M ≤ 60) (hc : ∀ t, 0 ≤ t → t < M → gI h 93 0 (60 * s + t) = Lc t ∧ gI h 94 0 (60 * s + t) = Le t) : ok (f_X12_firstWrong s h) (fun r h' => h' = h ∧ isF (fun k => cnP N (kn n l).toNat k ∧ ¬ (N 1 k < M ∧ (if N 0 k = 0 then Lc (N 1 k) else Le (N 1 k)) = N 2 k)) (kn n l) r) := by
  have kr := kn_r w
  have key : ∀ (d nn : Nat) (x : Int), (kn n l - x).toNat = d → 0 ≤ x → x ≤ kn n l → 6 * d + 6 ≤ nn → (∀ k, 0 ≤ k → k < x → ¬ (cnP N (kn n l).toNat k ∧ ¬ (N 1 k < M ∧ (if N 0 k = 0 then Lc (N 1 k) else Le (N 1 k)) = N 2 k))) → ok (g_X12_firstWrong nn 1 [s, x] h) (fun r h' => h' = h ∧ isF (fun k => cnP N (kn n l).toNat k ∧ ¬ (N 1 k < M ∧ (if N 0 k = 0 then Lc (N 1 k) else Le (N 1 k)) = N 2 k)) (kn n l) r) := by
    intro d
    induction d with
    | zero =>
      intro nn x hd x1 x2 hn b3
      refine s_X12_firstWrong_1 (by omega) ?_
      unfold b_X12_firstWrong_1
      exact ok_be (p_X12_knownMany q) (ok_t (by omega) (ok_some ⟨rfl, Or.inl ⟨rfl, fun j j1 j2 => b3 j j1 (by omega)⟩⟩))
    | succ d ih =>
      intro nn x hd x1 x2 hn b3
      have next : ∀ (m' : Nat), 6 * d + 7 ≤ m' → ¬ (cnP N (kn n l).toNat x ∧ ¬ (N 1 x < M ∧ (if N 0 x = 0 then Lc (N 1 x) else Le (N 1 x)) = N 2 x)) → ok (g_X12_firstWrong m' 5 [s, x] h) (fun r h' => h' = h ∧ isF (fun k => cnP N (kn n l).toNat k ∧ ¬ (N 1 k < M ∧ (if N 0 k = 0 then Lc (N 1 k) else Le (N 1 k)) = N 2 k)) (kn n l) r) := by
        intro m' z1 z2
        refine s_X12_firstWrong_5 (by omega) ?_
        unfold b_X12_firstWrong_5
        refine ok_ck (by omega) (ih _ _ (by omega) (by omega) (by omega) (by omega) (fun k k1 k2 => ?_))
        by_cases z : k = x
        · rw [z]; exact z2
        · exact b3 k k1 (by omega)
      have three : ∀ (m' : Nat), 6 * d + 9 ≤ m' → (cnP N (kn n l).toNat x ∧ ¬ (N 1 x < M ∧ (if N 0 x = 0 then Lc (N 1 x) else Le (N 1 x)) = N 2 x)) → ok (g_X12_firstWrong m' 3 [s, x] h) (fun r h' => h' = h ∧ isF (fun k => cnP N (kn n l).toNat k ∧ ¬ (N 1 k < M ∧ (if N 0 k = 0 then Lc (N 1 k) else Le (N 1 k)) = N 2 k)) (kn n l) r) := by
        intro m' z1 z2
        refine s_X12_firstWrong_3 (by omega) ?_
        unfold b_X12_firstWrong_3
        refine s_X12_firstWrong_4 (by omega) ?_
        unfold b_X12_firstWrong_4
        exact ok_t rfl (ok_some ⟨rfl, Or.inr ⟨x1, by omega, z2, b3⟩⟩)
      have two : ∀ (m' : Nat) (y : Int), 6 * d + 10 ≤ m' → cnP N (kn n l).toNat x → N 1 x < M → y = (if N 0 x = 0 then Lc (N 1 x) else Le (N 1 x)) → ok (g_X12_firstWrong m' 2 [s, x, y] h) (fun r h' => h' = h ∧ isF (fun k => cnP N (kn n l).toNat k ∧ ¬ (N 1 k < M ∧ (if N 0 k = 0 then Lc (N 1 k) else Le (N 1 k)) = N 2 k)) (kn n l) r) := by
        intro m' y z1 z2 z3 z4
        refine s_X12_firstWrong_2 (by omega) ?_
        unfold b_X12_firstWrong_2
        rw [(ip_k q x x1 (by omega)).2.1]
        refine ok_ck (by omega) (ok_if (fun u => ?_) (fun u => three _ (by omega) ⟨z2, fun v => u (z4.trans v.2)⟩))
        refine s_X12_firstWrong_4 (by omega) ?_
        unfold b_X12_firstWrong_4
        exact ok_f (by decide) (next _ (by omega) (fun v => v.2 ⟨z3, z4.symm.trans u⟩))
      refine s_X12_firstWrong_1 (by omega) ?_
      unfold b_X12_firstWrong_1
      obtain ⟨c1, c2, c3⟩ := ip_k q x x1 (by omega)
      refine ok_be (p_X12_knownMany q) (ok_f (by omega) (ok_ck (by omega) ?_))
      rw [hs x x1 (by omega), c1]
      refine ok_if (fun y1 => ok_ck (by omega) (ok_if (fun y2 => next _ (by omega) (fun u => u.1.2.2 y2)) (fun y2 => ?_))) (fun y1 => next _ (by omega) (fun u => y1 u.1.2.1))
      have cx : cnP N (kn n l).toNat x := ⟨by omega, y1, y2⟩
      have d1 := (nw_k w x x1 (by omega)).2.2.2 y2
      rw [c3 y2, hM]
      refine ok_ck (by omega) (ok_ck (by omega) (ok_ck (by omega) (ok_lt (ok_ck (by omega) (ok_ck (by omega) (ok_if (fun y3 => three _ (by omega) ⟨cx, fun v => by have := v.1; omega⟩) (fun y3 => ok_ck (by omega) ?_)))))))
      obtain ⟨l1, l2⟩ := hc (N 1 x) d1.1 (by omega)
      rw [l1, l2]
      exact ok_if (fun y4 => ok_ck (by omega) (two _ _ (by omega) cx (by omega) (by rw [if_pos y4]))) (fun y4 => ok_ck (by omega) (two _ _ (by omega) cx (by omega) (by rw [if_neg y4])))
  refine fuv_X12_firstWrong (fun nFU hFU => ?_)
  refine s_X12_firstWrong_0 (by first | omega | decide) ?_
  unfold b_X12_firstWrong_0
  exact key _ _ _ rfl (by omega) (by omega) (by omega) (fun k k1 k2 => by omega)
end
