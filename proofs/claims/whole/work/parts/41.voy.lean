/-! VOYAGES BEGUN AND COPIED -/
def isVF (C : Ch) (h : Hp) (v : Int) (V : Ch) : Prop := isV C h v V ∧ gI h 10 v 3 = V 3 0 ∧ ∀ i, 0 ≤ i → i < C 20 0 → bit (gI h 10 v 4) i = V 4 i
def isSF (C : Ch) (h : Hp) (s : Int) (V : Ch) : Prop := isS C h s V ∧ gI h 87 0 s = V 3 0 ∧ ∀ i, 0 ≤ i → i < C 20 0 → bit (gI h 89 0 s) i = V 4 i
def VWF (C V : Ch) : Prop := VW C V ∧ 0 ≤ V 3 0 ∧ V 3 0 < 2147483648
/-- the voyage at its begin -/
def bgV (C : Ch) : Ch := fun f _ => match f with
  | 0 => 0
  | 1 => C 3 0
  | 2 => C 18 0
  | 3 => C 19 0
  | 4 => 1
  | 5 => 0
  | 6 => 0
  | 7 => if C 3 0 = C 4 0 then 0 else -1
  | _ => 0
theorem bgV_w {C : Ch} (w : CW C) : VWF C (bgV C) := by
  have t := cw_T w
  refine ⟨⟨?_, cw_S w, ?_, ?_, fun i _ _ => Or.inl rfl, ?_, fun i _ _ => ?_⟩, ?_, ?_⟩
  · show (0 : Int) ≤ 0 ∧ (0 : Int) ≤ 60; omega
  · show 0 ≤ C 18 0 ∧ C 18 0 ≤ 9999; omega
  · show (0 : Int) ≤ 0 ∧ (0 : Int) < 16; omega
  · show -1 ≤ (if C 3 0 = C 4 0 then (0 : Int) else -1) ∧ (if C 3 0 = C 4 0 then (0 : Int) else -1) ≤ 60
    split <;> omega
  · show (0 : Int) ≤ 0 ∧ (0 : Int) ≤ 0; omega
  · show 0 ≤ C 19 0; omega
  · show C 19 0 < 2147483648; omega
theorem bit0 {i : Int} (h1 : 0 ≤ i) (h2 : i < 32) : bit 0 i = 0 := by
  rw [bit_tb h1 h2]
  have : tb 0 i = false := b_0 _
  rw [this]; rfl
theorem bit31 {i : Int} (h1 : 0 ≤ i) (h2 : i < 5) : bit 31 i = 1 := by
  have e : i = 0 ∨ i = 1 ∨ i = 2 ∨ i = 3 ∨ i = 4 := by omega
  rcases e with e | e | e | e | e <;> subst e <;> decide +kernel
theorem bitm {m i : Int} (m1 : 0 ≤ m) (m2 : m ≤ 5) (h1 : 0 ≤ i) (h2 : i < m) : bit (bshl 1 m - 1) i = 1 := by
  have e : (m = 1 ∧ i = 0) ∨ (m = 2 ∧ (i = 0 ∨ i = 1)) ∨ (m = 3 ∧ (i = 0 ∨ i = 1 ∨ i = 2)) ∨ (m = 4 ∧ (i = 0 ∨ i = 1 ∨ i = 2 ∨ i = 3)) ∨ (m = 5 ∧ (i = 0 ∨ i = 1 ∨ i = 2 ∨ i = 3 ∨ i = 4)) := by omega
  rcases e with ⟨e, f⟩ | ⟨e, f⟩ | ⟨e, f⟩ | ⟨e, f⟩ | ⟨e, f⟩ <;> subst e
  · subst f; decide +kernel
  · rcases f with f | f <;> subst f <;> decide +kernel
  · rcases f with f | f | f <;> subst f <;> decide +kernel
  · rcases f with f | f | f | f <;> subst f <;> decide +kernel
  · rcases f with f | f | f | f | f <;> subst f <;> decide +kernel
def VoW (v : Int) : Nat → Int → Int → Prop := fun r i _ => i = v ∧ (r = 10 ∨ r = 57)
theorem vow_C {v : Int} : ∀ (r : Nat) (i k : Int), inC r k → ¬ VoW v r i k := by intro r i k; unfold inC VoW; omega
theorem isVF_cp {C V : Ch} {h h2 : Hp} {u v : Int} (w : CW C) (e : ∀ k, 0 ≤ k → k < 8 → gI h2 10 v k = gI h 10 u k) (e2 : ∀ k, 0 ≤ k → k < 9 → gI h2 57 v k = gI h 57 u k) (q : isVF C h u V) : isVF C h2 v V := by
  have z := sz_r w
  obtain ⟨q1, q2, q3⟩ := q
  refine ⟨⟨(e 0 (by omega) (by omega)).trans (iv_0 q1), (e 1 (by omega) (by omega)).trans (iv_1 q1), (e 2 (by omega) (by omega)).trans (iv_2 q1), (e 5 (by omega) (by omega)).trans (iv_5 q1), fun i i1 i2 => ?_, (e 7 (by omega) (by omega)).trans (iv_7 q1), fun i i1 i2 => (e2 i i1 (by omega)).trans (iv_8 q1 i i1 i2)⟩, (e 3 (by omega) (by omega)).trans q2, fun i i1 i2 => ?_⟩
  · rw [e 6 (by omega) (by omega)]; exact iv_6 q1 i i1 i2
  · rw [e 4 (by omega) (by omega)]; exact q3 i i1 i2
theorem isVF_eq {C V : Ch} {h h2 : Hp} {v : Int} (e : ∀ k, gI h2 10 v k = gI h 10 v k) (e2 : ∀ k, gI h2 57 v k = gI h 57 v k) (q : isVF C h v V) : isVF C h2 v V := by
  obtain ⟨q1, q2, q3⟩ := q
  exact ⟨isV_eq e e2 q1, (e 3).trans q2, fun i i1 i2 => by rw [e]; exact q3 i i1 i2⟩
theorem isVF_fr {W : Nat → Int → Int → Prop} {C V : Ch} {h h2 : Hp} {v : Int} (f : Fr W h h2) (d : ∀ k, ¬ W 10 v k ∧ ¬ W 57 v k) (q : isVF C h v V) : isVF C h2 v V := isVF_eq (fun k => f.1 10 v k (d k).1) (fun k => f.1 57 v k (d k).2) q
theorem isSF_eq {C V : Ch} {h h2 : Hp} {s : Int} (w : CW C) (e : ∀ r : Nat, 84 ≤ r → r ≤ 90 → gI h2 r 0 s = gI h r 0 s) (e2 : ∀ m, 0 ≤ m → m < 9 → gI h2 91 0 (9 * s + m) = gI h 91 0 (9 * s + m) ∧ gI h2 92 0 (9 * s + m) = gI h 92 0 (9 * s + m)) (q : isSF C h s V) : isSF C h2 s V := by
  obtain ⟨q1, q2, q3⟩ := q
  refine ⟨⟨(e 84 (by omega) (by omega)).trans (is_0 q1), (e 85 (by omega) (by omega)).trans (is_1 q1), (e 86 (by omega) (by omega)).trans (is_2 q1), (e 90 (by omega) (by omega)).trans (is_5 q1), (e 88 (by omega) (by omega)).trans (is_7 q1), fun i i1 i2 => ?_, fun i i1 i2 => ?_⟩, (e 87 (by omega) (by omega)).trans q2, fun i i1 i2 => ?_⟩
  · have z := sl_r w i1 i2
    exact (e2 _ z.1 z.2.1).1.trans (is_8 q1 i i1 i2)
  · have z := sl_r w i1 i2
    exact (e2 _ z.1 z.2.1).2.trans (is_6 q1 i i1 i2)
  · rw [e 89 (by omega) (by omega)]; exact q3 i i1 i2
theorem isSF_cp {C V : Ch} {h h2 : Hp} {s t : Int} (w : CW C) (e : ∀ r : Nat, 84 ≤ r → r ≤ 90 → gI h2 r 0 s = gI h r 0 t) (e2 : ∀ m, 0 ≤ m → m < 9 → gI h2 91 0 (9 * s + m) = gI h 91 0 (9 * t + m) ∧ gI h2 92 0 (9 * s + m) = gI h 92 0 (9 * t + m)) (q : isSF C h t V) : isSF C h2 s V := by
  obtain ⟨q1, q2, q3⟩ := q
  refine ⟨⟨(e 84 (by omega) (by omega)).trans (is_0 q1), (e 85 (by omega) (by omega)).trans (is_1 q1), (e 86 (by omega) (by omega)).trans (is_2 q1), (e 90 (by omega) (by omega)).trans (is_5 q1), (e 88 (by omega) (by omega)).trans (is_7 q1), fun i i1 i2 => ?_, fun i i1 i2 => ?_⟩, (e 87 (by omega) (by omega)).trans q2, fun i i1 i2 => ?_⟩
  · have z := sl_r w i1 i2
    exact (e2 _ z.1 z.2.1).1.trans (is_8 q1 i i1 i2)
  · have z := sl_r w i1 i2
    exact (e2 _ z.1 z.2.1).2.trans (is_6 q1 i i1 i2)
  · rw [e 89 (by omega) (by omega)]; exact q3 i i1 i2
section
variable {h0 : Hp} {u v c s t : Int} {C V : Ch}
set_option maxHeartbeats 4000000 in
theorem p_X10_copyFrom (hne : u ≠ v) : ok (f_X10_copyFrom v u h0) (fun _ h' => Fr (VoW v) h0 h' ∧ (∀ k, 0 ≤ k → k < 8 → gI h' 10 v k = gI h0 10 u k) ∧ (∀ k, 0 ≤ k → k < 9 → gI h' 57 v k = gI h0 57 u k)) := by
  have key : ∀ (d n : Nat) (h : Hp) (x : Int), (9 - x).toNat = d → 0 ≤ x → x ≤ 9 → 2 * d + 2 ≤ n → Fr (VoW v) h0 h → (∀ k, 0 ≤ k → k < 8 → gI h 10 v k = gI h0 10 u k) → (∀ k, 0 ≤ k → k < x → gI h 57 v k = gI h0 57 u k) → ok (g_X10_copyFrom n 1 [v, u, x] h) (fun _ h' => Fr (VoW v) h0 h' ∧ (∀ k, 0 ≤ k → k < 8 → gI h' 10 v k = gI h0 10 u k) ∧ (∀ k, 0 ≤ k → k < 9 → gI h' 57 v k = gI h0 57 u k)) := by
    intro d
    induction d with
    | zero =>
      intro n h x hd x1 x2 hn hF h1 h2
      refine s_X10_copyFrom_1 (by omega) ?_
      unfold b_X10_copyFrom_1
      exact ok_t (by omega) (ok_some ⟨hF, h1, fun k k1 k2 => h2 k k1 (by omega)⟩)
    | succ d ih =>
      intro n h x hd x1 x2 hn hF h1 h2
      refine s_X10_copyFrom_1 (by omega) ?_
      unfold b_X10_copyFrom_1
      refine ok_f (by omega) (ok_ck (by omega) (ok_ck (by omega) (ok_lt (ok_ck (by omega) (ih _ _ _ (by omega) (by omega) (by omega) (by omega) (fr_sI hF (by unfold VoW; omega)) (fun k k1 k2 => by rw [gI_nr (by decide)]; exact h1 k k1 k2) (fun k k1 k2 => ?_))))))
      rw [gI_sI]
      by_cases y : k = x
      · rw [if_pos ⟨rfl, rfl, y⟩, y]; exact hF.1 57 u x (by unfold VoW; omega)
      · rw [if_neg (fun z => y z.2.2)]; exact h2 k k1 (by omega)
  refine fuv_X10_copyFrom (fun nFU hFU => ?_)
  refine s_X10_copyFrom_0 (by first | omega | decide) ?_
  unfold b_X10_copyFrom_0
  refine ok_lt (ok_lt (ok_lt (ok_lt (ok_lt (ok_lt (ok_lt (ok_lt ?_)))))))
  simp only [gI_ni hne]
  refine key 9 _ _ _ (by omega) (by omega) (by omega) (by omega) ?_ (fun k k1 k2 => ?_) (fun k k1 k2 => by omega)
  · repeat (first | exact fr_rf | refine fr_sI ?_ (by unfold VoW; omega))
  · have e : k = 0 ∨ k = 1 ∨ k = 2 ∨ k = 3 ∨ k = 4 ∨ k = 5 ∨ k = 6 ∨ k = 7 := by omega
    simp only [gI_sI]
    rcases e with e | e | e | e | e | e | e | e <;> subst e <;> simp
set_option maxHeartbeats 4000000 in
theorem p_X10_begin (q0 : isC h0 c C) (w : CW C) : ok (f_X10_begin v c h0) (fun _ h' => Fr (VoW v) h0 h' ∧ isVF C h' v (bgV C)) := by
  have z := sz_r w
  have e4 := ic_3 q0
  have e5 := ic_4 q0
  have e13 := ic_18 q0
  have e14 := ic_19 q0
  have e3 := ic_20 q0
  have key : ∀ (d n : Nat) (h : Hp) (x : Int), (9 - x).toNat = d → 0 ≤ x → x ≤ 9 → 2 * d + 2 ≤ n → Fr (VoW v) h0 h → (gI h 10 v 0 = 0 ∧ gI h 10 v 1 = C 3 0 ∧ gI h 10 v 2 = C 18 0 ∧ gI h 10 v 3 = C 19 0 ∧ gI h 10 v 4 = bshl 1 (C 20 0) - 1 ∧ gI h 10 v 5 = 0 ∧ gI h 10 v 6 = 0 ∧ gI h 10 v 7 = (if C 3 0 = C 4 0 then 0 else -1)) → (∀ k, 0 ≤ k → k < x → gI h 57 v k = 0) → ok (g_X10_begin n 2 [v, x] h) (fun _ h' => Fr (VoW v) h0 h' ∧ isVF C h' v (bgV C)) := by
    intro d
    induction d with
    | zero =>
      intro n h x hd x1 x2 hn hF h1 h2
      refine s_X10_begin_2 (by omega) ?_
      unfold b_X10_begin_2
      obtain ⟨a0, a1, a2, a3, a4, a5, a6, a7⟩ := h1
      refine ok_t (by omega) (ok_some ⟨hF, ⟨a0, a1, a2, a5, fun i i1 i2 => ?_, a7, fun i i1 i2 => h2 i i1 (by omega)⟩, a3, fun i i1 i2 => ?_⟩)
      · rw [a6]; exact bit0 i1 (by omega)
      · rw [a4]; exact bitm (by omega) (by omega) i1 i2
    | succ d ih =>
      intro n h x hd x1 x2 hn hF h1 h2
      refine s_X10_begin_2 (by omega) ?_
      unfold b_X10_begin_2
      refine ok_f (by omega) (ok_ck (by omega) (ok_lt (ok_ck (by omega) (ih _ _ _ (by omega) (by omega) (by omega) (by omega) (fr_sI hF (by unfold VoW; omega)) ?_ (fun k k1 k2 => ?_)))))
      · simp only [gI_nr (show (10 : Nat) ≠ 57 by decide)]; exact h1
      · rw [gI_sI]
        by_cases y : k = x
        · rw [if_pos ⟨rfl, rfl, y⟩]
        · rw [if_neg (fun z => y z.2.2)]; exact h2 k k1 (by omega)
  refine fuv_X10_begin (fun nFU hFU => ?_)
  refine s_X10_begin_0 (by first | omega | decide) ?_
  unfold b_X10_begin_0
  have b1 := bshl1 (j := C 20 0) (by omega) (by omega)
  have b2 : (1 : Int) ≤ 2 ^ (C 20 0).toNat ∧ (2 : Int) ^ (C 20 0).toNat ≤ 32 := by
    have e : (C 20 0).toNat = 0 ∨ (C 20 0).toNat = 1 ∨ (C 20 0).toNat = 2 ∨ (C 20 0).toNat = 3 ∨ (C 20 0).toNat = 4 ∨ (C 20 0).toNat = 5 := by omega
    rcases e with e | e | e | e | e | e <;> rw [e] <;> decide
  refine ok_lt (ok_lt (ok_lt (ok_lt ?_)))
  simp only [gI_nr (show (9 : Nat) ≠ 10 by decide), gI_nr (show (0 : Nat) ≠ 10 by decide), e4, e13, e14, e3]
  refine ok_ck (by omega) (ok_lt (ok_lt (ok_lt ?_)))
  simp only [gI_nr (show (9 : Nat) ≠ 10 by decide), e5]
  have go : ∀ (n : Nat) (y : Int), 100 ≤ n → y = (if C 3 0 = C 4 0 then 0 else -1) → ok (g_X10_begin n 1 [v, y, v] (sI (sI (sI (sI (sI (sI (sI h0 10 v 0 0) 10 v 1 (C 3 0)) 10 v 2 (C 18 0)) 10 v 3 (C 19 0)) 10 v 4 (bshl 1 (C 20 0) - 1)) 10 v 5 0) 10 v 6 0)) (fun _ h' => Fr (VoW v) h0 h' ∧ isVF C h' v (bgV C)) := by
    intro n y hn hy
    refine s_X10_begin_1 (by omega) ?_
    unfold b_X10_begin_1
    refine ok_lt (key 9 _ _ _ (by omega) (by omega) (by omega) (by omega) ?_ ?_ (fun k k1 k2 => by omega))
    · repeat (first | exact fr_rf | refine fr_sI ?_ (by unfold VoW; omega))
    · simp only [gI_sI]
      simp [hy]
  have e1 : gI (sI (sI (sI (sI (sI (sI (sI h0 10 v 0 0) 10 v 1 (C 3 0)) 10 v 2 (C 18 0)) 10 v 3 (C 19 0)) 10 v 4 (bshl 1 (C 20 0) - 1)) 10 v 5 0) 10 v 6 0) 10 v 1 = C 3 0 := by simp only [gI_sI]; simp
  rw [e1]
  exact ok_if (fun y => go _ _ (by omega) (by rw [if_pos y])) (fun y => go _ _ (by omega) (by rw [if_neg y]))
def LgW (v : Int) : Nat → Int → Int → Prop := fun r i _ => i = v ∧ 34 ≤ r ∧ r ≤ 38
set_option maxHeartbeats 4000000 in
theorem p_X3_copyFrom (hne : u ≠ v) : ok (f_X3_copyFrom v u h0) (fun _ h' => Fr (LgW v) h0 h' ∧ ∀ (r : Nat) (k : Int), 34 ≤ r → r ≤ 38 → 0 ≤ k → k < 60 → gI h' r v k = gI h0 r u k) := by
  have key : ∀ (d n : Nat) (h : Hp) (x : Int), (60 - x).toNat = d → 0 ≤ x → x ≤ 60 → 2 * d + 2 ≤ n → Fr (LgW v) h0 h → (∀ (r : Nat) (k : Int), 34 ≤ r → r ≤ 38 → 0 ≤ k → k < x → gI h r v k = gI h0 r u k) → ok (g_X3_copyFrom n 1 [v, u, x] h) (fun _ h' => Fr (LgW v) h0 h' ∧ ∀ (r : Nat) (k : Int), 34 ≤ r → r ≤ 38 → 0 ≤ k → k < 60 → gI h' r v k = gI h0 r u k) := by
    intro d
    induction d with
    | zero =>
      intro n h x hd x1 x2 hn hF h2
      refine s_X3_copyFrom_1 (by omega) ?_
      unfold b_X3_copyFrom_1
      exact ok_t (by omega) (ok_some ⟨hF, fun r k r1 r2 k1 k2 => h2 r k r1 r2 k1 (by omega)⟩)
    | succ d ih =>
      intro n h x hd x1 x2 hn hF h2
      have x3 : 0 ≤ x ∧ x < 60 := by omega
      refine s_X3_copyFrom_1 (by omega) ?_
      unfold b_X3_copyFrom_1
      refine ok_f (by omega) (ok_ck x3 (ok_ck x3 (ok_lt (ok_ck x3 (ok_ck x3 (ok_lt (ok_ck x3 (ok_ck x3 (ok_lt (ok_ck x3 (ok_ck x3 (ok_lt (ok_ck x3 (ok_ck x3 (ok_lt (ok_ck (by omega) ?_))))))))))))))))
      simp only [gI_ni hne]
      refine ih _ _ _ (by omega) (by omega) (by omega) (by omega) ?_ (fun r k r1 r2 k1 k2 => ?_)
      · repeat (first | exact hF | refine fr_sI ?_ (by unfold LgW; omega))
      · have e : ∀ r : Nat, gI h r u x = gI h0 r u x := fun r => hF.1 r u x (by unfold LgW; omega)
        have er : r = 34 ∨ r = 35 ∨ r = 36 ∨ r = 37 ∨ r = 38 := by omega
        by_cases y : k = x
        · subst y
          simp only [gI_sI]
          rcases er with er | er | er | er | er <;> subst er <;> simp [e]
        · rw [gI_nk y, gI_nk y, gI_nk y, gI_nk y, gI_nk y]
          exact h2 r k r1 r2 k1 (by omega)
  refine fuv_X3_copyFrom (fun nFU hFU => ?_)
  refine s_X3_copyFrom_0 (by first | omega | decide) ?_
  unfold b_X3_copyFrom_0
  exact key 60 _ _ _ (by omega) (by omega) (by omega) (by omega) fr_rf (fun r k r1 r2 k1 k2 => by omega)
/-! the reference -/
def ShW (s : Int) : Nat → Int → Int → Prop := fun r _ k => (84 ≤ r ∧ r ≤ 90 ∧ k = s) ∨ ((r = 91 ∨ r = 92) ∧ 9 * s ≤ k ∧ k < 9 * s + 9)
theorem shw_R : ∀ (r : Nat) (k : Int), 61 ≤ r → r ≤ 83 → ¬ ShW s r 0 k := by intro r k a b; unfold ShW; omega
/-- truth values are such -/
def B92 (h : Hp) : Prop := ∀ k, 0 ≤ gI h 92 0 k ∧ gI h 92 0 k < 2
set_option maxHeartbeats 8000000 in
theorem p_X12_copies (b9 : B92 h0) (hne : t ≠ s) (s1 : 0 ≤ s) (s2 : s < 23) (t1 : 0 ≤ t) (t2 : t < 23) : ok (f_X12_copies s t h0) (fun _ h' => Fr (ShW s) h0 h' ∧ B92 h' ∧ (∀ r : Nat, 84 ≤ r → r ≤ 90 → gI h' r 0 s = gI h0 r 0 t) ∧ (∀ m, 0 ≤ m → m < 9 → gI h' 91 0 (9 * s + m) = gI h0 91 0 (9 * t + m) ∧ gI h' 92 0 (9 * s + m) = gI h0 92 0 (9 * t + m))) := by
  have key : ∀ (d n : Nat) (h : Hp) (x : Int), (9 - x).toNat = d → 0 ≤ x → x ≤ 9 → 2 * d + 2 ≤ n → Fr (ShW s) h0 h → B92 h → (∀ r : Nat, 84 ≤ r → r ≤ 90 → gI h r 0 s = gI h0 r 0 t) → (∀ m, 0 ≤ m → m < x → gI h 91 0 (9 * s + m) = gI h0 91 0 (9 * t + m) ∧ gI h 92 0 (9 * s + m) = gI h0 92 0 (9 * t + m)) → ok (g_X12_copies n 1 [s, t, x] h) (fun _ h' => Fr (ShW s) h0 h' ∧ B92 h' ∧ (∀ r : Nat, 84 ≤ r → r ≤ 90 → gI h' r 0 s = gI h0 r 0 t) ∧ (∀ m, 0 ≤ m → m < 9 → gI h' 91 0 (9 * s + m) = gI h0 91 0 (9 * t + m) ∧ gI h' 92 0 (9 * s + m) = gI h0 92 0 (9 * t + m))) := by
    intro d
    induction d with
    | zero =>
      intro n h x hd x1 x2 hn hF b h1 h2
      refine s_X12_copies_1 (by omega) ?_
      unfold b_X12_copies_1
      exact ok_t (by omega) (ok_some ⟨hF, b, h1, fun m m1 m2 => h2 m m1 (by omega)⟩)
    | succ d ih =>
      intro n h x hd x1 x2 hn hF b h1 h2
      have a1 : -2147483648 ≤ 9 * s ∧ 9 * s < 2147483648 := by omega
      have a2 : -2147483648 ≤ 9 * s + x ∧ 9 * s + x < 2147483648 := by omega
      have a3 : -2147483648 ≤ 9 * t ∧ 9 * t < 2147483648 := by omega
      have a4 : -2147483648 ≤ 9 * t + x ∧ 9 * t + x < 2147483648 := by omega
      have a5 : 0 ≤ 9 * t + x ∧ 9 * t + x < 207 := by omega
      have a6 : 0 ≤ 9 * s + x ∧ 9 * s + x < 207 := by omega
      have f1 : gI h 91 0 (9 * t + x) = gI h0 91 0 (9 * t + x) := hF.1 91 0 _ (by unfold ShW; omega)
      have f2 : gI h 92 0 (9 * t + x) = gI h0 92 0 (9 * t + x) := hF.1 92 0 _ (by unfold ShW; omega)
      refine s_X12_copies_1 (by omega) ?_
      unfold b_X12_copies_1
      refine ok_f (by omega) (ok_ck a1 (ok_ck a2 (ok_ck a3 (ok_ck a4 (ok_ck a5 (ok_ck a6 (ok_lt (ok_ck a1 (ok_ck a2 (ok_ck a3 (ok_ck a4 (ok_ck a5 (ok_ck a6 ?_)))))))))))))
      rw [gI_nr (show (92 : Nat) ≠ 91 by decide), f2]
      refine ok_ck (b9 _) (ok_lt (ok_ck (by omega) (ih _ _ _ (by omega) (by omega) (by omega) (by omega) (fr_sI (fr_sI hF (by unfold ShW; omega)) (by unfold ShW; omega)) (fun k => ?_) (fun r r1 r2 => by rw [gI_nr (by omega), gI_nr (by omega)]; exact h1 r r1 r2) (fun m m1 m2 => ?_))))
      · rw [gI_sI]
        split
        · exact b9 _
        · rw [gI_nr (by decide)]; exact b k
      · by_cases y : m = x
        · rw [y, gI_nr (by decide), gI_eq, gI_eq, f1]; exact ⟨rfl, rfl⟩
        · rw [gI_nr (by decide), gI_nk (by omega), gI_nk (by omega), gI_nr (by decide)]
          exact h2 m m1 (by omega)
  refine fuv_X12_copies (fun nFU hFU => ?_)
  refine s_X12_copies_0 (by first | omega | decide) ?_
  unfold b_X12_copies_0
  have s3 : 0 ≤ s ∧ s < 23 := ⟨s1, s2⟩
  have t3 : 0 ≤ t ∧ t < 23 := ⟨t1, t2⟩
  refine ok_ck t3 (ok_ck s3 (ok_lt (ok_ck t3 (ok_ck s3 (ok_lt (ok_ck t3 (ok_ck s3 (ok_lt (ok_ck t3 (ok_ck s3 (ok_lt (ok_ck t3 (ok_ck s3 (ok_lt (ok_ck t3 (ok_ck s3 (ok_lt (ok_ck t3 (ok_ck s3 (ok_lt ?_))))))))))))))))))))
  simp only [gI_nk hne]
  refine key 9 _ _ _ (by omega) (by omega) (by omega) (by omega) ?_ (fun k => ?_) (fun r r1 r2 => ?_) (fun m m1 m2 => by omega)
  · repeat (first | exact fr_rf | refine fr_sI ?_ (by unfold ShW; omega))
  · rw [gI_nr (by first | omega | decide), gI_nr (by first | omega | decide), gI_nr (by first | omega | decide), gI_nr (by first | omega | decide), gI_nr (by first | omega | decide), gI_nr (by first | omega | decide), gI_nr (by first | omega | decide)]
    exact b9 k
  · have er : r = 84 ∨ r = 85 ∨ r = 86 ∨ r = 87 ∨ r = 88 ∨ r = 89 ∨ r = 90 := by omega
    simp only [gI_sI]
    rcases er with er | er | er | er | er | er | er <;> subst er <;> simp
set_option maxHeartbeats 8000000 in
theorem p_X12_begins (b9 : B92 h0) (q0 : isR h0 C) (w : CW C) (s1 : 0 ≤ s) (s2 : s < 23) : ok (f_X12_begins s h0) (fun _ h' => Fr (ShW s) h0 h' ∧ B92 h' ∧ isSF C h' s (bgV C)) := by
  have z := sz_r w
  have e3 := ir_3 q0
  have e4 := ir_4 q0
  have e10 := ir_10 q0
  have e11 := ir_11 q0
  have key : ∀ (d n : Nat) (h : Hp) (x : Int), (9 - x).toNat = d → 0 ≤ x → x ≤ 9 → 2 * d + 2 ≤ n → Fr (ShW s) h0 h → B92 h → (gI h 84 0 s = 0 ∧ gI h 85 0 s = C 3 0 ∧ gI h 86 0 s = C 18 0 ∧ gI h 87 0 s = C 19 0 ∧ gI h 88 0 s = (if C 3 0 = C 4 0 then 0 else -1) ∧ gI h 89 0 s = 31 ∧ gI h 90 0 s = 0) → (∀ m, 0 ≤ m → m < x → gI h 91 0 (9 * s + m) = 0 ∧ gI h 92 0 (9 * s + m) = 0) → ok (g_X12_begins n 2 [s, x] h) (fun _ h' => Fr (ShW s) h0 h' ∧ B92 h' ∧ isSF C h' s (bgV C)) := by
    intro d
    induction d with
    | zero =>
      intro n h x hd x1 x2 hn hF b h1 h2
      refine s_X12_begins_2 (by omega) ?_
      unfold b_X12_begins_2
      obtain ⟨a0, a1, a2, a3, a7, a4, a5⟩ := h1
      refine ok_t (by omega) (ok_some ⟨hF, b, ⟨a0, a1, a2, a5, a7, fun i i1 i2 => ?_, fun i i1 i2 => ?_⟩, a3, fun i i1 i2 => ?_⟩)
      · have y := sl_r w i1 i2
        exact (h2 _ y.1 (by omega)).1
      · have y := sl_r w i1 i2
        exact (h2 _ y.1 (by omega)).2
      · rw [a4]; exact bit31 i1 (by omega)
    | succ d ih =>
      intro n h x hd x1 x2 hn hF b h1 h2
      have a1 : -2147483648 ≤ 9 * s ∧ 9 * s < 2147483648 := by omega
      have a2 : -2147483648 ≤ 9 * s + x ∧ 9 * s + x < 2147483648 := by omega
      have a6 : 0 ≤ 9 * s + x ∧ 9 * s + x < 207 := by omega
      refine s_X12_begins_2 (by omega) ?_
      unfold b_X12_begins_2
      refine ok_f (by omega) (ok_ck a1 (ok_ck a2 (ok_ck a6 (ok_lt (ok_ck a1 (ok_ck a2 (ok_ck a6 (ok_lt (ok_ck (by omega) (ih _ _ _ (by omega) (by omega) (by omega) (by omega) (fr_sI (fr_sI hF (by unfold ShW; omega)) (by unfold ShW; omega)) (fun k => ?_) ?_ (fun m m1 m2 => ?_)))))))))))
      · rw [gI_sI]
        split
        · decide
        · rw [gI_nr (by decide)]; exact b k
      · simp only [gI_nr (show (84 : Nat) ≠ 92 by decide), gI_nr (show (85 : Nat) ≠ 92 by decide), gI_nr (show (86 : Nat) ≠ 92 by decide), gI_nr (show (87 : Nat) ≠ 92 by decide), gI_nr (show (88 : Nat) ≠ 92 by decide), gI_nr (show (89 : Nat) ≠ 92 by decide), gI_nr (show (90 : Nat) ≠ 92 by decide), gI_nr (show (84 : Nat) ≠ 91 by decide), gI_nr (show (85 : Nat) ≠ 91 by decide), gI_nr (show (86 : Nat) ≠ 91 by decide), gI_nr (show (87 : Nat) ≠ 91 by decide), gI_nr (show (88 : Nat) ≠ 91 by decide), gI_nr (show (89 : Nat) ≠ 91 by decide), gI_nr (show (90 : Nat) ≠ 91 by decide)]
        exact h1
      · by_cases y : m = x
        · rw [y, gI_nr (by decide), gI_eq, gI_eq]; exact ⟨rfl, rfl⟩
        · rw [gI_nr (by decide), gI_nk (by omega), gI_nk (by omega), gI_nr (by decide)]
          exact h2 m m1 (by omega)
  refine fuv_X12_begins (fun nFU hFU => ?_)
  refine s_X12_begins_0 (by first | omega | decide) ?_
  unfold b_X12_begins_0
  have s3 : 0 ≤ s ∧ s < 23 := ⟨s1, s2⟩
  refine ok_ck s3 (ok_lt (ok_ck (by first | omega | decide) (ok_ck s3 (ok_lt (ok_ck (by first | omega | decide) (ok_ck s3 (ok_lt (ok_ck (by first | omega | decide) (ok_ck s3 (ok_lt (ok_ck (by first | omega | decide) (ok_ck (by first | omega | decide) ?_))))))))))))
  simp only [gI_nr (show (61 : Nat) ≠ 84 by decide), gI_nr (show (61 : Nat) ≠ 85 by decide), gI_nr (show (61 : Nat) ≠ 86 by decide), gI_nr (show (61 : Nat) ≠ 87 by decide), e3, e4, e10, e11]
  have go : ∀ (n : Nat) (y : Int), 100 ≤ n → y = (if C 3 0 = C 4 0 then 0 else -1) → ok (g_X12_begins n 1 [s, y, s] (sI (sI (sI (sI h0 84 0 s 0) 85 0 s (C 3 0)) 86 0 s (C 18 0)) 87 0 s (C 19 0))) (fun _ h' => Fr (ShW s) h0 h' ∧ B92 h' ∧ isSF C h' s (bgV C)) := by
    intro n y hn hy
    refine s_X12_begins_1 (by omega) ?_
    unfold b_X12_begins_1
    refine ok_ck s3 (ok_lt (ok_ck s3 (ok_lt (ok_ck s3 (ok_lt (key 9 _ _ _ (by omega) (by omega) (by omega) (by omega) ?_ (fun k => ?_) ?_ (fun m m1 m2 => by omega)))))))
    · repeat (first | exact fr_rf | refine fr_sI ?_ (by unfold ShW; omega))
    · rw [gI_nr (by first | omega | decide), gI_nr (by first | omega | decide), gI_nr (by first | omega | decide), gI_nr (by first | omega | decide), gI_nr (by first | omega | decide), gI_nr (by first | omega | decide), gI_nr (by first | omega | decide)]
      exact b9 k
    · simp only [gI_sI]
      simp [hy]
  exact ok_if (fun y => go _ _ (by omega) (by rw [if_pos y])) (fun y => go _ _ (by omega) (by rw [if_neg y]))
def LsW (s : Int) : Nat → Int → Int → Prop := fun r _ k => 93 ≤ r ∧ r ≤ 97 ∧ 60 * s ≤ k ∧ k < 60 * s + 60
set_option maxHeartbeats 8000000 in
theorem p_X12_copiesLog (hne : t ≠ s) (s1 : 0 ≤ s) (s2 : s < 3) (t1 : 0 ≤ t) (t2 : t < 3) : ok (f_X12_copiesLog s t h0) (fun _ h' => Fr (LsW s) h0 h' ∧ ∀ (r : Nat) (k : Int), 93 ≤ r → r ≤ 97 → 0 ≤ k → k < 60 → gI h' r 0 (60 * s + k) = gI h0 r 0 (60 * t + k)) := by
  have key : ∀ (d n : Nat) (h : Hp) (x : Int), (60 - x).toNat = d → 0 ≤ x → x ≤ 60 → 2 * d + 2 ≤ n → Fr (LsW s) h0 h → (∀ (r : Nat) (k : Int), 93 ≤ r → r ≤ 97 → 0 ≤ k → k < x → gI h r 0 (60 * s + k) = gI h0 r 0 (60 * t + k)) → ok (g_X12_copiesLog n 1 [s, t, x] h) (fun _ h' => Fr (LsW s) h0 h' ∧ ∀ (r : Nat) (k : Int), 93 ≤ r → r ≤ 97 → 0 ≤ k → k < 60 → gI h' r 0 (60 * s + k) = gI h0 r 0 (60 * t + k)) := by
    intro d
    induction d with
    | zero =>
      intro n h x hd x1 x2 hn hF h2
      refine s_X12_copiesLog_1 (by omega) ?_
      unfold b_X12_copiesLog_1
      exact ok_t (by omega) (ok_some ⟨hF, fun r k r1 r2 k1 k2 => h2 r k r1 r2 k1 (by omega)⟩)
    | succ d ih =>
      intro n h x hd x1 x2 hn hF h2
      have a1 : -2147483648 ≤ 60 * s ∧ 60 * s < 2147483648 := by omega
      have a2 : -2147483648 ≤ 60 * s + x ∧ 60 * s + x < 2147483648 := by omega
      have a3 : -2147483648 ≤ 60 * t ∧ 60 * t < 2147483648 := by omega
      have a4 : -2147483648 ≤ 60 * t + x ∧ 60 * t + x < 2147483648 := by omega
      have a5 : 0 ≤ 60 * t + x ∧ 60 * t + x < 180 := by omega
      have a6 : 0 ≤ 60 * s + x ∧ 60 * s + x < 180 := by omega
      have nk : 60 * t + x ≠ 60 * s + x := by omega
      refine s_X12_copiesLog_1 (by omega) ?_
      unfold b_X12_copiesLog_1
      refine ok_f (by omega) (ok_ck a1 (ok_ck a2 (ok_ck a3 (ok_ck a4 (ok_ck a5 (ok_ck a6 (ok_lt ?_)))))))
      refine ok_ck a1 (ok_ck a2 (ok_ck a3 (ok_ck a4 (ok_ck a5 (ok_ck a6 (ok_lt ?_))))))
      refine ok_ck a1 (ok_ck a2 (ok_ck a3 (ok_ck a4 (ok_ck a5 (ok_ck a6 (ok_lt ?_))))))
      refine ok_ck a1 (ok_ck a2 (ok_ck a3 (ok_ck a4 (ok_ck a5 (ok_ck a6 (ok_lt ?_))))))
      refine ok_ck a1 (ok_ck a2 (ok_ck a3 (ok_ck a4 (ok_ck a5 (ok_ck a6 (ok_lt ?_))))))
      simp only [gI_nk nk]
      refine ok_ck (by omega) (ih _ _ _ (by omega) (by omega) (by omega) (by omega) ?_ (fun r k r1 r2 k1 k2 => ?_))
      · repeat (first | exact hF | refine fr_sI ?_ (by unfold LsW; omega))
      · have e : ∀ r : Nat, gI h r 0 (60 * t + x) = gI h0 r 0 (60 * t + x) := fun r => hF.1 r 0 _ (by unfold LsW; omega)
        have er : r = 93 ∨ r = 94 ∨ r = 95 ∨ r = 96 ∨ r = 97 := by omega
        by_cases y : k = x
        · subst y
          simp only [gI_sI]
          rcases er with er | er | er | er | er <;> subst er <;> simp [e]
        · rw [gI_nk (by omega), gI_nk (by omega), gI_nk (by omega), gI_nk (by omega), gI_nk (by omega)]
          exact h2 r k r1 r2 k1 (by omega)
  refine fuv_X12_copiesLog (fun nFU hFU => ?_)
  refine s_X12_copiesLog_0 (by first | omega | decide) ?_
  unfold b_X12_copiesLog_0
  exact key 60 _ _ _ (by omega) (by omega) (by omega) (by omega) fr_rf (fun r k r1 r2 k1 k2 => by omega)
end
