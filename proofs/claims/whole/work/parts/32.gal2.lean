/-! E WORKED OUT -/
def MIN : Int := -9223372036854775808
abbrev bnd (x : Int) : Prop := -1000000000000 ≤ x ∧ x ≤ 1000000000000
def jnv (k a b : Int) : Option Int :=
  if k = 2 then some (if a = 0 ∧ b = 0 then 0 else 1) else if k = 3 then some (if a = 0 ∨ b = 0 then 0 else 1) else if k = 5 then some (if a < b then 1 else 0) else if k = 6 then some (if a ≤ b then 1 else 0) else
  if k = 7 then some (if a = b then 1 else 0) else if k = 8 then some (if a = b then 0 else 1) else if k = 9 then some (if a < b then 0 else 1) else if k = 10 then some (if a ≤ b then 0 else 1) else
  if k = 11 then some (a + b) else if k = 12 then some (a - b) else if k = 13 then (if a ≠ 0 ∧ Int.tdiv 1000000000000 (if 0 < a then a else -a) < (if 0 < b then b else -b) then none else some (a * b)) else
  if k = 14 then (if b = 0 then none else some (Int.tdiv a b)) else none
def jn (k a b : Int) : Option Int := match jnv k a b with
  | some v => if bnd v then some v else none
  | none => none
theorem td_n (a b : Int) : (Int.tdiv a b).natAbs ≤ a.natAbs := by rw [Int.natAbs_tdiv]; exact Nat.div_le_self _ _
theorem mul_k {x y : Int} (hx : 0 < x) (hy : 0 ≤ y) (h : y ≤ Int.tdiv 1000000000000 x) : 0 ≤ x * y ∧ x * y ≤ 1000000000000 := by
  rw [Int.tdiv_eq_ediv_of_nonneg (by decide)] at h
  have := (Int.le_ediv_iff_mul_le hx).mp h
  rw [Int.mul_comm] at this
  exact ⟨Int.mul_nonneg (by omega) hy, this⟩
theorem mul_ok {a b : Int} (h : a ≠ 0 → (if 0 < b then b else -b) ≤ Int.tdiv 1000000000000 (if 0 < a then a else -a)) : bnd (a * b) := by
  unfold bnd
  by_cases z : a = 0
  · subst z; simp
  · have h := h z
    by_cases p : 0 < a <;> by_cases r : 0 < b
    · rw [if_pos p, if_pos r] at h; have := mul_k p (by omega) h; omega
    · rw [if_pos p, if_neg r] at h; have := mul_k p (by omega) h; rw [Int.mul_neg] at this; omega
    · rw [if_neg p, if_pos r] at h; have := mul_k (x := -a) (by omega) (by omega) h; rw [Int.neg_mul] at this; omega
    · rw [if_neg p, if_neg r] at h; have := mul_k (x := -a) (by omega) (by omega) h; rw [Int.neg_mul_neg] at this; omega
theorem p_X1_join {h : Hp} {k a b : Int} (ha : bnd a) (hb : bnd b) : f_X1_join k a b h = some ((jnv k a b).getD MIN, h) := by
  refine ok_eq.mp ?_
  unfold f_X1_join
  refine s_X1_join_0 (by decide) ?_
  unfold b_X1_join_0
  by_cases z2 : k = 2
  · subst z2
    refine ok_t rfl ?_
    refine ok_if (fun q => ok_if (fun q2 => ?_) (fun q2 => ?_)) (fun q => ?_)
    · exact ok_some ⟨(by (try simp only [lc_eq0, lc_lt0, lc_le0, lc_gt0, lc_ge0] at *); simp [jnv, MIN]; try omega), rfl⟩
    · refine s_X1_join_1 (by decide) ?_
      unfold b_X1_join_1
      exact ok_some ⟨(by (try simp only [lc_eq0, lc_lt0, lc_le0, lc_gt0, lc_ge0] at *); simp [jnv, MIN]; try omega), rfl⟩
    · refine s_X1_join_1 (by decide) ?_
      unfold b_X1_join_1
      exact ok_some ⟨(by (try simp only [lc_eq0, lc_lt0, lc_le0, lc_gt0, lc_ge0] at *); simp [jnv, MIN]; try omega), rfl⟩
  refine ok_f z2 ?_
  by_cases z3 : k = 3
  · subst z3
    refine ok_t rfl ?_
    refine ok_if (fun q => ?_) (fun q => ok_if (fun q2 => ?_) (fun q2 => ?_))
    · exact ok_some ⟨(by (try simp only [lc_eq0, lc_lt0, lc_le0, lc_gt0, lc_ge0] at *); simp [jnv, MIN]; try omega), rfl⟩
    · exact ok_some ⟨(by (try simp only [lc_eq0, lc_lt0, lc_le0, lc_gt0, lc_ge0] at *); simp [jnv, MIN]; try omega), rfl⟩
    · exact ok_some ⟨(by (try simp only [lc_eq0, lc_lt0, lc_le0, lc_gt0, lc_ge0] at *); simp [jnv, MIN]; try omega), rfl⟩
  refine ok_f z3 ?_
  by_cases z5 : k = 5
  · subst z5
    refine ok_t rfl ?_
    refine ok_if (fun q => ?_) (fun q => ?_)
    · exact ok_some ⟨(by (try simp only [lc_eq0, lc_lt0, lc_le0, lc_gt0, lc_ge0] at *); simp [jnv, MIN]; try omega), rfl⟩
    · exact ok_some ⟨(by (try simp only [lc_eq0, lc_lt0, lc_le0, lc_gt0, lc_ge0] at *); simp [jnv, MIN]; try omega), rfl⟩
  refine ok_f z5 ?_
  by_cases z6 : k = 6
  · subst z6
    refine ok_t rfl ?_
    refine ok_if (fun q => ?_) (fun q => ?_)
    · exact ok_some ⟨(by (try simp only [lc_eq0, lc_lt0, lc_le0, lc_gt0, lc_ge0] at *); simp [jnv, MIN]; try omega), rfl⟩
    · exact ok_some ⟨(by (try simp only [lc_eq0, lc_lt0, lc_le0, lc_gt0, lc_ge0] at *); simp [jnv, MIN]; try omega), rfl⟩
  refine ok_f z6 ?_
  by_cases z7 : k = 7
  · subst z7
    refine ok_t rfl ?_
    refine ok_if (fun q => ?_) (fun q => ?_)
    · exact ok_some ⟨(by (try simp only [lc_eq0, lc_lt0, lc_le0, lc_gt0, lc_ge0] at *); simp [jnv, MIN]; try omega), rfl⟩
    · exact ok_some ⟨(by (try simp only [lc_eq0, lc_lt0, lc_le0, lc_gt0, lc_ge0] at *); simp [jnv, MIN]; try omega), rfl⟩
  refine ok_f z7 ?_
  by_cases z8 : k = 8
  · subst z8
    refine ok_t rfl ?_
    refine ok_if (fun q => ?_) (fun q => ?_)
    · exact ok_some ⟨(by (try simp only [lc_eq0, lc_lt0, lc_le0, lc_gt0, lc_ge0] at *); simp [jnv, MIN]; try omega), rfl⟩
    · exact ok_some ⟨(by (try simp only [lc_eq0, lc_lt0, lc_le0, lc_gt0, lc_ge0] at *); simp [jnv, MIN]; try omega), rfl⟩
  refine ok_f z8 ?_
  by_cases z9 : k = 9
  · subst z9
    refine ok_t rfl ?_
    refine ok_if (fun q => ?_) (fun q => ?_)
    · exact ok_some ⟨(by (try simp only [lc_eq0, lc_lt0, lc_le0, lc_gt0, lc_ge0] at *); simp [jnv, MIN]; try omega), rfl⟩
    · exact ok_some ⟨(by (try simp only [lc_eq0, lc_lt0, lc_le0, lc_gt0, lc_ge0] at *); simp [jnv, MIN]; try omega), rfl⟩
  refine ok_f z9 ?_
  by_cases z10 : k = 10
  · subst z10
    refine ok_t rfl ?_
    refine ok_if (fun q => ?_) (fun q => ?_)
    · exact ok_some ⟨(by (try simp only [lc_eq0, lc_lt0, lc_le0, lc_gt0, lc_ge0] at *); simp [jnv, MIN]; try omega), rfl⟩
    · exact ok_some ⟨(by (try simp only [lc_eq0, lc_lt0, lc_le0, lc_gt0, lc_ge0] at *); simp [jnv, MIN]; try omega), rfl⟩
  refine ok_f z10 ?_
  by_cases z11 : k = 11
  · subst z11
    refine ok_t rfl ?_
    refine ok_ck (by omega) ?_
    exact ok_some ⟨(by (try simp only [lc_eq0, lc_lt0, lc_le0, lc_gt0, lc_ge0] at *); simp [jnv, MIN]; try omega), rfl⟩
  refine ok_f z11 ?_
  by_cases z12 : k = 12
  · subst z12
    refine ok_t rfl ?_
    refine ok_ck (by omega) ?_
    exact ok_some ⟨(by (try simp only [lc_eq0, lc_lt0, lc_le0, lc_gt0, lc_ge0] at *); simp [jnv, MIN]; try omega), rfl⟩
  refine ok_f z12 ?_
  by_cases z13 : k = 13
  · subst z13
    refine ok_t rfl ?_
    refine ok_if (fun q => ?_) (fun q => ?_)
    · have q := lc_eq0.mp q
      subst q
      refine ok_ck (by simp) ?_
      exact ok_some ⟨by simp [jnv], rfl⟩
    · have q : ¬ a = 0 := fun z => q (lc_eq0.mpr z)
      have t := td_n 1000000000000 (if 0 < a then a else -a)
      have t2 : (if 0 < a then a else -a) ≠ 0 := by split <;> omega
      refine ok_ck (by omega) (ok_ck (by omega) (ok_ck ⟨t2, by omega, by omega⟩ ?_))
      refine ok_if (fun q2 => ?_) (fun q2 => ?_)
      · have q2 := lc_le0.mp q2
        have m := mul_ok (a := a) (b := b) (fun _ => q2)
        refine ok_ck (by omega) ?_
        refine ok_some ⟨?_, rfl⟩
        have z : ¬ (a ≠ 0 ∧ Int.tdiv 1000000000000 (if 0 < a then a else -a) < (if 0 < b then b else -b)) := fun z => by have := z.2; omega
        unfold jnv
        rw [if_neg (by decide), if_neg (by decide), if_neg (by decide), if_neg (by decide), if_neg (by decide), if_neg (by decide), if_neg (by decide), if_neg (by decide), if_neg (by decide), if_neg (by decide), if_pos rfl, if_neg z]
        rfl
      · have q2 : ¬ (if 0 < b then b else -b) ≤ Int.tdiv 1000000000000 (if 0 < a then a else -a) := fun z => q2 (lc_le0.mpr z)
        refine ok_some ⟨?_, rfl⟩
        have z : (a ≠ 0 ∧ Int.tdiv 1000000000000 (if 0 < a then a else -a) < (if 0 < b then b else -b)) := ⟨q, by omega⟩
        unfold jnv
        rw [if_neg (by decide), if_neg (by decide), if_neg (by decide), if_neg (by decide), if_neg (by decide), if_neg (by decide), if_neg (by decide), if_neg (by decide), if_neg (by decide), if_neg (by decide), if_pos rfl, if_pos z]
        rfl
  refine ok_f z13 ?_
  by_cases z14 : k = 14
  · subst z14
    refine ok_t rfl ?_
    refine ok_if (fun q => ?_) (fun q => ?_)
    · have q := lc_eq0.mp q
      exact ok_some ⟨by simp [jnv, q, MIN], rfl⟩
    · have q : ¬ b = 0 := fun z => q (lc_eq0.mpr z)
      have t := td_n a b
      refine ok_ck ⟨q, by omega, by omega⟩ ?_
      exact ok_some ⟨by simp [jnv, q], rfl⟩
  refine ok_f z14 ?_
  exact ok_some ⟨by simp [jnv, MIN, z2, z3, z5, z6, z7, z8, z9, z10, z11, z12, z13, z14], rfl⟩
/-- the stack as a list, its top first -/
def ev (C : Ch) (N : Int → Int) : Nat → Int → List Int → Option (List Int)
  | 0, _, s => some s
  | n + 1, k, s => if C 33 k = 0 then ev C N n (k + 1) (C 34 k :: s) else if C 33 k = 1 then ev C N n (k + 1) (N (C 34 k) :: s) else if C 33 k = 4 then (match s with
      | a :: s' => ev C N n (k + 1) ((if a = 0 then 1 else 0) :: s')
      | [] => none) else (match s with
      | b :: a :: s' => (match jn (C 33 k) a b with
        | some v => ev C N n (k + 1) (v :: s')
        | none => none)
      | _ => none)
def evv : Option (List Int) → Int
  | some (v :: _) => v
  | _ => MIN
def stk (h : Hp) (r : Nat) (c : Int) : List Int → Prop
  | [] => True
  | a :: s => gI h r c s.length = a ∧ stk h r c s
theorem stk_set {h : Hp} {r : Nat} {c p v : Int} : ∀ {s : List Int}, stk h r c s → (s.length : Int) ≤ p → stk (sI h r c p v) r c s
  | [], _, _ => trivial
  | a :: s, q, hp => ⟨by rw [gI_nk (by simp only [List.length_cons] at hp; omega)]; exact q.1, stk_set q.2 (by simp only [List.length_cons] at hp; omega)⟩
theorem stk_nr {h : Hp} {r r2 : Nat} {c i p v : Int} (n : r ≠ r2) : ∀ {s : List Int}, stk h r c s → stk (sI h r2 i p v) r c s
  | [], _ => trivial
  | a :: s, q => ⟨by rw [gI_nr n]; exact q.1, stk_nr n q.2⟩
def W28 : Nat → Int → Int → Prop := fun r _ _ => r = 28
theorem jn_b {k a b v : Int} (e : jn k a b = some v) : bnd v := by
  unfold jn at e
  split at e
  · split at e
    · rename_i z; cases e; exact z
    · cases e
  · cases e
set_option maxHeartbeats 8000000 in
theorem p_X1_work {h0 : Hp} {c k0 k1 : Int} {C : Ch} {N : Int → Int} (q : isC h0 c C) (w : CW C) (a1 : 0 ≤ k0) (a2 : k0 ≤ k1) (a3 : k1 ≤ C 32 0) (hv : vd C (k1 - k0).toNat k0 0 = some 1) (hN : ∀ j, 0 ≤ j → j < 7 → gI h0 27 c j = N j) (bN : ∀ j, 0 ≤ j → j < 7 → bnd (N j)) :
    ok (f_X1_work c k0 k1 h0) (fun v h' => v = evv (ev C N (k1 - k0).toNat k0 []) ∧ Fr W28 h0 h') := by
  have w' := cw_K w
  have key : ∀ (t n : Nat) (h : Hp) (k top : Int) (s : List Int), (k1 - k).toNat = t → k0 ≤ k → k ≤ k1 → top = (s.length : Int) → (s.length : Int) ≤ k - k0 → 5 * t + 5 ≤ n → Fr W28 h0 h → stk h 28 c s → (∀ x ∈ s, bnd x) → vd C t k s.length = some 1 → ok (g_X1_work n 1 [c, k1, top, k] h) (fun v h' => v = evv (ev C N t k s) ∧ Fr W28 h0 h') := by
    intro t
    induction t with
    | zero =>
      intro n h k top s ht g1 g2 gt gs gn hF hS hB hD
      refine s_X1_work_1 (by omega) ?_
      unfold b_X1_work_1
      refine ok_t (by omega) ?_
      refine s_X1_work_8 (by omega) ?_
      unfold b_X1_work_8
      have e : s.length = 1 := by simpa [vd] using hD
      refine ok_t (by omega) (ok_ck (by omega) (ok_some ⟨?_, hF⟩))
      match s, e, hS with
      | [a], _, hS => exact hS.1
    | succ t ih =>
      intro n h k top s ht g1 g2 gt gs gn hF hS hB hD
      have k64 : k < 64 := by omega
      obtain ⟨e1, e2⟩ := ic_33 q k (by omega) (by omega)
      obtain ⟨c1, c2, c3, c4⟩ := cw_k w k (by omega) (by omega)
      have f1 : gI h 25 c k = C 33 k := (hF.1 25 c k (by unfold W28; omega)).trans e1
      have f2 : gI h 26 c k = C 34 k := (hF.1 26 c k (by unfold W28; omega)).trans e2
      have f3 : ∀ j, 0 ≤ j → j < 7 → gI h 27 c j = N j := fun j j1 j2 => (hF.1 27 c j (by unfold W28; omega)).trans (hN j j1 j2)
      have next : ∀ (m : Nat) (h' : Hp) (top' : Int) (s' : List Int), 5 * t + 6 ≤ m → top' = (s'.length : Int) → (s'.length : Int) ≤ k + 1 - k0 → Fr W28 h0 h' → stk h' 28 c s' → (∀ x ∈ s', bnd x) → vd C t (k + 1) s'.length = some 1 → ok (g_X1_work m 7 [c, k1, top', k] h') (fun v h'' => v = evv (ev C N t (k + 1) s') ∧ Fr W28 h0 h'') := by
        intro m h' top' s' m1 m2 m3 m4 m5 m6 m7
        refine s_X1_work_7 (by omega) ?_
        unfold b_X1_work_7
        exact ok_ck (by omega) (ih _ h' (k + 1) top' s' (by omega) (by omega) (by omega) m2 m3 (by omega) m4 m5 m6 m7)
      have push : ∀ (m : Nat) (x : Int), 5 * t + 7 ≤ m → bnd x → vd C t (k + 1) (s.length + 1) = some 1 → ok (g_X1_work m 4 [c, k1, top, k, x, top, c] h) (fun v h'' => v = evv (ev C N t (k + 1) (x :: s)) ∧ Fr W28 h0 h'') := by
        intro m x m1 m2 m3
        refine s_X1_work_4 (by omega) ?_
        unfold b_X1_work_4
        refine ok_ck (by omega) (ok_lt (ok_ck (by omega) ?_))
        refine next _ _ _ (x :: s) (by omega) (by simp only [List.length_cons]; omega) (by simp only [List.length_cons]; omega) (fr_sI hF rfl) ⟨by rw [gt, gI_eq], by rw [gt]; exact stk_set hS (Int.le_refl _)⟩ (List.forall_mem_cons.mpr ⟨m2, hB⟩) m3
      refine s_X1_work_1 (by omega) ?_
      unfold b_X1_work_1
      refine ok_f (by omega) (ok_f (by omega) (ok_ck (by omega) (ok_lt ?_)))
      rw [f1]
      unfold vd at hD
      by_cases z0 : C 33 k = 0
      · rw [if_pos (Or.inl z0)] at hD
        have ee : ev C N (t + 1) k s = ev C N t (k + 1) (C 34 k :: s) := by simp only [ev]; rw [if_pos z0]
        rw [ee]
        refine ok_t z0 ?_
        refine s_X1_work_2 (by omega) ?_
        unfold b_X1_work_2
        refine ok_t (by omega) (ok_ck (by omega) (ok_lt (ok_f (by omega) ?_)))
        refine s_X1_work_3 (by omega) ?_
        unfold b_X1_work_3
        rw [f2]
        exact push _ _ (by omega) (by have := c3 z0; unfold bnd; omega) hD
      · refine ok_f z0 ?_
        by_cases z1 : C 33 k = 1
        · rw [if_pos (Or.inr z1)] at hD
          have ee : ev C N (t + 1) k s = ev C N t (k + 1) (N (C 34 k) :: s) := by simp only [ev]; rw [if_neg z0, if_pos z1]
          rw [ee]
          refine ok_t z1 ?_
          refine s_X1_work_2 (by omega) ?_
          unfold b_X1_work_2
          have d := c4 z1
          rw [f2]
          refine ok_t (by omega) (ok_ck (by omega) (ok_lt (ok_t (by omega) (ok_f (by omega) (ok_f (by omega) (ok_ck (by omega) ?_))))))
          rw [f3 _ d.1 d.2]
          exact push _ _ (by omega) (bN _ d.1 d.2) hD
        · rw [if_neg (by omega)] at hD
          refine ok_f z1 ?_
          by_cases z4 : C 33 k = 4
          · rw [if_pos z4] at hD
            refine ok_t z4 ?_
            match s, hS, hB, hD, gt, gs with
            | [], hS, hB, hD, gt, gs => simp at hD
            | a :: s, hS, hB, hD, gt, gs =>
              simp only [List.length_cons] at hD gt gs
              rw [if_pos (by omega)] at hD
              have ee : ev C N (t + 1) k (a :: s) = ev C N t (k + 1) ((if a = 0 then 1 else 0) :: s) := by simp only [ev]; rw [if_neg z0, if_neg z1, if_pos z4]
              rw [ee]
              refine ok_f (by omega) (ok_ck (by omega) (ok_ck (by omega) (ok_ck (by omega) ?_)))
              have ea : gI h 28 c (top - 1) = a := by rw [← hS.1]; congr 1; omega
              rw [ea]
              have fin : ∀ (m : Nat) (x : Int), 5 * t + 7 ≤ m → (x = 0 ∨ x = 1) → ok (g_X1_work m 5 [c, k1, top, k, x, top - 1, c] h) (fun v h'' => v = evv (ev C N t (k + 1) (x :: s)) ∧ Fr W28 h0 h'') := by
                intro m x m1 m2
                refine s_X1_work_5 (by omega) ?_
                unfold b_X1_work_5
                refine ok_ck (by omega) (ok_lt ?_)
                have et : top - 1 = (s.length : Int) := by omega
                rw [et]
                exact next _ _ _ (x :: s) (by omega) (by simp only [List.length_cons]; omega) (by simp only [List.length_cons]; omega) (fr_sI hF rfl) ⟨by rw [gI_eq], stk_set hS.2 (Int.le_refl _)⟩ (List.forall_mem_cons.mpr ⟨by unfold bnd; omega, fun x hx => hB x (List.mem_cons_of_mem _ hx)⟩) hD
              refine ok_if (fun z => ?_) (fun z => ?_)
              · have z := lc_eq0.mp z
                rw [show (if a = 0 then (1 : Int) else 0) = 1 from if_pos z]
                exact fin _ 1 (by omega) (Or.inr rfl)
              · have z : ¬ a = 0 := fun y => z (lc_eq0.mpr y)
                rw [show (if a = 0 then (1 : Int) else 0) = 0 from if_neg z]
                exact fin _ 0 (by omega) (Or.inl rfl)
          · rw [if_neg z4] at hD
            refine ok_f z4 ?_
            match s, hS, hB, hD, gt, gs with
            | [], hS, hB, hD, gt, gs => simp at hD
            | [b], hS, hB, hD, gt, gs => simp at hD
            | b :: a :: s, hS, hB, hD, gt, gs =>
              simp only [List.length_cons] at hD gt gs
              rw [if_pos (by omega)] at hD
              refine s_X1_work_6 (by omega) ?_
              unfold b_X1_work_6
              refine ok_f (by omega) (ok_ck (by omega) (ok_ck (by omega) (ok_ck (by omega) (ok_ck (by omega) ?_))))
              have et : top + (-1) - 1 = (s.length : Int) := by omega
              have et2 : top + (-1) = ((s.length + 1 : Nat) : Int) := by omega
              have ea : gI h 28 c (s.length : Int) = a := hS.2.1
              have eb : gI h 28 c ((s.length + 1 : Nat) : Int) = b := hS.1
              rw [et, et2, ea, eb]
              have ba : bnd a := hB a (by simp)
              have bb : bnd b := hB b (by simp)
              refine ok_be (p_X1_join ba bb) ?_
              have ee : ev C N (t + 1) k (b :: a :: s) = (match jn (C 33 k) a b with | some v => ev C N t (k + 1) (v :: s) | none => none) := by simp only [ev]; rw [if_neg z0, if_neg z1, if_neg z4]
              cases ej : jnv (C 33 k) a b with
              | none =>
                have e2 : jn (C 33 k) a b = none := by unfold jn; rw [ej]
                rw [e2] at ee
                rw [ee]
                refine ok_f (fun z => ?_) (ok_f (fun z => ?_) (ok_some ⟨rfl, hF⟩))
                · have := lc_gt0.mp z; simp only [Option.getD_none, MIN] at this; omega
                · have := lc_ge0.mp z; simp only [Option.getD_none, MIN] at this; omega
              | some v =>
                simp only [Option.getD_some]
                by_cases bv : bnd v
                · have e2 : jn (C 33 k) a b = some v := by unfold jn; rw [ej]; exact if_pos bv
                  rw [e2] at ee
                  rw [ee]
                  refine ok_f (fun z => by have := lc_gt0.mp z; omega) (ok_t (lc_ge0.mpr (by omega)) (ok_ck (by omega) (ok_ck (by omega) (ok_lt ?_))))
                  refine next _ _ _ (v :: s) (by omega) (by simp only [List.length_cons]) (by simp only [List.length_cons]; omega) (fr_sI hF rfl) ⟨by rw [gI_eq], stk_set hS.2.2 (Int.le_refl _)⟩ (List.forall_mem_cons.mpr ⟨bv, fun x hx => hB x (List.mem_cons_of_mem _ (List.mem_cons_of_mem _ hx))⟩) (by simpa using hD)
                · have e2 : jn (C 33 k) a b = none := by unfold jn; rw [ej]; exact if_neg bv
                  rw [e2] at ee
                  rw [ee]
                  refine ok_if (fun z => ok_some ⟨rfl, hF⟩) (fun z => ok_f (fun y => bv ⟨?_, ?_⟩) (ok_some ⟨rfl, hF⟩))
                  · have := lc_ge0.mp y; omega
                  · have : ¬ (1000000000000 < v) := fun x => z (lc_gt0.mpr x); omega
  unfold f_X1_work
  refine s_X1_work_0 (by decide) ?_
  unfold b_X1_work_0
  refine ok_lt ?_
  have em : max 0 k0 = k0 := by omega
  rw [em]
  exact key _ _ h0 k0 0 [] rfl (by omega) a2 rfl (by simp) (by unfold FU; omega) fr_rf trivial (by simp) hv
/-- a good E leaves one number, or none -/
theorem ev_1 {C : Ch} {N : Int → Int} : ∀ (t : Nat) (k : Int) (s s2 : List Int) (d : Nat), vd C t k s.length = some d → ev C N t k s = some s2 → s2.length = d
  | 0, k, s, s2, d, a, b => by
    simp only [vd, Option.some.injEq] at a
    simp only [ev, Option.some.injEq] at b
    rw [← b]; exact a
  | t + 1, k, s, s2, d, a, b => by
    unfold vd at a
    unfold ev at b
    by_cases z0 : C 33 k = 0
    · rw [if_pos (Or.inl z0)] at a
      rw [if_pos z0] at b
      exact ev_1 t _ _ _ d a b
    · rw [if_neg z0] at b
      by_cases z1 : C 33 k = 1
      · rw [if_pos (Or.inr z1)] at a
        rw [if_pos z1] at b
        exact ev_1 t _ _ _ d a b
      · rw [if_neg (by omega)] at a
        rw [if_neg z1] at b
        by_cases z4 : C 33 k = 4
        · rw [if_pos z4] at a b
          match s, a, b with
          | [], a, b => simp at a
          | x :: s, a, b =>
            rw [if_pos (by simp)] at a
            exact ev_1 t _ _ _ d (by simpa using a) b
        · rw [if_neg z4] at a b
          match s, a, b with
          | [], a, b => simp at a
          | [x], a, b => simp at a
          | y :: x :: s, a, b =>
            rw [if_pos (by simp)] at a
            simp only at b
            cases ej : jn (C 33 k) x y with
            | none => rw [ej] at b; cases b
            | some v => rw [ej] at b; exact ev_1 t _ (v :: s) _ d (by simpa using a) b
