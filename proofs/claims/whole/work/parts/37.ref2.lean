/-! THE REFERENCE, 2: E worked out -/
def WkW : Nat → Int → Int → Prop := fun r _ k => r = 99 ∨ (r = 12 ∧ k = 60)
section
variable {h : Hp} {s m i x k p tw ta a b : Int} {C V : Ch}
theorem p_X12_is : f_X12_is x h = some (if x = 0 then 0 else 1, h) := by
  refine ok_eq.mp ?_
  refine fuv_X12_is (fun nFU hFU => ?_)
  refine s_X12_is_0 (by first | omega | decide) ?_
  unfold b_X12_is_0
  exact ok_if (fun y => ok_some ⟨by rw [if_pos y], rfl⟩) (fun y => ok_some ⟨by rw [if_neg y], rfl⟩)
/-- not -/
theorem p_works_not {s : List Int} (hs : stk h 99 0 (a :: s)) (hl : gI h 12 0 60 = s.length + 1) (hn : s.length < 64) : ok (f_X12_works 260 h) (fun r h' => r = 1 ∧ stk h' 99 0 ((if a = 0 then 1 else 0) :: s) ∧ gI h' 12 0 60 = s.length + 1 ∧ Fr WkW h h') := by
  have e : gI h 12 0 60 - 1 = (s.length : Int) := by omega
  have ea : gI h 99 0 (s.length : Int) = a := hs.1
  refine fuv_X12_works (fun nFU hFU => ?_)
  refine s_X12_works_0 (by first | omega | decide) ?_
  unfold b_X12_works_0
  rw [e, ea]
  have go : ∀ (n : Nat) (y : Int), 5 ≤ n → (if y = 0 then (0 : Int) else 1) = (if a = 0 then 1 else 0) → ok (g_X12_works n 1 [y, (s.length : Int)] h) (fun r h' => r = 1 ∧ stk h' 99 0 ((if a = 0 then 1 else 0) :: s) ∧ gI h' 12 0 60 = s.length + 1 ∧ Fr WkW h h') := by
    intro n y hn2 hy
    refine s_X12_works_1 (by omega) ?_
    unfold b_X12_works_1
    refine ok_be p_X12_is (ok_ck (by omega) (ok_lt (ok_some ⟨rfl, ⟨?_, stk_set hs.2 (Int.le_refl _)⟩, ?_, fr_sI fr_rf (Or.inl rfl)⟩)))
    · rw [gI_eq]; exact hy
    · rw [gI_nr (by first | omega | decide)]; exact hl
  refine ok_ck (by omega) (ok_ck (by omega) (ok_lt (ok_t rfl (ok_ck (by omega) (ok_if (fun y => go _ 1 (by first | omega | decide) ?_) (fun y => go _ 0 (by first | omega | decide) ?_))))))
  · rw [if_neg (by first | omega | decide), if_pos (lc_eq0.mp y)]
  · rw [if_pos rfl, if_neg (fun z => y (lc_eq0.mpr z))]
/-! what joins two -/
set_option maxHeartbeats 8000000 in
theorem p_works_j {s : List Int} (hk : 2 ≤ k ∧ k ≤ 14 ∧ k ≠ 4) (hs : stk h 99 0 (b :: a :: s)) (ha : bnd a) (hb : bnd b) (hl : gI h 12 0 60 = s.length + 2) (hn : s.length < 62) : ok (f_X12_works (sgk k) h) (fun r h' => (∀ v, jn k a b = some v → r = 1 ∧ stk h' 99 0 (v :: s) ∧ gI h' 12 0 60 = s.length + 1) ∧ (jn k a b = none → r = 0) ∧ Fr WkW h h') := by
  have e1 : gI h 12 0 60 - 1 = ((s.length + 1 : Nat) : Int) := by omega
  have e2 : gI h 12 0 60 - 2 = (s.length : Int) := by omega
  have eb : gI h 99 0 ((s.length + 1 : Nat) : Int) = b := hs.1
  have ea : gI h 99 0 (s.length : Int) = a := hs.2.1
  have F1 : Fr WkW h (sI h 12 0 60 ((s.length + 1 : Nat) : Int)) := fr_sI fr_rf (Or.inr ⟨rfl, rfl⟩)
  have no : jnv k a b = none → ok (some ((0 : Int), sI h 12 0 60 ((s.length + 1 : Nat) : Int))) (fun r h' => (∀ v, jn k a b = some v → r = 1 ∧ stk h' 99 0 (v :: s) ∧ gI h' 12 0 60 = s.length + 1) ∧ (jn k a b = none → r = 0) ∧ Fr WkW h h') := by
    intro e
    have e3 : jn k a b = none := by unfold jn; rw [e]
    exact ok_some ⟨fun v z => (by rw [e3] at z; cases z), fun _ => rfl, F1⟩
  have go : ∀ (n : Nat) (v : Int), 5 ≤ n → jnv k a b = some v → ok (g_X12_works n 13 [v] (sI h 12 0 60 ((s.length + 1 : Nat) : Int))) (fun r h' => (∀ v, jn k a b = some v → r = 1 ∧ stk h' 99 0 (v :: s) ∧ gI h' 12 0 60 = s.length + 1) ∧ (jn k a b = none → r = 0) ∧ Fr WkW h h') := by
    intro n v hn2 hv
    refine s_X12_works_13 (by omega) ?_
    unfold b_X12_works_13
    rw [gI_eq]
    have e3 : ((s.length + 1 : Nat) : Int) - 1 = (s.length : Int) := by omega
    rw [e3]
    have F2 : Fr WkW h (sI (sI h 12 0 60 ((s.length + 1 : Nat) : Int)) 99 0 (s.length : Int) v) := fr_sI F1 (Or.inl rfl)
    refine ok_ck (by omega) (ok_ck (by omega) (ok_lt ?_))
    by_cases y : bnd v
    · have ej : jn k a b = some v := by unfold jn; rw [hv]; exact if_pos y
      refine ok_f (fun z => by have := lc_gt0.mp z; omega) (ok_f (fun z => by have := lc_lt0.mp z; omega) (ok_some ⟨fun v2 z => ?_, fun z => (by rw [ej] at z; cases z), F2⟩))
      rw [ej] at z
      cases z
      refine ⟨rfl, ⟨gI_eq, stk_set (stk_nr (by decide) hs.2.2) (Int.le_refl _)⟩, ?_⟩
      rw [gI_nr (by decide), gI_eq]; omega
    · have ej : jn k a b = none := by unfold jn; rw [hv]; exact if_neg y
      refine ok_if (fun z => ok_some ⟨fun v2 z => (by rw [ej] at z; cases z), fun _ => rfl, F2⟩) (fun z => ok_t ?_ (ok_some ⟨fun v2 z => (by rw [ej] at z; cases z), fun _ => rfl, F2⟩))
      refine lc_lt0.mpr ?_
      have : ¬ 1000000000000 < v := fun x => z (lc_gt0.mpr x)
      unfold bnd at y; omega
  have is1 : ∀ (n : Nat) (y v : Int), 7 ≤ n → jnv k a b = some v → v = (if y = 0 then 0 else 1) → ∀ (B : Nat), (B = 3 ∨ B = 4 ∨ B = 5 ∨ B = 6 ∨ B = 7 ∨ B = 8 ∨ B = 10 ∨ B = 12) → ok (g_X12_works n B [y] (sI h 12 0 60 ((s.length + 1 : Nat) : Int))) (fun r h' => (∀ v, jn k a b = some v → r = 1 ∧ stk h' 99 0 (v :: s) ∧ gI h' 12 0 60 = s.length + 1) ∧ (jn k a b = none → r = 0) ∧ Fr WkW h h') := by
    intro n y v hn2 hv hy B hB
    rcases hB with e | e | e | e | e | e | e | e <;> subst e
    · refine s_X12_works_3 (by omega) ?_
      unfold b_X12_works_3
      refine ok_be p_X12_is ?_
      rw [← hy]
      exact go _ _ (by omega) hv
    · refine s_X12_works_4 (by omega) ?_
      unfold b_X12_works_4
      refine ok_be p_X12_is ?_
      rw [← hy]
      exact go _ _ (by omega) hv
    · refine s_X12_works_5 (by omega) ?_
      unfold b_X12_works_5
      refine ok_be p_X12_is ?_
      rw [← hy]
      exact go _ _ (by omega) hv
    · refine s_X12_works_6 (by omega) ?_
      unfold b_X12_works_6
      refine ok_be p_X12_is ?_
      rw [← hy]
      exact go _ _ (by omega) hv
    · refine s_X12_works_7 (by omega) ?_
      unfold b_X12_works_7
      refine ok_be p_X12_is ?_
      rw [← hy]
      exact go _ _ (by omega) hv
    · refine s_X12_works_8 (by omega) ?_
      unfold b_X12_works_8
      refine ok_be p_X12_is ?_
      rw [← hy]
      exact go _ _ (by omega) hv
    · refine s_X12_works_10 (by omega) ?_
      unfold b_X12_works_10
      refine ok_be p_X12_is ?_
      rw [← hy]
      exact go _ _ (by omega) hv
    · refine s_X12_works_12 (by omega) ?_
      unfold b_X12_works_12
      refine ok_be p_X12_is ?_
      rw [← hy]
      exact go _ _ (by omega) hv
  refine fuv_X12_works (fun nFU hFU => ?_)
  refine s_X12_works_0 (by first | omega | decide) ?_
  unfold b_X12_works_0
  rw [e1, e2, ea, eb]
  have ek : k = 2 ∨ k = 3 ∨ k = 5 ∨ k = 6 ∨ k = 7 ∨ k = 8 ∨ k = 9 ∨ k = 10 ∨ k = 11 ∨ k = 12 ∨ k = 13 ∨ k = 14 := by omega
  rcases ek with e | e | e | e | e | e | e | e | e | e | e | e <;> subst e
  · refine ok_ck (by omega) (ok_ck (by omega) (ok_lt (ok_f (by first | omega | decide) (ok_ck (by omega) (ok_ck (by omega) (ok_lt (ok_ck (by omega) (ok_lt ?_))))))))
    refine ok_f (by first | omega | decide) ?_
    refine ok_f (by first | omega | decide) ?_
    refine ok_f (by first | omega | decide) ?_
    refine ok_f (by first | omega | decide) ?_
    refine ok_f (by first | omega | decide) ?_
    refine ok_f (by first | omega | decide) ?_
    refine ok_f (by first | omega | decide) ?_
    refine ok_f (by first | omega | decide) ?_
    refine ok_f (by first | omega | decide) ?_
    refine ok_f (by first | omega | decide) ?_
    refine ok_f (by first | omega | decide) ?_
    have z11 : ¬ (a = 0 ∧ b = 0) → ∀ n : Nat, 20 ≤ n → ok (g_X12_works n 11 [] (sI h 12 0 60 ((s.length + 1 : Nat) : Int))) _ := fun q n hn2 => by
      refine s_X12_works_11 (by omega) ?_
      unfold b_X12_works_11
      exact is1 _ 1 1 (by omega) (by unfold jnv; rw [if_pos rfl, if_neg q]) (by first | omega | decide) 12 (by first | omega | decide)
    refine ok_if (fun z => ok_if (fun z2 => is1 _ 0 0 (by first | omega | decide) (by unfold jnv; rw [if_pos rfl, if_pos ⟨lc_eq0.mp z, lc_eq0.mp z2⟩]) (by first | omega | decide) 12 (by first | omega | decide)) (fun z2 => z11 (fun q => z2 (lc_eq0.mpr q.2)) _ (by first | omega | decide))) (fun z => z11 (fun q => z (lc_eq0.mpr q.1)) _ (by first | omega | decide))
  · refine ok_ck (by omega) (ok_ck (by omega) (ok_lt (ok_f (by first | omega | decide) (ok_ck (by omega) (ok_ck (by omega) (ok_lt (ok_ck (by omega) (ok_lt ?_))))))))
    refine ok_f (by first | omega | decide) ?_
    refine ok_f (by first | omega | decide) ?_
    refine ok_f (by first | omega | decide) ?_
    refine ok_f (by first | omega | decide) ?_
    refine ok_f (by first | omega | decide) ?_
    refine ok_f (by first | omega | decide) ?_
    refine ok_f (by first | omega | decide) ?_
    refine ok_f (by first | omega | decide) ?_
    refine ok_f (by first | omega | decide) ?_
    refine ok_f (by first | omega | decide) ?_
    refine ok_t (by first | omega | decide) ?_
    have z9 : (a = 0 ∨ b = 0) → ∀ n : Nat, 20 ≤ n → ok (g_X12_works n 9 [] (sI h 12 0 60 ((s.length + 1 : Nat) : Int))) _ := fun q n hn2 => by
      refine s_X12_works_9 (by omega) ?_
      unfold b_X12_works_9
      exact is1 _ 0 0 (by omega) (by simp [jnv, q]) (by first | omega | decide) 10 (by first | omega | decide)
    refine ok_if (fun z => z9 (Or.inl (lc_eq0.mp z)) _ (by first | omega | decide)) (fun z => ok_if (fun z2 => z9 (Or.inr (lc_eq0.mp z2)) _ (by first | omega | decide)) (fun z2 => is1 _ 1 1 (by first | omega | decide) ?_ (by first | omega | decide) 10 (by first | omega | decide)))
    have z : ¬ a = 0 := fun q => z (lc_eq0.mpr q)
    have z2 : ¬ b = 0 := fun q => z2 (lc_eq0.mpr q)
    simp [jnv, z, z2]
  · refine ok_ck (by omega) (ok_ck (by omega) (ok_lt (ok_f (by first | omega | decide) (ok_ck (by omega) (ok_ck (by omega) (ok_lt (ok_ck (by omega) (ok_lt ?_))))))))
    refine ok_f (by first | omega | decide) ?_
    refine ok_f (by first | omega | decide) ?_
    refine ok_f (by first | omega | decide) ?_
    refine ok_f (by first | omega | decide) ?_
    refine ok_t (by first | omega | decide) ?_
    refine ok_if (fun z => is1 _ 0 0 (by first | omega | decide) (by have z := lc_ge0.mp z; simp [jnv]; omega) (by first | omega | decide) 3 (by first | omega | decide)) (fun z => is1 _ 1 1 (by first | omega | decide) (by have z : ¬ (b ≤ a) := fun q => z (lc_ge0.mpr q); simp [jnv]; omega) (by first | omega | decide) 3 (by first | omega | decide))
  · refine ok_ck (by omega) (ok_ck (by omega) (ok_lt (ok_f (by first | omega | decide) (ok_ck (by omega) (ok_ck (by omega) (ok_lt (ok_ck (by omega) (ok_lt ?_))))))))
    refine ok_f (by first | omega | decide) ?_
    refine ok_f (by first | omega | decide) ?_
    refine ok_f (by first | omega | decide) ?_
    refine ok_f (by first | omega | decide) ?_
    refine ok_f (by first | omega | decide) ?_
    refine ok_f (by first | omega | decide) ?_
    refine ok_f (by first | omega | decide) ?_
    refine ok_t (by first | omega | decide) ?_
    refine ok_if (fun z => is1 _ 0 0 (by first | omega | decide) (by have z := lc_gt0.mp z; simp [jnv]; omega) (by first | omega | decide) 6 (by first | omega | decide)) (fun z => is1 _ 1 1 (by first | omega | decide) (by have z : ¬ (b < a) := fun q => z (lc_gt0.mpr q); simp [jnv]; omega) (by first | omega | decide) 6 (by first | omega | decide))
  · refine ok_ck (by omega) (ok_ck (by omega) (ok_lt (ok_f (by first | omega | decide) (ok_ck (by omega) (ok_ck (by omega) (ok_lt (ok_ck (by omega) (ok_lt ?_))))))))
    refine ok_f (by first | omega | decide) ?_
    refine ok_f (by first | omega | decide) ?_
    refine ok_f (by first | omega | decide) ?_
    refine ok_f (by first | omega | decide) ?_
    refine ok_f (by first | omega | decide) ?_
    refine ok_t (by first | omega | decide) ?_
    refine ok_if (fun z => is1 _ 1 1 (by first | omega | decide) (by have z := lc_eq0.mp z; simp [jnv]; omega) (by first | omega | decide) 5 (by first | omega | decide)) (fun z => is1 _ 0 0 (by first | omega | decide) (by have z : ¬ (a = b) := fun q => z (lc_eq0.mpr q); simp [jnv]; omega) (by first | omega | decide) 5 (by first | omega | decide))
  · refine ok_ck (by omega) (ok_ck (by omega) (ok_lt (ok_f (by first | omega | decide) (ok_ck (by omega) (ok_ck (by omega) (ok_lt (ok_ck (by omega) (ok_lt ?_))))))))
    refine ok_f (by first | omega | decide) ?_
    refine ok_f (by first | omega | decide) ?_
    refine ok_f (by first | omega | decide) ?_
    refine ok_f (by first | omega | decide) ?_
    refine ok_f (by first | omega | decide) ?_
    refine ok_f (by first | omega | decide) ?_
    refine ok_f (by first | omega | decide) ?_
    refine ok_f (by first | omega | decide) ?_
    refine ok_t (by first | omega | decide) ?_
    refine ok_if (fun z => is1 _ 0 0 (by first | omega | decide) (by have z := lc_eq0.mp z; simp [jnv]; omega) (by first | omega | decide) 8 (by first | omega | decide)) (fun z => is1 _ 1 1 (by first | omega | decide) (by have z : ¬ (a = b) := fun q => z (lc_eq0.mpr q); simp [jnv]; omega) (by first | omega | decide) 8 (by first | omega | decide))
  · refine ok_ck (by omega) (ok_ck (by omega) (ok_lt (ok_f (by first | omega | decide) (ok_ck (by omega) (ok_ck (by omega) (ok_lt (ok_ck (by omega) (ok_lt ?_))))))))
    refine ok_f (by first | omega | decide) ?_
    refine ok_f (by first | omega | decide) ?_
    refine ok_f (by first | omega | decide) ?_
    refine ok_f (by first | omega | decide) ?_
    refine ok_f (by first | omega | decide) ?_
    refine ok_f (by first | omega | decide) ?_
    refine ok_f (by first | omega | decide) ?_
    refine ok_f (by first | omega | decide) ?_
    refine ok_f (by first | omega | decide) ?_
    refine ok_t (by first | omega | decide) ?_
    refine ok_if (fun z => is1 _ 0 0 (by first | omega | decide) (by have z := lc_lt0.mp z; simp [jnv]; omega) (by first | omega | decide) 7 (by first | omega | decide)) (fun z => is1 _ 1 1 (by first | omega | decide) (by have z : ¬ (a < b) := fun q => z (lc_lt0.mpr q); simp [jnv]; omega) (by first | omega | decide) 7 (by first | omega | decide))
  · refine ok_ck (by omega) (ok_ck (by omega) (ok_lt (ok_f (by first | omega | decide) (ok_ck (by omega) (ok_ck (by omega) (ok_lt (ok_ck (by omega) (ok_lt ?_))))))))
    refine ok_f (by first | omega | decide) ?_
    refine ok_f (by first | omega | decide) ?_
    refine ok_f (by first | omega | decide) ?_
    refine ok_f (by first | omega | decide) ?_
    refine ok_f (by first | omega | decide) ?_
    refine ok_f (by first | omega | decide) ?_
    refine ok_t (by first | omega | decide) ?_
    refine ok_if (fun z => is1 _ 0 0 (by first | omega | decide) (by have z := lc_le0.mp z; simp [jnv]; omega) (by first | omega | decide) 4 (by first | omega | decide)) (fun z => is1 _ 1 1 (by first | omega | decide) (by have z : ¬ (a ≤ b) := fun q => z (lc_le0.mpr q); simp [jnv]; omega) (by first | omega | decide) 4 (by first | omega | decide))
  · refine ok_ck (by omega) (ok_ck (by omega) (ok_lt (ok_f (by first | omega | decide) (ok_ck (by omega) (ok_ck (by omega) (ok_lt (ok_ck (by omega) (ok_lt ?_))))))))
    refine ok_f (by first | omega | decide) ?_
    refine ok_t (by first | omega | decide) ?_
    refine ok_ck (by omega) (ok_lt (go _ _ (by first | omega | decide) (by simp [jnv])))
  · refine ok_ck (by omega) (ok_ck (by omega) (ok_lt (ok_f (by first | omega | decide) (ok_ck (by omega) (ok_ck (by omega) (ok_lt (ok_ck (by omega) (ok_lt ?_))))))))
    refine ok_f (by first | omega | decide) ?_
    refine ok_f (by first | omega | decide) ?_
    refine ok_t (by first | omega | decide) ?_
    refine ok_ck (by omega) (ok_lt (go _ _ (by first | omega | decide) (by simp [jnv])))
  · refine ok_ck (by omega) (ok_ck (by omega) (ok_lt (ok_f (by first | omega | decide) (ok_ck (by omega) (ok_ck (by omega) (ok_lt (ok_ck (by omega) (ok_lt ?_))))))))
    refine ok_t (by first | omega | decide) ?_
    have two : (a ≠ 0 → (if 0 < b then b else -b) ≤ Int.tdiv 1000000000000 (if 0 < a then a else -a)) → ∀ n : Nat, 20 ≤ n → ok (g_X12_works n 2 [b, a] (sI h 12 0 60 ((s.length + 1 : Nat) : Int))) _ := fun q n hn2 => by
      have m := mul_ok q
      refine s_X12_works_2 (by omega) ?_
      unfold b_X12_works_2
      refine ok_ck (by omega) (ok_lt (go _ _ (by omega) ?_))
      unfold jnv
      rw [if_neg (by first | omega | decide), if_neg (by first | omega | decide), if_neg (by first | omega | decide), if_neg (by first | omega | decide), if_neg (by first | omega | decide), if_neg (by first | omega | decide), if_neg (by first | omega | decide), if_neg (by first | omega | decide), if_neg (by first | omega | decide), if_neg (by first | omega | decide), if_pos rfl, if_neg (fun z => by have := q z.1; have := z.2; omega)]
    refine ok_if (fun z => two (fun q => absurd (lc_eq0.mp z) q) _ (by first | omega | decide)) (fun z => ?_)
    have z : ¬ a = 0 := fun q => z (lc_eq0.mpr q)
    have t := td_n 1000000000000 (if 0 < a then a else -a)
    have t2 : (if 0 < a then a else -a) ≠ 0 := by split <;> omega
    refine ok_ck (by omega) (ok_ck (by omega) (ok_ck ⟨t2, by omega, by omega⟩ (ok_if (fun z2 => two (fun _ => lc_le0.mp z2) _ (by first | omega | decide)) (fun z2 => no ?_))))
    have z2 : ¬ (if 0 < b then b else -b) ≤ Int.tdiv 1000000000000 (if 0 < a then a else -a) := fun q => z2 (lc_le0.mpr q)
    unfold jnv
    rw [if_neg (by first | omega | decide), if_neg (by first | omega | decide), if_neg (by first | omega | decide), if_neg (by first | omega | decide), if_neg (by first | omega | decide), if_neg (by first | omega | decide), if_neg (by first | omega | decide), if_neg (by first | omega | decide), if_neg (by first | omega | decide), if_neg (by first | omega | decide), if_pos rfl, if_pos ⟨z, by omega⟩]
  · refine ok_ck (by omega) (ok_ck (by omega) (ok_lt (ok_f (by first | omega | decide) (ok_ck (by omega) (ok_ck (by omega) (ok_lt (ok_ck (by omega) (ok_lt ?_))))))))
    refine ok_f (by first | omega | decide) ?_
    refine ok_f (by first | omega | decide) ?_
    refine ok_f (by first | omega | decide) ?_
    refine ok_t (by first | omega | decide) ?_
    refine ok_if (fun z => no (by have z := lc_eq0.mp z; simp [jnv, z])) (fun z => ?_)
    have z : ¬ b = 0 := fun q => z (lc_eq0.mpr q)
    have t := td_n a b
    exact ok_ck ⟨z, by omega, by omega⟩ (ok_lt (go _ _ (by first | omega | decide) (by simp [jnv, z])))
/-! a mouth's E -/
set_option maxHeartbeats 8000000 in
theorem p_X12_goes {h0 : Hp} {N : Int → Int} (q : isR h0 C) (w : CW C) (i1 : 0 ≤ i) (i2 : i < sz C) (hN : ∀ j, 0 ≤ j → j < 7 → gI h0 98 0 j = N j) (bN : ∀ j, 0 ≤ j → j < 7 → bnd (N j)) :
    ok (f_X12_goes (sl C i) h0) (fun r h' => ((ev C N (C 31 i - C 30 i).toNat (C 30 i) [] = none ∧ r = 0) ∨ (∃ y, ev C N (C 31 i - C 30 i).toNat (C 30 i) [] = some [y] ∧ r = 1 ∧ gI h' 99 0 0 = y)) ∧ Fr WkW h0 h') := by
  obtain ⟨-, -, -, -, -, -, k1, k2⟩ := ir_m q i i1 i2
  have cm := cw_m w i i1 i2
  have cK := cw_K w
  have cv := cw_v w i i1 i2
  have sr := sl_r w i1 i2
  have key : ∀ (t n : Nat) (h : Hp) (k : Int) (s : List Int), (C 31 i - k).toNat = t → C 30 i ≤ k → k ≤ C 31 i → gI h 12 0 60 = (s.length : Int) → (s.length : Int) ≤ k - C 30 i → 5 * t + 5 ≤ n → Fr WkW h0 h → stk h 99 0 s → (∀ x ∈ s, bnd x) → vd C t k s.length = some 1 → ok (g_X12_goes n 1 [sl C i, k] h) (fun r h' => ((ev C N t k s = none ∧ r = 0) ∨ (∃ y, ev C N t k s = some [y] ∧ r = 1 ∧ gI h' 99 0 0 = y)) ∧ Fr WkW h0 h') := by
    intro t
    induction t with
    | zero =>
      intro n h k s ht g1 g2 gt gs gn hF hS hB hD
      have f80 : gI h 80 0 (sl C i) = C 31 i := (hF.1 80 0 _ (by unfold WkW; omega)).trans k2
      refine s_X12_goes_1 (by omega) ?_
      unfold b_X12_goes_1
      rw [f80]
      have e : s.length = 1 := by simpa [vd] using hD
      refine ok_ck (by omega) (ok_t (by omega) (ok_some ⟨Or.inr ?_, hF⟩))
      match s, e, hS with
      | [y], _, hS => exact ⟨y, rfl, rfl, hS.1⟩
    | succ t ih =>
      intro n h k s ht g1 g2 gt gs gn hF hS hB hD
      have k64 : k < 64 := by omega
      have f80 : gI h 80 0 (sl C i) = C 31 i := (hF.1 80 0 _ (by unfold WkW; omega)).trans k2
      have f81 : gI h 81 0 k = gI h0 81 0 k := hF.1 81 0 _ (by unfold WkW; omega)
      have f82 : gI h 82 0 k = gI h0 82 0 k := hF.1 82 0 _ (by unfold WkW; omega)
      have f98 : ∀ j, 0 ≤ j → j < 7 → gI h 98 0 j = N j := fun j j1 j2 => (hF.1 98 0 j (by unfold WkW; omega)).trans (hN j j1 j2)
      obtain ⟨z0, z1, z2⟩ := ir_k q k (by omega) (by omega)
      obtain ⟨c1, c2, c3, c4⟩ := cw_k w k (by omega) (by omega)
      have next : ∀ (m : Nat) (h' : Hp) (s' : List Int), 5 * t + 6 ≤ m → gI h' 12 0 60 = (s'.length : Int) → (s'.length : Int) ≤ k + 1 - C 30 i → Fr WkW h0 h' → stk h' 99 0 s' → (∀ x ∈ s', bnd x) → vd C t (k + 1) s'.length = some 1 → ok (g_X12_goes m 3 [sl C i, k] h') (fun r h' => ((ev C N t (k + 1) s' = none ∧ r = 0) ∨ (∃ y, ev C N t (k + 1) s' = some [y] ∧ r = 1 ∧ gI h' 99 0 0 = y)) ∧ Fr WkW h0 h') := by
        intro m h' s' m1 m2 m3 m4 m5 m6 m7
        refine s_X12_goes_3 (by omega) ?_
        unfold b_X12_goes_3
        exact ok_ck (by omega) (ih _ h' (k + 1) s' (by omega) (by omega) (by omega) m2 m3 (by omega) m4 m5 m6 m7)
      have push : ∀ (m : Nat) (x : Int), 5 * t + 7 ≤ m → bnd x → vd C t (k + 1) (s.length + 1) = some 1 → ok (g_X12_goes m 2 [sl C i, k, x, (s.length : Int)] h) (fun r h' => ((ev C N t (k + 1) (x :: s) = none ∧ r = 0) ∨ (∃ y, ev C N t (k + 1) (x :: s) = some [y] ∧ r = 1 ∧ gI h' 99 0 0 = y)) ∧ Fr WkW h0 h') := by
        intro m x m1 m2 m3
        refine s_X12_goes_2 (by omega) ?_
        unfold b_X12_goes_2
        have e60 : gI (sI h 99 0 (s.length : Int) x) 12 0 60 = (s.length : Int) := by rw [gI_nr (by decide)]; exact gt
        refine ok_ck (by omega) (ok_lt ?_)
        rw [e60]
        refine ok_ck (by omega) (ok_lt ?_)
        refine next _ _ (x :: s) (by omega) (by rw [gI_eq]; simp) (by simp only [List.length_cons]; omega) (fr_sI (fr_sI hF (Or.inl rfl)) (Or.inr ⟨rfl, rfl⟩)) ?_ (List.forall_mem_cons.mpr ⟨m2, hB⟩) m3
        exact ⟨by rw [gI_nr (by decide), gI_eq], stk_nr (by decide) (stk_set hS (Int.le_refl _))⟩
      refine s_X12_goes_1 (by omega) ?_
      unfold b_X12_goes_1
      rw [f80, f81, f82]
      refine ok_ck (by omega) (ok_f (by omega) (ok_ck (by omega) ?_))
      unfold vd at hD
      by_cases y0 : C 33 k = 0
      · rw [if_pos (Or.inl y0)] at hD
        have ee : ev C N (t + 1) k s = ev C N t (k + 1) (C 34 k :: s) := by simp only [ev]; rw [if_pos y0]
        rw [ee]
        obtain ⟨a1, a2⟩ := z0 y0
        rw [a1, a2, gt]
        have d := c3 y0
        exact ok_f (by omega) (ok_ck (by omega) (ok_t rfl (ok_ck (by omega) (push _ _ (by omega) (by unfold bnd; omega) hD))))
      · by_cases y1 : C 33 k = 1
        · rw [if_pos (Or.inr y1)] at hD
          have ee : ev C N (t + 1) k s = ev C N t (k + 1) (N (C 34 k) :: s) := by simp only [ev]; rw [if_neg y0, if_pos y1]
          rw [ee]
          obtain ⟨a1, a2⟩ := z1 y1
          have d := c4 y1
          rw [a1, a2, gt, f98 _ d.1 d.2]
          exact ok_f (by omega) (ok_ck (by omega) (ok_f (by omega) (ok_ck (by omega) (ok_ck (by omega) (push _ _ (by omega) (bN _ d.1 d.2) hD)))))
        · rw [if_neg (by omega)] at hD
          obtain ⟨a1, a2⟩ := z2 (by omega)
          rw [a1, a2]
          refine ok_t rfl (ok_ck (by omega) ?_)
          by_cases y4 : C 33 k = 4
          · rw [if_pos y4] at hD
            match s, hS, hB, hD, gt, gs with
            | [], hS, hB, hD, gt, gs => simp at hD
            | a :: s, hS, hB, hD, gt, gs =>
              simp only [List.length_cons] at hD gt gs
              rw [if_pos (by omega)] at hD
              have ee : ev C N (t + 1) k (a :: s) = ev C N t (k + 1) ((if a = 0 then 1 else 0) :: s) := by simp only [ev]; rw [if_neg y0, if_neg y1, if_pos y4]
              rw [ee, y4]
              refine ok_bq (p_works_not (s := s) (a := a) hS (by omega) (by omega)) ?_
              intro r h' ⟨r1, r2, r3, r4⟩
              refine ok_f (by omega) (next _ _ _ (by omega) (by simp only [List.length_cons]; omega) (by simp only [List.length_cons]; omega) (fr_tr hF r4) r2 (List.forall_mem_cons.mpr ⟨by unfold bnd; split <;> omega, fun x hx => hB x (List.mem_cons_of_mem _ hx)⟩) (by simpa using hD))
          · rw [if_neg y4] at hD
            match s, hS, hB, hD, gt, gs with
            | [], hS, hB, hD, gt, gs => simp at hD
            | [b], hS, hB, hD, gt, gs => simp at hD
            | b :: a :: s, hS, hB, hD, gt, gs =>
              simp only [List.length_cons] at hD gt gs
              rw [if_pos (by omega)] at hD
              have ee : ev C N (t + 1) k (b :: a :: s) = (match jn (C 33 k) a b with | some v => ev C N t (k + 1) (v :: s) | none => none) := by
                simp only [ev]
                rw [if_neg y0, if_neg y1, if_neg y4]
                rfl
              have ba : bnd a := hB a (by simp)
              have bb : bnd b := hB b (by simp)
              refine ok_bq (p_works_j (k := C 33 k) (s := s) (a := a) (b := b) ⟨by omega, by omega, y4⟩ hS ba bb (by omega) (by omega)) ?_
              intro r h' ⟨r1, r2, r3⟩
              cases ej : jn (C 33 k) a b with
              | none =>
                rw [ej] at ee
                rw [ee]
                exact ok_t (r2 ej) (ok_some ⟨Or.inl ⟨rfl, rfl⟩, fr_tr hF r3⟩)
              | some v =>
                rw [ej] at ee
                rw [ee]
                obtain ⟨u1, u2, u3⟩ := r1 v ej
                refine ok_f (by omega) (next _ _ (v :: s) (by omega) (by simp only [List.length_cons]; omega) (by simp only [List.length_cons]; omega) (fr_tr hF r3) u2 (List.forall_mem_cons.mpr ⟨jn_b ej, fun x hx => hB x (List.mem_cons_of_mem _ (List.mem_cons_of_mem _ hx))⟩) (by simpa using hD))
  refine fuv_X12_goes (fun nFU hFU => ?_)
  refine s_X12_goes_0 (by first | omega | decide) ?_
  unfold b_X12_goes_0
  refine ok_lt (ok_ck (by omega) (ok_lt ?_))
  rw [gI_nr (by first | omega | decide), k1]
  exact key _ _ _ _ [] rfl (by omega) (by omega) (by rw [gI_eq]; rfl) (by simp) (by omega) (fr_sI fr_rf (Or.inr ⟨rfl, rfl⟩)) trivial (by simp) cv
def SyW : Nat → Int → Int → Prop := fun r _ k => r = 98 ∨ r = 99 ∨ (r = 12 ∧ k = 60)
set_option maxHeartbeats 8000000 in
theorem p_X12_says (q : isR h C) (w : CW C) (hs : isS C h s V) (vw : VW C V) (s1 : 0 ≤ s) (s2 : s < 23) (i1 : 0 ≤ i) (i2 : i < sz C) (k1 : 0 ≤ k) (k2 : k < 4) (x1 : 0 ≤ x) (x2 : x < 64) (p1 : 0 ≤ p) (p2 : p ≤ 9) : ok (f_X12_says s (sl C i) k x p (V 2 0) h) (fun r h' => ((valF C V i k x p = none ∧ r = 0) ∨ (∃ y, valF C V i k x p = some [y] ∧ r = 1 ∧ gI h' 99 0 0 = y)) ∧ Fr SyW h h') := by
  have sr := sl_r w i1 i2
  have vm := vw_m vw
  have cB := cw_B w
  have hmul := sea_mul (cw_W w)
  have cB2 := cB.2
  have e4 := ir_4 q
  have e0 := is_0 hs
  have e8 := is_8 hs i i1 i2
  have fb := far_b q w x1 x2
  have fin : ∀ (n : Nat) (y : Int), 5 ≤ n → (if y = 0 then (0 : Int) else 1) = (if wnF C (V 0 0) = k then 1 else 0) → ok (g_X12_says n 1 [s, sl C i, p, V 2 0, y, 2] (sI (sI h 98 0 0 k) 98 0 1 (C 35 x))) (fun r h' => ((valF C V i k x p = none ∧ r = 0) ∨ (∃ y, valF C V i k x p = some [y] ∧ r = 1 ∧ gI h' 99 0 0 = y)) ∧ Fr SyW h h') := by
    intro n y hn hy
    refine s_X12_says_1 (by omega) ?_
    unfold b_X12_says_1
    refine ok_be p_X12_is ?_
    rw [hy]
    refine ok_ck (by omega) (ok_lt (ok_ck (by omega) (ok_ck (by omega) (ok_lt (ok_ck (by omega) (ok_lt (ok_ck (by omega) (ok_ck (by omega) (ok_ck (by omega) (ok_ck (by omega) (ok_lt (ok_ck (by omega) (ok_lt ?_)))))))))))))
    simp only [gI_nr (show (84 : Nat) ≠ 98 by decide), gI_nr (show (91 : Nat) ≠ 98 by decide), e0, e8]
    have hq : ∀ (h : Hp) (a b d : Int), isR h C → isR (sI h 98 a b d) C := fun h a b d z => isR_sI (by omega) z
    refine ok_bq (p_X12_goes (C := C) (N := nmF C V i k x p) (hq _ 0 6 _ (hq _ 0 5 _ (hq _ 0 4 p (hq _ 0 3 _ (hq _ 0 2 _ (hq _ 0 1 _ (hq _ 0 0 _ q))))))) w i1 i2 ?_ (fun j _ _ => nm_b w vw i1 i2 k1 k2 x1 x2 p1 p2 j)) ?_
    · intro j j1 j2
      have ej : j = 0 ∨ j = 1 ∨ j = 2 ∨ j = 3 ∨ j = 4 ∨ j = 5 ∨ j = 6 := by omega
      simp only [gI_sI, nmF]
      rcases ej with e | e | e | e | e | e | e <;> subst e <;> simp
    · intro r h' z
      have r01 : 0 ≤ r ∧ r < 2 := by
        rcases z.1 with a | ⟨y, a⟩
        · omega
        · omega
      refine ok_ck r01 (ok_some ⟨z.1, fr_tr ?_ (fr_mo z.2 (fun r i k y => by unfold WkW at y; unfold SyW; omega))⟩)
      repeat (first | exact fr_rf | refine fr_sI ?_ (Or.inl rfl))
  refine fuv_X12_says (fun nFU hFU => ?_)
  refine s_X12_says_0 (by first | omega | decide) ?_
  unfold b_X12_says_0
  refine ok_ck (by omega) (ok_lt ?_)
  simp only [gI_nr (show (61 : Nat) ≠ 98 by decide), gI_nr (show (83 : Nat) ≠ 98 by decide), e4, fb]
  refine ok_ck (by omega) (ok_ck (by omega) (ok_ck (by omega) (ok_ck (by omega) (ok_ck (by omega) (ok_lt (ok_ck (by omega) ?_))))))
  simp only [gI_nr (show (84 : Nat) ≠ 98 by decide), e0]
  refine ok_be (p_X12_windOf (isR_sI (by omega) (isR_sI (by omega) q)) w vm.1) ?_
  refine ok_if (fun z => ?_) (fun z => ?_)
  · exact fin _ 1 (by first | omega | decide) (by rw [if_pos z.symm]; decide)
  · have z' : ¬ wnF C (V 0 0) = k := fun y => z y.symm
    exact fin _ 0 (by first | omega | decide) (by rw [if_pos rfl, if_neg z'])
theorem syw_R : ∀ (r : Nat) (k : Int), 61 ≤ r → r ≤ 83 → ¬ SyW r 0 k := by intro r k a b; unfold SyW; omega
theorem syw_S : ∀ (r : Nat) (k : Int), 84 ≤ r → r ≤ 92 → r ≠ 87 → r ≠ 89 → ¬ SyW r 0 k := by intro r k a b c d; unfold SyW; omega
set_option maxHeartbeats 8000000 in
theorem p_X12_votesFor {h0 : Hp} (q0 : isR h0 C) (w : CW C) (hs0 : isS C h0 s V) (vw : VW C V) (s1 : 0 ≤ s) (s2 : s < 23) (i1 : 0 ≤ i) (i2 : i < sz C) (p1 : 0 ≤ p) (p2 : p ≤ 9) : ok (f_X12_votesFor s (sl C i) p (V 2 0) h0) (fun r h' => r = wsF C V i p ∧ Fr SyW h0 h') := by
  have hmul := sea_mul (cw_W w)
  have key : ∀ (t n : Nat) (h : Hp) (b m x : Int) (a : Nat), 4 - a = t → a ≤ 4 → x = (a : Int) → 5 * t + 5 ≤ n → Fr SyW h0 h → b = (wsh C V i p a).1 → m = (wsh C V i p a).2 → ok (g_X12_votesFor n 1 [s, sl C i, p, V 2 0, b, m, x] h) (fun r h' => r = wsF C V i p ∧ Fr SyW h0 h') := by
    intro t
    induction t with
    | zero =>
      intro n h b m x a ht ha hx hn hF hb hb2
      have ha4 : a = 4 := by omega
      subst ha4
      refine s_X12_votesFor_1 (by omega) ?_
      unfold b_X12_votesFor_1
      exact ok_t (by omega) (ok_some ⟨hb, hF⟩)
    | succ t ih =>
      intro n h b m x a ht ha hx hn hF hb hb2
      subst hx
      have q := isR_fr hF syw_R q0
      have hs := isS_fr hF syw_S hs0
      have e1 : wsh C V i p (a + 1) = if wtC C (stC C (V 1 0) a) then (if (wsh C V i p a).1 = -1 ∨ (wsh C V i p a).2 < vv (valF C V i a (stC C (V 1 0) a) p) then ((a : Int), vv (valF C V i a (stC C (V 1 0) a) p)) else wsh C V i p a) else wsh C V i p a := rfl
      have next : ∀ (m' : Nat) (h' : Hp) (b' mo' : Int), 5 * t + 6 ≤ m' → Fr SyW h0 h' → b' = (wsh C V i p (a + 1)).1 → mo' = (wsh C V i p (a + 1)).2 → ok (g_X12_votesFor m' 4 [s, sl C i, p, V 2 0, b', mo', (a : Int)] h') (fun r h' => r = wsF C V i p ∧ Fr SyW h0 h') := by
        intro m' h' b' mo' q1 q2 q3 q4
        refine s_X12_votesFor_4 (by omega) ?_
        unfold b_X12_votesFor_4
        exact ok_ck (by omega) (ih _ h' b' mo' _ (a + 1) (by omega) (by omega) (by omega) (by omega) q2 q3 q4)
      refine s_X12_votesFor_1 (by omega) ?_
      unfold b_X12_votesFor_1
      rw [is_1 hs]
      refine ok_f (by omega) (ok_ck (by omega) (ok_be (p_X12_leads q w (vw_c vw) (by omega) (by omega)) ?_))
      have sr := stepF_r (k := (a : Int)) (cw_W w) (vw_c vw)
      refine ok_if (fun y => ?_) (fun y => ?_)
      · have y : ¬ wtC C (stC C (V 1 0) a) := fun z => by have := z.1.1; omega
        exact next _ _ _ _ (by omega) hF (by rw [e1, if_neg y]; exact hb) (by rw [e1, if_neg y]; exact hb2)
      · have cP := sr.resolve_left y
        have y1 : 0 ≤ stC C (V 1 0) a := cP.1
        have y2 : stC C (V 1 0) a < 64 := Int.lt_of_lt_of_le cP.2 hmul.2
        refine ok_ck (by omega) ?_
        rw [ir_l q _ y1 y2]
        refine ok_if (fun y0 => ?_) (fun y0 => ?_)
        · have y : wtC C (stC C (V 1 0) a) := ⟨cP, y0⟩
          refine ok_bq (p_X12_says q w hs vw s1 s2 i1 i2 (by omega) (by omega) y1 y2 p1 p2) ?_
          intro v8 h9 ⟨r1, r2⟩
          have hF2 := fr_tr hF r2
          have go5 : ∀ (m' : Nat) (y0 : Int), 5 * t + 8 ≤ m' → y0 = vv (valF C V i a (stC C (V 1 0) a) p) → ok (g_X12_votesFor m' 2 [s, sl C i, p, V 2 0, b, m, (a : Int), y0] h9) (fun r h' => r = wsF C V i p ∧ Fr SyW h0 h') := by
            intro m' y0 q1 q2
            have go6 : ∀ (m' : Nat), 5 * t + 7 ≤ m' → ((wsh C V i p a).1 = -1 ∨ (wsh C V i p a).2 < vv (valF C V i a (stC C (V 1 0) a) p)) → ok (g_X12_votesFor m' 3 [s, sl C i, p, V 2 0, (a : Int), y0] h9) (fun r h' => r = wsF C V i p ∧ Fr SyW h0 h') := by
              intro m' q3 q4
              refine s_X12_votesFor_3 (by omega) ?_
              unfold b_X12_votesFor_3
              exact next _ _ _ _ (by omega) hF2 (by rw [e1, if_pos y, if_pos q4]) (by rw [e1, if_pos y, if_pos q4]; exact q2)
            refine s_X12_votesFor_2 (by omega) ?_
            unfold b_X12_votesFor_2
            refine ok_if (fun y3 => go6 _ (by omega) (Or.inl (by rw [← hb]; exact y3))) (fun y3 => ok_if (fun y4 => go6 _ (by omega) (Or.inr ?_)) (fun y4 => ?_))
            · have y4 := lc_gt0.mp y4
              rw [← hb2, ← q2]; omega
            · have y4 : ¬ m < y0 := fun z => y4 (lc_gt0.mpr z)
              have nn : ¬ ((wsh C V i p a).1 = -1 ∨ (wsh C V i p a).2 < vv (valF C V i a (stC C (V 1 0) a) p)) := by rw [← hb, ← hb2, ← q2]; omega
              exact next _ _ _ _ (by omega) hF2 (by rw [e1, if_pos y, if_neg nn]; exact hb) (by rw [e1, if_pos y, if_neg nn]; exact hb2)
          rcases r1 with ⟨r3, r4⟩ | ⟨y5, r3, r4, r5⟩
          · exact ok_t r4 (go5 _ 0 (by omega) (by rw [r3]; rfl))
          · exact ok_f (by omega) (ok_ck (by omega) (go5 _ _ (by omega) (by rw [r3, r5]; rfl)))
        · have y : ¬ wtC C (stC C (V 1 0) a) := fun z => y0 z.2
          exact next _ _ _ _ (by omega) hF (by rw [e1, if_neg y]; exact hb) (by rw [e1, if_neg y]; exact hb2)
  refine fuv_X12_votesFor (fun nFU hFU => ?_)
  refine s_X12_votesFor_0 (by first | omega | decide) ?_
  unfold b_X12_votesFor_0
  exact key 4 _ _ _ _ _ 0 (by omega) (by omega) (by omega) (by omega) fr_rf rfl rfl
theorem iF_land (w : CW C) (k1 : 0 ≤ k) (k2 : k < C 5 0) (hx : ¬ wtC C x) : iF C k x = 99 := by
  unfold iF
  split
  · rename_i y
    rcases cw_f w k x k1 k2 y.1 y.2 with ⟨z, -⟩ | ⟨-, -, z, -⟩
    · exact z
    · exact absurd (pth_w z).2 hx
  · rfl
theorem p_X12_nearest (q : isR h C) (w : CW C) (hs : isS C h s V) (vw : VW C V) (s1 : 0 ≤ s) (s2 : s < 23) (k1 : 0 ≤ k) (k2 : k < C 5 0) : f_X12_nearest s (C 7 k) h = some (brF C V k, h) := by
  have hmul := sea_mul (cw_W w)
  have ci := (cw_i w k k1 k2).1.1
  have ci2 := ci.2
  have key : ∀ (t n : Nat) (b m x : Int) (a : Nat), 4 - a = t → a ≤ 4 → x = (a : Int) → 3 * t + 3 ≤ n → b = (brS C V k a).1 → m = (brS C V k a).2 → ok (g_X12_nearest n 1 [s, C 7 k, b, m, x] h) (fun r h' => r = brF C V k ∧ h' = h) := by
    intro t
    induction t with
    | zero =>
      intro n b m x a ht ha hx' hn hb hm
      have e : a = 4 := by omega
      subst e
      refine s_X12_nearest_1 (by omega) ?_
      unfold b_X12_nearest_1
      exact ok_t (by omega) (ok_some ⟨hb, rfl⟩)
    | succ t ih =>
      intro n b m x a ht ha hx' hn hb hm
      subst hx'
      have e1 : brS C V k (a + 1) = if iF C k (stC C (V 1 0) a) < (brS C V k a).2 then ((a : Int), iF C k (stC C (V 1 0) a)) else brS C V k a := rfl
      have br := brS_r (C := C) (V := V) (k := k) a
      have next : ∀ (m' : Nat) (b' l' : Int), 3 * t + 4 ≤ m' → b' = (brS C V k (a + 1)).1 → l' = (brS C V k (a + 1)).2 → ok (g_X12_nearest m' 2 [s, C 7 k, b', l', (a : Int)] h) (fun r h' => r = brF C V k ∧ h' = h) := by
        intro m' b' l' q1 q2 q3
        refine s_X12_nearest_2 (by omega) ?_
        unfold b_X12_nearest_2
        exact ok_ck (by omega) (ih _ _ _ _ (a + 1) (by omega) (by omega) (by omega) (by omega) q2 q3)
      have skip : ¬ wtC C (stC C (V 1 0) a) → ∀ m' : Nat, 3 * t + 4 ≤ m' → ok (g_X12_nearest m' 2 [s, C 7 k, b, m, (a : Int)] h) (fun r h' => r = brF C V k ∧ h' = h) := by
        intro y m' hm'
        have z := iF_land (k := k) w k1 k2 y
        exact next _ _ _ hm' (by rw [e1, if_neg (by omega)]; exact hb) (by rw [e1, if_neg (by omega)]; exact hm)
      refine s_X12_nearest_1 (by omega) ?_
      unfold b_X12_nearest_1
      rw [is_1 hs]
      refine ok_f (by omega) (ok_ck (by omega) (ok_be (p_X12_leads q w (vw_c vw) (by omega) (by omega)) ?_))
      have sr := stepF_r (k := (a : Int)) (cw_W w) (vw_c vw)
      refine ok_if (fun y => skip (fun z => by have := z.1.1; omega) _ (by omega)) (fun y => ?_)
      have cP := sr.resolve_left y
      have y1 : 0 ≤ stC C (V 1 0) a := cP.1
      have y2 : stC C (V 1 0) a < 64 := Int.lt_of_lt_of_le cP.2 hmul.2
      refine ok_ck (by omega) ?_
      rw [ir_l q _ y1 y2]
      refine ok_if (fun y0 => ?_) (fun y0 => skip (fun z => y0 z.2) _ (by omega))
      rw [far_i q w k1 k2 y1 y2]
      have ei : iF C k (stC C (V 1 0) a) = C 36 (64 * k + stC C (V 1 0) a) := if_pos ⟨y1, y2⟩
      refine ok_ck (by omega) (ok_ck (by omega) (ok_ck (by omega) (ok_if (fun y3 => ok_ck (by omega) (ok_ck (by omega) (ok_ck (by omega) (ok_lt ?_)))) (fun y3 => ?_))))
      · exact next _ _ _ (by omega) (by rw [e1, if_pos (by omega)]) (by rw [e1, if_pos (by omega)]; exact ei.symm)
      · exact next _ _ _ (by omega) (by rw [e1, if_neg (by omega)]; exact hb) (by rw [e1, if_neg (by omega)]; exact hm)
  refine ok_eq.mp ?_
  refine fuv_X12_nearest (fun nFU hFU => ?_)
  refine s_X12_nearest_0 (by first | omega | decide) ?_
  unfold b_X12_nearest_0
  exact key 4 _ _ _ _ 0 (by omega) (by omega) (by omega) (by omega) rfl rfl
end
