/-! TEXT, 10: E, the reference, pieces -/
def rS (e : Int × Int) : Int := if e.1 = 0 then 0 else if e.1 = 1 then 1 else 2
def rW (e : Int × Int) : Int := if e.1 = 0 ∨ e.1 = 1 then e.2 else sgk e.1
def ouR (h : Hp) (o : List (Int × Int)) : Prop := gI h 61 0 29 = (o.length : Int) ∧ ∀ i : Nat, i < o.length → gI h 81 0 ((64 + (o.length - 1 - i) : Nat) : Int) = rS (o.getD i (0, 0)) ∧ gI h 82 0 ((64 + (o.length - 1 - i) : Nat) : Int) = rW (o.getD i (0, 0))
def rfE (h : Hp) (b : Int → Int) (n t : Nat) (o : List (Int × Int)) (k p : Nat) : Prop := rdR h b n t ∧ gI h 12 0 32 = 0 ∧ ouR h o ∧ gI h 12 0 36 = (p : Int) ∧ gI h 12 0 37 = (k : Int) ∧ gI h 12 0 33 = -1
def EwR : Nat → Int → Int → Prop := fun r _ k => (r = 12 ∧ ((28 ≤ k ∧ k ≤ 33) ∨ k = 36 ∨ k = 37)) ∨ (r = 61 ∧ k = 29) ∨ ((r = 81 ∨ r = 82) ∧ 64 ≤ k)
/-- signs let out one after the other, the first of the row first -/
def psh : List Int → List (Int × Int) → List (Int × Int)
  | [], o => o
  | x :: P, o => psh P ((x, 0) :: o)
section
variable {h h2 : Hp} {b : Int → Int} {n t k p : Nat} {o : List (Int × Int)} {s : List Int}
theorem ouR_e (e : gI h2 61 0 29 = gI h 61 0 29) (e2 : ∀ (r : Nat) (k : Int), r = 81 ∨ r = 82 → gI h2 r 0 k = gI h r 0 k) (q : ouR h o) : ouR h2 o := ⟨e.trans q.1, fun i hi => ⟨(e2 81 _ (by omega)).trans (q.2 i hi).1, (e2 82 _ (by omega)).trans (q.2 i hi).2⟩⟩
theorem rfE_go {t2 : Nat} (q : rfE h b n t o k p) (f : Fr ToW h h2) (r : rdR h2 b n t2) : rfE h2 b n t2 o k p := ⟨r, (f.1 12 0 32 (by unfold ToW; omega)).trans q.2.1, ouR_e (f.1 61 0 29 (by unfold ToW; omega)) (fun r k z => f.1 r 0 k (by unfold ToW; omega)) q.2.2.1, (f.1 12 0 36 (by unfold ToW; omega)).trans q.2.2.2.1, (f.1 12 0 37 (by unfold ToW; omega)).trans q.2.2.2.2.1, (f.1 12 0 33 (by unfold ToW; omega)).trans q.2.2.2.2.2⟩
theorem to_ew : ∀ (r : Nat) (i k : Int), ToW r i k → EwR r i k := by intro r i k; unfold ToW EwR; omega
theorem fl_ew {e : Int × Int} (q : flR h h2 e) : Fr EwR h h2 := fr_mo q.1 (by intro r i k; unfold EwR; omega)
theorem p_X12_fresher {x : Nat} (hx : x < 15) : f_X12_fresher (x : Int) h = some (gI h 61 0 (15 + (x : Int)), h) := by
  refine ok_eq.mp (fuv_X12_fresher (fun m hm => ?_))
  refine s_X12_fresher_0 (by omega) ?_
  unfold b_X12_fresher_0
  exact ok_ck (by omega) (ok_ck (by omega) (ok_some ⟨rfl, rfl⟩))
theorem p_X12_reads {x : Nat} {v : Int} (hx : x < 15) : f_X12_reads (x : Int) v h = some (0, sI h 61 0 (15 + (x : Int)) v) := by
  refine ok_eq.mp (fuv_X12_reads (fun m hm => ?_))
  refine s_X12_reads_0 (by omega) ?_
  unfold b_X12_reads_0
  exact ok_ck (by omega) (ok_ck (by omega) (ok_lt (ok_some ⟨rfl, rfl⟩)))
theorem p_knot_f (f0 : gI h 12 0 32 ≠ 0) : f_X12_knot h = some (0, h) := by
  refine ok_eq.mp (fuv_X12_knot (fun m hm => ?_))
  refine s_X12_knot_0 (by omega) ?_
  unfold b_X12_knot_0
  exact ok_f f0 (ok_some ⟨rfl, rfl⟩)
theorem p_puts_f {x y : Int} (f0 : gI h 12 0 32 ≠ 0) : f_X12_puts x y h = some (0, h) := by
  refine ok_eq.mp (fuv_X12_puts (fun m hm => ?_))
  refine s_X12_puts_0 (by omega) ?_
  unfold b_X12_puts_0
  exact ok_f f0 (ok_some ⟨rfl, rfl⟩)
theorem p_X12_knot (q : rfE h b n t o k p) (k6 : k ≤ 64) : ok (f_X12_knot h) (fun _ h' => (k < 64 ∧ Fr EwR h h' ∧ rfE h' b n t o (k + 1) p) ∨ (¬ k < 64 ∧ flR h h' (2, (tkP b n t : Int)))) := by
  refine fuv_X12_knot (fun m hm => ?_)
  refine s_X12_knot_0 (by omega) ?_
  unfold b_X12_knot_0
  rw [q.2.2.2.2.1]
  refine ok_t q.2.1 (ok_if (fun u => ?_) (fun u => ok_ck (by omega) (ok_lt (ok_some (Or.inl ⟨by omega, fr_sI fr_rf (by unfold EwR; omega), ?_⟩)))))
  · refine ok_bq (p_X12_wrong (x := 2) q.1 q.2.1) ?_
    intro _ h' f
    exact ok_some (Or.inr ⟨by omega, f⟩)
  · have F : Fr (fun r _ k => r = 12 ∧ k = 37) h (sI h 12 0 37 ((k : Int) + 1)) := fr_sI fr_rf (by omega)
    exact ⟨rdR_fr F (by intro r k; omega) q.1, (F.1 12 0 32 (by omega)).trans q.2.1, ouR_e (F.1 61 0 29 (by omega)) (fun r k z => F.1 r 0 k (by omega)) q.2.2.1, (F.1 12 0 36 (by omega)).trans q.2.2.2.1, by rw [gI_eq]; omega, (F.1 12 0 33 (by omega)).trans q.2.2.2.2.2⟩
theorem p_X12_puts {x y : Int} {e : Int × Int} (q : rfE h b n t o k p) (l : o.length < 64) (e1 : x = rS e) (e2 : y = rW e) : ok (f_X12_puts x y h) (fun _ h' => Fr EwR h h' ∧ rfE h' b n t (e :: o) k p) := by
  have u := q.2.2.1
  have fr : ∀ h3 : Hp, gI h3 61 0 29 = (o.length : Int) → f_X12_fresher 14 h3 = some ((o.length : Int), h3) := fun h3 z => by
    have := p_X12_fresher (h := h3) (x := 14) (by decide)
    rw [show (15 : Int) + ((14 : Nat) : Int) = 29 by decide, z] at this
    exact this
  refine fuv_X12_puts (fun m hm => ?_)
  refine s_X12_puts_0 (by omega) ?_
  unfold b_X12_puts_0
  refine ok_t q.2.1 (ok_be (fr h u.1) (ok_ck (by omega) (ok_ck (by omega) (ok_lt (ok_be (fr _ ?_) (ok_ck (by omega) (ok_ck (by omega) (ok_lt (ok_be (fr _ ?_) (ok_ck (by omega) (ok_be (p_X12_reads (x := 14) (by decide)) ?_)))))))))))
  · rw [gI_nr (by decide)]; exact u.1
  · rw [gI_nr (by decide), gI_nr (by decide)]; exact u.1
  · have F : Fr (fun r _ k => ((r = 81 ∨ r = 82) ∧ k = 64 + (o.length : Int)) ∨ (r = 61 ∧ k = 29)) h (sI (sI (sI h 81 0 (64 + (o.length : Int)) x) 82 0 (64 + (o.length : Int)) y) 61 0 (15 + ((14 : Nat) : Int)) ((o.length : Int) + 1)) := fr_sI (fr_sI (fr_sI fr_rf (by omega)) (by omega)) (by omega)
    refine ok_some ⟨fr_mo F (by intro r i k; unfold EwR; omega), rdR_fr F (by intro r k; omega) q.1, (F.1 12 0 32 (by omega)).trans q.2.1, ⟨?_, fun i hi => ?_⟩, (F.1 12 0 36 (by omega)).trans q.2.2.2.1, (F.1 12 0 37 (by omega)).trans q.2.2.2.2.1, (F.1 12 0 33 (by omega)).trans q.2.2.2.2.2⟩
    · rw [show (29 : Int) = 15 + ((14 : Nat) : Int) by decide, gI_eq]; rfl
    · have l2 : (e :: o).length = o.length + 1 := rfl
      cases i with
      | zero =>
        rw [l2, show 64 + (o.length + 1 - 1 - 0) = 64 + o.length by omega, show ((64 + o.length : Nat) : Int) = 64 + (o.length : Int) by omega]
        rw [gI_nr (show (81 : Nat) ≠ 61 by decide), gI_nr (show (81 : Nat) ≠ 82 by decide), gI_eq, gI_nr (show (82 : Nat) ≠ 61 by decide), gI_eq]
        exact ⟨e1, e2⟩
      | succ i =>
        have hi2 : i < o.length := by omega
        rw [l2, show 64 + (o.length + 1 - 1 - (i + 1)) = 64 + (o.length - 1 - i) by omega, F.1 81 0 _ (by omega), F.1 82 0 _ (by omega)]
        exact u.2 i hi2
theorem gE12_f {g : Nat} (f0 : gI h 12 0 32 ≠ 0) (hg : 1 ≤ g) : g_grpE g 12 [] h = some (0, h) := ok_eq.mp (by
  refine s_grpE_12 (by omega) ?_
  unfold b_grpE_12
  exact ok_f f0 (ok_some ⟨rfl, rfl⟩))
theorem gE10_f {g : Nat} (f0 : gI h 12 0 32 ≠ 0) (hg : 1 ≤ g) : g_grpE g 10 [] h = some (0, h) := ok_eq.mp (by
  refine s_grpE_10 (by omega) ?_
  unfold b_grpE_10
  exact ok_be (p_isSign_f f0) (ok_t rfl (ok_be (p_isSign_f f0) (ok_t rfl (ok_some ⟨rfl, rfl⟩)))))
theorem gE9_f {g : Nat} (f0 : gI h 12 0 32 ≠ 0) (hg : 2 ≤ g) : g_grpE g 9 [] h = some (0, h) := ok_eq.mp (by
  refine s_grpE_9 (by omega) ?_
  unfold b_grpE_9
  exact ok_be (gE12_f f0 (by omega)) (ok_eq.mpr (gE10_f f0 (by omega))))
theorem gE7_f {g : Nat} (f0 : gI h 12 0 32 ≠ 0) (hg : 1 ≤ g) : g_grpE g 7 [] h = some (0, h) := ok_eq.mp (by
  refine s_grpE_7 (by omega) ?_
  unfold b_grpE_7
  exact ok_be (p_isSign_f f0) (ok_t rfl (ok_be (p_isSign_f f0) (ok_t rfl (ok_some ⟨rfl, rfl⟩)))))
theorem gE6_f {g : Nat} (f0 : gI h 12 0 32 ≠ 0) (hg : 3 ≤ g) : g_grpE g 6 [] h = some (0, h) := ok_eq.mp (by
  refine s_grpE_6 (by omega) ?_
  unfold b_grpE_6
  exact ok_be (gE9_f f0 (by omega)) (ok_eq.mpr (gE7_f f0 (by omega))))
theorem gE4_f {g : Nat} (f0 : gI h 12 0 32 ≠ 0) (hg : 4 ≤ g) : g_grpE g 4 [] h = some (0, h) := ok_eq.mp (by
  refine s_grpE_4 (by omega) ?_
  unfold b_grpE_4
  exact ok_be (p_isWord_f f0) (ok_t rfl (ok_be (gE6_f f0 (by omega)) (ok_f f0 (ok_some ⟨rfl, rfl⟩)))))
theorem gE3_f {g : Nat} (f0 : gI h 12 0 32 ≠ 0) (hg : 1 ≤ g) : g_grpE g 3 [] h = some (0, h) := ok_eq.mp (by
  refine s_grpE_3 (by omega) ?_
  unfold b_grpE_3
  exact ok_be (p_isWord_f f0) (ok_t rfl (ok_some ⟨rfl, rfl⟩)))
theorem gE2_f {g : Nat} (f0 : gI h 12 0 32 ≠ 0) (hg : 5 ≤ g) : g_grpE g 2 [] h = some (0, h) := ok_eq.mp (by
  refine s_grpE_2 (by omega) ?_
  unfold b_grpE_2
  exact ok_be (gE4_f f0 (by omega)) (ok_eq.mpr (gE3_f f0 (by omega))))
theorem gE1_f {g : Nat} (f0 : gI h 12 0 32 ≠ 0) (hg : 1 ≤ g) : g_grpE g 1 [] h = some (0, h) := ok_eq.mp (by
  refine s_grpE_1 (by omega) ?_
  unfold b_grpE_1
  exact ok_be (p_isWord_f f0) (ok_t rfl (ok_some ⟨rfl, rfl⟩)))
theorem gE0_f {g : Nat} (f0 : gI h 12 0 32 ≠ 0) (hg : 6 ≤ g) : g_grpE g 0 [] h = some (0, h) := ok_eq.mp (by
  refine s_grpE_0 (by omega) ?_
  unfold b_grpE_0
  exact ok_be (gE2_f f0 (by omega)) (ok_eq.mpr (gE1_f f0 (by omega))))
theorem rel_psh {r : Int} : ∀ (P : List Int) (o : List (Int × Int)) (s : List Int), (∀ x, x ∈ P → r ≤ rkF x) → relF r o (P ++ s) = relF r (psh P o) s
  | [], _, _, _ => rfl
  | x :: P, o, s, q => by
    have eR : relF r o (x :: (P ++ s)) = if r ≤ rkF x then relF r ((x, 0) :: o) (P ++ s) else (o, x :: (P ++ s)) := rfl
    show relF r o (x :: (P ++ s)) = relF r (psh P ((x, 0) :: o)) s
    rw [eR, if_pos (q x (List.Mem.head _))]
    exact rel_psh P _ s (fun y hy => q y (List.Mem.tail _ hy))
theorem rel_st {r : Int} (hs : rkT s < r) : relF r o s = (o, s) := by
  cases s with
  | nil => rfl
  | cons x s =>
    have eR : relF r o (x :: s) = if r ≤ rkF x then relF r ((x, 0) :: o) s else (o, x :: s) := rfl
    have : rkF x < r := hs
    rw [eR, if_neg (by omega)]
theorem psh_app {x : Int} : ∀ (P : List Int) (o : List (Int × Int)), psh (P ++ [x]) o = (x, 0) :: psh P o
  | [], _ => rfl
  | y :: P, o => psh_app P ((y, 0) :: o)
theorem psh_I : ∀ (P : List Int) (o : List (Int × Int)), (∀ x, x ∈ P → 1 ≤ rkF x) → o.length + nO (P ++ s) = (psh P o).length + nO s ∧ nB (P ++ s) = nB s ∧ (sOK (P ++ s) → sOK s)
  | [], _, _ => ⟨rfl, rfl, fun z => z⟩
  | x :: P, o, q => by
    have ih := psh_I P ((x, 0) :: o) (fun y hy => q y (List.Mem.tail _ hy))
    have x1 := q x (List.Mem.head _)
    have x15 : x ≠ 15 := fun e => by
      rw [e, rkF_15] at x1
      omega
    have e1 : nO (x :: (P ++ s)) = 1 + nO (P ++ s) := by
      show (if x = 15 then 0 else 1) + nO (P ++ s) = 1 + nO (P ++ s)
      rw [if_neg x15]
    have e2 : nB (x :: (P ++ s)) = nB (P ++ s) := by
      show (if x = 15 then 1 else 0) + nB (P ++ s) = nB (P ++ s)
      rw [if_neg x15]; omega
    have e3 : ((x, (0 : Int)) :: o).length = o.length + 1 := rfl
    rw [e3] at ih
    refine ⟨?_, ?_, fun z => ih.2.2 z.2⟩
    · show o.length + nO (x :: (P ++ s)) = (psh P ((x, 0) :: o)).length + nO s
      rw [e1]; omega
    · show nB (x :: (P ++ s)) = nB s
      rw [e2]; exact ih.2.1
/-- behind token 799 is the end -/
theorem tk_end (n8 : n ≤ 800) {t : Nat} (ht : 800 ≤ t) : tkK b n t = 0 := by
  have ex : ∃ s, s ≤ 800 ∧ tkK b n s = 0 := by
    refine Classical.byContradiction (fun z => ?_)
    have a := pos_t (b := b) (n := n) 801 (fun s hs e => z ⟨s, by omega, e⟩)
    have c := pos_n (b := b) (n := n) 801
    omega
  obtain ⟨s, s1, s2⟩ := ex
  have := (pos_end s2 (t - s)).1
  rw [show s + (t - s) = t by omega] at this
  exact this
end
/-- what may stand behind level L, at token t -/
def fol (b : Int → Int) (n : Nat) (L : Int) (o : List (Int × Int)) (s : List Int) (t : Nat) : Prop := (L ≤ 6 → sgT b n t ≠ 13 ∧ sgT b n t ≠ 14) ∧ (L ≤ 5 → sgT b n t ≠ 11 ∧ sgT b n t ≠ 12) ∧ (L ≤ 3 → 5 ≤ sgT b n t → sgT b n t ≤ 10 → rkT (relF 5 o s).2 = 4) ∧ (L ≤ 2 → sgT b n t ≠ 3) ∧ (L ≤ 1 → sgT b n t ≠ 2)
/-- level L, begun at t with R0, has come to t' -/
def sucP (b : Int → Int) (n : Nat) (L : Int) (s : List Int) (k p : Nat) (R0 : Nat → Er) (t : Nat) (h h' : Hp) : Prop := ∃ (t' k' : Nat) (o1 : List (Int × Int)) (P : List Int), Fr EwR h h' ∧ rfE h' b n t' (psh P o1) k' p ∧ t < t' ∧ t' ≤ 800 ∧ k ≤ k' ∧ (∀ x, x ∈ P → L ≤ rkF x) ∧ eI o1 (P ++ s) k' p ∧ fol b n L o1 (P ++ s) t' ∧ ∀ F, 801 ≤ F + t → ∃ F', 801 ≤ F' + t' ∧ R0 F = runE b n F' o1 (P ++ s) t' false k' p
def nzv (h : Hp) (e : Int × Int) : Prop := e.1 ≠ 0 ∧ -1 ≤ gI h 12 0 31 ∧ gI h 12 0 31 < 1073741824
def endP (b : Int → Int) (n : Nat) (L : Int) (s : List Int) (k p : Nat) (R0 : Nat → Er) (t : Nat) (h h' : Hp) : Prop := (∃ e : Int × Int, Fr EwR h h' ∧ gI h' 12 0 32 = e.1 ∧ gI h' 12 0 33 = e.2 ∧ nzv h' e ∧ ∀ F, 801 ≤ F + t → R0 F = .error e) ∨ sucP b n L s k p R0 t h h' 
