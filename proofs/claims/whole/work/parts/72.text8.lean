/-! TEXT, 8: E, the class against its machine -/
def exS (h : Hp) (c : Int) (o : List (Int × Int)) (s : List Int) (w : Bool) (k p : Nat) : Prop := gR h 7 0 1 = some (0, c) ∧ skC h s ∧ ouC h c o ∧ gI h 7 0 16 = (p : Int) ∧ gI h 7 0 17 = (k : Int) ∧ gI h 7 0 18 = (if w = true then 1 else 0)
def sOK : List Int → Prop
  | [] => True
  | x :: s => (x = 15 ∨ 1 ≤ rkF x) ∧ sOK s
def eI (o : List (Int × Int)) (s : List Int) (k p : Nat) : Prop := o.length + nO s ≤ k ∧ k ≤ 64 ∧ nB s = p ∧ p ≤ 8 ∧ sOK s
def ExW (c : Int) : Nat → Int → Int → Prop := fun r i k => (r = 7 ∧ 15 ≤ k ∧ k ≤ 18) ∨ r = 46 ∨ (i = c ∧ ((r = 1 ∧ k = 2) ∨ r = 25 ∨ r = 26))
def ExF (c : Int) : Nat → Int → Int → Prop := fun r i k => (r = 7 ∧ ((15 ≤ k ∧ k ≤ 18) ∨ k = 3 ∨ k = 4)) ∨ r = 46 ∨ (i = c ∧ ((r = 1 ∧ k = 2) ∨ r = 25 ∨ r = 26))
def stE (b : Int → Int) (n : Nat) (c : Int) (o : List (Int × Int)) (s : List Int) (t : Nat) (w : Bool) (k p : Nat) (h : Hp) (r : Int) (h' : Hp) : Prop :=
  (∃ e : Int × Int, r = 0 ∧ Fr (ExF c) h h' ∧ gI h' 7 0 3 = e.1 ∧ gI h' 7 0 4 = e.2 ∧ ∀ f, runE b n (f + 1) o s t w k p = .error e) ∨
  (∃ (o' : List (Int × Int)) (s' : List Int) (w' : Bool) (k' p' : Nat), r = 1 ∧ Fr (ExW c) h h' ∧ exS h' c o' s' w' k' p' ∧ eI o' s' k' p' ∧ tkK b n t ≠ 0 ∧ ∀ f, runE b n (f + 1) o s t w k p = runE b n f o' s' (t + 1) w' k' p')
section
variable {h : Hp} {b : Int → Int} {n s0 t : Nat} {c : Int} {o : List (Int × Int)} {s : List Int} {w : Bool} {k p : Nat}
theorem nO_B : ∀ s : List Int, s.length = nO s + nB s
  | [] => rfl
  | x :: s => by
    have := nO_B s
    show s.length + 1 = ((if x = 15 then 0 else 1) + nO s) + ((if x = 15 then 1 else 0) + nB s)
    split <;> omega
theorem relF_I {r : Int} (r1 : 1 ≤ r) : ∀ (s : List Int) (o : List (Int × Int)), (relF r o s).1.length + nO (relF r o s).2 = o.length + nO s ∧ nB (relF r o s).2 = nB s ∧ (relF r o s).2.length ≤ s.length
  | [], o => ⟨rfl, rfl, Nat.le_refl _⟩
  | x :: s, o => by
    have eR : relF r o (x :: s) = if r ≤ rkF x then relF r ((x, 0) :: o) s else (o, x :: s) := rfl
    rw [eR]
    by_cases y : r ≤ rkF x
    · rw [if_pos y]
      have ih := relF_I r1 s ((x, 0) :: o)
      have x15 : x ≠ 15 := fun e => by
        rw [e, rkF_15] at y
        omega
      have e1 : nO (x :: s) = 1 + nO s := by
        show (if x = 15 then 0 else 1) + nO s = 1 + nO s
        rw [if_neg x15]
      have e2 : nB (x :: s) = nB s := by
        show (if x = 15 then 1 else 0) + nB s = nB s
        rw [if_neg x15]; omega
      have e3 : ((x, (0 : Int)) :: o).length = o.length + 1 := rfl
      have e4 : (x :: s).length = s.length + 1 := rfl
      rw [e3] at ih
      rw [e1, e2, e4]
      exact ⟨by omega, ih.2.1, by omega⟩
    · rw [if_neg y]
      exact ⟨rfl, rfl, Nat.le_refl _⟩
theorem exS_e {h2 : Hp} (f : Fr FaW h h2) (q : exS h c o s w k p) : exS h2 c o s w k p := ⟨by rw [fr_R f]; exact q.1, skC_e (f.1 7 0 15 (by unfold FaW; omega)) (fun k => f.1 46 0 k (by unfold FaW; omega)) q.2.1, ouC_e (f.1 1 c 2 (by unfold FaW; omega)) (fun r k z => f.1 r c k (by unfold FaW; omega)) q.2.2.1, (f.1 7 0 16 (by unfold FaW; omega)).trans q.2.2.2.1, (f.1 7 0 17 (by unfold FaW; omega)).trans q.2.2.2.2.1, (f.1 7 0 18 (by unfold FaW; omega)).trans q.2.2.2.2.2⟩
theorem p_X7_countKnot (e : gI h 7 0 17 = (k : Int)) (k6 : k ≤ 64) : f_X7_countKnot h = if k < 64 then some (1, sI h 7 0 17 ((k : Int) + 1)) else some (0, sI (sI h 7 0 3 2) 7 0 4 (gI h 7 0 7)) := by
  by_cases y : k < 64
  · rw [if_pos y]
    refine ok_eq.mp (fuv_X7_countKnot (fun m hm => ?_))
    refine s_X7_countKnot_0 (by omega) ?_
    unfold b_X7_countKnot_0
    rw [e]
    exact ok_t (by omega) (ok_ck (by omega) (ok_lt (ok_some ⟨rfl, rfl⟩)))
  · rw [if_neg y]
    refine ok_eq.mp (fuv_X7_countKnot (fun m hm => ?_))
    refine s_X7_countKnot_0 (by omega) ?_
    unfold b_X7_countKnot_0
    rw [e]
    exact ok_f (by omega) (ok_be p_X7_wrong (ok_ck (by decide) (ok_some ⟨rfl, rfl⟩)))
theorem p_X7_defer {x : Int} (q : skC h s) (l : s.length < 72) : ok (f_X7_defer x h) (fun r h' => r = 1 ∧ Fr (fun r _ k => r = 46 ∨ (r = 7 ∧ k = 15)) h h' ∧ skC h' (x :: s)) := by
  refine fuv_X7_defer (fun m hm => ?_)
  refine s_X7_defer_0 (by omega) ?_
  unfold b_X7_defer_0
  rw [q.1]
  refine ok_f (by omega) (ok_t (by omega) (ok_ck (by omega) (ok_lt ?_)))
  rw [gI_nr (show (7 : Nat) ≠ 46 by decide), q.1]
  refine ok_ck (by omega) (ok_lt (ok_some ⟨rfl, fr_sI (fr_sI fr_rf (by omega)) (by omega), skC_push q gI_eq ?_ (fun k hk => ?_)⟩))
  · rw [gI_nr (by decide), gI_eq]
  · rw [gI_nr (by decide), gI_nk (by omega)]
theorem p_X7_goesOn (e : gI h 7 0 10 = sgT b n t) : f_X7_goesOn h = some (b2i (¬ (sgT b n t = -1 ∨ sgT b n t = 4 ∨ sgT b n t = 15 ∨ sgT b n t = 17)), h) := by
  refine ok_eq.mp (fuv_X7_goesOn (fun m hm => ?_))
  refine s_X7_goesOn_0 (by omega) ?_
  unfold b_X7_goesOn_0
  rw [e]
  refine ok_if (fun u => ok_some ⟨(b2i_0.mpr (by omega)).symm, rfl⟩) (fun u => ok_if (fun u => ok_some ⟨(b2i_0.mpr (by omega)).symm, rfl⟩) (fun u => ok_if (fun u => ok_some ⟨(b2i_0.mpr (by omega)).symm, rfl⟩) (fun u => ok_if (fun u => ok_some ⟨(b2i_0.mpr (by omega)).symm, rfl⟩) (fun u => ok_some ⟨?_, rfl⟩))))
  have : b2i (¬ (sgT b n t = -1 ∨ sgT b n t = 4 ∨ sgT b n t = 15 ∨ sgT b n t = 17)) = 1 := if_pos (by omega)
  exact this.symm
theorem p_X7_addLeaf (rc : gR h 7 0 1 = some (0, c)) (q : ouC h c o) (l : o.length < 64) (r6 : gI h 7 0 6 = tkK b n t) (r8 : tkK b n t ≠ 0 → tkK b n t ≠ 5 → gI h 7 0 8 = tkV b n t) (r9 : gI h 7 0 9 = kyT b n t) (z : tkK b n t = 3 ∨ 20 ≤ kyT b n t) : ok (f_X7_addLeaf h) (fun r h' => r = 1 ∧ Fr (AaW c) h h' ∧ ouC h' c (lfT b n t :: o)) := by
  refine fuv_X7_addLeaf (fun m hm => ?_)
  refine s_X7_addLeaf_0 (by omega) ?_
  unfold b_X7_addLeaf_0
  rw [r6, r9]
  refine ok_if (fun u => ?_) (fun u => ?_)
  · have e : lfT b n t = (0, tkV b n t) := if_pos u
    rw [r8 (by omega) (by omega), e]
    refine ok_rf rc (ok_bq (p_X1_add q l) ?_)
    intro _ h' y
    exact ok_some ⟨rfl, y⟩
  · have e : lfT b n t = (1, kyT b n t - 20) := if_neg u
    have kr : kyT b n t < 27 := by
      unfold kyT
      by_cases y : tkK b n t = 2
      · rw [if_pos y]; exact ((tk_v (b := b) (n := n) t).2.1 y).2
      · rw [if_neg y]; omega
    rw [e]
    refine ok_rf rc (ok_ck (by omega) (ok_bq (p_X1_add q l) ?_))
    intro _ h' y
    exact ok_some ⟨rfl, y⟩
theorem run_p (f : Nat) : runE b n (f + 1) o s t true k p = if tkK b n t = 3 ∧ 9999 < tkV b n t then .error (2, (tkP b n t : Int)) else if tkK b n t = 3 ∨ 20 ≤ kyT b n t then (if k < 64 then runE b n f (lfT b n t :: o) s (t + 1) false (k + 1) p else .error (2, (tkP b n t : Int))) else if sgT b n t = 15 then (if p < 8 then runE b n f o (15 :: s) (t + 1) true k (p + 1) else .error (2, (tkP b n t : Int))) else if sgT b n t = 4 ∧ rkT s < 4 then (if k < 64 then runE b n f o (4 :: s) (t + 1) true (k + 1) p else .error (2, (tkP b n t : Int))) else .error (1, (tkP b n t : Int)) := rfl
theorem run_s (f : Nat) : runE b n (f + 1) o s t false k p = if sgT b n t = -1 ∨ sgT b n t = 4 ∨ sgT b n t = 15 ∨ sgT b n t = 17 then (if p = 0 then .ok ((relF 1 o s).1, t, k) else .error (1, (tkP b n t : Int))) else if sgT b n t = 16 then (if 1 ≤ p then runE b n f (relF 1 o s).1 (relF 1 o s).2.tail (t + 1) false k (p - 1) else .error (1, (tkP b n t : Int))) else if rkF (sgT b n t) = 4 then (if rkT (relF 5 o s).2 = 4 then .error (1, (tkP b n t : Int)) else if k < 64 then runE b n f (relF 5 o s).1 (sgT b n t :: (relF 5 o s).2) (t + 1) true (k + 1) p else .error (2, (tkP b n t : Int))) else (if k < 64 then runE b n f (relF (rkF (sgT b n t)) o s).1 (sgT b n t :: (relF (rkF (sgT b n t)) o s).2) (t + 1) true (k + 1) p else .error (2, (tkP b n t : Int))) := rfl
theorem fw_ex {x y : Int} : Fr (ExF c) h (sI (sI h 7 0 3 x) 7 0 4 y) := fr_sI (fr_sI fr_rf (by unfold ExF; omega)) (by unfold ExF; omega)
set_option maxHeartbeats 4000000 in
theorem p_X7_takePart (d : rdT h b n s0 t) (q : exS h c o s true k p) (I : eI o s k p) : ok (f_X7_takePart h) (fun r h' => stE b n c o s t true k p h r h') := by
  obtain ⟨d5, d6, d7, d8, d9, d10⟩ := d
  obtain ⟨q1, q2, q3, q4, q5, q6⟩ := q
  obtain ⟨i1, i2, i3, i4, i5⟩ := I
  have sl := nO_B s
  have k0 : kyT b n t ≠ -1 → tkK b n t = 2 := by
    intro z
    by_cases y : tkK b n t = 2
    · exact y
    · exact absurd (if_neg y) z
  have s0' : sgT b n t ≠ -1 → tkK b n t = 4 ∨ tkK b n t = 2 := by
    intro z
    by_cases y : tkK b n t = 4
    · exact Or.inl y
    · right
      refine k0 (fun u => z ?_)
      unfold sgT
      rw [if_neg y, u, if_neg (by omega)]
  have wr : ∀ (m : Nat) (x : Int), (∀ f, runE b n (f + 1) o s t true k p = .error (x, (tkP b n t : Int))) → ok (bd (f_X7_wrong x (tkP b n t : Int) h) fun v1 h2 => ck (0 ≤ v1 ∧ v1 < 2) (some (v1, h2))) (fun r h' => stE b n c o s t true k p h r h') := by
    intro m x er
    exact ok_be p_X7_wrong (ok_ck (by decide) (ok_some (Or.inl ⟨(x, (tkP b n t : Int)), rfl, fw_ex, by rw [gI_nk (by decide), gI_eq], gI_eq, er⟩)))
  have three : ∀ m : Nat, 0 < m → (∀ f, runE b n (f + 1) o s t true k p = .error (1, (tkP b n t : Int))) → ok (g_X7_takePart m 3 [] h) (fun r h' => stE b n c o s t true k p h r h') := by
    intro m hm er
    refine s_X7_takePart_3 hm ?_
    unfold b_X7_takePart_3
    rw [d7]
    exact wr m 1 er
  have two : ∀ m : Nat, 0 < m → ¬ (tkK b n t = 3 ∧ 9999 < tkV b n t) → (tkK b n t = 3 ∨ 20 ≤ kyT b n t) → ok (g_X7_takePart m 2 [] h) (fun r h' => stE b n c o s t true k p h r h') := by
    intro m hm z1 z2
    refine s_X7_takePart_2 hm ?_
    unfold b_X7_takePart_2
    refine ok_lt ?_
    have e17 : gI (sI h 7 0 18 0) 7 0 17 = (k : Int) := by rw [gI_nk (by decide)]; exact q5
    have cn := p_X7_countKnot e17 i2
    by_cases y : k < 64
    · rw [if_pos y] at cn
      refine ok_be cn (ok_f (by decide) ?_)
      have F3 : Fr (fun r _ k => r = 7 ∧ (k = 17 ∨ k = 18)) h (sI (sI h 7 0 18 0) 7 0 17 ((k : Int) + 1)) := fr_sI (fr_sI fr_rf (by omega)) (by omega)
      refine ok_bq (p_X7_addLeaf (c := c) (o := o) (b := b) (n := n) (t := t) (by rw [fr_R F3]; exact q1) (ouC_e (F3.1 1 c 2 (by omega)) (fun r k z => F3.1 r c k (by omega)) q3) (by omega) ((F3.1 7 0 6 (by omega)).trans d6) (fun a1 a2 => (F3.1 7 0 8 (by omega)).trans (d8 a1 a2)) ((F3.1 7 0 9 (by omega)).trans d9) z2) ?_
      intro v h5 ⟨v1, f5, o5⟩
      refine ok_f (by omega) (ok_some (Or.inr ⟨lfT b n t :: o, s, false, k + 1, p, rfl, fr_tr (fr_mo F3 (by intro r i k; unfold ExW; omega)) (fr_mo f5 (by intro r i k; unfold AaW ExW; omega)), ⟨by rw [fr_R f5, fr_R F3]; exact q1, skC_e ((f5.1 7 0 15 (by unfold AaW; omega)).trans (F3.1 7 0 15 (by omega))) (fun k => (f5.1 46 0 k (by unfold AaW; omega)).trans (F3.1 46 0 k (by omega))) q2, o5, ?_, ?_, ?_⟩, ⟨?_, by omega, i3, i4, i5⟩, ?_, fun f => ?_⟩))
      · rw [f5.1 7 0 16 (by unfold AaW; omega), F3.1 7 0 16 (by omega)]; exact q4
      · rw [f5.1 7 0 17 (by unfold AaW; omega), gI_eq]; omega
      · rw [f5.1 7 0 18 (by unfold AaW; omega), gI_nk (by decide), gI_eq]; rfl
      · show o.length + 1 + nO s ≤ k + 1; omega
      · intro z3
        rcases z2 with z2 | z2
        · omega
        · have := k0 (by omega); omega
      · rw [run_p, if_neg z1, if_pos z2, if_pos y]
    · rw [if_neg y] at cn
      refine ok_be cn (ok_t rfl (ok_some (Or.inl ⟨(2, (tkP b n t : Int)), rfl, fr_sI (fr_sI (fr_sI fr_rf (by unfold ExF; omega)) (by unfold ExF; omega)) (by unfold ExF; omega), by rw [gI_nk (by decide), gI_eq], ?_, fun f => ?_⟩)))
      · rw [gI_eq, gI_nk (by decide)]; exact d7
      · rw [run_p, if_neg z1, if_pos z2, if_neg y]
  have one : ∀ m : Nat, 3 ≤ m → ¬ (tkK b n t = 3 ∧ 9999 < tkV b n t) → ok (g_X7_takePart m 1 [] h) (fun r h' => stE b n c o s t true k p h r h') := by
    intro m hm z1
    refine s_X7_takePart_1 (by omega) ?_
    unfold b_X7_takePart_1
    rw [d6, d7, d9, d10, q4]
    refine ok_if (fun u => two _ (by omega) z1 (Or.inl u)) (fun u => ok_if (fun u2 => ?_) (fun u2 => two _ (by omega) z1 (Or.inr (by omega))))
    have z2 : ¬ (tkK b n t = 3 ∨ 20 ≤ kyT b n t) := by omega
    refine ok_if (fun u3 => ok_if (fun u4 => ok_ck (by omega) (ok_lt ?_)) (fun u4 => wr m 2 (fun f => by rw [run_p, if_neg z1, if_neg z2, if_pos u3, if_neg (by omega)]))) (fun u3 => ok_if (fun u4 => ?_) (fun u4 => three _ (by omega) (fun f => by rw [run_p, if_neg z1, if_neg z2, if_neg u3, if_neg (fun z => u4 z.1)])))
    · have F1 : Fr (fun r _ k => r = 7 ∧ k = 16) h (sI h 7 0 16 ((p : Int) + 1)) := fr_sI fr_rf (by omega)
      refine ok_bq (p_X7_defer (x := 15) (skC_e (F1.1 7 0 15 (by omega)) (fun k => F1.1 46 0 k (by omega)) q2) (by omega)) ?_
      intro v h3 ⟨v1, f3, s3⟩
      refine ok_ck (by omega) (ok_some (Or.inr ⟨o, 15 :: s, true, k, p + 1, v1, fr_tr (fr_mo F1 (by intro r i k; unfold ExW; omega)) (fr_mo f3 (by intro r i k; unfold ExW; omega)), ⟨by rw [fr_R f3, fr_R F1]; exact q1, s3, ouC_e ((f3.1 1 c 2 (by omega)).trans (F1.1 1 c 2 (by omega))) (fun r k z => (f3.1 r c k (by omega)).trans (F1.1 r c k (by omega))) q3, ?_, ?_, ?_⟩, ⟨?_, i2, ?_, by omega, Or.inl rfl, i5⟩, ?_, fun f => ?_⟩))
      · rw [f3.1 7 0 16 (by omega), gI_eq]; omega
      · rw [f3.1 7 0 17 (by omega), F1.1 7 0 17 (by omega)]; exact q5
      · rw [f3.1 7 0 18 (by omega), F1.1 7 0 18 (by omega)]; exact q6
      · show o.length + ((if (15 : Int) = 15 then 0 else 1) + nO s) ≤ k
        rw [if_pos rfl]; omega
      · show (if (15 : Int) = 15 then 1 else 0) + nB s = p + 1
        rw [if_pos rfl]; omega
      · have := s0' (by omega); omega
      · rw [run_p, if_neg z1, if_neg z2, if_pos u3, if_pos (by omega)]
    · refine ok_be (p_X7_rankOnTop q2 (by omega)) (ok_if (fun u5 => ?_) (fun u5 => three _ (by omega) (fun f => by rw [run_p, if_neg z1, if_neg z2, if_neg u3, if_neg (fun z => u5 z.2)])))
      have cn := p_X7_countKnot q5 i2
      by_cases y : k < 64
      · rw [if_pos y] at cn
        refine ok_be cn (ok_f (by decide) ?_)
        have F1 : Fr (fun r _ k => r = 7 ∧ k = 17) h (sI h 7 0 17 ((k : Int) + 1)) := fr_sI fr_rf (by omega)
        refine ok_bq (p_X7_defer (x := 4) (skC_e (F1.1 7 0 15 (by omega)) (fun k => F1.1 46 0 k (by omega)) q2) (by omega)) ?_
        intro v h3 ⟨v1, f3, s3⟩
        refine ok_f (by omega) (ok_some (Or.inr ⟨o, 4 :: s, true, k + 1, p, rfl, fr_tr (fr_mo F1 (by intro r i k; unfold ExW; omega)) (fr_mo f3 (by intro r i k; unfold ExW; omega)), ⟨by rw [fr_R f3, fr_R F1]; exact q1, s3, ouC_e ((f3.1 1 c 2 (by omega)).trans (F1.1 1 c 2 (by omega))) (fun r k z => (f3.1 r c k (by omega)).trans (F1.1 r c k (by omega))) q3, ?_, ?_, ?_⟩, ⟨?_, by omega, ?_, i4, Or.inr (by decide), i5⟩, ?_, fun f => ?_⟩))
        · rw [f3.1 7 0 16 (by omega), F1.1 7 0 16 (by omega)]; exact q4
        · rw [f3.1 7 0 17 (by omega), gI_eq]; omega
        · rw [f3.1 7 0 18 (by omega), F1.1 7 0 18 (by omega)]; exact q6
        · show o.length + ((if (4 : Int) = 15 then 0 else 1) + nO s) ≤ k + 1
          rw [if_neg (by decide)]; omega
        · show (if (4 : Int) = 15 then 1 else 0) + nB s = p
          rw [if_neg (by decide)]; omega
        · have := s0' (by omega); omega
        · rw [run_p, if_neg z1, if_neg z2, if_neg u3, if_pos ⟨u4, u5⟩, if_pos y]
      · rw [if_neg y] at cn
        refine ok_be cn (ok_t rfl (ok_some (Or.inl ⟨(2, (tkP b n t : Int)), rfl, fw_ex, by rw [gI_nk (by decide), gI_eq], ?_, fun f => ?_⟩)))
        · rw [gI_eq]; exact d7
        · rw [run_p, if_neg z1, if_neg z2, if_neg u3, if_pos ⟨u4, u5⟩, if_neg y]
  refine fuv_X7_takePart (fun m hm => ?_)
  refine s_X7_takePart_0 (by omega) ?_
  unfold b_X7_takePart_0
  rw [d6, d7]
  refine ok_if (fun u => ?_) (fun u => one _ (by omega) (fun z => u z.1))
  rw [d8 (by omega) (by omega)]
  refine ok_if (fun u2 => one _ (by omega) (fun z => by omega)) (fun u2 => wr m 2 (fun f => by rw [run_p, if_pos ⟨u, by omega⟩]))
end
