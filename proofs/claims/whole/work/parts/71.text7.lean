/-! TEXT, 7: E, the machine of the class -/
def rkF (x : Int) : Int := if x < 0 then 0 else if 16 ≤ x then 0 else xRnk.getD x.toNat 0
def rkT : List Int → Int
  | [] => 0
  | x :: _ => rkF x
/-- lets out the signs that hold at least as closely as r; what is out stands newest first -/
def relF (r : Int) : List (Int × Int) → List Int → List (Int × Int) × List Int
  | o, [] => (o, [])
  | o, x :: s => if r ≤ rkF x then relF r ((x, 0) :: o) s else (o, x :: s)
/-- how many signs wait that are no brackets -/
def nO : List Int → Nat
  | [] => 0
  | x :: s => (if x = 15 then 0 else 1) + nO s
def nB : List Int → Nat
  | [] => 0
  | x :: s => (if x = 15 then 1 else 0) + nB s
abbrev Er := Except (Int × Int) (List (Int × Int) × Nat × Nat)
def lfT (b : Int → Int) (n t : Nat) : Int × Int := if tkK b n t = 3 then (0, tkV b n t) else (1, kyT b n t - 20)
def runE (b : Int → Int) (n : Nat) : Nat → List (Int × Int) → List Int → Nat → Bool → Nat → Nat → Er
  | 0, _, _, _, _, _, _ => .error (0, 0)
  | f + 1, o, s, t, w, k, p =>
    if w = true then
      if tkK b n t = 3 ∧ 9999 < tkV b n t then .error (2, (tkP b n t : Int))
      else if tkK b n t = 3 ∨ 20 ≤ kyT b n t then (if k < 64 then runE b n f (lfT b n t :: o) s (t + 1) false (k + 1) p else .error (2, (tkP b n t : Int)))
      else if sgT b n t = 15 then (if p < 8 then runE b n f o (15 :: s) (t + 1) true k (p + 1) else .error (2, (tkP b n t : Int)))
      else if sgT b n t = 4 ∧ rkT s < 4 then (if k < 64 then runE b n f o (4 :: s) (t + 1) true (k + 1) p else .error (2, (tkP b n t : Int)))
      else .error (1, (tkP b n t : Int))
    else if sgT b n t = -1 ∨ sgT b n t = 4 ∨ sgT b n t = 15 ∨ sgT b n t = 17 then (if p = 0 then .ok ((relF 1 o s).1, t, k) else .error (1, (tkP b n t : Int)))
    else if sgT b n t = 16 then (if 1 ≤ p then runE b n f (relF 1 o s).1 (relF 1 o s).2.tail (t + 1) false k (p - 1) else .error (1, (tkP b n t : Int)))
    else if rkF (sgT b n t) = 4 then (if rkT (relF 5 o s).2 = 4 then .error (1, (tkP b n t : Int)) else if k < 64 then runE b n f (relF 5 o s).1 (sgT b n t :: (relF 5 o s).2) (t + 1) true (k + 1) p else .error (2, (tkP b n t : Int)))
    else (if k < 64 then runE b n f (relF (rkF (sgT b n t)) o s).1 (sgT b n t :: (relF (rkF (sgT b n t)) o s).2) (t + 1) true (k + 1) p else .error (2, (tkP b n t : Int)))
/-! the class's cells of it -/
def skC (h : Hp) (s : List Int) : Prop := gI h 7 0 15 = (s.length : Int) ∧ ∀ i : Nat, i < s.length → gI h 46 0 ((s.length - 1 - i : Nat) : Int) = s.getD i 0
def ouC (h : Hp) (c : Int) (o : List (Int × Int)) : Prop := gI h 1 c 2 = (o.length : Int) ∧ ∀ i : Nat, i < o.length → gI h 25 c ((o.length - 1 - i : Nat) : Int) = (o.getD i (0, 0)).1 ∧ gI h 26 c ((o.length - 1 - i : Nat) : Int) = (o.getD i (0, 0)).2
def AaW (c : Int) : Nat → Int → Int → Prop := fun r i k => i = c ∧ ((r = 1 ∧ k = 2) ∨ r = 25 ∨ r = 26)
def RlW (c : Int) : Nat → Int → Int → Prop := fun r i k => (r = 7 ∧ k = 15) ∨ (i = c ∧ ((r = 1 ∧ k = 2) ∨ r = 25 ∨ r = 26))
section
variable {h h2 : Hp} {c x y : Int} {o : List (Int × Int)} {s : List Int}
theorem rkF_15 : rkF 15 = 0 := by decide
theorem rkF_r : ∀ v : Nat, v < 16 → 0 ≤ rkF (v : Int) ∧ rkF (v : Int) ≤ 6 := by decide
theorem rkF_0 : 0 ≤ rkF x := by
  unfold rkF
  split
  · omega
  · split
    · omega
    · have := (rkF_r x.toNat (by omega)).1
      unfold rkF at this
      rw [if_neg (by omega), if_neg (by omega)] at this
      rw [show ((x.toNat : Int)).toNat = x.toNat by omega] at this
      exact this
theorem skC_e (e : gI h2 7 0 15 = gI h 7 0 15) (e2 : ∀ k, gI h2 46 0 k = gI h 46 0 k) (q : skC h s) : skC h2 s := ⟨e.trans q.1, fun i hi => (e2 _).trans (q.2 i hi)⟩
theorem ouC_e (e : gI h2 1 c 2 = gI h 1 c 2) (e2 : ∀ (r : Nat) (k : Int), r = 25 ∨ r = 26 → gI h2 r c k = gI h r c k) (q : ouC h c o) : ouC h2 c o := ⟨e.trans q.1, fun i hi => ⟨(e2 25 _ (by omega)).trans (q.2 i hi).1, (e2 26 _ (by omega)).trans (q.2 i hi).2⟩⟩
theorem skC_push (q : skC h s) (e : gI h2 7 0 15 = (s.length : Int) + 1) (e1 : gI h2 46 0 (s.length : Int) = x) (e2 : ∀ k, k < (s.length : Int) → gI h2 46 0 k = gI h 46 0 k) : skC h2 (x :: s) := by
  have l : (x :: s).length = s.length + 1 := rfl
  refine ⟨by rw [e, l]; omega, fun i hi => ?_⟩
  cases i with
  | zero =>
    show gI h2 46 0 ((s.length + 1 - 1 - 0 : Nat) : Int) = x
    rw [show s.length + 1 - 1 - 0 = s.length by omega]; exact e1
  | succ i =>
    have hi2 : i < s.length := by omega
    show gI h2 46 0 ((s.length + 1 - 1 - (i + 1) : Nat) : Int) = s.getD i 0
    rw [show s.length + 1 - 1 - (i + 1) = s.length - 1 - i by omega, e2 _ (by omega)]
    exact q.2 i hi2
theorem skC_pop (q : skC h (x :: s)) (e : gI h2 7 0 15 = (s.length : Int)) (e2 : ∀ k, gI h2 46 0 k = gI h 46 0 k) : skC h2 s := by
  refine ⟨e, fun i hi => ?_⟩
  have := q.2 (i + 1) (by show i + 1 < s.length + 1; omega)
  have l : (x :: s).length - 1 - (i + 1) = s.length - 1 - i := by
    show s.length + 1 - 1 - (i + 1) = _
    omega
  rw [l] at this
  exact (e2 _).trans this
theorem skC_top (q : skC h (x :: s)) : gI h 7 0 15 = (s.length : Int) + 1 ∧ gI h 46 0 (s.length : Int) = x := by
  have a := q.1
  have b := q.2 0 (by show 0 < s.length + 1; omega)
  have l : (x :: s).length = s.length + 1 := rfl
  rw [l] at a b
  refine ⟨by rw [a]; omega, ?_⟩
  rw [show s.length + 1 - 1 - 0 = s.length by omega] at b
  exact b
theorem p_X1_add (q : ouC h c o) (l : o.length < 64) : ok (f_X1_add c x y h) (fun _ h' => Fr (AaW c) h h' ∧ ouC h' c ((x, y) :: o)) := by
  have e := q.1
  refine fuv_X1_add (fun m hm => ?_)
  refine s_X1_add_0 (by omega) ?_
  unfold b_X1_add_0
  rw [e]
  refine ok_f (by omega) (ok_f (by omega) (ok_ck (by omega) (ok_lt ?_)))
  rw [gI_nr (show (1 : Nat) ≠ 25 by decide), e]
  refine ok_ck (by omega) (ok_lt ?_)
  rw [gI_nr (show (1 : Nat) ≠ 26 by decide), gI_nr (show (1 : Nat) ≠ 25 by decide), e]
  refine ok_ck (by omega) (ok_lt (ok_some ⟨fr_sI (fr_sI (fr_sI fr_rf (by unfold AaW; omega)) (by unfold AaW; omega)) (by unfold AaW; omega), ?_, fun i hi => ?_⟩))
  · rw [gI_eq]; rfl
  · rw [gI_nr (show (25 : Nat) ≠ 1 by decide), gI_nr (show (25 : Nat) ≠ 26 by decide), gI_nr (show (26 : Nat) ≠ 1 by decide)]
    have l2 : ((x, y) :: o).length = o.length + 1 := rfl
    cases i with
    | zero =>
      rw [l2, show o.length + 1 - 1 - 0 = o.length by omega, gI_eq, gI_eq]
      exact ⟨rfl, rfl⟩
    | succ i =>
      have hi2 : i < o.length := by omega
      rw [l2, show o.length + 1 - 1 - (i + 1) = o.length - 1 - i by omega, gI_nk (by omega), gI_nk (by omega), gI_nr (by decide)]
      exact q.2 i hi2
theorem p_X7_rankOf : f_X7_rankOf x h = some (rkF x, h) := by
  refine ok_eq.mp (fuv_X7_rankOf (fun m hm => ?_))
  refine s_X7_rankOf_0 (by omega) ?_
  unfold b_X7_rankOf_0 rkF
  refine ok_if (fun u => ok_some ⟨by rw [if_pos u], rfl⟩) (fun u => ok_if (fun u2 => ok_some ⟨by rw [if_neg u, if_pos u2], rfl⟩) (fun u2 => ok_ck (by omega) (ok_some ⟨by rw [if_neg u, if_neg u2], rfl⟩)))
theorem p_X7_rankOnTop (q : skC h s) (l : s.length ≤ 72) : f_X7_rankOnTop h = some (rkT s, h) := by
  refine ok_eq.mp (fuv_X7_rankOnTop (fun m hm => ?_))
  refine s_X7_rankOnTop_0 (by omega) ?_
  unfold b_X7_rankOnTop_0
  cases s with
  | nil =>
    have e : gI h 7 0 15 = 0 := q.1
    rw [e]
    exact ok_t (by omega) (ok_some ⟨rfl, rfl⟩)
  | cons x s =>
    have t := skC_top q
    have l2 : s.length + 1 ≤ 72 := l
    rw [t.1, show (s.length : Int) + 1 - 1 = (s.length : Int) by omega, t.2]
    exact ok_f (by omega) (ok_f (by omega) (ok_ck (by omega) (ok_ck (by omega) (ok_be p_X7_rankOf (ok_some ⟨rfl, rfl⟩)))))
theorem p_X7_release {r : Int} (r1 : 1 ≤ r) (rc : gR h 7 0 1 = some (0, c)) (q : skC h s) (u : ouC h c o) (l : s.length ≤ 72) (l2 : o.length + nO s ≤ 64) : ok (f_X7_release r h) (fun _ h' => Fr (RlW c) h h' ∧ skC h' (relF r o s).2 ∧ ouC h' c (relF r o s).1) := by
  have key : ∀ (s : List Int) (o : List (Int × Int)) (m : Nat) (h1 : Hp), s.length + 1 ≤ m → Fr (RlW c) h h1 → skC h1 s → ouC h1 c o → s.length ≤ 72 → o.length + nO s ≤ 64 → ok (g_X7_release m 0 [r] h1) (fun _ h' => Fr (RlW c) h h' ∧ skC h' (relF r o s).2 ∧ ouC h' c (relF r o s).1) := by
    intro s
    induction s with
    | nil =>
      intro o m h1 hm f q u l l2
      refine s_X7_release_0 (by omega) ?_
      unfold b_X7_release_0
      have e : gI h1 7 0 15 = 0 := q.1
      rw [e]
      exact ok_t (by omega) (ok_some ⟨f, q, u⟩)
    | cons x s ih =>
      intro o m h1 hm f q u l l2
      have t := skC_top q
      have l3 : s.length + 1 ≤ 72 := l
      have hm2 : s.length + 2 ≤ m := hm
      refine s_X7_release_0 (by omega) ?_
      unfold b_X7_release_0
      rw [t.1, show (s.length : Int) + 1 - 1 = (s.length : Int) by omega, t.2]
      have eR : relF r o (x :: s) = if r ≤ rkF x then relF r ((x, 0) :: o) s else (o, x :: s) := rfl
      refine ok_f (by omega) (ok_f (by omega) (ok_ck (by omega) (ok_ck (by omega) (ok_be p_X7_rankOf (ok_if (fun v => ok_some ⟨f, ?_, ?_⟩) (fun v => ?_))))))
      · rw [eR, if_neg (by omega)]; exact q
      · rw [eR, if_neg (by omega)]; exact u
      · have x15 : x ≠ 15 := fun e => by
          rw [e, rkF_15] at v
          omega
        have nn : nO (x :: s) = 1 + nO s := by
          show (if x = 15 then 0 else 1) + nO s = 1 + nO s
          rw [if_neg x15]
        rw [nn] at l2
        rw [eR, if_pos (by omega)]
        rw [t.1]
        refine ok_ck (by omega) (ok_lt ?_)
        rw [show (s.length : Int) + 1 - 1 = (s.length : Int) by omega, gI_eq, gI_nr (show (46 : Nat) ≠ 7 by decide), t.2]
        have F1 : Fr (RlW c) h1 (sI h1 7 0 15 (s.length : Int)) := fr_sI fr_rf (by unfold RlW; omega)
        refine ok_rf (j := c) (by rw [fr_R F1, fr_R f]; exact rc) (ok_ck (by omega) (ok_bq (p_X1_add (o := o) (ouC_e (gI_nr (by decide)) (fun r k z => gI_nr (by omega)) u) (by omega)) ?_))
        intro _ h3 ⟨f3, u3⟩
        refine ih ((x, 0) :: o) _ h3 (by omega) (fr_tr f (fr_tr F1 (fr_mo f3 (by intro r i k; unfold AaW RlW; omega)))) (skC_pop q ?_ (fun k => ?_)) u3 (by omega) (by show o.length + 1 + nO s ≤ 64; omega)
        · rw [f3.1 7 0 15 (by unfold AaW; omega), gI_eq]
        · rw [f3.1 46 0 k (by unfold AaW; omega), gI_nr (by decide)]
  refine fuv_X7_release (fun m hm => ?_)
  exact key s o m h (by omega) fr_rf q u l l2
end
