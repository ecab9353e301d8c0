/-! TEXT, 33: the class's end of the reading -/
/-- the place, while reading, of mouth i -/
def slt (D : Dr) (i : Int) : Int := if i < dM D 0 0 then i else 5 + (i - dM D 0 0)
/-- the chart that was read; f: how far from Bahia, g: from the isles -/
def mkC (D : Dr) (f g : Int → Int) : Ch := fun q k => match q with
  | 0 => dS D 0 0
  | 1 => dS D 1 0
  | 2 => dS D 2 k
  | 3 => dS D 3 0
  | 4 => dS D 4 0
  | 5 => dI D 0 0
  | 6 => dI D 1 k
  | 7 => dI D 2 k
  | 8 => dI D 3 k
  | 9 => dI D 4 k
  | 10 => dN D 0 0
  | 11 => dN D 1 k
  | 12 => dG D 0 0
  | 13 => dG D 1 k
  | 14 => dG D 2 k
  | 15 => dG D 3 k
  | 16 => dT D 0 0
  | 17 => dT D 1 0
  | 18 => dT D 2 0
  | 19 => dT D 3 0
  | 20 => dM D 0 0
  | 21 => dM D 1 0
  | 22 => dM D 2 (slt D k)
  | 23 => dM D 3 (slt D k)
  | 24 => dM D 4 (slt D k)
  | 25 => dM D 5 (slt D k)
  | 26 => dM D 6 (slt D k)
  | 27 => dM D 7 (slt D k)
  | 28 => dM D 8 (slt D k)
  | 29 => dM D 9 (slt D k)
  | 30 => dM D 10 (slt D k)
  | 31 => dM D 11 (slt D k)
  | 32 => ((dO D).length : Int)
  | 33 => cC (dO D) 33 k
  | 34 => cC (dO D) 34 k
  | 35 => f k
  | _ => g k
abbrev stD (D : Dr) : Int → Int → Int := stepF (dS D 0 0) (dS D 1 0)
abbrev wtD (D : Dr) (x : Int) : Prop := cellP (dS D 0 0) (dS D 1 0) x ∧ dS D 2 x = 0
section
variable {D : Dr} {f g : Int → Int}
theorem slt_t (w : DW D) {i : Int} (i1 : 0 ≤ i) (i2 : i < dM D 0 0 + dM D 1 0) : thM (dM D) (slt D i) ∧ 0 ≤ slt D i ∧ slt D i < 9 := by
  have m := w.2.2.2.2.2.2.1.1
  unfold slt thM
  split <;> omega
theorem mk_CW (w : DW D) (hf : ∀ x, 0 ≤ x → x < 64 → farV (stD D) (wtD D) (dS D 4 0) x (f x)) (hg : ∀ i x, 0 ≤ i → i < dI D 0 0 → 0 ≤ x → x < 64 → farV (stD D) (wtD D) (dI D 2 i) x (g (64 * i + x))) : CW (mkC D f g) := by
  have w' := w
  obtain ⟨qS, qX, qI, qN, qG, qT, qM, qO⟩ := w
  have m := qM.1
  have el : ∀ e, e ∈ dO D → eV e := qO.2.2
  refine ⟨qS.1, qS.2.1, qX.1, qX.2.1, qI.1, qI.2.2, ⟨qN.1, qN.2.1⟩, qN.2.2, qG.1, qG.2, qT, m, fun i i1 i2 => ?_, fun i i1 i2 => ?_, fun i i1 i2 => ?_, ⟨?_, ?_⟩, fun k k1 k2 => ?_, hf, hg⟩
  · have i2' : i < dM D 0 0 + dM D 1 0 := i2
    have t := slt_t w' i1 i2'
    obtain ⟨a1, a2, a3, a4, a5, a6, a7, a8, a9, a10, a11, a12⟩ := qM.2.1 _ t.1
    exact ⟨a1, a2, a3, a4, a5, a6, a7, a8, a9, a10, a11⟩
  · have i2' : i < dM D 0 0 + dM D 1 0 := i2
    have t := slt_t w' i1 i2'
    obtain ⟨a1, a2, a3, a4, a5, a6, a7, a8, a9, a10, a11, a12⟩ := qM.2.1 _ t.1
    show vd (mkC D f g) (dM D 11 (slt D i) - dM D 10 (slt D i)).toNat (dM D 10 (slt D i)) 0 = some 1
    rw [← a12]
    exact vd_c _ _ _ (fun j _ _ => rfl)
  · have i1' : dM D 0 0 ≤ i := i1
    have i2' : i < dM D 0 0 + dM D 1 0 := i2
    have es : slt D i = 5 + (i - dM D 0 0) := if_neg (by omega)
    show 1 ≤ dM D 4 (slt D i) ∧ dM D 4 (slt D i) ≤ 99
    rw [es]
    exact qM.2.2 _ (by omega) (by omega)
  · show (0 : Int) ≤ ((dO D).length : Int); omega
  · have := qO.1
    have := qO.2.1
    show ((dO D).length : Int) ≤ 64; omega
  · have k2' : k < ((dO D).length : Int) := k2
    have lt : (dO D).length - 1 - k.toNat < (dO D).length := by omega
    have e1 : cC (dO D) 33 k = ((dO D).getD ((dO D).length - 1 - k.toNat) (0, 0)).1 := if_pos rfl
    have e2 : cC (dO D) 34 k = ((dO D).getD ((dO D).length - 1 - k.toNat) (0, 0)).2 := if_neg (by decide)
    have me : (dO D).getD ((dO D).length - 1 - k.toNat) (0, 0) ∈ dO D := by
      rw [List.getD_eq_getElem?_getD, List.getElem?_eq_getElem lt]
      exact List.getElem_mem lt
    have v := el _ me
    show 0 ≤ cC (dO D) 33 k ∧ cC (dO D) 33 k ≤ 14 ∧ (cC (dO D) 33 k = 0 → 0 ≤ cC (dO D) 34 k ∧ cC (dO D) 34 k ≤ 9999) ∧ (cC (dO D) 33 k = 1 → 0 ≤ cC (dO D) 34 k ∧ cC (dO D) 34 k < 7)
    rw [e1, e2]
    generalize (dO D).getD ((dO D).length - 1 - k.toNat) (0, 0) = e at v
    unfold eV at v
    omega
end
/-! ways by water -/
section
variable {h : Hp} {c : Int}
def MeW (c : Int) : Nat → Int → Int → Prop := fun r i _ => i = c ∧ (r = 55 ∨ r = 56)
theorem p_X9_measure (hb : seaB h c) (i0 : 0 ≤ gI h 9 c 6) (i3 : gI h 9 c 6 ≤ 3) : ok (f_X9_measure c h) (fun _ h' => Fr (MeW c) h h' ∧ (∀ x, 0 ≤ x → x < 64 → farV (stp h c) (wtr h c) (gI h 9 c 5) x (gI h' 55 c (192 + x))) ∧ ∀ i x, 0 ≤ i → i < gI h 9 c 6 → 0 ≤ x → x < 64 → farV (stp h c) (wtr h c) (gI h 52 c i) x (gI h' 55 c (64 * i + x))) := by
  have st : ∀ h1 : Hp, Fr (MeW c) h h1 → stp h1 c = stp h c ∧ wtr h1 c = wtr h c ∧ seaB h1 c ∧ (∀ i, gI h1 52 c i = gI h 52 c i) ∧ gI h1 9 c 5 = gI h 9 c 5 ∧ gI h1 9 c 6 = gI h 9 c 6 := by
    intro h1 f
    have x : ∀ k, gI h1 9 c k = gI h 9 c k := fun k => f.1 9 c k (by unfold MeW; omega)
    refine ⟨?_, ?_, ?_, fun i => f.1 52 c i (by unfold MeW; omega), x 5, x 6⟩
    · unfold stp; rw [x 0, x 1]
    · funext y; unfold wtr; rw [x 0, x 1, x 2]
    · unfold seaB; rw [x 0, x 1]; exact hb
  have key : ∀ (d m : Nat) (k : Int) (h1 : Hp), (gI h 9 c 6 - k).toNat = d → 0 ≤ k → k ≤ gI h 9 c 6 → d + 3 ≤ m → Fr (MeW c) h h1 → (∀ i x, 0 ≤ i → i < k → 0 ≤ x → x < 64 → farV (stp h c) (wtr h c) (gI h 52 c i) x (gI h1 55 c (64 * i + x))) → ok (g_X9_measure m 1 [c, k] h1) (fun _ h' => Fr (MeW c) h h' ∧ (∀ x, 0 ≤ x → x < 64 → farV (stp h c) (wtr h c) (gI h 9 c 5) x (gI h' 55 c (192 + x))) ∧ ∀ i x, 0 ≤ i → i < gI h 9 c 6 → 0 ≤ x → x < 64 → farV (stp h c) (wtr h c) (gI h 52 c i) x (gI h' 55 c (64 * i + x))) := by
    intro d
    induction d with
    | zero =>
      intro m k h1 hd k1 k2 hm f1 q1
      obtain ⟨s1, s2, s3, s4, s5, s6⟩ := st h1 f1
      refine s_X9_measure_1 (by omega) ?_
      unfold b_X9_measure_1
      rw [s6]
      refine ok_t (by omega) ?_
      refine s_X9_measure_2 (by omega) ?_
      unfold b_X9_measure_2
      refine ok_bq (p_X9_spread (w := 3) s3 (by decide) (by decide)) ?_
      intro v h2 ⟨_, f2, q2⟩
      rw [s1, s2, s5] at q2
      refine ok_some ⟨fr_tr f1 (fr_mo f2 (by intro r i k; unfold SpW MeW; omega)), fun x x1 x2 => ?_, fun i x i1 i2 x1 x2 => ?_⟩
      · have := q2 x x1 x2
        rw [show 3 * 64 + x = 192 + x by omega] at this
        exact this
      · rw [f2.1 55 c _ (by unfold SpW; omega)]
        exact q1 i x i1 (by omega) x1 x2
    | succ d ih =>
      intro m k h1 hd k1 k2 hm f1 q1
      obtain ⟨s1, s2, s3, s4, s5, s6⟩ := st h1 f1
      refine s_X9_measure_1 (by omega) ?_
      unfold b_X9_measure_1
      rw [s6, s4]
      refine ok_f (by omega) (ok_f (by omega) (ok_ck (by omega) (ok_bq (p_X9_spread (w := k) s3 k1 (by omega)) ?_)))
      intro v h2 ⟨_, f2, q2⟩
      rw [s1, s2] at q2
      refine ok_ck (by omega) (ih _ (k + 1) h2 (by omega) (by omega) (by omega) (by omega) (fr_tr f1 (fr_mo f2 (by intro r i k; unfold SpW MeW; omega))) (fun i x i1 i2 x1 x2 => ?_))
      by_cases e : i = k
      · rw [e]
        have := q2 x x1 x2
        rw [show k * 64 + x = 64 * k + x by omega] at this
        exact this
      · rw [f2.1 55 c _ (by unfold SpW; omega)]
        exact q1 i x i1 (by omega) x1 x2
  refine fuv_X9_measure (fun m hm => ?_)
  refine s_X9_measure_0 (by omega) ?_
  unfold b_X9_measure_0
  exact key _ _ 0 h rfl (by omega) (by omega) (by omega) fr_rf (fun i x i1 i2 => absurd i2 (by omega))
end
/-! the crew in order -/
def pmC (h : Hp) (c : Int) (π : Int → Int) : Prop := (∀ k, 0 ≤ k → k < 9 → gR h 20 c k = some (4, 9 * c + π k) ∧ 0 ≤ π k ∧ π k < 9) ∧ ∀ j k, 0 ≤ j → j < 9 → 0 ≤ k → k < 9 → π j = π k → j = k
section
variable {h : Hp} {c : Int} {π : Int → Int} {a m : Int} {Q : Int → Hp → Prop}
theorem swp_in {π : Int → Int} {x y : Int} (q : ∀ j k, 0 ≤ j → j < 9 → 0 ≤ k → k < 9 → π j = π k → j = k) (x1 : 0 ≤ x) (x2 : x < 9) (y1 : 0 ≤ y) (y2 : y < 9) : ∀ j k : Int, 0 ≤ j → j < 9 → 0 ≤ k → k < 9 → (if j = y then π x else if j = x then π y else π j) = (if k = y then π x else if k = x then π y else π k) → j = k := by
  intro j k j1 j2 k1 k2 e
  by_cases a1 : j = y
  · rw [if_pos a1] at e
    by_cases b1 : k = y
    · omega
    · rw [if_neg b1] at e
      by_cases b2 : k = x
      · rw [if_pos b2] at e
        have := q x y x1 x2 y1 y2 e
        omega
      · rw [if_neg b2] at e
        have := q x k x1 x2 k1 k2 e
        omega
  · rw [if_neg a1] at e
    by_cases a2 : j = x
    · rw [if_pos a2] at e
      by_cases b1 : k = y
      · rw [if_pos b1] at e
        have := q y x y1 y2 x1 x2 e
        omega
      · rw [if_neg b1] at e
        by_cases b2 : k = x
        · omega
        · rw [if_neg b2] at e
          have := q y k y1 y2 k1 k2 e
          omega
    · rw [if_neg a2] at e
      by_cases b1 : k = y
      · rw [if_pos b1] at e
        have := q j x j1 j2 x1 x2 e
        omega
      · rw [if_neg b1] at e
        by_cases b2 : k = x
        · rw [if_pos b2] at e
          have := q j y j1 j2 y1 y2 e
          omega
        · rw [if_neg b2] at e
          exact q j k j1 j2 k1 k2 e
theorem t_close (p : pmC h c π) (e3 : gI h 0 c 3 = a) (e4 : gI h 0 c 4 = m) (a0 : 0 ≤ a ∧ a ≤ 5) (m0 : 0 ≤ m ∧ m ≤ 4)
    (k2 : ∀ (g : Nat) (h2 : Hp) (ρ : Int → Int), 1 ≤ g → pmC h2 c ρ → (∀ i, 0 ≤ i → i < a + m → ρ i = π (if i < a then i else 5 + (i - a))) → h2.1 = h.1 → (∀ (r : Nat) (i k : Int), ¬ (r = 20 ∧ i = c) → gR h2 r i k = gR h r i k) → h2.2.2 = h.2.2 → ok (g_X0_close g 2 [c] h2) Q) : ok (f_X0_close c h) Q := by
  have key : ∀ (d g : Nat) (x : Int) (h1 : Hp) (ρ : Int → Int), (m - x).toNat = d → 0 ≤ x → x ≤ m → d + 2 ≤ g → pmC h1 c ρ → (∀ i, 0 ≤ i → i < a → ρ i = π i) → (∀ i, a ≤ i → i < a + x → ρ i = π (5 + (i - a))) → (∀ i, 5 + x ≤ i → i < 9 → ρ i = π i) → h1.1 = h.1 → (∀ (r : Nat) (i k : Int), ¬ (r = 20 ∧ i = c) → gR h1 r i k = gR h r i k) → h1.2.2 = h.2.2 → ok (g_X0_close g 1 [c, x] h1) Q := by
    intro d
    induction d with
    | zero =>
      intro g x h1 ρ hd x1 x2 hg p1 r1 r2 r3 e1 e2 e5
      have z3 : gI h1 0 c 3 = a := by unfold gI; rw [e1]; exact e3
      have z4 : gI h1 0 c 4 = m := by unfold gI; rw [e1]; exact e4
      refine s_X0_close_1 (by omega) ?_
      unfold b_X0_close_1
      rw [z4]
      refine ok_t (by omega) (k2 _ h1 ρ (by omega) p1 (fun i i1 i2 => ?_) e1 e2 e5)
      by_cases y : i < a
      · rw [if_pos y]; exact r1 i i1 y
      · rw [if_neg y]; exact r2 i (by omega) (by omega)
    | succ d ih =>
      intro g x h1 ρ hd x1 x2 hg p1 r1 r2 r3 e1 e2 e5
      have z3 : gI h1 0 c 3 = a := by unfold gI; rw [e1]; exact e3
      have z4 : gI h1 0 c 4 = m := by unfold gI; rw [e1]; exact e4
      refine s_X0_close_1 (by omega) ?_
      unfold b_X0_close_1
      rw [z4, z3]
      refine ok_f (by omega) (ok_ck (by omega) (ok_f (by omega) (ok_ck (by omega) (ok_f (by omega) (ok_ck (by omega) (ok_ck (by omega) (ok_rf (p1.1 (5 + x) (by omega) (by omega)).1 (ok_ck (by omega) (ok_ck (by omega) (ok_ck (by omega) (ok_rf (p1.1 (a + x) (by omega) (by omega)).1 (ok_ck (by omega) (ok_lt ?_)))))))))))))
      have z5 : gI (sR h1 20 c (5 + x) (some (4, 9 * c + ρ (a + x)))) 0 c 3 = a := z3
      rw [z5]
      refine ok_ck (by omega) (ok_ck (by omega) (ok_lt (ok_ck (by omega) ?_)))
      have gr : ∀ k, gR (sR (sR h1 20 c (5 + x) (some (4, 9 * c + ρ (a + x)))) 20 c (a + x) (some (4, 9 * c + ρ (5 + x)))) 20 c k = if k = a + x then some (4, 9 * c + ρ (5 + x)) else if k = 5 + x then some (4, 9 * c + ρ (a + x)) else gR h1 20 c k := by
        intro k
        rw [gR_sR, gR_sR]
        by_cases y1 : k = a + x
        · rw [if_pos ⟨rfl, rfl, y1⟩, if_pos y1]
        · rw [if_neg (fun z => y1 z.2.2), if_neg y1]
          by_cases y2 : k = 5 + x
          · rw [if_pos ⟨rfl, rfl, y2⟩, if_pos y2]
          · rw [if_neg (fun z => y2 z.2.2), if_neg y2]
      refine ih _ (x + 1) _ (fun k => if k = a + x then ρ (5 + x) else if k = 5 + x then ρ (a + x) else ρ k) (by omega) (by omega) (by omega) (by omega) ⟨fun k k1 k2 => ?_, swp_in p1.2 (by omega) (by omega) (by omega) (by omega)⟩ (fun i i1 i2 => ?_) (fun i i1 i2 => ?_) (fun i i1 i2 => ?_) e1 (fun r i k z => ?_) e5
      · rw [gr k]
        show _ = some (4, 9 * c + (if k = a + x then ρ (5 + x) else if k = 5 + x then ρ (a + x) else ρ k)) ∧ 0 ≤ (if k = a + x then ρ (5 + x) else if k = 5 + x then ρ (a + x) else ρ k) ∧ (if k = a + x then ρ (5 + x) else if k = 5 + x then ρ (a + x) else ρ k) < 9
        by_cases y1 : k = a + x
        · rw [if_pos y1, if_pos y1]
          exact ⟨rfl, (p1.1 (5 + x) (by omega) (by omega)).2⟩
        · rw [if_neg y1, if_neg y1]
          by_cases y2 : k = 5 + x
          · rw [if_pos y2, if_pos y2]
            exact ⟨rfl, (p1.1 (a + x) (by omega) (by omega)).2⟩
          · rw [if_neg y2, if_neg y2]
            exact p1.1 k k1 k2
      · show (if i = a + x then ρ (5 + x) else if i = 5 + x then ρ (a + x) else ρ i) = π i
        rw [if_neg (by omega), if_neg (by omega)]
        exact r1 i i1 i2
      · show (if i = a + x then ρ (5 + x) else if i = 5 + x then ρ (a + x) else ρ i) = π (5 + (i - a))
        by_cases y1 : i = a + x
        · rw [if_pos y1, r3 (5 + x) (by omega) (by omega), y1, show 5 + (a + x - a) = 5 + x by omega]
        · rw [if_neg y1, if_neg (by omega)]
          exact r2 i i1 (by omega)
      · show (if i = a + x then ρ (5 + x) else if i = 5 + x then ρ (a + x) else ρ i) = π i
        rw [if_neg (by omega), if_neg (by omega)]
        exact r3 i (by omega) i2
      · rw [gR_sR, gR_sR, if_neg (fun y => z ⟨y.1, y.2.1⟩), if_neg (fun y => z ⟨y.1, y.2.1⟩)]
        exact e2 r i k z
  refine fuv_X0_close (fun g hg => ?_)
  refine s_X0_close_0 (by omega) ?_
  unfold b_X0_close_0
  exact key _ _ 0 h π rfl (by omega) (by omega) (by omega) p (fun i _ _ => rfl) (fun i i1 i2 => absurd i2 (by omega)) (fun i _ _ => rfl) rfl (fun _ _ _ _ => rfl) rfl
end
