/-! HOW FAR: the class's queue -/
def qI (st : Int → Int → Int) (wt : Int → Prop) (a : Int) (r q : Int → Int) (Q K : Int) : Prop :=
  1 ≤ Q ∧ Q ≤ 64 ∧ 0 ≤ K ∧ K ≤ Q ∧ r a = 0 ∧ lb1 wt r ∧ lb2 st a r ∧ (∀ j, 0 ≤ j → j < Q → 0 ≤ q j ∧ q j < 64 ∧ r (q j) ≠ 99 ∧ r (q j) ≤ j) ∧ (∀ c, 0 ≤ c → c < 64 → r c ≠ 99 → ∃ j, 0 ≤ j ∧ j < Q ∧ q j = c) ∧ (∀ i j, 0 ≤ i → i ≤ j → j < Q → r (q i) ≤ r (q j)) ∧ (K < Q → ∀ j, 0 ≤ j → j < Q → r (q j) ≤ r (q K) + 1) ∧ (∀ j, 0 ≤ j → j < K → lb3 st wt r (q j)) ∧ us r 64 + Q = 64
def qP (st : Int → Int → Int) (wt : Int → Prop) (r q : Int → Int) (K x : Int) : Prop := ∀ k : Int, 0 ≤ k → k < x → wt (st (q K) k) → r (st (q K) k) ≠ 99 ∧ r (st (q K) k) ≤ r (q K) + 1
section
variable {st : Int → Int → Int} {wt : Int → Prop} {a d k x Q K : Int} {r q r2 q2 : Int → Int}
theorem qI_new (hI : qI st wt a r q Q K) (hP : qP st wt r q K x) (hw : ∀ c, wt c → 0 ≤ c ∧ c < 64) (hK : K < Q) (hd : wt d) (h9 : r d = 99) (x1 : 0 ≤ x) (x2 : x < 4) (e : st (q K) x = d) (hr : ∀ c, r2 c = if c = d then r (q K) + 1 else r c) (hq : ∀ j, q2 j = if j = Q then d else q j) : Q < 64 ∧ qI st wt a r2 q2 (Q + 1) K ∧ qP st wt r2 q2 K (x + 1) := by
  obtain ⟨i1, i2, i3, i4, i5, i6, i7, i8, i9, i10, i11, i12, i13⟩ := hI
  obtain ⟨d1, d2⟩ := hw d hd
  have hu := us_pos h9 64 d1 (by omega)
  obtain ⟨k1, k2, k3, k4⟩ := i8 K i3 hK
  have k5 : 0 ≤ r (q K) := by rcases i6 _ k1 k2 with z | z <;> omega
  have nd : ∀ j, 0 ≤ j → j < Q → q j ≠ d := fun j j1 j2 z => (i8 j j1 j2).2.2.1 (by rw [z]; exact h9)
  have rq : ∀ j, 0 ≤ j → j < Q → r2 (q2 j) = r (q j) := fun j j1 j2 => by rw [hq, if_neg (by omega), hr, if_neg (nd j j1 j2)]
  have qq : ∀ j, j < Q → q2 j = q j := fun j j2 => by rw [hq, if_neg (by omega)]
  have rd : r2 d = r (q K) + 1 := by rw [hr, if_pos rfl]
  have qQ : q2 Q = d := by rw [hq, if_pos rfl]
  have rn : ∀ c, r c ≠ 99 → r2 c = r c := fun c z => by rw [hr, if_neg (fun y => z (by rw [y]; exact h9))]
  have ra : a ≠ d := fun z => by rw [← z] at h9; omega
  have hP2 : qP st wt r2 q2 K (x + 1) := by
    intro k0 z1 z2 z3
    rw [qq K hK] at z3 ⊢
    by_cases y : k0 = x
    · subst y
      rw [e, rd, rn _ k3]; exact ⟨by omega, by omega⟩
    · have z := hP k0 z1 (by omega) z3
      rw [rn _ z.1, rn _ k3]; exact z
  refine ⟨by omega, ⟨by omega, by omega, i3, by omega, by rw [rn a (by omega)]; exact i5, ?_, ?_, ?_, ?_, ?_, ?_, ?_, ?_⟩, hP2⟩
  · intro c c1 c2
    rw [hr]
    split
    · rename_i z; subst z; exact Or.inr ⟨by omega, by omega, hd⟩
    · exact i6 c c1 c2
  · intro c c1 c2 c3 c4
    by_cases z : c = d
    · subst z
      exact ⟨q K, x, k1, k2, by rw [rn _ k3]; exact k3, x1, x2, e, by rw [rd, rn _ k3]⟩
    · have e1 : r2 c = r c := by rw [hr, if_neg z]
      rw [e1] at c3
      obtain ⟨b, kk, b1, b2, b3, b4, b5, b6, b7⟩ := i7 c c1 c2 c3 c4
      exact ⟨b, kk, b1, b2, by rw [rn b b3]; exact b3, b4, b5, b6, by rw [e1, rn b b3]; exact b7⟩
  · intro j j1 j2
    by_cases z : j = Q
    · subst z; rw [qQ, rd]; exact ⟨d1, d2, by omega, by omega⟩
    · rw [rq j j1 (by omega), qq j (by omega)]; exact i8 j j1 (by omega)
  · intro c c1 c2 c3
    by_cases z : c = d
    · exact ⟨Q, by omega, by omega, by rw [qQ, z]⟩
    · rw [hr, if_neg z] at c3
      obtain ⟨j, j1, j2, j3⟩ := i9 c c1 c2 c3
      exact ⟨j, j1, by omega, by rw [qq j j2]; exact j3⟩
  · intro i j z1 z2 z3
    by_cases y : j = Q
    · subst y
      rw [qQ, rd]
      by_cases y2 : i = j
      · subst y2; rw [qQ, rd]; exact Int.le_refl _
      · rw [rq i z1 (by omega)]; exact i11 hK i z1 (by omega)
    · rw [rq j (by omega) (by omega), rq i z1 (by omega)]; exact i10 i j z1 z2 (by omega)
  · intro _ j j1 j2
    rw [rq K i3 hK]
    by_cases y : j = Q
    · subst y; rw [qQ, rd]; exact Int.le_refl _
    · rw [rq j j1 (by omega)]; exact i11 hK j j1 (by omega)
  · intro j j1 j2
    rw [qq j (by omega)]
    intro k0 z1 z2 z3
    have z := i12 j j1 j2 k0 z1 z2 z3
    rw [rn _ z.1, rn _ (i8 j j1 (by omega)).2.2.1]; exact z
  · have z := us_set h9 (show r2 d ≠ 99 by rw [rd]; omega) (fun c y => by rw [hr, if_neg y]) 64 d1 (by omega)
    omega
theorem qI_old (hI : qI st wt a r q Q K) (hP : qP st wt r q K x) (hw : ∀ c, wt c → 0 ≤ c ∧ c < 64) (hK : K < Q) (h : wt (st (q K) x) → r (st (q K) x) ≠ 99) : qP st wt r q K (x + 1) := by
  obtain ⟨i1, i2, i3, i4, i5, i6, i7, i8, i9, i10, i11, i12, i13⟩ := hI
  intro k0 z1 z2 z3
  by_cases y : k0 = x
  · subst y
    obtain ⟨w1, w2⟩ := hw _ z3
    obtain ⟨j, j1, j2, j3⟩ := i9 _ w1 w2 (h z3)
    refine ⟨h z3, ?_⟩
    rw [← j3]; exact i11 hK j j1 j2
  · exact hP k0 z1 (by omega) z3
theorem qI_next (hI : qI st wt a r q Q K) (hP : qP st wt r q K 4) (hK : K < Q) : qI st wt a r q Q (K + 1) := by
  obtain ⟨i1, i2, i3, i4, i5, i6, i7, i8, i9, i10, i11, i12, i13⟩ := hI
  refine ⟨i1, i2, by omega, by omega, i5, i6, i7, i8, i9, i10, ?_, ?_, i13⟩
  · intro z j j1 j2
    have e1 := i11 hK j j1 j2
    have e2 := i10 K (K + 1) i3 (by omega) z
    omega
  · intro j j1 j2
    by_cases y : j = K
    · subst y; exact fun k z1 z2 z3 => hP k z1 z2 z3
    · exact i12 j j1 (by omega)
theorem qI_far (hI : qI st wt a r q Q K) (hw : ∀ c, wt c → 0 ≤ c ∧ c < 64) (ha : wt a) (hK : K = Q) : ∀ c : Int, 0 ≤ c → c < 64 → farV st wt a c (r c) := by
  obtain ⟨i1, i2, i3, i4, i5, i6, i7, i8, i9, i10, i11, i12, i13⟩ := hI
  refine far_of hw ha i5 i6 i7 (fun b b1 b2 b3 => ?_)
  obtain ⟨j, j1, j2, j3⟩ := i9 b b1 b2 b3
  rw [← j3]; exact i12 j j1 (by omega)
end
/-- water of the sea i -/
abbrev wtr (h : Hp) (i c : Int) : Prop := cellP (gI h 9 i 0) (gI h 9 i 1) c ∧ ¬ lbit (gI h 9 i 2) c
abbrev stp (h : Hp) (i : Int) : Int → Int → Int := stepF (gI h 9 i 0) (gI h 9 i 1)
theorem wtr_r {h : Hp} {i c : Int} (hb : seaB h i) (hc : wtr h i c) : 0 ≤ c ∧ c < 64 := by
  have := sea_mul hb
  have h1 := hc.1.1
  have h2 := hc.1.2
  omega
theorem stp_s {h : Hp} {i : Int} (hb : seaB h i) : ∀ b k : Int, 0 ≤ k → k < 4 → wtr h i b → wtr h i (stp h i b k) → ∃ j : Int, 0 ≤ j ∧ j < 4 ∧ stp h i (stp h i b k) j = b := fun b k k1 k2 h1 h2 => stepF_s hb h1.1 k1 k2 h2.1
def SpW (i base : Int) : Nat → Int → Int → Prop := fun r j k => j = i ∧ ((r = 55 ∧ base ≤ k ∧ k < base + 64) ∨ r = 56)
section
variable {h0 h : Hp} {i base a Q K x : Int} {R : Int → Hp → Prop}
theorem spw_9 (hF : Fr (SpW i base) h0 h) (k : Int) (j : Int) : gI h 9 j k = gI h0 9 j k := hF.1 9 j k (fun z => by rcases z.2 with y | y <;> omega)
theorem spread_in (hb : seaB h0 i) (b1 : 0 ≤ base) (b2 : base + 64 ≤ 320) (N : Nat)
    (kk : ∀ (m : Nat) (h' : Hp) (Q' : Int), N ≤ m → Fr (SpW i base) h0 h' → qI (stp h0 i) (wtr h0 i) a (fun c => gI h' 55 i (base + c)) (fun j => gI h' 56 i j) Q' (K + 1) → ok (g_X9_spread m 2 [i, base, Q', K + 1] h') R) :
    ∀ (t n : Nat) (h : Hp) (Q x : Int), (4 - x).toNat = t → 0 ≤ x → x ≤ 4 → 2 * t + 1 + N ≤ n → Fr (SpW i base) h0 h → K < Q → qI (stp h0 i) (wtr h0 i) a (fun c => gI h 55 i (base + c)) (fun j => gI h 56 i j) Q K → qP (stp h0 i) (wtr h0 i) (fun c => gI h 55 i (base + c)) (fun j => gI h 56 i j) K x → ok (g_X9_spread n 3 [i, base, Q, K, gI h 56 i K, x] h) R := by
  intro t
  induction t with
  | zero =>
    intro n h Q x e x1 x2 hn hF hK hI hP
    have hx : x = 4 := by omega
    subst hx
    refine s_X9_spread_3 (by omega) ?_
    unfold b_X9_spread_3
    have := hI.2.1
    have := hI.2.2.1
    exact ok_t (by omega) (ok_ck (by omega) (kk _ h Q (by omega) hF (qI_next hI hP hK)))
  | succ t ih =>
    intro n h Q x e x1 x2 hn hF hK hI hP
    refine s_X9_spread_3 (by omega) ?_
    unfold b_X9_spread_3
    have q0 : 0 ≤ gI h 56 i K ∧ gI h 56 i K < 64 ∧ gI h 55 i (base + gI h 56 i K) ≠ 99 ∧ gI h 55 i (base + gI h 56 i K) ≤ K := hI.2.2.2.2.2.2.2.1 K hI.2.2.1 hK
    obtain ⟨q1, q2, q3, q4⟩ := q0
    have q5 : 0 ≤ gI h 55 i (base + gI h 56 i K) ∧ gI h 55 i (base + gI h 56 i K) < 64 := by
      rcases hI.2.2.2.2.2.1 _ q1 q2 with z | z
      · exact absurd z q3
      · exact ⟨z.1, z.2.1⟩
    have hQ := hI.2.1
    have hQ1 := hI.1
    have hb' : seaB h i := by unfold seaB; rw [spw_9 hF, spw_9 hF]; exact hb
    refine ok_f (by omega) (ok_be (p_X9_step hb') (ok_be (p_X9_isWater hb') ?_))
    rw [spw_9 hF, spw_9 hF, spw_9 hF]
    have go : ∀ (m : Nat) (h' : Hp) (Q' : Int), 2 * t + 2 + N ≤ m → gI h' 56 i K = gI h 56 i K → Fr (SpW i base) h0 h' → K < Q' → qI (stp h0 i) (wtr h0 i) a (fun c => gI h' 55 i (base + c)) (fun j => gI h' 56 i j) Q' K → qP (stp h0 i) (wtr h0 i) (fun c => gI h' 55 i (base + c)) (fun j => gI h' 56 i j) K (x + 1) → ok (g_X9_spread m 4 [i, base, Q', K, gI h 56 i K, x] h') R := by
      intro m h' Q' hm e2 hF' hK' hI' hP'
      refine s_X9_spread_4 (by omega) ?_
      unfold b_X9_spread_4
      refine ok_ck (by omega) ?_
      rw [← e2]
      exact ih _ h' Q' (x + 1) (by omega) (by omega) (by omega) (by omega) hF' hK' hI' hP'
    have hw := fun c => wtr_r (c := c) hb
    refine ok_if (fun z => ?_) (fun z => ?_)
    · exact go _ h Q (by omega) rfl hF hK hI (qI_old hI hP hw hK (fun y => absurd y (b2i_0.mp z)))
    · have wd : wtr h0 i (stp h0 i (gI h 56 i K) x) := b2i_n.mp z
      have d1 : 0 ≤ stepF (gI h0 9 i 0) (gI h0 9 i 1) (gI h 56 i K) x := (hw _ wd).1
      have d2 : stepF (gI h0 9 i 0) (gI h0 9 i 1) (gI h 56 i K) x < 64 := (hw _ wd).2
      refine ok_ck (by omega) (ok_ck (by omega) (ok_if (fun z2 => ?_) (fun z2 => ?_)))
      · obtain ⟨n1, n2, n3⟩ := qI_new (r2 := fun c => gI (sI (sI h 55 i (base + stp h0 i (gI h 56 i K) x) (gI h 55 i (base + gI h 56 i K) + 1)) 56 i Q (stp h0 i (gI h 56 i K) x)) 55 i (base + c)) (q2 := fun j => gI (sI (sI h 55 i (base + stp h0 i (gI h 56 i K) x) (gI h 55 i (base + gI h 56 i K) + 1)) 56 i Q (stp h0 i (gI h 56 i K) x)) 56 i j) hI hP hw hK wd z2 x1 (by omega) rfl (fun c => by
            show gI (sI (sI h 55 i _ _) 56 i Q _) 55 i (base + c) = _
            rw [gI_nr (by decide), gI_sI]
            by_cases y : c = stp h0 i (gI h 56 i K) x
            · rw [if_pos ⟨rfl, rfl, by rw [y]⟩, if_pos y]
            · rw [if_neg (fun w => y (by have := w.2.2; omega)), if_neg y]) (fun j => by
            show gI (sI (sI h 55 i _ _) 56 i Q _) 56 i j = _
            rw [gI_sI]
            by_cases y : j = Q
            · rw [if_pos ⟨rfl, rfl, y⟩, if_pos y]
            · rw [if_neg (fun w => y w.2.2), if_neg y, gI_nr (by decide)])
        refine ok_f (by omega) (ok_ck (by omega) (ok_ck (by omega) (ok_ck (by omega) (ok_ck (by omega) (ok_ck (by omega) (ok_lt (ok_ck (by omega) (ok_lt (ok_ck (by omega) ?_)))))))))
        refine go _ _ (Q + 1) (by omega) ?_ (fr_sI (fr_sI hF ⟨rfl, Or.inl ⟨rfl, by omega, by omega⟩⟩) ⟨rfl, Or.inr rfl⟩) (by omega) n2 n3
        rw [gI_nk (by omega), gI_nr (by decide)]
      · exact go _ h Q (by omega) rfl hF hK hI (qI_old hI hP hw hK (fun _ => z2))
theorem spread_out (hb : seaB h0 i) (b1 : 0 ≤ base) (b2 : base + 64 ≤ 320) (ha : wtr h0 i a) :
    ∀ (t n : Nat) (h : Hp) (Q K : Int), (64 - K).toNat = t → 11 * t + 1 ≤ n → Fr (SpW i base) h0 h → qI (stp h0 i) (wtr h0 i) a (fun c => gI h 55 i (base + c)) (fun j => gI h 56 i j) Q K → ok (g_X9_spread n 2 [i, base, Q, K] h) (fun v h' => v = 0 ∧ Fr (SpW i base) h0 h' ∧ ∀ c : Int, 0 ≤ c → c < 64 → farV (stp h0 i) (wtr h0 i) a c (gI h' 55 i (base + c))) := by
  have hw := fun c => wtr_r (c := c) hb
  intro t
  induction t with
  | zero =>
    intro n h Q K e hn hF hI
    refine s_X9_spread_2 (by omega) ?_
    unfold b_X9_spread_2
    have i2 := hI.2.1
    have i4 := hI.2.2.2.1
    refine ok_t (by omega) (ok_some ⟨rfl, hF, qI_far hI hw ha (by omega)⟩)
  | succ t ih =>
    intro n h Q K e hn hF hI
    refine s_X9_spread_2 (by omega) ?_
    unfold b_X9_spread_2
    have i2 := hI.2.1
    have i3 := hI.2.2.1
    have i4 := hI.2.2.2.1
    refine ok_if (fun z => ok_some ⟨rfl, hF, qI_far hI hw ha (by omega)⟩) (fun z => ok_f (by omega) (ok_ck (by omega) (ok_lt ?_)))
    exact spread_in hb b1 b2 (11 * t + 1) (fun m h' Q' hm hF' hI' => ih m h' Q' (K + 1) (by omega) hm hF' hI') 4 _ h Q 0 (by omega) (by omega) (by omega) (by omega) hF (by omega) hI (fun k k1 k2 => by omega)
theorem spread_fill (hb : seaB h0 i) (b1 : 0 ≤ base) (b2 : base + 64 ≤ 320) :
    ∀ (t n : Nat) (h : Hp) (x : Int), (64 - x).toNat = t → 0 ≤ x → x ≤ 64 → t + 1000 ≤ n → Fr (SpW i base) h0 h → (∀ c : Int, 0 ≤ c → c < x → gI h 55 i (base + c) = 99) → ok (g_X9_spread n 1 [i, a, base, x] h) (fun v h' => v = 0 ∧ Fr (SpW i base) h0 h' ∧ ∀ c : Int, 0 ≤ c → c < 64 → farV (stp h0 i) (wtr h0 i) a c (gI h' 55 i (base + c))) := by
  intro t
  induction t with
  | zero =>
    intro n h x e x1 x2 hn hF h9
    have hx : x = 64 := by omega
    subst hx
    refine s_X9_spread_1 (by omega) ?_
    unfold b_X9_spread_1
    have hb' : seaB h i := by unfold seaB; rw [spw_9 hF, spw_9 hF]; exact hb
    refine ok_t (by omega) (ok_be (p_X9_isWater hb') ?_)
    rw [spw_9 hF, spw_9 hF, spw_9 hF]
    refine ok_if (fun z => ?_) (fun z => ?_)
    · refine ok_some ⟨rfl, hF, fun c c1 c2 => ?_⟩
      rw [h9 c c1 c2]
      exact farV_no (b2i_0.mp z)
    · have ha : wtr h0 i a := b2i_n.mp z
      obtain ⟨a1, a2⟩ := wtr_r hb ha
      refine ok_ck (by omega) (ok_lt (ok_ck (by omega) (ok_ck (by omega) (ok_lt ?_))))
      have er : ∀ c : Int, gI (sI (sI h 56 i 0 a) 55 i (base + a) 0) 55 i (base + c) = if c = a then 0 else gI h 55 i (base + c) := by
        intro c
        rw [gI_sI]
        by_cases y : c = a
        · rw [if_pos ⟨rfl, rfl, by rw [y]⟩, if_pos y]
        · rw [if_neg (fun w => y (by have := w.2.2; omega)), if_neg y, gI_nr (by decide)]
      have eq : gI (sI (sI h 56 i 0 a) 55 i (base + a) 0) 56 i 0 = a := by rw [gI_nr (by decide), gI_eq]
      refine spread_out hb b1 b2 ha 64 _ _ 1 0 (by omega) (by omega) (fr_sI (fr_sI hF ⟨rfl, Or.inr rfl⟩) ⟨rfl, Or.inl ⟨rfl, by omega, by omega⟩⟩) ?_
      refine ⟨by omega, by omega, by omega, by omega, (er a).trans (if_pos rfl), ?_, ?_, ?_, ?_, ?_, ?_, ?_, ?_⟩
      · intro c c1 c2
        show gI _ 55 i (base + c) = 99 ∨ (0 ≤ gI _ 55 i (base + c) ∧ gI _ 55 i (base + c) < 64 ∧ _)
        rw [er]
        split
        · rename_i y; subst y; exact Or.inr ⟨by omega, by omega, ha⟩
        · exact Or.inl (h9 c c1 c2)
      · intro c c1 c2 c3 c4
        exact absurd (by show gI _ 55 i (base + c) = 99; rw [er, if_neg c4]; exact h9 c c1 c2) c3
      · intro j j1 j2
        have hj : j = 0 := by omega
        subst hj
        show 0 ≤ gI _ 56 i 0 ∧ gI _ 56 i 0 < 64 ∧ gI _ 55 i (base + gI _ 56 i 0) ≠ 99 ∧ gI _ 55 i (base + gI _ 56 i 0) ≤ 0
        rw [eq, er, if_pos rfl]
        exact ⟨a1, a2, by omega, by omega⟩
      · intro c c1 c2 c3
        refine ⟨0, by omega, by omega, ?_⟩
        show gI _ 56 i 0 = c
        rw [eq]
        by_cases y : c = a
        · exact y.symm
        · exact absurd (by show gI _ 55 i (base + c) = 99; rw [er, if_neg y]; exact h9 c c1 c2) c3
      · intro j1 j2 z1 z2 z3
        have e1 : j1 = 0 := by omega
        have e2 : j2 = 0 := by omega
        subst e1; subst e2
        exact Int.le_refl _
      · intro _ j j1 j2
        have hj : j = 0 := by omega
        subst hj
        show gI _ 55 i (base + gI _ 56 i 0) ≤ gI _ 55 i (base + gI _ 56 i 0) + 1
        omega
      · intro j j1 j2; omega
      · have z1 := us_99 (r := fun c => gI h 55 i (base + c)) 64 (fun c c1 c2 => h9 c c1 (by omega))
        have z2 := us_set (r := fun c => gI h 55 i (base + c)) (r2 := fun c => gI (sI (sI h 56 i 0 a) 55 i (base + a) 0) 55 i (base + c)) (d := a) (h9 a a1 a2) (by show gI _ 55 i (base + a) ≠ 99; rw [er, if_pos rfl]; omega) (fun c y => by show gI _ 55 i (base + c) = _; rw [er, if_neg y]) 64 a1 (by omega)
        omega
  | succ t ih =>
    intro n h x e x1 x2 hn hF h9
    refine s_X9_spread_1 (by omega) ?_
    unfold b_X9_spread_1
    refine ok_f (by omega) (ok_ck (by omega) (ok_ck (by omega) (ok_lt (ok_ck (by omega) ?_))))
    refine ih _ _ (x + 1) (by omega) (by omega) (by omega) (by omega) (fr_sI hF ⟨rfl, Or.inl ⟨rfl, by omega, by omega⟩⟩) (fun c c1 c2 => ?_)
    rw [gI_sI]
    split
    · rfl
    · rename_i y
      exact h9 c c1 (by have : c ≠ x := fun w => y ⟨rfl, rfl, by rw [w]⟩; omega)
end
/-- the row of ways from a CELL -/
theorem p_X9_spread {h : Hp} {i a w : Int} (hb : seaB h i) (w1 : 0 ≤ w) (w2 : w < 5) : ok (f_X9_spread i a w h) (fun v h' => v = 0 ∧ Fr (SpW i (w * 64)) h h' ∧ ∀ c : Int, 0 ≤ c → c < 64 → farV (stp h i) (wtr h i) a c (gI h' 55 i (w * 64 + c))) := by
  unfold f_X9_spread
  refine s_X9_spread_0 (by decide) ?_
  unfold b_X9_spread_0
  refine ok_ck (by omega) (ok_lt (ok_f (by omega) (ok_ck (by omega) (ok_t (by omega) ?_))))
  exact spread_fill hb (by omega) (by omega) 64 _ h 0 (by omega) (by omega) (by omega) (by unfold FU; omega) fr_rf (fun c c1 c2 => by omega)
