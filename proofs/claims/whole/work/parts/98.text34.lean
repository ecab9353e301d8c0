/-! TEXT, 34: the reference's ways by water -/
section
variable {h : Hp} {W H x k : Int}
theorem r_leads (e0 : gI h 61 0 0 = W) (e1 : gI h 61 0 1 = H) (hb : 1 ≤ W ∧ W ≤ 8 ∧ 1 ≤ H ∧ H ≤ 8) (c1 : cellP W H x) (k1 : 0 ≤ k) (k2 : k < 4) : f_X12_leads x k h = some (stepF W H x k, h) := by
  rw [← leads_e hb c1 k1 k2]
  have m1 := Int.emod_nonneg x (show W ≠ 0 by omega)
  have m2 := Int.emod_lt_of_pos x (show 0 < W by omega)
  have d1 : 0 ≤ x / W := Int.ediv_nonneg c1.1 (by omega)
  have d2 : x / W < H := Int.ediv_lt_of_lt_mul (by omega) (by have := c1.2; rw [Int.mul_comm]; exact this)
  have c2 := c1.1
  clear c1
  have dx : -1 ≤ dxF k ∧ dxF k ≤ 1 := by unfold dxF; split; omega; split <;> omega
  have dy : -1 ≤ dyF k ∧ dyF k ≤ 1 := by unfold dyF; split; omega; split <;> omega
  have no : ∀ n : Nat, 1 ≤ n → (x % W + dxF k < 0 ∨ x / W + dyF k < 0 ∨ W ≤ x % W + dxF k ∨ H ≤ x / W + dyF k) → ok (g_X12_leads n 3 [] h) (fun r h' => r = leadsR W H x k ∧ h' = h) := by
    intro n hn z
    refine s_X12_leads_3 (by omega) ?_
    unfold b_X12_leads_3
    exact ok_some ⟨by unfold leadsR; rw [if_pos z], rfl⟩
  have two : ∀ n : Nat, 5 ≤ n → ok (g_X12_leads n 2 [x % W + dxF k, dyF k, x / W] h) (fun r h' => r = leadsR W H x k ∧ h' = h) := by
    intro n hn
    refine s_X12_leads_2 (by omega) ?_
    unfold b_X12_leads_2
    rw [e0, e1]
    refine ok_ck (by omega) (ok_lt (ok_if (fun z => no _ (by omega) (Or.inl z)) (fun z => ok_if (fun z2 => no _ (by omega) (Or.inr (Or.inl z2))) (fun z2 => ok_ck (by omega) (ok_if (fun z3 => no _ (by omega) (Or.inr (Or.inr (Or.inl z3)))) (fun z3 => ok_ck (by omega) (ok_if (fun z4 => ok_ck (by omega) ?_) (fun z4 => no _ (by omega) (Or.inr (Or.inr (Or.inr (by omega))))))))))))
    have mb : 0 ≤ (x / W + dyF k) * W ∧ (x / W + dyF k) * W ≤ 64 := by
      refine ⟨Int.mul_nonneg (by omega) (by omega), ?_⟩
      have := Int.mul_le_mul (show x / W + dyF k ≤ 8 by omega) (show W ≤ 8 by omega) (by omega) (by omega)
      omega
    refine ok_ck (by omega) (ok_ck (by omega) (ok_some ⟨?_, rfl⟩))
    unfold leadsR
    rw [if_neg (by omega)]
  have one : ∀ n : Nat, 10 ≤ n → ok (g_X12_leads n 1 [x, k, dxF k, x % W] h) (fun r h' => r = leadsR W H x k ∧ h' = h) := by
    intro n hn
    refine s_X12_leads_1 (by omega) ?_
    unfold b_X12_leads_1
    rw [e0]
    have t2 := two (n - 1) (by omega)
    refine ok_ck (by omega) (ok_lt (ok_ck (by omega) (ok_ck (by omega) (ok_if (fun z => ?_) (fun z => ok_if (fun z2 => ?_) (fun z2 => ?_))))))
    · rw [show dyF k = 1 from if_pos z] at t2; exact t2
    · rw [show dyF k = -1 by unfold dyF; rw [if_neg z, if_pos z2]] at t2; exact t2
    · rw [show dyF k = 0 by unfold dyF; rw [if_neg z, if_neg z2]] at t2; exact t2
  refine ok_eq.mp ?_
  refine fuv_X12_leads (fun n hn => ?_)
  refine s_X12_leads_0 (by omega) ?_
  unfold b_X12_leads_0
  rw [e0]
  have t1 := one (n - 1) (by omega)
  refine ok_ck (by omega) (ok_ck (by omega) (ok_if (fun z => ?_) (fun z => ok_if (fun z2 => ?_) (fun z2 => ?_))))
  · rw [show dxF k = 1 from if_pos z] at t1; exact t1
  · rw [show dxF k = -1 by unfold dxF; rw [if_neg z, if_pos z2]] at t1; exact t1
  · rw [show dxF k = 0 by unfold dxF; rw [if_neg z, if_neg z2]] at t1; exact t1
theorem r_cells (e0 : gI h 61 0 0 = W) (e1 : gI h 61 0 1 = H) (hb : 1 ≤ W ∧ W ≤ 8 ∧ 1 ≤ H ∧ H ≤ 8) : f_X12_cells h = some (W * H, h) := by
  have m := sea_mul hb
  refine ok_eq.mp (fuv_X12_cells (fun n hn => ?_))
  refine s_X12_cells_0 (by omega) ?_
  unfold b_X12_cells_0
  rw [e0, e1]
  exact ok_ck (by decide) (ok_ck (by decide) (ok_ck (by omega) (ok_some ⟨rfl, rfl⟩)))
end
/-- one row while it is laid: round n, cells before xc and courses before xw of xc are done, m: whether anything was laid in this round -/
def lyI (st : Int → Int → Int) (wt : Int → Prop) (a : Int) (r : Int → Int) (n xc xw m : Int) : Prop :=
  r a = 0 ∧ (∀ c, 0 ≤ c → c < 64 → r c = 99 ∨ (0 ≤ r c ∧ r c ≤ n + 1 ∧ wt c)) ∧ lb2 st a r ∧
  (∀ b k, 0 ≤ b → b < 64 → r b ≠ 99 → 0 ≤ k → k < 4 → (r b < n ∨ (r b = n ∧ (b < xc ∨ (b = xc ∧ k < xw)))) → wt (st b k) → r (st b k) ≠ 99 ∧ r (st b k) ≤ r b + 1) ∧
  us r 64 + n + 1 + m ≤ 64 ∧ (m = 0 → ∀ c, 0 ≤ c → c < 64 → r c ≠ 99 → r c ≤ n)
section
variable {st : Int → Int → Int} {wt : Int → Prop} {a n c k m : Int} {r r2 : Int → Int}
theorem ly_skip (q : lyI st wt a r n c k m) (hc : r c = n) (z : wt (st c k) → r (st c k) ≠ 99 ∧ r (st c k) ≤ n + 1) : lyI st wt a r n c (k + 1) m := by
  refine ⟨q.1, q.2.1, q.2.2.1, fun b j b1 b2 b3 j1 j2 y => ?_, q.2.2.2.2⟩
  by_cases e : b = c ∧ j = k
  · rw [e.1, e.2, hc]; exact z
  · exact q.2.2.2.1 b j b1 b2 b3 j1 j2 (by omega)
theorem ly_set (hw : ∀ c, wt c → 0 ≤ c ∧ c < 64) (q : lyI st wt a r n c k m) (m0 : m = 0 ∨ m = 1) (c1 : 0 ≤ c) (c2 : c < 64) (hc : r c = n) (n0 : 0 ≤ n) (k1 : 0 ≤ k) (k2 : k < 4) (wd : wt (st c k)) (d9 : r (st c k) = 99) (e1 : r2 (st c k) = n + 1) (e2 : ∀ x, x ≠ st c k → r2 x = r x) : lyI st wt a r2 n c (k + 1) 1 := by
  obtain ⟨q0, q1, q2, q3, q4, q5⟩ := q
  have dr := hw _ wd
  have up := us_pos d9 64 dr.1 dr.2
  have n9 : n ≠ 99 := by omega
  have cd : c ≠ st c k := fun e => by rw [← e, hc] at d9; omega
  have ad : a ≠ st c k := fun e => by rw [← e, q0] at d9; omega
  have u := us_set (r := r) (r2 := r2) d9 (by omega) e2 64 dr.1 dr.2
  refine ⟨by rw [e2 a ad]; exact q0, fun x x1 x2 => ?_, fun x x1 x2 x3 x4 => ?_, fun b j b1 b2 b3 j1 j2 y w => ?_, ?_, fun z => absurd z (by decide)⟩
  · by_cases e : x = st c k
    · rw [e, e1]; exact Or.inr ⟨by omega, by omega, wd⟩
    · rw [e2 x e]; exact q1 x x1 x2
  · by_cases e : x = st c k
    · refine ⟨c, k, c1, c2, ?_, k1, k2, e.symm, ?_⟩
      · rw [e2 c cd, hc]; exact n9
      · rw [e, e1, e2 c cd, hc]
    · rw [e2 x e] at x3 ⊢
      obtain ⟨b, j, b1, b2, b3, j1, j2, b4, b5⟩ := q2 x x1 x2 x3 x4
      have bd : b ≠ st c k := fun y => by rw [← y] at d9; exact b3 d9
      exact ⟨b, j, b1, b2, by rw [e2 b bd]; exact b3, j1, j2, b4, by rw [e2 b bd]; exact b5⟩
  · by_cases bd : b = st c k
    · rw [bd, e1] at y
      omega
    · rw [e2 b bd] at b3 y ⊢
      by_cases e : b = c ∧ j = k
      · rw [e.1, e.2, e1, hc]; omega
      · have z := q3 b j b1 b2 b3 j1 j2 (by omega) w
        have sd : st b j ≠ st c k := fun y2 => by rw [y2] at z; exact z.1 d9
        rw [e2 _ sd]; exact z
  · omega
/-- the round's end, nothing laid: all is laid -/
theorem ly_end {W H : Int} (hw : ∀ c, wt c → 0 ≤ c ∧ c < 64 ∧ c < W * H) (ha : wt a) (n0 : 0 ≤ n) (q : lyI st wt a r n (W * H) 0 0) : ∀ c : Int, 0 ≤ c → c < 64 → farV st wt a c (r c) := by
  obtain ⟨q0, q1, q2, q3, q4, q5⟩ := q
  have ur := us_r (r := r) 64
  refine far_of (fun c z => ⟨(hw c z).1, (hw c z).2.1⟩) ha q0 (fun c c1 c2 => ?_) q2 (fun b b1 b2 b3 k k1 k2 w => ?_)
  · rcases q1 c c1 c2 with z | z
    · exact Or.inl z
    · by_cases y : r c = 99
      · exact Or.inl y
      · have := q5 rfl c c1 c2 y
        exact Or.inr ⟨z.1, by omega, z.2.2⟩
  · have b4 := q5 rfl b b1 b2 b3
    have wb := (q1 b b1 b2).resolve_left b3
    have := (hw b wb.2.2).2.2
    exact q3 b k b1 b2 b3 k1 k2 (by omega) w
theorem ly_next {W H : Int} (hw : ∀ c, wt c → 0 ≤ c ∧ c < 64 ∧ c < W * H) (q : lyI st wt a r n (W * H) 0 1) : lyI st wt a r (n + 1) 0 0 0 := by
  obtain ⟨q0, q1, q2, q3, q4, q5⟩ := q
  refine ⟨q0, fun c c1 c2 => ?_, q2, fun b k b1 b2 b3 k1 k2 y w => ?_, by omega, fun _ c c1 c2 c3 => ?_⟩
  · rcases q1 c c1 c2 with z | z
    · exact Or.inl z
    · exact Or.inr ⟨z.1, by omega, z.2.2⟩
  · have wb := (q1 b b1 b2).resolve_left b3
    have := (hw b wb.2.2).2.2
    exact q3 b k b1 b2 b3 k1 k2 (by omega) w
  · exact ((q1 c c1 c2).resolve_left c3).2.1
theorem ly_c (e : ∀ x, 0 ≤ x → x < 64 → r2 x = r x) (hs : ∀ c, wt c → 0 ≤ c ∧ c < 64) (a1 : 0 ≤ a ∧ a < 64) (q : lyI st wt a r n c k m) : lyI st wt a r2 n c k m := by
  obtain ⟨q0, q1, q2, q3, q4, q5⟩ := q
  refine ⟨by rw [e a a1.1 a1.2]; exact q0, fun x x1 x2 => by rw [e x x1 x2]; exact q1 x x1 x2, fun x x1 x2 x3 x4 => ?_, fun b j b1 b2 b3 j1 j2 y w => ?_, by rw [us_c 64 (fun x x1 x2 => e x x1 x2)]; exact q4, fun z x x1 x2 x3 => ?_⟩
  · rw [e x x1 x2] at x3 ⊢
    obtain ⟨b, j, b1, b2, b3, z⟩ := q2 x x1 x2 x3 x4
    exact ⟨b, j, b1, b2, by rw [e b b1 b2]; exact b3, by rw [e b b1 b2]; exact z⟩
  · rw [e b b1 b2] at b3 y ⊢
    have sr := hs _ w
    rw [e _ sr.1 sr.2]
    exact q3 b j b1 b2 b3 j1 j2 y w
  · rw [e x x1 x2] at x3 ⊢
    exact q5 z x x1 x2 x3
end
section
variable {h : Hp} {W H : Int}
def RowW (a : Int) : Nat → Int → Int → Prop := fun r _ k => r = 83 ∧ 64 * a ≤ k ∧ k < 64 * a + 64
set_option maxHeartbeats 2000000 in
set_option maxRecDepth 20000 in
theorem p_X12_layFar (e0 : gI h 61 0 0 = W) (e1 : gI h 61 0 1 = H) (hb : 1 ≤ W ∧ W ≤ 8 ∧ 1 ≤ H ∧ H ≤ 8) (hl : ∀ x, 0 ≤ x → x < 64 → gI h 62 0 x = 0 ∨ gI h 62 0 x = 1) : ok (f_X12_layFar h) (fun _ h' => Fr (fun r _ _ => r = 83) h h' ∧ ∀ a x, 0 ≤ a → a < 64 → 0 ≤ x → x < 64 → farV (stepF W H) (fun x => cellP W H x ∧ gI h 62 0 x = 0) a x (gI h' 83 0 (64 * a + x))) := by
  have mp := sea_mul hb
  obtain ⟨wt, ewt⟩ : ∃ wt : Int → Prop, wt = (fun x => cellP W H x ∧ gI h 62 0 x = 0) := ⟨_, rfl⟩
  have hw3 : ∀ c, wt c → 0 ≤ c ∧ c < 64 ∧ c < W * H := fun c z => by rw [ewt] at z; have := z.1.1; have := z.1.2; omega
  have hw : ∀ c, wt c → 0 ≤ c ∧ c < 64 := fun c z => ⟨(hw3 c z).1, (hw3 c z).2.1⟩
  rw [← ewt]
  have ce : ∀ h1 : Hp, Fr (fun r _ _ => r = 83) h h1 → f_X12_cells h1 = some (W * H, h1) := fun h1 f => r_cells ((f.1 61 0 0 (by decide)).trans e0) ((f.1 61 0 1 (by decide)).trans e1) hb
  have ld : ∀ (h1 : Hp) (x k : Int), Fr (fun r _ _ => r = 83) h h1 → cellP W H x → 0 ≤ k → k < 4 → f_X12_leads x k h1 = some (stepF W H x k, h1) := fun h1 x k f c k1 k2 => r_leads ((f.1 61 0 0 (by decide)).trans e0) ((f.1 61 0 1 (by decide)).trans e1) hb c k1 k2
  -- one row
  have row : ∀ (B : Nat) (a : Int) (Q : Int → Hp → Prop) (hA : Hp), 0 ≤ a → a < W * H → wt a → Fr (fun r _ _ => r = 83) h hA → (∀ (g : Nat) (h2 : Hp), B ≤ g → Fr (RowW a) hA h2 → (∀ x, 0 ≤ x → x < 64 → farV (stepF W H) wt a x (gI h2 83 0 (64 * a + x))) → ok (g_X12_layFar g 8 [a] h2) Q) → ∀ (d g : Nat) (n m : Int) (h1 : Hp), (64 - n).toNat = d → 0 ≤ n → n ≤ 64 → B + d * 2000 + 3000 ≤ g → Fr (RowW a) hA h1 → (m = 0 ∨ m = 1) → (m = 1 → lyI (stepF W H) wt a (fun x => gI h1 83 0 (64 * a + x)) n 0 0 0) → (m = 0 → ∀ x, 0 ≤ x → x < 64 → farV (stepF W H) wt a x (gI h1 83 0 (64 * a + x))) → ok (g_X12_layFar g 3 [a, m, n] h1) Q := by
    intro B a Q hA a1 a2 wa FA k8 d
    have aw : 0 ≤ a ∧ a < 64 := by omega
    induction d with
    | zero =>
      intro g n m h1 hd n1 n2 hg f1 mm q1 q0
      refine s_X12_layFar_3 (by omega) ?_
      unfold b_X12_layFar_3
      rcases mm with e | e
      · exact ok_t e (k8 _ h1 (by omega) f1 (q0 e))
      · have := (q1 e).2.2.2.2.1
        have ur := us_r (r := fun x => gI h1 83 0 (64 * a + x)) 64
        omega
    | succ d ih =>
      intro g n m h1 hd n1 n2 hg f1 mm q1 q0
      refine s_X12_layFar_3 (by omega) ?_
      unfold b_X12_layFar_3
      rcases mm with e | e
      · exact ok_t e (k8 _ h1 (by omega) f1 (q0 e))
      · refine ok_f (by omega) ?_
        -- the cells
        have cells : ∀ (d2 g2 : Nat) (c m2 : Int) (h2 : Hp), (W * H - c).toNat = d2 → 0 ≤ c → c ≤ W * H → B + d2 * 20 + d * 2000 + 3500 ≤ g2 → Fr (RowW a) hA h2 → (m2 = 0 ∨ m2 = 1) → lyI (stepF W H) wt a (fun x => gI h2 83 0 (64 * a + x)) n c 0 m2 → ok (g_X12_layFar g2 4 [a, m2, n, c] h2) Q := by
          intro d2
          induction d2 with
          | zero =>
            intro g2 c m2 h2 hd2 c1 c2 hg2 f2 mm2 q2
            have F2 : Fr (fun r _ _ => r = 83) h h2 := fr_tr FA (fr_mo f2 (by intro r i k; unfold RowW; omega))
            have ec : c = W * H := by omega
            rw [ec] at q2
            refine s_X12_layFar_4 (by omega) ?_
            unfold b_X12_layFar_4
            refine ok_be (ce h2 F2) (ok_t (by omega) (ok_ck (by omega) (ih _ (n + 1) m2 h2 (by omega) (by omega) (by omega) (by omega) f2 mm2 (fun z => ?_) (fun z => ?_))))
            · rw [z] at q2; exact ly_next hw3 q2
            · rw [z] at q2; exact ly_end hw3 wa n1 q2
          | succ d2 ih2 =>
            intro g2 c m2 h2 hd2 c1 c2 hg2 f2 mm2 q2
            have F2 : Fr (fun r _ _ => r = 83) h h2 := fr_tr FA (fr_mo f2 (by intro r i k; unfold RowW; omega))
            have cc : cellP W H c := ⟨c1, by omega⟩
            have sev : ∀ (g3 : Nat) (m3 : Int) (h3 : Hp), B + d2 * 20 + d * 2000 + 3502 ≤ g3 → Fr (RowW a) hA h3 → (m3 = 0 ∨ m3 = 1) → lyI (stepF W H) wt a (fun x => gI h3 83 0 (64 * a + x)) n (c + 1) 0 m3 → ok (g_X12_layFar g3 7 [a, m3, n, c] h3) Q := by
              intro g3 m3 h3 hg3 f3 mm3 q3
              refine s_X12_layFar_7 (by omega) ?_
              unfold b_X12_layFar_7
              exact ok_ck (by omega) (ih2 _ (c + 1) m3 h3 (by omega) (by omega) (by omega) (by omega) f3 mm3 q3)
            refine s_X12_layFar_4 (by omega) ?_
            unfold b_X12_layFar_4
            refine ok_be (ce h2 F2) (ok_f (by omega) (ok_ck (by omega) (ok_ck (by omega) (ok_ck (by omega) (ok_if (fun hc => ?_) (fun hc => sev _ m2 h2 (by omega) f2 mm2 ?_))))))
            · -- the courses
              have five : ∀ (d3 g3 : Nat) (k m3 : Int) (h3 : Hp), (4 - k).toNat = d3 → 0 ≤ k → k ≤ 4 → B + d3 * 3 + d2 * 20 + d * 2000 + 3505 ≤ g3 → Fr (RowW a) hA h3 → (m3 = 0 ∨ m3 = 1) → gI h3 83 0 (64 * a + c) = n → lyI (stepF W H) wt a (fun x => gI h3 83 0 (64 * a + x)) n c k m3 → ok (g_X12_layFar g3 5 [a, m3, n, c, k] h3) Q := by
                intro d3
                induction d3 with
                | zero =>
                  intro g3 k m3 h3 hd3 k1 k2 hg3 f3 mm3 hc3 q3
                  refine s_X12_layFar_5 (by omega) ?_
                  unfold b_X12_layFar_5
                  refine ok_t (by omega) (sev _ m3 h3 (by omega) f3 mm3 ?_)
                  obtain ⟨p0, p1, p2, p3, p4⟩ := q3
                  exact ⟨p0, p1, p2, fun b j b1 b2 b3 j1 j2 y => p3 b j b1 b2 b3 j1 j2 (by omega), p4⟩
                | succ d3 ih3 =>
                  intro g3 k m3 h3 hd3 k1 k2 hg3 f3 mm3 hc3 q3
                  have F3 : Fr (fun r _ _ => r = 83) h h3 := fr_tr FA (fr_mo f3 (by intro r i k; unfold RowW; omega))
                  have six : ∀ (g4 : Nat) (m4 : Int) (h4 : Hp), B + d3 * 3 + d2 * 20 + d * 2000 + 3506 ≤ g4 → Fr (RowW a) hA h4 → (m4 = 0 ∨ m4 = 1) → gI h4 83 0 (64 * a + c) = n → lyI (stepF W H) wt a (fun x => gI h4 83 0 (64 * a + x)) n c (k + 1) m4 → ok (g_X12_layFar g4 6 [a, m4, n, c, k] h4) Q := by
                    intro g4 m4 h4 hg4 f4 mm4 hc4 q4
                    refine s_X12_layFar_6 (by omega) ?_
                    unfold b_X12_layFar_6
                    exact ok_ck (by omega) (ih3 _ (k + 1) m4 h4 (by omega) (by omega) (by omega) (by omega) f4 mm4 hc4 q4)
                  have ur := us_r (r := fun x => gI h3 83 0 (64 * a + x)) 64
                  have q34 := q3.2.2.2.2.1
                  refine s_X12_layFar_5 (by omega) ?_
                  unfold b_X12_layFar_5
                  refine ok_f (by omega) (ok_be (ld h3 c k F3 cc k1 (by omega)) ?_)
                  obtain ⟨s, es⟩ : ∃ s, stepF W H c k = s := ⟨_, rfl⟩
                  have sr := stepF_r (k := k) hb cc
                  rw [es] at sr
                  rw [es]
                  refine ok_if (fun u => six _ m3 h3 (by omega) f3 mm3 hc3 (ly_skip q3 hc3 (fun z => ?_))) (fun u => ?_)
                  · rw [es, u, ewt] at z
                    exact absurd z.1.1 (by decide)
                  · have sc := sr.resolve_left u
                    have s1 := sc.1
                    have s2 : s < 64 := by have := sc.2; omega
                    have l3 : gI h3 62 0 s = gI h 62 0 s := F3.1 62 0 s (by show ¬ (62 : Nat) = 83; decide)
                    rw [l3]
                    refine ok_ck (by omega) (ok_if (fun u2 => ?_) (fun u2 => six _ m3 h3 (by omega) f3 mm3 hc3 (ly_skip q3 hc3 (fun z => ?_))))
                    · have wd : wt (stepF W H c k) := by rw [es, ewt]; exact ⟨sc, u2⟩
                      refine ok_ck (by omega) (ok_ck (by omega) (ok_ck (by omega) (ok_ck (by omega) (ok_if (fun u3 => ?_) (fun u3 => ?_)))))
                      · have d9 : gI h3 83 0 (64 * a + s) = 99 := by
                          rcases q3.2.1 s s1 s2 with z | z
                          · exact z
                          · have z2 : gI h3 83 0 (64 * a + s) ≤ n + 1 := z.2.1
                            omega
                        have cs : c ≠ s := fun y => by rw [← y, hc3] at d9; omega
                        refine ok_ck (by omega) (ok_ck (by omega) (ok_ck (by omega) (ok_ck (by omega) (ok_lt (six _ 1 _ (by omega) (fr_sI f3 (by unfold RowW; omega)) (Or.inr rfl) (by rw [gI_nk (by omega)]; exact hc3) ?_)))))
                        refine ly_set hw q3 mm3 c1 (by omega) hc3 n1 k1 (by omega) wd (by rw [es]; exact d9) (by show gI _ 83 0 (64 * a + stepF W H c k) = n + 1; rw [es, gI_eq]) (fun x hx => ?_)
                        show gI _ 83 0 (64 * a + x) = gI h3 83 0 (64 * a + x)
                        exact gI_nk (by rw [es] at hx; omega)
                      · refine six _ m3 h3 (by omega) f3 mm3 hc3 (ly_skip q3 hc3 (fun _ => ?_))
                        show gI h3 83 0 (64 * a + stepF W H c k) ≠ 99 ∧ gI h3 83 0 (64 * a + stepF W H c k) ≤ n + 1
                        rw [es]
                        omega
                    · rw [es, ewt] at z
                      exact absurd z.2 u2
              exact five 4 _ 0 m2 h2 rfl (by omega) (by omega) (by omega) f2 mm2 hc q2
            · obtain ⟨p0, p1, p2, p3, p4⟩ := q2
              refine ⟨p0, p1, p2, fun b j b1 b2 b3 j1 j2 y => p3 b j b1 b2 b3 j1 j2 ?_, p4⟩
              by_cases bc : b = c
              · rw [bc] at y ⊢
                have : ¬ gI h2 83 0 (64 * a + c) = n := hc
                rcases y with y | y
                · exact Or.inl y
                · exact absurd y.1 this
              · omega
        exact cells (W * H).toNat _ 0 0 h1 (by omega) (by omega) (by omega) (by omega) f1 (Or.inl rfl) (q1 e)
  -- the rows
  have two : ∀ (d g : Nat) (a : Int) (h1 : Hp), (W * H - a).toNat = d → 0 ≤ a → a ≤ W * H → d * 150000 + 10 ≤ g → Fr (fun r _ _ => r = 83) h h1 → (∀ a2 x, 0 ≤ a2 → a2 < 64 → 0 ≤ x → x < 64 → (a2 < a → farV (stepF W H) wt a2 x (gI h1 83 0 (64 * a2 + x))) ∧ (a ≤ a2 → gI h1 83 0 (64 * a2 + x) = 99)) → ok (g_X12_layFar g 2 [a] h1) (fun _ h' => Fr (fun r _ _ => r = 83) h h' ∧ ∀ a x, 0 ≤ a → a < 64 → 0 ≤ x → x < 64 → farV (stepF W H) wt a x (gI h' 83 0 (64 * a + x))) := by
    intro d
    induction d with
    | zero =>
      intro g a h1 hd a1 a2 hg f1 q1
      refine s_X12_layFar_2 (by omega) ?_
      unfold b_X12_layFar_2
      refine ok_be (ce h1 f1) (ok_t (by omega) (ok_some ⟨f1, fun b x b1 b2 x1 x2 => ?_⟩))
      by_cases y : b < a
      · exact (q1 b x b1 b2 x1 x2).1 y
      · rw [(q1 b x b1 b2 x1 x2).2 (by omega)]
        exact farV_no (fun z => by have := (hw3 b z).2.2; omega)
    | succ d ih =>
      intro g a h1 hd a1 a2 hg f1 q1
      rw [show (d + 1) * 150000 = d * 150000 + 150000 from Nat.succ_mul d 150000] at hg
      generalize d * 150000 = z15 at hg ih
      have eight : ∀ (g2 : Nat) (h2 : Hp), z15 + 11 ≤ g2 → Fr (RowW a) h1 h2 → (∀ x, 0 ≤ x → x < 64 → farV (stepF W H) wt a x (gI h2 83 0 (64 * a + x))) → ok (g_X12_layFar g2 8 [a] h2) (fun _ h' => Fr (fun r _ _ => r = 83) h h' ∧ ∀ a x, 0 ≤ a → a < 64 → 0 ≤ x → x < 64 → farV (stepF W H) wt a x (gI h' 83 0 (64 * a + x))) := by
        intro g2 h2 hg2 f2 q2
        refine s_X12_layFar_8 (by omega) ?_
        unfold b_X12_layFar_8
        refine ok_ck (by omega) (ih _ (a + 1) h2 (by omega) (by omega) (by omega) (by omega) (fr_tr f1 (fr_mo f2 (by intro r i k; unfold RowW; omega))) (fun b x b1 b2 x1 x2 => ⟨fun y => ?_, fun y => ?_⟩))
        · by_cases ba : b = a
          · rw [ba]; exact q2 x x1 x2
          · rw [f2.1 83 0 _ (by unfold RowW; omega)]
            exact (q1 b x b1 b2 x1 x2).1 (by omega)
        · rw [f2.1 83 0 _ (by unfold RowW; omega)]
          exact (q1 b x b1 b2 x1 x2).2 (by omega)
      have l1 : gI h1 62 0 a = gI h 62 0 a := f1.1 62 0 a (by show ¬ (62 : Nat) = 83; decide)
      refine s_X12_layFar_2 (by omega) ?_
      unfold b_X12_layFar_2
      refine ok_be (ce h1 f1) (ok_f (by omega) (ok_ck (by omega) ?_))
      rw [l1]
      refine ok_if (fun u => ?_) (fun u => ?_)
      · have wa : wt a := by rw [ewt]; exact ⟨⟨a1, by omega⟩, u⟩
        refine ok_ck (by omega) (ok_ck (by omega) (ok_ck (by omega) (ok_lt ?_)))
        have f3 : Fr (RowW a) h1 (sI h1 83 0 (64 * a + a) 0) := fr_sI fr_rf (by unfold RowW; omega)
        have r0 : ∀ x, 0 ≤ x → x < 64 → gI (sI h1 83 0 (64 * a + a) 0) 83 0 (64 * a + x) = if x = a then 0 else 99 := by
          intro x x1 x2
          by_cases y : x = a
          · rw [if_pos y, y, gI_eq]
          · rw [if_neg y, gI_nk (by omega)]
            exact (q1 a x a1 (by omega) x1 x2).2 (by omega)
        refine row (z15 + 11) a _ h1 a1 (by omega) wa f1 (fun g2 h2 hg2 f2 q2 => ?_) 64 _ 0 1 _ rfl (by omega) (by omega) (by omega) f3 (Or.inr rfl) (fun _ => ?_) (fun z => absurd z (by decide))
        · exact eight g2 h2 hg2 f2 q2
        · have u9 : us (fun x => gI (sI h1 83 0 (64 * a + a) 0) 83 0 (64 * a + x)) 64 + 1 = 64 := by
            have a9 := us_99 (r := fun x => gI h1 83 0 (64 * a + x)) 64 (fun x x1 x2 => (q1 a x a1 (by omega) x1 x2).2 (by omega))
            have := us_set (r := fun x => gI h1 83 0 (64 * a + x)) (r2 := fun x => gI (sI h1 83 0 (64 * a + a) 0) 83 0 (64 * a + x)) (d := a) ((q1 a a a1 (by omega) a1 (by omega)).2 (by omega)) (by rw [r0 a a1 (by omega), if_pos rfl]; decide) (fun x hx => gI_nk (by omega)) 64 a1 (by omega)
            omega
          refine ⟨by show gI (sI h1 83 0 (64 * a + a) 0) 83 0 (64 * a + a) = 0; exact gI_eq, fun x x1 x2 => ?_, fun x x1 x2 x3 x4 => ?_, fun b j b1 b2 b3 j1 j2 y w => ?_, by omega, fun _ x x1 x2 x3 => ?_⟩
          · show gI (sI h1 83 0 (64 * a + a) 0) 83 0 (64 * a + x) = 99 ∨ (0 ≤ gI (sI h1 83 0 (64 * a + a) 0) 83 0 (64 * a + x) ∧ gI (sI h1 83 0 (64 * a + a) 0) 83 0 (64 * a + x) ≤ 0 + 1 ∧ wt x)
            rw [r0 x x1 x2]
            by_cases y : x = a
            · rw [if_pos y, y]; exact Or.inr ⟨by decide, by decide, wa⟩
            · rw [if_neg y]; exact Or.inl rfl
          · have x3' : gI (sI h1 83 0 (64 * a + a) 0) 83 0 (64 * a + x) ≠ 99 := x3
            rw [r0 x x1 x2, if_neg x4] at x3'
            exact absurd rfl x3'
          · have y' : gI (sI h1 83 0 (64 * a + a) 0) 83 0 (64 * a + b) < 0 ∨ (gI (sI h1 83 0 (64 * a + a) 0) 83 0 (64 * a + b) = 0 ∧ (b < 0 ∨ (b = 0 ∧ j < 0))) := y
            rw [r0 b b1 b2] at y'
            split at y' <;> omega
          · show gI (sI h1 83 0 (64 * a + a) 0) 83 0 (64 * a + x) ≤ 0
            have x3' : gI (sI h1 83 0 (64 * a + a) 0) 83 0 (64 * a + x) ≠ 99 := x3
            rw [r0 x x1 x2] at x3' ⊢
            split
            · omega
            · rename_i y
              rw [if_neg y] at x3'
              exact absurd rfl x3'
      · refine eight _ h1 (by omega) fr_rf (fun x x1 x2 => ?_)
        rw [(q1 a x a1 (by omega) x1 x2).2 (by omega)]
        exact farV_no (fun z => by rw [ewt] at z; exact u z.2)
  have one : ∀ (d g : Nat) (x : Int) (h1 : Hp), (4096 - x).toNat = d → 0 ≤ x → x ≤ 4096 → d + 10000000 ≤ g → Fr (fun r _ _ => r = 83) h h1 → (∀ j, 0 ≤ j → j < x → gI h1 83 0 j = 99) → ok (g_X12_layFar g 1 [x] h1) (fun _ h' => Fr (fun r _ _ => r = 83) h h' ∧ ∀ a x, 0 ≤ a → a < 64 → 0 ≤ x → x < 64 → farV (stepF W H) wt a x (gI h' 83 0 (64 * a + x))) := by
    intro d
    induction d with
    | zero =>
      intro g x h1 hd x1 x2 hg f1 q1
      refine s_X12_layFar_1 (by omega) ?_
      unfold b_X12_layFar_1
      exact ok_t (by omega) (two (W * H).toNat _ 0 h1 (by omega) (by omega) (by omega) (by omega) f1 (fun b y b1 b2 y1 y2 => ⟨fun z => absurd z (by omega), fun _ => q1 _ (by omega) (by omega)⟩))
    | succ d ih =>
      intro g x h1 hd x1 x2 hg f1 q1
      refine s_X12_layFar_1 (by omega) ?_
      unfold b_X12_layFar_1
      refine ok_f (by omega) (ok_ck (by omega) (ok_lt (ok_ck (by omega) (ih _ (x + 1) _ (by omega) (by omega) (by omega) (by omega) (fr_sI f1 rfl) (fun j j1 j2 => ?_)))))
      by_cases y : j = x
      · rw [y, gI_eq]
      · rw [gI_nk y]; exact q1 j j1 (by omega)
  refine fuv_X12_layFar (fun g hg => ?_)
  refine s_X12_layFar_0 (by omega) ?_
  unfold b_X12_layFar_0
  exact one 4096 _ 0 h rfl (by omega) (by omega) (by omega) fr_rf (fun j j1 j2 => absurd j2 (by omega))
end
