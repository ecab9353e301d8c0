/-! POWER, 3: the reference -/
theorem tb_x1 {x i : Int} (i1 : 0 ≤ i) (i2 : i < 32) : tb (bxor x (-1)) i = !tb x i := by
  unfold tb bxor
  rw [bo_i, b_xor, show bt (Int32.ofInt (-1)) i.toNat = true from b_m1 i.toNat (by omega)]
  cases bt (Int32.ofInt x) i.toNat <;> rfl
theorem sub_e {x t : Int} (x1 : 0 ≤ x) (x2 : x < 512) : band x (bxor t (-1)) = 0 ↔ ∀ k : Nat, k < 9 → bit x k = 1 → bit t k = 1 := by
  constructor
  · intro e k hk b
    have z : tb (band x (bxor t (-1))) k = false := by rw [e]; exact b_0 _
    rw [tb_and, tb_x1 (by omega) (by omega)] at z
    rw [bit_tb (by omega) (by omega)] at b ⊢
    cases p : tb x (k : Int) <;> cases r : tb t (k : Int) <;> simp [p, r] at z b ⊢
  · intro e
    have z : Int32.ofInt x &&& Int32.ofInt (bxor t (-1)) = 0 := by
      refine b_ext (fun i hi => ?_)
      have a : bt (Int32.ofInt x &&& Int32.ofInt (bxor t (-1))) i = (tb x i && !tb t i) := by
        have := tb_x1 (x := t) (i := (i : Int)) (by omega) (by omega)
        unfold tb at this ⊢
        rw [show ((i : Int)).toNat = i by omega] at this ⊢
        rw [b_and, this]
      rw [a, b_0]
      by_cases y : i < 9
      · have u := e i y
        rw [bit_tb (by omega) (by omega), bit_tb (by omega) (by omega)] at u
        cases p : tb x (i : Int) <;> cases r : tb t (i : Int) <;> simp [p, r] at u ⊢
      · have u : tb x i = false := by
          rw [tb_n x1 (by omega) (by omega) (by omega), show ((i : Int)).toNat = i by omega]
          exact Nat.testBit_lt_two_pow (Nat.lt_of_lt_of_le (show x.toNat < 2 ^ 9 by omega) (Nat.pow_le_pow_right (by decide) (by omega)))
        rw [u]; rfl
    unfold band
    rw [z]; rfl
section
variable {H : Hp} {C V : Ch} {o t : Int}
theorem pc_ab (w : CW C) (hb : ∀ k : Nat, k < 9 → bit t k = if thP C k ∧ abP C V (-1) (-1) (ix C k) then 1 else 0) : ∀ x : Nat, x ≤ 9 → pcF t x = abN C V (-1) (-1) (cnt C x).toNat
  | 0, _ => by
    have : (cnt C ((0 : Nat) : Int)).toNat = 0 := by rw [show ((0 : Nat) : Int) = 0 from rfl, cnt_0 w]; rfl
    rw [this]; rfl
  | x + 1, h => by
    show pcF t x + bit t x = _
    rw [pc_ab w hb x (by omega), hb x (by omega), show (((x + 1 : Nat) : Int)) = (x : Int) + 1 by omega]
    by_cases th : thP C x
    · obtain ⟨n1, n2⟩ := cnt_th w (by omega) th
      obtain ⟨i1, i2, i3⟩ := ix_r w (by omega) th
      have e1 : (cnt C ((x : Int) + 1)).toNat = (cnt C x).toNat + 1 := by omega
      have e4 : ((cnt C x).toNat : Int) = ix C x := by omega
      have es : abN C V (-1) (-1) ((cnt C x).toNat + 1) = abN C V (-1) (-1) (cnt C x).toNat + if abP C V (-1) (-1) ((cnt C x).toNat : Int) then 1 else 0 := rfl
      rw [e1, es, e4]
      by_cases p : abP C V (-1) (-1) (ix C x)
      · rw [if_pos ⟨th, p⟩, if_pos p]
      · rw [if_neg (fun z => p z.2), if_neg p]
    · rw [if_neg (fun z => th z.1), cnt_no w (by omega) th]; omega
theorem pc_le (w : CW C) (o1 : 0 ≤ o) (o2 : o < sz C) {y : Int} (ha : ∀ k : Nat, k < 9 → bit y k = 1 → meR C V (sl C o) k = 1) : ∀ x : Nat, x ≤ 9 → pcF y x ≤ (cO C V o (cnt C x).toNat : Int)
  | 0, _ => by show (0 : Int) ≤ _; omega
  | x + 1, h => by
    have ih := pc_le w o1 o2 ha x (by omega)
    have b := bit01 (x := y) (i := (x : Int))
    show pcF y x + bit y x ≤ _
    rw [show (((x + 1 : Nat) : Int)) = (x : Int) + 1 by omega]
    have mo : cO C V o (cnt C x).toNat ≤ cO C V o (cnt C ((x : Int) + 1)).toNat := by
      refine cO_mo _ _ ?_
      by_cases th : thP C x
      · have := cnt_th w (by omega) th; omega
      · rw [cnt_no w (by omega) th]; exact Nat.le_refl _
    rcases b with b | b
    · omega
    · have m := ha x (by omega) b
      unfold meR at m
      by_cases z : thP C x ∧ abP C V (-1) (-1) (ix C x) ∧ ¬ (x : Int) = sl C o
      · obtain ⟨n1, n2⟩ := cnt_th w (by omega) z.1
        obtain ⟨i1, i2, i3⟩ := ix_r w (by omega) z.1
        have e1 : (cnt C ((x : Int) + 1)).toNat = (cnt C x).toNat + 1 := by omega
        have e4 : ((cnt C x).toNat : Int) = ix C x := by omega
        have me : meI C V o (cnt C x).toNat = 1 := by
          unfold meI
          rw [e4, if_pos ⟨z.2.1, fun e => z.2.2 (by rw [← e]; exact i3.symm)⟩]
        have ec : cO C V o ((cnt C x).toNat + 1) = if meI C V o (cnt C x).toNat = 1 then cO C V o (cnt C x).toNat + 1 else cO C V o (cnt C x).toNat := rfl
        rw [e1, ec, if_pos me]; omega
      · rw [if_neg z] at m; omega
set_option maxHeartbeats 8000000 in
theorem p_rpower {y : Int} (q : isR H C) (w : CW C) (hs : isS C H 0 V) (vw : VW C V) (ht : isT C H (-1) (-1)) (o1 : 0 ≤ o) (o2 : o < sz C) (ao : abP C V (-1) (-1) o) (n : Nat) (hn : 1000000 ≤ n) (r : Int) (r1 : 0 ≤ r) (hr : r = GS (pf (toF C V (sz C).toNat) (poF C V (-1) o) (cO C V o (sz C).toNat)) (meI C V o) (fun i => poF C V (-1) i) (sz C).toNat 0 0) : ok (g_X12_power n 1 [y, sl C o, 0, 0, 0] H) (fun s h' => s = (if y = 0 then r else faF (abN C V (-1) (-1) (sz C).toNat).toNat) / eu 64 r (faF (abN C V (-1) (-1) (sz C).toNat).toNat) ∧ h' = H) := by
  have ez := sz_r w
  have sr := sl_r w o1 o2
  have ar := abN_r (C := C) (V := V) (tw := -1) (ta := -1) (sz C).toNat
  have ca := cO_a ao o1 (sz C).toNat
  rw [if_pos (by omega)] at ca
  have tr := toF_r (V := V) w (sz C).toNat (by omega)
  have mr := poF_r (V := V) (tw := -1) w o1 o2
  have pm := p_X12_platesOf q w hs vw ht (by decide) (by decide) sr.1 sr.2.1 sr.2.2.1
  rw [sr.2.2.2] at pm
  generalize hA : abN C V (-1) (-1) (sz C).toNat = A at *
  generalize hNN : cO C V o (sz C).toNat = N at *
  generalize hT : toF C V (sz C).toNat = T at *
  generalize hm : poF C V (-1) o = mn at *
  have fA := faF_r A.toNat (by omega)
  have c9 : (cnt C 9).toNat = (sz C).toNat := by rw [cnt_9 w]
  have pw : ∀ k : Nat, k < 9 → thP C k → 0 ≤ poF C V (-1) (ix C k) ∧ poF C V (-1) (ix C k) ≤ 9 := fun k hk th => by
    obtain ⟨i1, i2, -⟩ := ix_r w (by omega) th
    exact poF_r w i1 i2
  have k3 : ∀ (t : Int), (∀ k : Nat, k < 9 → bit t k = if thP C k ∧ abP C V (-1) (-1) (ix C k) then 1 else 0) → ∀ (d n : Nat) (u x : Int) (a : Nat), 512 - a = d → a ≤ 512 → x = (a : Int) → 100 * d + 200 ≤ n → u = sm (fun v => gS (pf T mn N) (meR C V (sl C o)) (fun k => poF C V (-1) (ix C k)) 9 (v : Int) 0 0) a → 0 ≤ u → u ≤ 40320 * a → ok (g_X12_power n 3 [y, sl C o, t, T, A, u, x] H) (fun s h' => s = (if y = 0 then r else faF A.toNat) / eu 64 r (faF A.toNat) ∧ h' = H) := by
    intro t hb d
    induction d with
    | zero =>
      intro n u x a hd ha hx hn hu u1 u2
      subst hx
      have ea : a = 2 ^ 9 := by omega
      have eu' : u = r := by
        rw [hu, ea, gS_sum 9 0 0 (by decide), GS_sl w o1 o2 9 0 0 (by decide), hr]
        rw [show ((9 : Nat) : Int) = 9 from rfl, c9]
      refine s_X12_power_3 (by omega) ?_
      unfold b_X12_power_3
      rw [eu']
      have gp := eu_p 64 r (faF A.toNat) (en_of 32 r _ r1 (by omega) (by omega)) r1 (by omega) (by omega)
      refine ok_t (by omega) (ok_be (p_X12_factorial (by omega) (by omega)) (ok_be (p_X12_common r1 (by omega) (by omega)) (ok_if (fun v => ok_ck ⟨r1, gp⟩ (ok_some ⟨by rw [if_pos v], rfl⟩)) (fun v => ok_be (p_X12_factorial (by omega) (by omega)) (ok_ck ⟨by omega, gp⟩ (ok_some ⟨by rw [if_neg v], rfl⟩))))))
    | succ d ih =>
      intro n u x a hd ha hx hn hu u1 u2
      subst hx
      have es : sm (fun v => gS (pf T mn N) (meR C V (sl C o)) (fun k => poF C V (-1) (ix C k)) 9 (v : Int) 0 0) (a + 1) = u + gS (pf T mn N) (meR C V (sl C o)) (fun k => poF C V (-1) (ix C k)) 9 (a : Int) 0 0 := by
        show sm _ a + gS (pf T mn N) (meR C V (sl C o)) (fun k => poF C V (-1) (ix C k)) 9 (a : Int) 0 0 = _
        rw [← hu]
      have six : ∀ (m' : Nat) (u' : Int), 100 * d + 205 ≤ m' → u' = u + gS (pf T mn N) (meR C V (sl C o)) (fun k => poF C V (-1) (ix C k)) 9 (a : Int) 0 0 → 0 ≤ u' → u' ≤ u + 40320 → ok (g_X12_power m' 6 [y, sl C o, t, T, A, u', (a : Int)] H) (fun s h' => s = (if y = 0 then r else faF A.toNat) / eu 64 r (faF A.toNat) ∧ h' = H) := by
        intro m' u' y1 y2 y3 y4
        refine s_X12_power_6 (by omega) ?_
        unfold b_X12_power_6
        exact ok_ck (by omega) (ih _ _ _ (a + 1) (by omega) (by omega) (by omega) (by omega) (by rw [es]; exact y2) y3 (by omega))
      have no : (∃ k : Nat, k < 9 ∧ bit (a : Int) k = 1 ∧ ¬ meR C V (sl C o) k = 1) → ∀ m' : Nat, 100 * d + 205 ≤ m' → ok (g_X12_power m' 6 [y, sl C o, t, T, A, u, (a : Int)] H) (fun s h' => s = (if y = 0 then r else faF A.toNat) / eu 64 r (faF A.toNat) ∧ h' = H) := by
        rintro ⟨k, k1, k2, k3⟩ m' y1
        exact six _ _ y1 (by rw [gS_n 9 _ _ _ k k1 k2 k3]; omega) u1 (by omega)
      have four : (∀ k : Nat, k < 9 → bit (a : Int) k = 1 → meR C V (sl C o) k = 1) → ∀ (e m' : Nat) (s i : Int) (b : Nat), 9 - b = e → b ≤ 9 → i = (b : Int) → 100 * d + 220 + 3 * e ≤ m' → s = dtF (fun k => poF C V (-1) (ix C k)) a b → 0 ≤ s → s ≤ 9 * b → ok (g_X12_power m' 4 [y, sl C o, t, T, A, u, (a : Int), s, i] H) (fun s h' => s = (if y = 0 then r else faF A.toNat) / eu 64 r (faF A.toNat) ∧ h' = H) := by
        intro al e
        have pr := pcF_r (x := (a : Int)) 9
        have pl := pc_le (C := C) (V := V) w o1 o2 al 9 (by decide)
        rw [show ((9 : Nat) : Int) = 9 from rfl, c9, hNN] at pl
        have fm := fa_m (N := N) (c := pcF (a : Int) 9) (by omega) (by omega) (by omega) (by omega)
        have f1 := faF_r (pcF (a : Int) 9).toNat (by omega)
        induction e with
        | zero =>
          intro m' s i b he hb9 hi hm' hs' s1 s2
          subst hi
          have eb : b = 9 := by omega
          subst eb
          have eg : gS (pf T mn N) (meR C V (sl C o)) (fun k => poF C V (-1) (ix C k)) 9 (a : Int) 0 0 = pf T mn N s (pcF (a : Int) 9) := by
            rw [gS_y 9 _ _ _ al, Int.zero_add, Int.zero_add, ← hs']
          refine s_X12_power_4 (by omega) ?_
          unfold b_X12_power_4
          refine ok_t (by omega) (ok_ck (by omega) (ok_if (fun v => six _ _ (by omega) ?_ u1 (by omega)) (fun v => ok_be pm (ok_ck (by omega) (ok_ck (by omega) (ok_if (fun v2 => six _ _ (by omega) ?_ u1 (by omega)) (fun v2 => ?_)))))))
          · rw [eg]; unfold pf; rw [if_neg (by omega)]; omega
          · rw [eg]; unfold pf; rw [if_neg (by omega)]; omega
          · refine ok_be p_X12_bitsOf (ok_be (p_X12_factorial (by omega) (by omega)) (ok_ck (by omega) (ok_be p_X12_bitsOf (ok_ck (by omega) (ok_be (p_X12_factorial (by omega) (by omega)) ?_)))))
            rw [show A - 1 - pcF (a : Int) 9 = (N : Int) - pcF (a : Int) 9 by omega]
            refine ok_ck (by omega) (ok_ck (by omega) (ok_lt (six _ _ (by omega) ?_ (by omega) (by omega))))
            rw [eg]; unfold pf; rw [if_pos (by omega)]
        | succ e ihe =>
          intro m' s i b he hb9 hi hm' hs' s1 s2
          subst hi
          have ed : dtF (fun k => poF C V (-1) (ix C k)) a (b + 1) = dtF (fun k => poF C V (-1) (ix C k)) a b + if bit (a : Int) b = 1 then poF C V (-1) (ix C b) else 0 := rfl
          have five : ∀ (m' : Nat) (y0 : Int), 100 * d + 222 + 3 * e ≤ m' → y0 = (if bit (a : Int) b = 1 then poF C V (-1) (ix C b) else 0) → 0 ≤ y0 → y0 ≤ 9 → ok (g_X12_power m' 5 [y, sl C o, t, T, A, u, (a : Int), (b : Int), y0, s] H) (fun s h' => s = (if y = 0 then r else faF A.toNat) / eu 64 r (faF A.toNat) ∧ h' = H) := by
            intro m' y0 y1 y2 y3 y4
            refine s_X12_power_5 (by omega) ?_
            unfold b_X12_power_5
            exact ok_ck (by omega) (ok_lt (ok_ck (by omega) (ihe _ _ _ (b + 1) (by omega) (by omega) (by omega) (by omega) (by rw [ed, hs', ← y2]) (by omega) (by omega))))
          refine s_X12_power_4 (by omega) ?_
          unfold b_X12_power_4
          refine ok_f (by omega) (ok_if (fun v => ?_) (fun v => five _ _ (by omega) ?_ (by omega) (by omega)))
          · have m := al b (by omega) v
            have th : thP C b := by
              unfold meR at m
              by_cases z : thP C b ∧ abP C V (-1) (-1) (ix C b) ∧ ¬ (b : Int) = sl C o
              · exact z.1
              · rw [if_neg z] at m; omega
            have pb := pw b (by omega) th
            exact ok_be (p_X12_platesOf q w hs vw ht (by decide) (by decide) (by omega) (by omega) th) (five _ _ (by omega) (by rw [if_pos (show bit (a : Int) b = 1 from v)]) pb.1 pb.2)
          · rw [if_neg (show ¬ bit (a : Int) b = 1 from v)]
      refine s_X12_power_3 (by omega) ?_
      unfold b_X12_power_3
      have bt1 : ∀ k : Nat, k < 9 → (bit t k = 1 ↔ (thP C k ∧ abP C V (-1) (-1) (ix C k))) := fun k hk => by
        rw [hb k hk]
        by_cases z : thP C k ∧ abP C V (-1) (-1) (ix C k)
        · rw [if_pos z]; exact ⟨fun _ => z, fun _ => rfl⟩
        · rw [if_neg z]; exact ⟨fun e => by omega, fun e => absurd e z⟩
      have se := sub_e (x := (a : Int)) (t := t) (by omega) (by omega)
      refine ok_f (by omega) (ok_if (fun v => ok_if (fun v2 => no ?_ _ (by omega)) (fun v2 => four ?_ 9 _ _ _ 0 (by omega) (by omega) (by omega) (by omega) rfl (by decide) (by decide))) (fun v => no ?_ _ (by omega)))
      · refine ⟨(sl C o).toNat, by omega, ?_, ?_⟩
        · rw [show (((sl C o).toNat : Nat) : Int) = sl C o by omega]; exact v2
        · unfold meR; rw [if_neg (fun z => z.2.2 (by omega))]; decide
      · intro k k1 k2
        have z := (bt1 k k1).mp (se.mp v k k1 k2)
        unfold meR
        rw [if_pos ⟨z.1, z.2, fun e => v2 (by rw [← e]; exact k2)⟩]
      · by_cases z : ∃ k : Nat, k < 9 ∧ bit (a : Int) k = 1 ∧ ¬ meR C V (sl C o) k = 1
        · exact z
        · refine absurd (se.mpr (fun k k1 k2 => ?_)) v
          by_cases m : meR C V (sl C o) k = 1
          · refine (bt1 k k1).mpr ?_
            unfold meR at m
            by_cases z : thP C k ∧ abP C V (-1) (-1) (ix C k) ∧ ¬ (k : Int) = sl C o
            · exact ⟨z.1, z.2.1⟩
            · rw [if_neg z] at m; omega
          · exact absurd ⟨k, k1, k2, m⟩ z
  have k1 : ∀ (d n : Nat) (t a x : Int) (b : Nat), 9 - b = d → b ≤ 9 → x = (b : Int) → 3 * d + 100000 ≤ n → (∀ k : Nat, k < 31 → bit t k = if k < b ∧ thP C k ∧ abP C V (-1) (-1) (ix C k) then 1 else 0) → a = toF C V (cnt C b).toNat → ok (g_X12_power n 1 [y, sl C o, t, a, x] H) (fun s h' => s = (if y = 0 then r else faF A.toNat) / eu 64 r (faF A.toNat) ∧ h' = H) := by
    intro d
    induction d with
    | zero =>
      intro n t a x b hd hb9 hx hn hb ha
      subst hx
      have eb : b = 9 := by omega
      subst eb
      have hb2 : ∀ k : Nat, k < 9 → bit t k = if thP C k ∧ abP C V (-1) (-1) (ix C k) then 1 else 0 := fun k hk => by
        rw [hb k (by omega)]
        by_cases z : thP C k ∧ abP C V (-1) (-1) (ix C k)
        · rw [if_pos z, if_pos ⟨hk, z⟩]
        · rw [if_neg z, if_neg (fun u => z u.2)]
      have pa := pc_ab w hb2 9 (by decide)
      rw [show ((9 : Nat) : Int) = 9 from rfl, c9, hA] at pa
      rw [show ((9 : Nat) : Int) = 9 from rfl, c9, hT] at ha
      refine s_X12_power_1 (by omega) ?_
      unfold b_X12_power_1
      rw [ha]
      refine ok_t (by omega) (ok_be p_X12_bitsOf ?_)
      rw [pa]
      exact k3 t hb2 512 _ _ _ 0 (by omega) (by omega) (by omega) (by omega) rfl (by decide) (by decide)
    | succ d ih =>
      intro n t a x b hd hb9 hx hn hb ha
      subst hx
      have cr := cnt_r w (show (0 : Int) ≤ (b : Int) by omega) (by omega)
      have tk := toF_r (V := V) w (cnt C b).toNat (by omega)
      have two : ∀ (m' : Nat) (t' a' : Int), 3 * d + 100002 ≤ m' → (∀ k : Nat, k < 31 → bit t' k = if k < b + 1 ∧ thP C k ∧ abP C V (-1) (-1) (ix C k) then 1 else 0) → a' = toF C V (cnt C ((b : Int) + 1)).toNat → ok (g_X12_power m' 2 [y, sl C o, t', a', (b : Int)] H) (fun s h' => s = (if y = 0 then r else faF A.toNat) / eu 64 r (faF A.toNat) ∧ h' = H) := by
        intro m' t' a' y1 y2 y3
        refine s_X12_power_2 (by omega) ?_
        unfold b_X12_power_2
        exact ok_ck (by omega) (ih _ _ _ _ (b + 1) (by omega) (by omega) (by omega) (by omega) y2 (by rw [y3, show (((b + 1 : Nat) : Int)) = (b : Int) + 1 by omega]))
      refine s_X12_power_1 (by omega) ?_
      unfold b_X12_power_1
      refine ok_f (by omega) (ok_be (p_X12_isAboard q w hs vw ht (by decide) (by decide) (by omega) (by omega)) (ok_if (fun v => two _ _ _ (by omega) (fun k hk => ?_) ?_) (fun v => ok_lt ?_)))
      · replace v := b2i_0.mp v
        rw [hb k hk]
        by_cases e : k = b
        · rw [if_neg (by omega), if_neg (fun z => v (by rw [← e]; exact z.2))]
        · by_cases z : k < b ∧ thP C k ∧ abP C V (-1) (-1) (ix C k)
          · rw [if_pos z, if_pos ⟨by omega, z.2⟩]
          · rw [if_neg z, if_neg (fun u => z ⟨by omega, u.2⟩)]
      · replace v := b2i_0.mp v
        rw [ha]
        by_cases th : thP C b
        · obtain ⟨n1, n2⟩ := cnt_th w (by omega) th
          have e1 : (cnt C ((b : Int) + 1)).toNat = (cnt C b).toNat + 1 := by omega
          have e4 : ((cnt C b).toNat : Int) = ix C b := by omega
          have es : toF C V ((cnt C b).toNat + 1) = toF C V (cnt C b).toNat + if abP C V (-1) (-1) ((cnt C b).toNat : Int) then poF C V (-1) ((cnt C b).toNat : Int) else 0 := rfl
          rw [e1, es, e4, if_neg (fun z => v ⟨th, z⟩)]; omega
        · rw [cnt_no w (by omega) th]
      · replace v := b2i_n.mp v
        obtain ⟨n1, n2⟩ := cnt_th w (by omega) v.1
        obtain ⟨i1, i2, i3⟩ := ix_r w (by omega) v.1
        have e1 : (cnt C ((b : Int) + 1)).toNat = (cnt C b).toNat + 1 := by omega
        have e4 : ((cnt C b).toNat : Int) = ix C b := by omega
        have es : toF C V ((cnt C b).toNat + 1) = toF C V (cnt C b).toNat + if abP C V (-1) (-1) ((cnt C b).toNat : Int) then poF C V (-1) ((cnt C b).toNat : Int) else 0 := rfl
        have pb := pw b (by omega) v.1
        refine ok_be (p_X12_platesOf q w hs vw ht (by decide) (by decide) (by omega) (by omega) v.1) (ok_ck (by omega) (ok_lt (two _ _ _ (by omega) (fun k hk => ?_) ?_)))
        · rw [bit_or1 (by omega) (by omega) (by omega) (by omega), hb k hk]
          by_cases e : (k : Int) = (b : Int)
          · have e' : k = b := by omega
            rw [if_pos e, if_pos ⟨by omega, by rw [e']; exact v⟩]
          · rw [if_neg e]
            by_cases z : k < b ∧ thP C k ∧ abP C V (-1) (-1) (ix C k)
            · rw [if_pos z, if_pos ⟨by omega, z.2⟩]
            · rw [if_neg z, if_neg (fun u => z ⟨by omega, u.2⟩)]
        · rw [e1, es, e4, if_pos v.2, ha]
  refine k1 9 _ _ _ _ 0 (by omega) (by omega) (by omega) (by omega) (fun k hk => ?_) ?_
  · rw [bit0 (by omega) (by omega), if_neg (fun z => by have := z.1; omega)]
  · rw [show ((0 : Nat) : Int) = 0 from rfl, cnt_0 w]; rfl
end
theorem agr_power {x y : Int} : Agr (f_X11_power x y) (f_X12_power x y) := by
  intro h c σ w q
  have wC := sw_C w
  have ez := sz_r wC
  have vw := (sw_V w).1
  have vm := vw_m vw
  have kv := q.2.2.1
  have kg := q.2.2.2.1
  have e0 := iv_0 kv.1
  have hx := q.1.2.2.2
  by_cases z : (y = 0 ∨ y = 1) ∧ (0 ≤ x ∧ x < sz (sC σ)) ∧ abP (sC σ) (sV σ 0) (-1) (-1) x
  · obtain ⟨zy, zx, za⟩ := z
    have mb := cw_m wC x zx.1 zx.2
    have zm : sV σ 0 0 0 < 60 := by have := za.2.2.2.2; omega
    have ar := abN_r (C := sC σ) (V := sV σ 0) (tw := -1) (ta := -1) (sz (sC σ)).toNat
    obtain ⟨r, h1, o1, o2, o3, o4, o5⟩ := p_orders hx kv.1 vw kg.1 zx.1 zx.2 za
    have fA := faF_r (abN (sC σ) (sV σ 0) (-1) (-1) (sz (sC σ)).toNat).toNat (by omega)
    refine ⟨(if y = 0 then r else faF (abN (sC σ) (sV σ 0) (-1) (-1) (sz (sC σ)).toNat).toNat) / eu 64 r (faF (abN (sC σ) (sV σ 0) (-1) (-1) (sz (sC σ)).toNat).toNat), σ, w, ok_sc q ?_, fun h2 q2 => ok_sr w q2 ?_⟩
    · have one : ∀ n : Nat, 10 ≤ n → ok (g_X11_power n 1 [x, y] h) (fun s h' => s = (if y = 0 then r else faF (abN (sC σ) (sV σ 0) (-1) (-1) (sz (sC σ)).toNat).toNat) / eu 64 r (faF (abN (sC σ) (sV σ 0) (-1) (-1) (sz (sC σ)).toNat).toNat) ∧ Fr ScW h h' ∧ kG h') := by
        intro n hn
        refine s_X11_power_1 (by omega) ?_
        unfold b_X11_power_1
        refine ok_rf (j := c) q.1.1 (ok_be (p_X0_isMouth hx.2.1 wC) (ok_f (fun u => b2i_0.mp u zx) (ok_be (p_X11_mealIsNext e0) (ok_f (fun u => b2i_0.mp u zm) (ok_be (p_X2_isAboard (ta := -1) hx kv.1 kg.1 (fun u => by omega) zx.1 zx.2) (ok_f (fun u => b2i_0.mp u za) (ok_be (p_X2_aboard (ta := -1) hx kv.1 kg.1 (fun u => by omega)) (ok_f (by omega) (ok_f (by omega) (ok_ck (by omega) ?_))))))))))
        rw [faF_e _ (by omega)]
        refine s_X11_power_3 (by omega) ?_
        unfold b_X11_power_3
        exact ok_be o1 (ok_be (p_X11_part o4 (by omega) (by omega)) (ok_some ⟨rfl, fr_mo o3 (fun r i k u => by unfold ScW; omega), (o3.1 2 0 1 (by omega)).trans kg.1, (o3.1 2 0 10 (by omega)).trans kg.2⟩))
      refine fuv_X11_power (fun n hn => ?_)
      refine s_X11_power_0 (by omega) ?_
      unfold b_X11_power_0
      rcases zy with u | u
      · exact ok_t u (one _ (by omega))
      · exact ok_f (by omega) (ok_t u (one _ (by omega)))
    · have q3 := pl_q w q2
      have sr := sl_r wC zx.1 zx.2
      refine fuv_X12_power (fun n hn => ?_)
      refine s_X12_power_0 (by omega) ?_
      unfold b_X12_power_0
      refine ok_lt (ok_be (p_X12_slot (IR_0 w q2).1 wC) ?_)
      rw [if_pos zx]
      refine ok_be p_X12_plain (ok_f (by omega) (ok_f (by omega) (ok_f (by omega) (ok_be (p_X12_isAboard q3.1 wC q3.2.2.1.1 vw pl_t (by decide) (by decide) sr.1 sr.2.1) (ok_f (fun u => b2i_0.mp u ⟨sr.2.2.1, by rw [sr.2.2.2]; exact za⟩) (ok_mono (p_rpower q3.1 wC q3.2.2.1.1 vw pl_t zx.1 zx.2 za _ (by omega) r o4 o2) ?_))))))
      intro s h' ⟨k1, k2⟩
      exact ⟨k1, by rw [k2]; exact pl_f, by rw [k2]; exact q3.2.1⟩
  · refine ⟨-1, σ, w, ok_rc q ?_, fun h2 q2 => ok_sr w q2 ?_⟩
    · have one : ∀ n : Nat, 10 ≤ n → (y = 0 ∨ y = 1) → ok (g_X11_power n 1 [x, y] h) (fun s h' => s = -1 ∧ h' = h) := by
        intro n hn hy
        refine s_X11_power_1 (by omega) ?_
        unfold b_X11_power_1
        refine ok_rf (j := c) q.1.1 (ok_be (p_X0_isMouth hx.2.1 wC) (ok_if (fun u => ok_some ⟨rfl, rfl⟩) (fun u => ok_be (p_X11_mealIsNext e0) (ok_if (fun u2 => ok_some ⟨rfl, rfl⟩) (fun u2 => ?_)))))
        replace u := b2i_n.mp u
        exact ok_be (p_X2_isAboard (ta := -1) hx kv.1 kg.1 (fun u => by omega) u.1 u.2) (ok_t (b2i_0.mpr (fun v => z ⟨hy, u, v⟩)) (ok_some ⟨rfl, rfl⟩))
      refine ok_eq.mp (fuv_X11_power (fun n hn => ?_))
      refine s_X11_power_0 (by omega) ?_
      unfold b_X11_power_0
      exact ok_if (fun u => one _ (by omega) (Or.inl u)) (fun u => ok_if (fun u2 => one _ (by omega) (Or.inr u2)) (fun u2 => ok_some ⟨rfl, rfl⟩))
    · have q3 := pl_q w q2
      refine fuv_X12_power (fun n hn => ?_)
      refine s_X12_power_0 (by omega) ?_
      unfold b_X12_power_0
      refine ok_lt (ok_be (p_X12_slot (IR_0 w q2).1 wC) (ok_be p_X12_plain ?_))
      by_cases zx : 0 ≤ x ∧ x < sz (sC σ)
      · have sr := sl_r wC zx.1 zx.2
        rw [if_pos zx]
        refine ok_f (by omega) (ok_if (fun u => ok_some ⟨rfl, pl_f, q3.2.1⟩) (fun u => ok_if (fun u2 => ok_some ⟨rfl, pl_f, q3.2.1⟩) (fun u2 => ok_be (p_X12_isAboard q3.1 wC q3.2.2.1.1 vw pl_t (by decide) (by decide) sr.1 sr.2.1) (ok_t ?_ (ok_some ⟨rfl, pl_f, q3.2.1⟩)))))
        refine b2i_0.mpr (fun v => z ⟨by omega, zx, ?_⟩)
        have := v.2
        rw [sr.2.2.2] at this
        exact this
      · rw [if_neg zx]
        exact ok_t rfl (ok_some ⟨rfl, pl_f, q3.2.1⟩)
