/-! POWER, 2 -/
def pf (T mn N : Int) (s c : Int) : Int := if 2 * s ≤ T ∧ T < 2 * (s + mn) then faF c.toNat * faF (N - c).toNat else 0
theorem fa_2 : ∀ N, N < 9 → ∀ c, c ≤ N → 1 ≤ faF c * faF (N - c) ∧ faF c * faF (N - c) ≤ 40320 := by decide
theorem fa_m {N c : Int} (n1 : 0 ≤ N) (n2 : N < 9) (c1 : 0 ≤ c) (c2 : c ≤ N) : 1 ≤ faF c.toNat * faF (N - c).toNat ∧ faF c.toNat * faF (N - c).toNat ≤ 40320 := by
  have := fa_2 N.toNat (by omega) c.toNat (by omega)
  rw [show N.toNat - c.toNat = (N - c).toNat by omega] at this
  exact this
def meI (C V : Ch) (o : Int) (n : Nat) : Int := if abP C V (-1) (-1) n ∧ ¬ (n : Int) = o then 1 else 0
def cO (C V : Ch) (o : Int) : Nat → Nat
  | 0 => 0
  | n + 1 => if meI C V o n = 1 then cO C V o n + 1 else cO C V o n
def toF (C V : Ch) : Nat → Int
  | 0 => 0
  | n + 1 => toF C V n + if abP C V (-1) (-1) n then poF C V (-1) n else 0
section
variable {C V : Ch} {o : Int}
theorem cO_r : ∀ n : Nat, cO C V o n ≤ n
  | 0 => by simp [cO]
  | n + 1 => by
    have := cO_r n
    unfold cO
    split <;> omega
theorem cO_a (a : abP C V (-1) (-1) o) (o1 : 0 ≤ o) : ∀ n : Nat, abN C V (-1) (-1) n = (cO C V o n : Int) + (if o < (n : Int) then 1 else 0)
  | 0 => by
    show (0 : Int) = 0 + _
    rw [if_neg (by omega)]; rfl
  | n + 1 => by
    have ih := cO_a a o1 n
    have es : abN C V (-1) (-1) (n + 1) = abN C V (-1) (-1) n + if abP C V (-1) (-1) n then 1 else 0 := rfl
    have ec : cO C V o (n + 1) = if meI C V o n = 1 then cO C V o n + 1 else cO C V o n := rfl
    rw [es, ih, ec]
    by_cases e : (n : Int) = o
    · have m : ¬ meI C V o n = 1 := by unfold meI; rw [if_neg (fun z => z.2 e)]; decide
      have p1 : abP C V (-1) (-1) (n : Int) := by rw [e]; exact a
      have p2 : ¬ o < (n : Int) := by omega
      have p3 : o < ((n + 1 : Nat) : Int) := by omega
      rw [if_neg m, if_pos p1, if_neg p2, if_pos p3]; omega
    · by_cases p : abP C V (-1) (-1) n
      · have m : meI C V o n = 1 := by unfold meI; rw [if_pos ⟨p, e⟩]
        rw [if_pos m, if_pos p]
        by_cases y : o < (n : Int)
        · rw [if_pos y, if_pos (by omega)]; omega
        · rw [if_neg y, if_neg (by omega)]; omega
      · have m : ¬ meI C V o n = 1 := by unfold meI; rw [if_neg (fun z => p z.1)]; decide
        rw [if_neg m, if_neg p]
        by_cases y : o < (n : Int)
        · rw [if_pos y, if_pos (by omega)]; omega
        · rw [if_neg y, if_neg (by omega)]; omega
theorem cO_mo : ∀ (n k : Nat), k ≤ n → cO C V o k ≤ cO C V o n
  | 0, k, h => by rw [show k = 0 by omega]; exact Nat.le_refl _
  | n + 1, k, h => by
    by_cases e : k = n + 1
    · rw [e]; exact Nat.le_refl _
    · have a := cO_mo n k (by omega)
      have ec : cO C V o (n + 1) = if meI C V o n = 1 then cO C V o n + 1 else cO C V o n := rfl
      rw [ec]
      split <;> omega
theorem cO_lt {i k : Nat} (m : meI C V o i = 1) (h : i < k) : cO C V o i < cO C V o k := by
  have a := cO_mo (C := C) (V := V) (o := o) k (i + 1) (by omega)
  have ec : cO C V o (i + 1) = if meI C V o i = 1 then cO C V o i + 1 else cO C V o i := rfl
  rw [ec, if_pos m] at a
  omega
theorem toF_r (w : CW C) : ∀ n : Nat, (n : Int) ≤ sz C → 0 ≤ toF C V n ∧ toF C V n ≤ 9 * n
  | 0, _ => by simp [toF]
  | n + 1, h => by
    have a := toF_r w n (by omega)
    have b := poF_r (V := V) (tw := -1) (i := (n : Int)) w (by omega) (by omega)
    unfold toF
    split <;> omega
/-- over shares, over mouths -/
theorem GS_sh {f : Int → Int → Int} {sh : Nat → Int} : ∀ (n : Nat) (s c : Int), (∀ i : Nat, i < n → meI C V o i = 1 → sh (cO C V o i) = poF C V (-1) i) → GS f (meI C V o) (fun i => poF C V (-1) i) n s c = GS f (fun _ => 1) sh (cO C V o n) s c
  | 0, s, c, _ => rfl
  | n + 1, s, c, h => by
    have ec : cO C V o (n + 1) = if meI C V o n = 1 then cO C V o n + 1 else cO C V o n := rfl
    show GS f (meI C V o) _ n s c + (if meI C V o n = 1 then GS f (meI C V o) _ n (s + poF C V (-1) n) (c + 1) else 0) = _
    rw [GS_sh n s c (fun i hi => h i (by omega)), ec]
    by_cases y : meI C V o n = 1
    · rw [if_pos y, if_pos y, GS_sh n _ _ (fun i hi => h i (by omega)), ← h n (by omega) y]
      rfl
    · rw [if_neg y, if_neg y]; omega
def meR (C V : Ch) (m : Int) (k : Nat) : Int := if thP C k ∧ abP C V (-1) (-1) (ix C k) ∧ ¬ (k : Int) = m then 1 else 0
theorem GS_sl {f : Int → Int → Int} (w : CW C) (o1 : 0 ≤ o) (o2 : o < sz C) : ∀ (x : Nat) (s c : Int), x ≤ 9 → GS f (meR C V (sl C o)) (fun k => poF C V (-1) (ix C k)) x s c = GS f (meI C V o) (fun i => poF C V (-1) i) (cnt C x).toNat s c
  | 0, s, c, _ => by
    have : (cnt C ((0 : Nat) : Int)).toNat = 0 := by rw [show ((0 : Nat) : Int) = 0 from rfl, cnt_0 w]; rfl
    rw [this]; rfl
  | x + 1, s, c, h => by
    show GS f (meR C V (sl C o)) _ x s c + (if meR C V (sl C o) x = 1 then GS f (meR C V (sl C o)) _ x (s + poF C V (-1) (ix C x)) (c + 1) else 0) = _
    rw [GS_sl w o1 o2 x s c (by omega)]
    rw [show (((x + 1 : Nat) : Int)) = (x : Int) + 1 by omega]
    by_cases t : thP C x
    · obtain ⟨n1, n2⟩ := cnt_th w (by omega) t
      obtain ⟨i1, i2, i3⟩ := ix_r w (by omega) t
      have e1 : (cnt C ((x : Int) + 1)).toNat = (cnt C x).toNat + 1 := by omega
      have e4 : ((cnt C x).toNat : Int) = ix C x := by omega
      have em : meR C V (sl C o) x = meI C V o (cnt C x).toNat := by
        unfold meR meI
        rw [e4]
        by_cases p : abP C V (-1) (-1) (ix C x)
        · by_cases e : ix C x = o
          · rw [if_neg (fun z => z.2.2 (by rw [← e]; exact i3.symm)), if_neg (fun z => z.2 e)]
          · rw [if_pos ⟨t, p, fun z => e (sl_inj w i1 i2 o1 o2 (i3.trans z))⟩, if_pos ⟨p, e⟩]
        · rw [if_neg (fun z => p z.2.1), if_neg (fun z => p z.1)]
      rw [e1, em, GS_sl w o1 o2 x _ _ (by omega)]
      show _ = GS f (meI C V o) _ (cnt C x).toNat s c + (if meI C V o (cnt C x).toNat = 1 then GS f (meI C V o) _ (cnt C x).toNat (s + poF C V (-1) ((cnt C x).toNat : Int)) (c + 1) else 0)
      rw [e4]
    · have m : ¬ meR C V (sl C o) x = 1 := by unfold meR; rw [if_neg (fun z => t z.1)]; decide
      rw [if_neg m, cnt_no w (by omega) t]; omega
theorem dtF_r {W : Nat → Int} {x : Int} : ∀ n : Nat, (∀ k, k < n → 0 ≤ W k ∧ W k ≤ 9) → 0 ≤ dtF W x n ∧ dtF W x n ≤ 9 * n
  | 0, _ => by simp [dtF]
  | n + 1, h => by
    have a := dtF_r (x := x) n (fun k hk => h k (by omega))
    have b := h n (by omega)
    unfold dtF
    split <;> omega
theorem pcF_hi {x N : Nat} (hN : N ≤ 9) (hx : x < 2 ^ N) : ∀ n : Nat, N ≤ n → n ≤ 9 → pcF (x : Int) n = pcF (x : Int) N := by
  have h9 : 2 ^ N ≤ 2 ^ 9 := Nat.pow_le_pow_right (by decide) hN
  intro n hn h2
  induction n with
  | zero => rw [show N = 0 by omega]
  | succ n ih =>
    by_cases e : N = n + 1
    · rw [e]
    · show pcF (x : Int) n + bit (x : Int) n = _
      have l : x < 2 ^ n := Nat.lt_of_lt_of_le hx (Nat.pow_le_pow_right (by decide) (by omega))
      rw [ih (by omega) (by omega), bitN (by omega) (by omega), Nat.testBit_lt_two_pow l]
      simp
end
section
variable {h : Hp} {c o : Int} {C V : Ch}
theorem sm_r {F : Nat → Int} {B : Int} : ∀ n : Nat, (∀ j, j < n → 0 ≤ F j ∧ F j ≤ B) → 0 ≤ sm F n ∧ sm F n ≤ B * n
  | 0, _ => by simp [sm]
  | n + 1, hF => by
    have a := sm_r n (fun j hj => hF j (by omega))
    have b := hF n (by omega)
    show 0 ≤ sm F n + F n ∧ sm F n + F n ≤ B * ((n + 1 : Nat) : Int)
    have e : B * ((n + 1 : Nat) : Int) = B * (n : Int) + B := by rw [show ((n + 1 : Nat) : Int) = (n : Int) + 1 by omega, Int.mul_add, Int.mul_one]
    omega
set_option maxHeartbeats 8000000 in
theorem p_orders {h0 : Hp} (hx0 : CX h0 c C) (hv0 : isV C h0 0 V) (vw : VW C V) (t0 : gI h0 2 0 1 = -1) (o1 : 0 ≤ o) (o2 : o < sz C) (ao : abP C V (-1) (-1) o) : ok (f_X2_ordersDecidedBy 0 o h0) (fun r h' => r = GS (pf (toF C V (sz C).toNat) (poF C V (-1) o) (cO C V o (sz C).toNat)) (meI C V o) (fun i => poF C V (-1) i) (sz C).toNat 0 0 ∧ Fr (fun r _ _ => r = 32) h0 h' ∧ 0 ≤ r ∧ r ≤ 40320 * 256) := by
  have w := hx0.2.2
  have ez := sz_r w
  have hN := cO_r (C := C) (V := V) (o := o) (sz C).toNat
  have ca := cO_a ao o1 (sz C).toNat
  have ar := abN_r (C := C) (V := V) (tw := -1) (ta := -1) (sz C).toNat
  have N8 : cO C V o (sz C).toNat ≤ 8 := by rw [if_pos (by omega)] at ca; omega
  have tr := toF_r (V := V) w (sz C).toNat (by omega)
  have mr := poF_r (V := V) (tw := -1) w o1 o2
  generalize hNN : cO C V o (sz C).toNat = N at *
  generalize hT : toF C V (sz C).toNat = T at *
  generalize hm : poF C V (-1) o = mn at *
  have p2 : (2 : Nat) ^ N ≤ 2 ^ 8 := Nat.pow_le_pow_right (by decide) N8
  have bs : bshl 1 (N : Int) = ((2 ^ N : Nat) : Int) := by
    rw [bshl1 (by omega) (by omega), show ((N : Int)).toNat = N by omega]; simp
  have k3 : ∀ (d n : Nat) (H : Hp) (r x : Int) (a : Nat), 2 ^ N - a = d → a ≤ 2 ^ N → x = (a : Int) → 100 * d + 100 ≤ n → Fr (fun r _ _ => r = 32) h0 H → (∀ k, k < N → 0 ≤ gI H 32 0 (k : Int) ∧ gI H 32 0 (k : Int) ≤ 9) → r = sm (fun y => gS (pf T mn N) (fun _ => 1) (fun k => gI H 32 0 (k : Int)) N (y : Int) 0 0) a → ok (g_X2_ordersDecidedBy n 3 [T, (N : Int), mn, r, x] H) (fun r h' => r = GS (pf T mn N) (fun _ => 1) (fun k => gI H 32 0 (k : Int)) N 0 0 ∧ Fr (fun r _ _ => r = 32) h0 h' ∧ 0 ≤ r ∧ r ≤ 40320 * 256) := by
    intro d
    induction d with
    | zero =>
      intro n H r x a hd ha hx hn hF hs hr
      subst hx
      have ea : a = 2 ^ N := by omega
      have gv := gS_sum (f := pf T mn N) (M := fun _ => 1) (W := fun k => gI H 32 0 (k : Int)) N 0 0 (by omega)
      have bound := sm_r (F := fun y => gS (pf T mn N) (fun _ => 1) (fun k => gI H 32 0 (k : Int)) N (y : Int) 0 0) (B := 40320) (2 ^ N) (fun j hj => by
        show 0 ≤ gS (pf T mn N) (fun _ => 1) (fun k => gI H 32 0 (k : Int)) N (j : Int) 0 0 ∧ gS (pf T mn N) (fun _ => 1) (fun k => gI H 32 0 (k : Int)) N (j : Int) 0 0 ≤ 40320
        rw [gS_y N _ _ _ (fun _ _ _ => rfl)]
        have pr := pcF_r (x := (j : Int)) N
        have fm := fa_m (N := N) (c := 0 + pcF (j : Int) N) (by omega) (by omega) (by omega) (by omega)
        unfold pf
        split <;> omega)
      refine s_X2_ordersDecidedBy_3 (by omega) ?_
      unfold b_X2_ordersDecidedBy_3
      rw [bs]
      refine ok_t (by omega) (ok_some ⟨?_, hF, ?_, ?_⟩)
      · rw [hr, ea]; exact gv
      · rw [hr, ea]; exact bound.1
      · rw [hr, ea]; omega
    | succ d ih =>
      intro n H r x a hd ha hx hn hF hs hr
      subst hx
      have bound := sm_r (F := fun y => gS (pf T mn N) (fun _ => 1) (fun k => gI H 32 0 (k : Int)) N (y : Int) 0 0) (B := 40320) a (fun j hj => by
        show 0 ≤ gS (pf T mn N) (fun _ => 1) (fun k => gI H 32 0 (k : Int)) N (j : Int) 0 0 ∧ gS (pf T mn N) (fun _ => 1) (fun k => gI H 32 0 (k : Int)) N (j : Int) 0 0 ≤ 40320
        rw [gS_y N _ _ _ (fun _ _ _ => rfl)]
        have pr := pcF_r (x := (j : Int)) N
        have fm := fa_m (N := N) (c := 0 + pcF (j : Int) N) (by omega) (by omega) (by omega) (by omega)
        unfold pf
        split <;> omega)
      rw [← hr] at bound
      have es : sm (fun y => gS (pf T mn N) (fun _ => 1) (fun k => gI H 32 0 (k : Int)) N (y : Int) 0 0) (a + 1) = r + pf T mn N (0 + dtF (fun k => gI H 32 0 (k : Int)) a N) (0 + pcF a N) := by
        show sm _ a + gS (pf T mn N) (fun _ => 1) (fun k => gI H 32 0 (k : Int)) N (a : Int) 0 0 = _
        rw [← hr, gS_y N _ _ _ (fun _ _ _ => rfl)]
      rw [Int.zero_add, Int.zero_add] at es
      have dr := dtF_r (x := (a : Int)) N hs
      have pr := pcF_r (x := (a : Int)) N
      have ph := pcF_hi (x := a) (N := N) (by omega) (by omega) 9 (by omega) (by omega)
      have fm := fa_m (N := N) (c := pcF (a : Int) N) (by omega) (by omega) (by omega) (by omega)
      have seven : ∀ (m' : Nat) (r' : Int), 100 * d + 110 ≤ m' → r' = r + pf T mn N (dtF (fun k => gI H 32 0 (k : Int)) a N) (pcF a N) → ok (g_X2_ordersDecidedBy m' 7 [T, (N : Int), mn, r', (a : Int)] H) (fun r h' => r = GS (pf T mn N) (fun _ => 1) (fun k => gI H 32 0 (k : Int)) N 0 0 ∧ Fr (fun r _ _ => r = 32) h0 h' ∧ 0 ≤ r ∧ r ≤ 40320 * 256) := by
        intro m' r' y1 y2
        refine s_X2_ordersDecidedBy_7 (by omega) ?_
        unfold b_X2_ordersDecidedBy_7
        exact ok_ck (by omega) (ih _ _ _ _ (a + 1) (by omega) (by omega) (by omega) (by omega) hF hs (by rw [es]; exact y2))
      have six : ∀ (m' : Nat) (s : Int), 100 * d + 120 ≤ m' → s = dtF (fun k => gI H 32 0 (k : Int)) a N → ok (g_X2_ordersDecidedBy m' 6 [T, (N : Int), mn, r, (a : Int), s] H) (fun r h' => r = GS (pf T mn N) (fun _ => 1) (fun k => gI H 32 0 (k : Int)) N 0 0 ∧ Fr (fun r _ _ => r = 32) h0 h' ∧ 0 ≤ r ∧ r ≤ 40320 * 256) := by
        intro m' s y1 y2
        refine s_X2_ordersDecidedBy_6 (by omega) ?_
        unfold b_X2_ordersDecidedBy_6
        refine ok_be (p_bitCount (by omega) (by omega)) ?_
        rw [ph]
        refine ok_ck (by omega) (ok_lt (ok_ck (by omega) (ok_if (fun v => seven _ _ (by omega) ?_) (fun v => ok_ck (by omega) (ok_ck (by omega) (ok_if (fun v2 => seven _ _ (by omega) ?_) (fun v2 => ok_f (by omega) (ok_f (by omega) (ok_f (by omega) (ok_ck (by omega) (ok_ck (by omega) ?_)))))))))))
        · unfold pf; rw [if_neg (by omega)]; omega
        · unfold pf; rw [if_neg (by omega)]; omega
        · rw [faF_e _ (by omega), faF_e _ (by omega)]
          refine ok_ck (by omega) (ok_ck (by omega) (ok_lt (seven _ _ (by omega) ?_)))
          unfold pf; rw [if_pos (by omega)]
      have four : ∀ (e m' : Nat) (s i : Int) (t : Nat), N - t = e → t ≤ N → i = (t : Int) → 100 * d + 130 + 3 * e ≤ m' → s = dtF (fun k => gI H 32 0 (k : Int)) a t → ok (g_X2_ordersDecidedBy m' 4 [T, (N : Int), mn, r, (a : Int), s, i] H) (fun r h' => r = GS (pf T mn N) (fun _ => 1) (fun k => gI H 32 0 (k : Int)) N 0 0 ∧ Fr (fun r _ _ => r = 32) h0 h' ∧ 0 ≤ r ∧ r ≤ 40320 * 256) := by
        intro e
        induction e with
        | zero =>
          intro m' s i t he ht hi hm' hs'
          subst hi
          have et : t = N := by omega
          refine s_X2_ordersDecidedBy_4 (by omega) ?_
          unfold b_X2_ordersDecidedBy_4
          exact ok_t (by omega) (six _ _ (by omega) (by rw [hs', et]))
        | succ e ihe =>
          intro m' s i t he ht hi hm' hs'
          subst hi
          have d1 := dtF_r (x := (a : Int)) t (fun k hk => hs k (by omega))
          have g1 := hs t (by omega)
          have ed : dtF (fun k => gI H 32 0 (k : Int)) a (t + 1) = dtF (fun k => gI H 32 0 (k : Int)) a t + if bit (a : Int) t = 1 then gI H 32 0 (t : Int) else 0 := rfl
          have five : ∀ (m' : Nat) (y0 : Int), 100 * d + 132 + 3 * e ≤ m' → y0 = (if bit (a : Int) t = 1 then gI H 32 0 (t : Int) else 0) → 0 ≤ y0 → y0 ≤ 9 → ok (g_X2_ordersDecidedBy m' 5 [T, (N : Int), mn, r, (a : Int), (t : Int), y0, s] H) (fun r h' => r = GS (pf T mn N) (fun _ => 1) (fun k => gI H 32 0 (k : Int)) N 0 0 ∧ Fr (fun r _ _ => r = 32) h0 h' ∧ 0 ≤ r ∧ r ≤ 40320 * 256) := by
            intro m' y0 y1 y2 y3 y4
            refine s_X2_ordersDecidedBy_5 (by omega) ?_
            unfold b_X2_ordersDecidedBy_5
            exact ok_ck (by omega) (ok_lt (ok_ck (by omega) (ihe _ _ _ (t + 1) (by omega) (by omega) (by omega) (by omega) (by rw [ed, hs', ← y2]))))
          refine s_X2_ordersDecidedBy_4 (by omega) ?_
          unfold b_X2_ordersDecidedBy_4
          refine ok_f (by omega) (ok_f (by omega) (ok_if (fun v => ok_ck (by omega) (five _ _ (by omega) ?_ (by omega) (by omega))) (fun v => five _ _ (by omega) ?_ (by omega) (by omega))))
          · rw [if_pos (show bit (a : Int) t = 1 from v)]
          · rw [if_neg (show ¬ bit (a : Int) t = 1 from v)]
      refine s_X2_ordersDecidedBy_3 (by omega) ?_
      unfold b_X2_ordersDecidedBy_3
      rw [bs]
      exact ok_f (by omega) (four N _ _ _ 0 (by omega) (by omega) (by omega) (by omega) rfl)
  have k1 : ∀ (d n : Nat) (H : Hp) (a b x : Int) (k : Nat), (sz C).toNat - k = d → (k : Int) ≤ sz C → x = (k : Int) → 3 * d + 100000 ≤ n → Fr (fun r _ _ => r = 32) h0 H → a = toF C V k → b = (cO C V o k : Int) → (∀ i : Nat, i < k → meI C V o i = 1 → gI H 32 0 (cO C V o i : Int) = poF C V (-1) i) → (∀ j : Nat, j < cO C V o k → 0 ≤ gI H 32 0 (j : Int) ∧ gI H 32 0 (j : Int) ≤ 9) → ok (g_X2_ordersDecidedBy n 1 [0, o, a, b, mn, x] H) (fun r h' => r = GS (pf T mn N) (meI C V o) (fun i => poF C V (-1) i) (sz C).toNat 0 0 ∧ Fr (fun r _ _ => r = 32) h0 h' ∧ 0 ≤ r ∧ r ≤ 40320 * 256) := by
    intro d
    induction d with
    | zero =>
      intro n H a b x k hd hk hx hn hF ha hb hs hs2
      subst hx
      have ek : k = (sz C).toNat := by omega
      subst ek
      rw [hT] at ha
      rw [hNN] at hb hs2
      have hx1 : CX H c C := CX_fr hF (fun r i k z => by unfold inC at z; omega) hx0
      refine s_X2_ordersDecidedBy_1 (by omega) ?_
      unfold b_X2_ordersDecidedBy_1
      rw [ha, hb]
      refine ok_rf (j := c) hx1.1 (ok_be (p_X0_size hx1.2.1 w) (ok_t (by omega) (ok_mono (k3 _ _ H 0 0 0 rfl (Nat.zero_le _) (by omega) (by have := p2; omega) hF hs2 rfl) ?_)))
      intro r h' ⟨z1, z2, z3, z4⟩
      refine ⟨?_, z2, z3, z4⟩
      rw [z1, GS_sh (sh := fun k => gI H 32 0 (k : Int)) (sz C).toNat 0 0 hs, hNN]
    | succ d ih =>
      intro n H a b x k hd hk hx hn hF ha hb hs hs2
      subst hx
      have hx1 : CX H c C := CX_fr hF (fun r i k z => by unfold inC at z; omega) hx0
      have hv1 : isV C H 0 V := isV_fr hF (fun k => by omega) hv0
      have t1 : gI H 2 0 1 = -1 := (hF.1 2 0 1 (by omega)).trans t0
      have tk := toF_r (V := V) w k (by omega)
      have ck := cO_r (C := C) (V := V) (o := o) k
      have pk := poF_r (V := V) (tw := -1) (i := (k : Int)) w (by omega) (by omega)
      have et : toF C V (k + 1) = toF C V k + if abP C V (-1) (-1) k then poF C V (-1) k else 0 := rfl
      have ec : cO C V o (k + 1) = if meI C V o k = 1 then cO C V o k + 1 else cO C V o k := rfl
      have two : ∀ (m' : Nat) (H' : Hp) (a' b' : Int), 3 * d + 100002 ≤ m' → Fr (fun r _ _ => r = 32) h0 H' → a' = toF C V (k + 1) → b' = (cO C V o (k + 1) : Int) → (∀ i : Nat, i < k + 1 → meI C V o i = 1 → gI H' 32 0 (cO C V o i : Int) = poF C V (-1) i) → (∀ j : Nat, j < cO C V o (k + 1) → 0 ≤ gI H' 32 0 (j : Int) ∧ gI H' 32 0 (j : Int) ≤ 9) → ok (g_X2_ordersDecidedBy m' 2 [0, o, a', b', mn, (k : Int)] H') (fun r h' => r = GS (pf T mn N) (meI C V o) (fun i => poF C V (-1) i) (sz C).toNat 0 0 ∧ Fr (fun r _ _ => r = 32) h0 h' ∧ 0 ≤ r ∧ r ≤ 40320 * 256) := by
        intro m' H' a' b' y1 y2 y3 y4 y5 y6
        refine s_X2_ordersDecidedBy_2 (by omega) ?_
        unfold b_X2_ordersDecidedBy_2
        exact ok_ck (by omega) (ih _ _ _ _ _ (k + 1) (by omega) (by omega) (by omega) (by omega) y2 y3 y4 y5 y6)
      have same : ¬ meI C V o k = 1 → ∀ (m' : Nat) (a' : Int), 3 * d + 100002 ≤ m' → a' = toF C V (k + 1) → ok (g_X2_ordersDecidedBy m' 2 [0, o, a', b, mn, (k : Int)] H) (fun r h' => r = GS (pf T mn N) (meI C V o) (fun i => poF C V (-1) i) (sz C).toNat 0 0 ∧ Fr (fun r _ _ => r = 32) h0 h' ∧ 0 ≤ r ∧ r ≤ 40320 * 256) := by
        intro nm m' a' y1 y2
        refine two _ _ _ _ y1 hF y2 (by rw [ec, if_neg nm]; exact hb) (fun i hi hm' => ?_) (by rw [ec, if_neg nm]; exact hs2)
        by_cases e : i = k
        · rw [e] at hm'; exact absurd hm' nm
        · exact hs i (by omega) hm'
      refine s_X2_ordersDecidedBy_1 (by omega) ?_
      unfold b_X2_ordersDecidedBy_1
      refine ok_rf (j := c) hx1.1 (ok_be (p_X0_size hx1.2.1 w) (ok_f (by omega) (ok_be (p_X2_isAboard (ta := -1) hx1 hv1 t1 (fun u => by omega) (by omega) (by omega)) (ok_if (fun v => same ?_ _ _ (by omega) ?_) (fun v => ok_be (p_X2_portion hx1 hv1 (by omega) (by omega)) ?_)))))
      · unfold meI; rw [if_neg (fun z => b2i_0.mp v z.1)]; decide
      · rw [et, if_neg (b2i_0.mp v), ha]; omega
      · replace v := b2i_n.mp v
        rw [t1]
        refine ok_ck (by omega) (ok_lt (ok_if (fun v2 => same ?_ _ _ (by omega) ?_) (fun v2 => ok_f (by omega) (ok_be (p_X2_portion hx1 hv1 (by omega) (by omega)) ?_))))
        · unfold meI; rw [if_neg (fun z => z.2 v2)]; decide
        · rw [et, if_pos v, ha]
        · rw [t1]
          have me : meI C V o k = 1 := by unfold meI; rw [if_pos ⟨v, v2⟩]
          refine ok_ck (by omega) (ok_lt (ok_ck (by omega) (two _ _ _ _ (by omega) (fr_sI hF rfl) (by rw [et, if_pos v, ha]) (by rw [ec, if_pos me, hb]; omega) (fun i hi hm' => ?_) (fun j hj => ?_))))
          · by_cases e : i = k
            · rw [e, hb, gI_eq]
            · have li : cO C V o i < cO C V o k := cO_lt hm' (by omega)
              rw [gI_nk (by omega)]
              exact hs i (by omega) hm'
          · rw [ec, if_pos me] at hj
            by_cases e : j = cO C V o k
            · rw [e, hb, gI_eq]; exact pk
            · rw [gI_nk (by omega)]; exact hs2 j (by omega)
  refine fuv_X2_ordersDecidedBy (fun n hn => ?_)
  refine s_X2_ordersDecidedBy_0 (by omega) ?_
  unfold b_X2_ordersDecidedBy_0
  refine ok_be (p_X2_portion hx0 hv0 o1 o2) ?_
  rw [t0, hm]
  exact k1 _ _ _ _ _ _ 0 rfl (by omega) (by omega) (by omega) fr_rf rfl rfl (fun i hi => by omega) (fun j hj => by have : j < 0 := hj; omega)
end
