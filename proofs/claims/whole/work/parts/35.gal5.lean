/-! THE CLASS'S GALLEY, 4: a meal -/
theorem band31 (y : Int) : band y 2147483647 = y % 2147483648 := by
  unfold band
  show (BitVec.ofInt 32 y &&& BitVec.ofInt 32 2147483647).toInt = _
  have e : (BitVec.ofInt 32 y &&& BitVec.ofInt 32 2147483647).toNat = (y % 4294967296).toNat % 2147483648 := by
    rw [BitVec.toNat_and, BitVec.toNat_ofInt, show (BitVec.ofInt 32 2147483647).toNat = 2 ^ 31 - 1 by decide, Nat.and_two_pow_sub_one_eq_mod]
    rfl
  rw [BitVec.toInt_eq_toNat_of_lt (by rw [e]; omega), e]
  omega
theorem bandL31 (y : Int) : bandL y 2147483647 = y % 2147483648 := by
  unfold bandL
  show (BitVec.ofInt 64 y &&& BitVec.ofInt 64 2147483647).toInt = _
  have e : (BitVec.ofInt 64 y &&& BitVec.ofInt 64 2147483647).toNat = (y % 18446744073709551616).toNat % 2147483648 := by
    rw [BitVec.toNat_and, BitVec.toNat_ofInt, show (BitVec.ofInt 64 2147483647).toNat = 2 ^ 31 - 1 by decide, Nat.and_two_pow_sub_one_eq_mod]
    rfl
  rw [BitVec.toInt_eq_toNat_of_lt (by rw [e]; omega), e]
  omega
theorem w32_m (z : Int) : w32 z % 2147483648 = z % 2147483648 := by
  have e : w32 z % 4294967296 = z % 4294967296 := by
    unfold w32
    rw [Int32.toInt_ofInt]
    exact Int.bmod_emod ..
  omega
theorem bshr_d {x : Int} (h : -2147483648 ≤ x ∧ x < 2147483648) (n : Nat) (hn : n < 32) : bshr x n = x / ((2 ^ n : Nat) : Int) := by
  unfold bshr
  rw [ofI_n, pk_shr _ _ n (s_l n hn), i3_of h, Int.shiftRight_eq_div_pow]
def lcg (x : Int) : Int := (x * 1103515245 + 12345) % 2147483648
theorem lcg_r (x : Int) : 0 ≤ lcg x ∧ lcg x < 2147483648 := by unfold lcg; omega
abbrev sOn (C : Ch) (tw : Int) (st : Bool) : Prop := 0 < C 16 0 ∧ ¬ tw = 2 ∧ st = false
def stF (C V : Ch) (tw : Int) (st : Bool) : Int := if sOn C tw st ∧ lcg (V 3 0) / 65536 % 100 < C 16 0 then lcg (lcg (V 3 0)) / 65536 % 4 else -1
def rnF (C V : Ch) (tw : Int) (st : Bool) : Int := if sOn C tw st then (if lcg (V 3 0) / 65536 % 100 < C 16 0 then lcg (lcg (V 3 0)) else lcg (V 3 0)) else V 3 0
def vS (C V : Ch) (tw ta : Int) (F : Int → Int) (st : Bool) (c : Int) : Int := vt C V tw ta F c + (if stF C V tw st = c then C 17 0 else 0)
def wnS (w : Int) (f : Int → Int) : Nat → Int × Int
  | 0 => (w, 0)
  | n + 1 => if (wnS w f n).2 < f n then ((n : Int), f n) else wnS w f n
def wnr (C V : Ch) (tw ta : Int) (F : Int → Int) (st : Bool) : Int := (wnS (wnF C (V 0 0)) (vS C V tw ta F st) 4).1
def ctF (C V : Ch) (k : Int) : Int := if wtC C (stC C (V 1 0) k) then stC C (V 1 0) k else V 1 0
def loF (C V : Ch) (tw ta : Int) (F : Int → Int) (k i : Int) : Int := if wi C V tw ta F i = -1 then V 8 i else if wi C V tw ta F i = k then 0 else V 8 i + 1
def leF (C V : Ch) (tw ta : Int) (F : Int → Int) (k i : Int) : Int := if ¬ wi C V tw ta F i = -1 ∧ C 29 i ≤ loF C V tw ta F k i ∧ ¬ tw = 5 then 1 else V 6 i
def eaF (C V : Ch) (tw ta : Int) (F : Int → Int) : Int := (srv C V tw ta F (sz C).toNat).2
/-- the voyage behind a meal at which the COURSE k is TAKEN -/
def slV (C V : Ch) (tw ta : Int) (F : Int → Int) (k rn : Int) : Ch := fun f i => match f with
  | 0 => V 0 0 + 1
  | 1 => ctF C V k
  | 2 => if tw = 4 then V 2 0 else V 2 0 - eaF C V tw ta F
  | 3 => rn
  | 4 => V 4 i
  | 5 => V 5 0
  | 6 => leF C V tw ta F k i
  | 7 => if V 7 0 = -1 ∧ ctF C V k = C 4 0 then V 0 0 + 1 else V 7 0
  | _ => loF C V tw ta F k i
/-- a whole meal -/
def hdV (C V : Ch) (tw ta : Int) (F : Int → Int) (st : Bool) : Ch := slV C V tw ta F (wnr C V tw ta F st) (rnF C V tw st)
section
variable {h : Hp} {c v i x k p tw ta : Int} {C V : Ch} {F N : Int → Int} {st : Bool}
theorem wnF_r (w : CW C) (i1 : 0 ≤ i) : 0 ≤ wnF C i ∧ wnF C i < 4 := by
  have a := cw_N w
  unfold wnF
  split
  · omega
  · exact cw_n w _ (Int.emod_nonneg _ (by omega)) (Int.emod_lt_of_pos _ (by omega))
theorem wnS_r {w : Int} {f : Int → Int} (h : 0 ≤ w ∧ w < 4) : ∀ n : Nat, n ≤ 4 → 0 ≤ (wnS w f n).1 ∧ (wnS w f n).1 < 4
  | 0, _ => h
  | n + 1, q => by
    have := wnS_r (f := f) h n (by omega)
    unfold wnS
    split
    · show 0 ≤ (n : Int) ∧ (n : Int) < 4; omega
    · exact this
theorem wnr_r (w : CW C) (vw : VW C V) : 0 ≤ wnr C V tw ta F st ∧ wnr C V tw ta F st < 4 := wnS_r (wnF_r w (by have := vw_m vw; omega)) 4 (by omega)
theorem stF_r : -1 ≤ stF C V tw st ∧ stF C V tw st < 4 := by unfold stF; split <;> omega
theorem wi_r : -1 ≤ wi C V tw ta F i ∧ wi C V tw ta F i < 4 := by
  unfold wi
  split
  · exact wsF_r
  · omega
theorem eaF_r (w : CW C) (vw : VW C V) : 0 ≤ eaF C V tw ta F ∧ eaF C V tw ta F ≤ 81 := by
  have z := sz_r w
  have := srv_r (tw := tw) (ta := ta) (F := F) w vw (sz C).toNat (by omega)
  unfold eaF; omega
theorem ctF_r (w : CW C) (vw : VW C V) : cellP (C 0 0) (C 1 0) (ctF C V k) := by
  unfold ctF
  split
  · rename_i y; exact y.1
  · exact vw_c vw
theorem loF_r (w : CW C) (vw : VW C V) (i1 : 0 ≤ i) (i2 : i < sz C) : 0 ≤ loF C V tw ta F k i ∧ loF C V tw ta F k i ≤ V 0 0 + 1 := by
  have := vw_o vw i i1 i2
  have := vw_m vw
  unfold loF
  split
  · omega
  · split <;> omega
theorem slV_w (w : CW C) (vw : VW C V) (hm : V 0 0 < 60) (rn : Int) : VW C (slV C V tw ta F k rn) := by
  have a := vw_m vw
  have e := eaF_r (tw := tw) (ta := ta) (F := F) w vw
  have b := vw_s vw
  have z := sz_r w
  refine ⟨⟨?_, ?_⟩, ctF_r w vw, ?_, vw_y (C := C) (V := V) vw, fun i i1 i2 => ?_, ?_, fun i i1 i2 => loF_r w vw i1 i2⟩
  · show 0 ≤ V 0 0 + 1; omega
  · show V 0 0 + 1 ≤ 60; omega
  · show 0 ≤ (if tw = 4 then V 2 0 else V 2 0 - eaF C V tw ta F) ∧ (if tw = 4 then V 2 0 else V 2 0 - eaF C V tw ta F) ≤ 9999
    split
    · exact b
    · rename_i y
      have := srv_e (ta := ta) (F := F) w vw (sz C).toNat (by omega) y
      have := srv_r (tw := tw) (ta := ta) (F := F) w vw (sz C).toNat (by omega)
      unfold eaF; omega
  · show leF C V tw ta F k i = 0 ∨ leF C V tw ta F k i = 1
    have := vw_l vw i i1 i2
    unfold leF
    split
    · omega
    · exact this
  · show -1 ≤ (if V 7 0 = -1 ∧ ctF C V k = C 4 0 then V 0 0 + 1 else V 7 0) ∧ (if V 7 0 = -1 ∧ ctF C V k = C 4 0 then V 0 0 + 1 else V 7 0) ≤ 60
    have := vw_a vw
    split <;> omega
theorem p_X10_draw (h1 : 0 ≤ gI h 10 v 3) (h2 : gI h 10 v 3 < 2147483648) : f_X10_draw v h = some (lcg (gI h 10 v 3) / 65536, sI h 10 v 3 (lcg (gI h 10 v 3))) := by
  refine ok_eq.mp ?_
  refine fuv_X10_draw (fun nFU hFU => ?_)
  refine s_X10_draw_0 (by first | omega | decide) ?_
  unfold b_X10_draw_0
  have e : bandL (gI h 10 v 3 * 1103515245 + 12345) 2147483647 = lcg (gI h 10 v 3) := bandL31 _
  have r := lcg_r (gI h 10 v 3)
  rw [e]
  refine ok_ck (by omega) (ok_ck (by omega) (ok_lt ?_))
  rw [gI_eq, Int.tdiv_eq_ediv_of_nonneg r.1]
  refine ok_ck (by omega) (ok_ck (by omega) (ok_some ⟨rfl, rfl⟩))
def BlW (v : Int) : Nat → Int → Int → Prop := fun r i k => (r = 2 ∧ k = 8) ∨ r = 31 ∨ (r = 10 ∧ i = v ∧ k = 3)
theorem blw_C : ∀ (r : Nat) (i k : Int), inC r k → ¬ BlW v r i k := by intro r i k; unfold inC BlW; omega
set_option maxHeartbeats 8000000 in
theorem p_X2_blow {h0 : Hp} (hx : CX h0 c C) (hr : gI h0 10 v 3 = V 3 0) (r1 : 0 ≤ V 3 0) (r2 : V 3 0 < 2147483648) (vw : VW C V) (hvt : ∀ c, 0 ≤ c → c < 4 → gI h0 31 0 c = vt C V (gI h0 2 0 1) ta F c) : ok (f_X2_blow v h0) (fun _ h' => Fr (BlW v) h0 h' ∧ gI h' 2 0 8 = stF C V (gI h0 2 0 1) false ∧ gI h' 10 v 3 = rnF C V (gI h0 2 0 1) false ∧ ∀ c, 0 ≤ c → c < 4 → gI h' 31 0 c = vS C V (gI h0 2 0 1) ta F false c) := by
  have w := hx.2.2
  have t := cw_T w
  have e16 := ic_16 hx.2.1
  have e17 := ic_17 hx.2.1
  refine fuv_X2_blow (fun nFU hFU => ?_)
  refine s_X2_blow_0 (by first | omega | decide) ?_
  unfold b_X2_blow_0
  refine ok_lt (ok_rf (j := c) hx.1 (ok_lt ?_))
  simp only [gI_nr (show (0 : Nat) ≠ 2 by decide), gI_nk (show (1 : Int) ≠ 8 by decide), e16]
  have off : ¬ sOn C (gI h0 2 0 1) false → Fr (BlW v) h0 (sI h0 2 0 8 (-1)) ∧ gI (sI h0 2 0 8 (-1)) 2 0 8 = stF C V (gI h0 2 0 1) false ∧ gI (sI h0 2 0 8 (-1)) 10 v 3 = rnF C V (gI h0 2 0 1) false ∧ ∀ c, 0 ≤ c → c < 4 → gI (sI h0 2 0 8 (-1)) 31 0 c = vS C V (gI h0 2 0 1) ta F false c := by
    intro no
    have es : stF C V (gI h0 2 0 1) false = -1 := by unfold stF; rw [if_neg (fun q => no q.1)]
    refine ⟨fr_sI fr_rf (by unfold BlW; omega), by rw [gI_eq, es], by rw [gI_nr (by first | omega | decide), hr]; unfold rnF; rw [if_neg no], fun c c1 c2 => ?_⟩
    rw [gI_nr (by first | omega | decide), hvt c c1 c2]
    unfold vS
    rw [es, if_neg (by omega)]; omega
  refine ok_if (fun y => ok_some (off (fun q => by have := q.1; omega))) (fun y => ok_if (fun y2 => ok_some (off (fun q => q.2.1 y2))) (fun y2 => ?_))
  have on : sOn C (gI h0 2 0 1) false := ⟨by omega, y2, rfl⟩
  have f3 : gI (sI h0 2 0 8 (-1)) 10 v 3 = V 3 0 := by rw [gI_nr (by first | omega | decide), hr]
  have g1 := lcg_r (V 3 0)
  have g2 := lcg_r (lcg (V 3 0))
  refine ok_be (p_X10_draw (by rw [f3]; exact r1) (by rw [f3]; exact r2)) (ok_ck (by rw [f3]; omega) ?_)
  rw [f3]
  refine ok_if (fun y3 => ok_some ?_) (fun y3 => ?_)
  · have es : stF C V (gI h0 2 0 1) false = -1 := by unfold stF; rw [if_neg (fun q => by have := q.2; omega)]
    refine ⟨fr_sI (fr_sI fr_rf (by unfold BlW; omega)) (by unfold BlW; omega), by rw [gI_nr (by first | omega | decide), gI_eq, es], by rw [gI_eq]; unfold rnF; rw [if_pos on, if_neg (by omega)], fun c c1 c2 => ?_⟩
    rw [gI_nr (by first | omega | decide), gI_nr (by first | omega | decide), hvt c c1 c2]
    unfold vS
    rw [es, if_neg (by omega)]; omega
  · have y3 : lcg (V 3 0) / 65536 % 100 < C 16 0 := by omega
    have es : stF C V (gI h0 2 0 1) false = lcg (lcg (V 3 0)) / 65536 % 4 := by unfold stF; rw [if_pos ⟨on, y3⟩]
    refine ok_be (p_X10_draw (by rw [gI_eq]; exact g1.1) (by rw [gI_eq]; exact g1.2)) (ok_ck (by rw [gI_eq]; omega) (ok_lt (ok_rf (j := c) hx.1 ?_)))
    rw [gI_eq, gI_eq]
    simp only [gI_nr (show (0 : Nat) ≠ 2 by decide), gI_nr (show (0 : Nat) ≠ 10 by decide), e17]
    rw [← es]
    have sr := stF_r (C := C) (V := V) (tw := gI h0 2 0 1) (st := false)
    have hv2 : ∀ c, 0 ≤ c → c < 4 → gI (sI (sI (sI (sI h0 2 0 8 (-1)) 10 v 3 (lcg (V 3 0))) 10 v 3 (lcg (lcg (V 3 0)))) 2 0 8 (stF C V (gI h0 2 0 1) false)) 31 0 c = vt C V (gI h0 2 0 1) ta F c := fun c c1 c2 => by
      rw [gI_nr (by first | omega | decide), gI_nr (by first | omega | decide), gI_nr (by first | omega | decide), gI_nr (by first | omega | decide)]; exact hvt c c1 c2
    refine ok_be (p_X2_give (fun c1 c2 => ?_)) (ok_some ⟨gv_fr ?_ (fun k => by unfold BlW; omega), ?_, ?_, gv hv2 (fun c c1 c2 => ?_)⟩)
    · rw [hv2 _ c1 c2]
      have := vt_r (c := stF C V (gI h0 2 0 1) false) (tw := gI h0 2 0 1) (ta := ta) (F := F) w vw
      omega
    · repeat (first | exact fr_rf | refine fr_sI ?_ (by unfold BlW; omega))
    · rw [gv_nr (by first | omega | decide), gI_eq]
    · rw [gv_nr (by first | omega | decide), gI_nr (by first | omega | decide), gI_eq]
      unfold rnF
      rw [if_pos on, if_pos y3]
    · unfold vS
      rfl
theorem p_X2_winner {f : Int → Int} (hx : CX h c C) (hv : isV C h v V) (vw : VW C V) (hvt : ∀ c, 0 ≤ c → c < 4 → gI h 31 0 c = f c) : f_X2_winner v h = some ((wnS (wnF C (V 0 0)) f 4).1, h) := by
  have w := hx.2.2
  have vm := vw_m vw
  have key : ∀ (t n : Nat) (b m x : Int) (a : Nat), 4 - a = t → a ≤ 4 → x = (a : Int) → 3 * t + 3 ≤ n → b = (wnS (wnF C (V 0 0)) f a).1 → m = (wnS (wnF C (V 0 0)) f a).2 → ok (g_X2_winner n 1 [b, m, x] h) (fun r h' => r = (wnS (wnF C (V 0 0)) f 4).1 ∧ h' = h) := by
    intro t
    induction t with
    | zero =>
      intro n b m x a ht ha hx' hn hb hm
      have e : a = 4 := by omega
      subst e
      refine s_X2_winner_1 (by omega) ?_
      unfold b_X2_winner_1
      exact ok_t (by omega) (ok_some ⟨hb, rfl⟩)
    | succ t ih =>
      intro n b m x a ht ha hx' hn hb hm
      subst hx'
      have e1 : wnS (wnF C (V 0 0)) f (a + 1) = if (wnS (wnF C (V 0 0)) f a).2 < f a then ((a : Int), f a) else wnS (wnF C (V 0 0)) f a := rfl
      have next : ∀ (m' : Nat) (b' l' : Int), 3 * t + 4 ≤ m' → b' = (wnS (wnF C (V 0 0)) f (a + 1)).1 → l' = (wnS (wnF C (V 0 0)) f (a + 1)).2 → ok (g_X2_winner m' 2 [b', l', (a : Int)] h) (fun r h' => r = (wnS (wnF C (V 0 0)) f 4).1 ∧ h' = h) := by
        intro m' b' l' q1 q2 q3
        refine s_X2_winner_2 (by omega) ?_
        unfold b_X2_winner_2
        exact ok_ck (by omega) (ih _ _ _ _ (a + 1) (by omega) (by omega) (by omega) (by omega) q2 q3)
      refine s_X2_winner_1 (by omega) ?_
      unfold b_X2_winner_1
      refine ok_f (by omega) (ok_ck (by omega) ?_)
      rw [hvt a (by omega) (by omega)]
      refine ok_if (fun y => ?_) (fun y => ok_ck (by omega) (ok_lt ?_))
      · exact next _ _ _ (by omega) (by rw [e1, if_neg (by omega)]; exact hb) (by rw [e1, if_neg (by omega)]; exact hm)
      · exact next _ _ _ (by omega) (by rw [e1, if_pos (by omega)]) (by rw [e1, if_pos (by omega)])
  refine ok_eq.mp ?_
  refine fuv_X2_winner (fun nFU hFU => ?_)
  refine s_X2_winner_0 (by first | omega | decide) ?_
  unfold b_X2_winner_0
  have e0 := iv_0 hv
  refine ok_rf (j := c) hx.1 (ok_be (p_X0_windAt hx.2.1 w (by omega)) ?_)
  rw [e0]
  exact key 4 _ _ _ _ 0 (by omega) (by omega) (by omega) (by omega) rfl rfl
theorem p_X2_comesTo (hx : CX h c C) (hv : isV C h v V) : f_X2_comesTo v k h = some (ctF C V k, h) := by
  have w := hx.2.2
  refine ok_eq.mp ?_
  refine fuv_X2_comesTo (fun nFU hFU => ?_)
  refine s_X2_comesTo_0 (by first | omega | decide) ?_
  unfold b_X2_comesTo_0
  have e1 := iv_1 hv
  rw [e1]
  refine ok_rf (j := c) hx.1 (ok_be (p9_step hx.2.1 w) (ok_rf (j := c) hx.1 (ok_be (p9_isWater hx.2.1 w) (ok_if (fun y => ok_some ⟨?_, rfl⟩) (fun y => ok_some ⟨?_, rfl⟩)))))
  · unfold ctF; rw [if_neg (b2i_0.mp y)]; exact e1
  · unfold ctF; rw [if_pos (b2i_n.mp y)]
def VyW (v : Int) : Nat → Int → Int → Prop := fun r i k => i = v ∧ ((r = 10 ∧ k ≠ 3 ∧ k ≠ 4 ∧ k ≠ 5) ∨ r = 57)
theorem vyw_C : ∀ (r : Nat) (i k : Int), inC r k → ¬ VyW v r i k := by intro r i k; unfold inC VyW; omega
set_option maxHeartbeats 8000000 in
theorem p_X2_sail {h0 : Hp} (hx0 : CX h0 c C) (hv0 : isV C h0 v V) (vw : VW C V) (hm : V 0 0 < 60) (htw : gI h0 2 0 1 = tw) (hwi : ∀ i, 0 ≤ i → i < sz C → gI h0 30 0 i = wi C V tw ta F i) (he : gI h0 2 0 7 = eaF C V tw ta F) (rn : Int) : ok (f_X2_sail v k h0) (fun _ h' => Fr (VyW v) h0 h' ∧ isV C h' v (slV C V tw ta F k rn)) := by
  have w := hx0.2.2
  have ez := sz_r w
  have vm := vw_m vw
  have vs := vw_s vw
  have er := eaF_r (tw := tw) (ta := ta) (F := F) w vw
  have key : ∀ (t n : Nat) (h : Hp) (x : Int) (a : Nat), (sz C).toNat - a = t → (a : Int) ≤ sz C → x = (a : Int) → 3 * t + 9 ≤ n → Fr (VyW v) h0 h → gI h 10 v 0 = V 0 0 → gI h 10 v 1 = ctF C V k → gI h 10 v 2 = (if tw = 4 then V 2 0 else V 2 0 - eaF C V tw ta F) → gI h 10 v 7 = V 7 0 → (∀ i, 0 ≤ i → i < (a : Int) → gI h 57 v i = loF C V tw ta F k i ∧ bit (gI h 10 v 6) i = leF C V tw ta F k i) → (∀ i, (a : Int) ≤ i → i < sz C → gI h 57 v i = V 8 i ∧ bit (gI h 10 v 6) i = V 6 i) → ok (g_X2_sail n 2 [v, k, x] h) (fun _ h' => Fr (VyW v) h0 h' ∧ isV C h' v (slV C V tw ta F k rn)) := by
    intro t
    induction t with
    | zero =>
      intro n h x a ht ha hxa hn hF f0 f1 f2 f7 g1 g2
      subst hxa
      have hx : CX h c C := CX_fr hF vyw_C hx0
      have ea : (a : Int) = sz C := by omega
      rw [ea] at g1
      have f5 : gI h 10 v 5 = V 5 0 := (hF.1 10 v 5 (by unfold VyW; omega)).trans (iv_5 hv0)
      have e4 := ic_4 hx.2.1
      refine s_X2_sail_2 (by omega) ?_
      unfold b_X2_sail_2
      refine ok_rf (j := c) hx.1 (ok_be (p_X0_size hx.2.1 w) (ok_t (by omega) (ok_ck (by omega) (ok_lt ?_))))
      rw [gI_eq]
      simp only [gI_nk (show (7 : Int) ≠ 0 by decide), gI_nk (show (1 : Int) ≠ 0 by decide), gI_nr (show (9 : Nat) ≠ 10 by decide)]
      have fr1 : Fr (VyW v) h0 (sI h 10 v 0 (gI h 10 v 0 + 1)) := fr_sI hF (by unfold VyW; omega)
      have fin : ∀ (H : Hp), Fr (VyW v) h0 H → gI H 10 v 0 = V 0 0 + 1 → gI H 10 v 1 = ctF C V k → gI H 10 v 2 = (if tw = 4 then V 2 0 else V 2 0 - eaF C V tw ta F) → gI H 10 v 5 = V 5 0 → (∀ i, 0 ≤ i → i < sz C → gI H 57 v i = loF C V tw ta F k i ∧ bit (gI H 10 v 6) i = leF C V tw ta F k i) → gI H 10 v 7 = (if V 7 0 = -1 ∧ ctF C V k = C 4 0 then V 0 0 + 1 else V 7 0) → Fr (VyW v) h0 H ∧ isV C H v (slV C V tw ta F k rn) := fun H y0 y1 y2 y3 y5 y6 y7 => ⟨y0, y1, y2, y3, y5, fun i i1 i2 => (y6 i i1 i2).2, y7, fun i i1 i2 => (y6 i i1 i2).1⟩
      have base : ∀ z : Int, gI (sI h 10 v 0 z) 10 v 1 = ctF C V k ∧ gI (sI h 10 v 0 z) 10 v 2 = (if tw = 4 then V 2 0 else V 2 0 - eaF C V tw ta F) ∧ gI (sI h 10 v 0 z) 10 v 5 = V 5 0 ∧ (∀ i, 0 ≤ i → i < sz C → gI (sI h 10 v 0 z) 57 v i = loF C V tw ta F k i ∧ bit (gI (sI h 10 v 0 z) 10 v 6) i = leF C V tw ta F k i) ∧ gI (sI h 10 v 0 z) 10 v 7 = V 7 0 := by
        intro z
        rw [gI_nk (by decide), gI_nk (by decide), gI_nk (by decide), gI_nk (by decide), gI_nk (by decide)]
        exact ⟨f1, f2, f5, fun i i1 i2 => by rw [gI_nr (by decide)]; exact g1 i i1 i2, f7⟩
      obtain ⟨b1, b2, b5, b6, b7⟩ := base (gI h 10 v 0 + 1)
      refine ok_if (fun y => ok_rf (j := c) hx.1 (ok_if (fun y2 => ok_lt (ok_some ?_)) (fun y2 => ok_some ?_))) (fun y => ok_some ?_)
      · refine fin _ (fr_sI fr1 (by unfold VyW; omega)) ?_ ?_ ?_ ?_ (fun i i1 i2 => ?_) ?_
        · rw [gI_nk (by decide), gI_eq, f0]
        · rw [gI_nk (by decide)]; exact b1
        · rw [gI_nk (by decide)]; exact b2
        · rw [gI_nk (by decide)]; exact b5
        · rw [gI_nk (show (6 : Int) ≠ 7 by decide), gI_nr (by decide)]; exact b6 i i1 i2
        · rw [gI_eq, f0, if_pos ⟨by rw [← f7]; exact y, by rw [← f1, ← e4]; exact y2⟩]
      · refine fin _ fr1 (by rw [gI_eq, f0]) b1 b2 b5 b6 ?_
        rw [b7, if_neg (fun q => y2 (by rw [f1, e4]; exact q.2))]
      · refine fin _ fr1 (by rw [gI_eq, f0]) b1 b2 b5 b6 ?_
        rw [b7, if_neg (fun q => y (by rw [f7]; exact q.1))]
    | succ t ih =>
      intro n h x a ht ha hxa hn hF f0 f1 f2 f7 g1 g2
      subst hxa
      have hx : CX h c C := CX_fr hF vyw_C hx0
      have hw : gI h 30 0 a = wi C V tw ta F a := (hF.1 30 0 a (by unfold VyW; omega)).trans (hwi a (by omega) (by omega))
      obtain ⟨m, hmm, -, -, -, -, -, -, -, n7, -, -⟩ := ic_22 hx.2.1 a (by omega) (by omega)
      obtain ⟨l1, l2⟩ := g2 a (by omega) (by omega)
      have lr := vw_o vw a (by omega) (by omega)
      have next : ∀ (m' : Nat) (h' : Hp), 3 * t + 10 ≤ m' → Fr (VyW v) h0 h' → gI h' 10 v 0 = V 0 0 → gI h' 10 v 1 = ctF C V k → gI h' 10 v 2 = (if tw = 4 then V 2 0 else V 2 0 - eaF C V tw ta F) → gI h' 10 v 7 = V 7 0 → (gI h' 57 v a = loF C V tw ta F k a ∧ bit (gI h' 10 v 6) a = leF C V tw ta F k a) → (∀ i, 0 ≤ i → i < sz C → i ≠ (a : Int) → gI h' 57 v i = gI h 57 v i ∧ bit (gI h' 10 v 6) i = bit (gI h 10 v 6) i) → ok (g_X2_sail m' 4 [v, k, (a : Int)] h') (fun _ h' => Fr (VyW v) h0 h' ∧ isV C h' v (slV C V tw ta F k rn)) := by
        intro m' h' q0 q1 q2 q3 q4 q5 q6 q7
        refine s_X2_sail_4 (by omega) ?_
        unfold b_X2_sail_4
        refine ok_ck (by omega) (ih _ _ _ (a + 1) (by omega) (by omega) (by omega) (by omega) q1 q2 q3 q4 q5 (fun i i1 i2 => ?_) (fun i i1 i2 => ?_))
        · by_cases y : i = a
          · rw [y]; exact q6
          · obtain ⟨z1, z2⟩ := q7 i i1 (by omega) y
            rw [z1, z2]; exact g1 i i1 (by omega)
        · obtain ⟨z1, z2⟩ := q7 i (by omega) i2 (by omega)
          rw [z1, z2]; exact g2 i (by omega) i2
      have go3 : ∀ (m' : Nat) (y : Int), 3 * t + 11 ≤ m' → ¬ wi C V tw ta F a = -1 → y = loF C V tw ta F k a → ok (g_X2_sail m' 3 [v, k, (a : Int), y, (a : Int), v] h) (fun _ h' => Fr (VyW v) h0 h' ∧ isV C h' v (slV C V tw ta F k rn)) := by
        intro m' y q1 q2 q3
        refine s_X2_sail_3 (by omega) ?_
        unfold b_X2_sail_3
        have fr1 : Fr (VyW v) h0 (sI h 57 v a y) := fr_sI hF (by unfold VyW; omega)
        have t1 : gI (sI h 57 v a y) 2 0 1 = tw := by rw [gI_nr (by decide)]; exact (hF.1 2 0 1 (by unfold VyW; omega)).trans htw
        have m7 : gI (sI h 57 v a y) 4 m 7 = C 29 a := by rw [gI_nr (by decide)]; exact n7
        refine ok_ck (by omega) (ok_lt (ok_ck (by omega) (ok_rf (j := c) hx.1 (ok_ck (by omega) (ok_rf (j := m) hmm ?_)))))
        rw [gI_eq, t1, m7]
        have keep : ∀ i, 0 ≤ i → i < sz C → i ≠ (a : Int) → gI (sI h 57 v a y) 57 v i = gI h 57 v i ∧ bit (gI (sI h 57 v a y) 10 v 6) i = bit (gI h 10 v 6) i := fun i i1 i2 i3 => by rw [gI_nk i3, gI_nr (by decide)]; exact ⟨rfl, rfl⟩
        refine ok_if (fun y1 => next _ _ (by omega) fr1 (by rw [gI_nr (by decide)]; exact f0) (by rw [gI_nr (by decide)]; exact f1) (by rw [gI_nr (by decide)]; exact f2) (by rw [gI_nr (by decide)]; exact f7) ⟨by rw [gI_eq]; exact q3, ?_⟩ keep) (fun y1 => ok_if (fun y2 => next _ _ (by omega) fr1 (by rw [gI_nr (by decide)]; exact f0) (by rw [gI_nr (by decide)]; exact f1) (by rw [gI_nr (by decide)]; exact f2) (by rw [gI_nr (by decide)]; exact f7) ⟨by rw [gI_eq]; exact q3, ?_⟩ keep) (fun y2 => ok_lt (next _ _ (by omega) (fr_sI fr1 (by unfold VyW; omega)) (by rw [gI_nk (by decide), gI_nr (by decide)]; exact f0) (by rw [gI_nk (by decide), gI_nr (by decide)]; exact f1) (by rw [gI_nk (by decide), gI_nr (by decide)]; exact f2) (by rw [gI_nk (by decide), gI_nr (by decide)]; exact f7) ⟨?_, ?_⟩ (fun i i1 i2 i3 => ?_))))
        · rw [gI_nr (by decide), l2]
          unfold leF
          rw [if_neg (fun q => by have := q.2.1; omega)]
        · rw [gI_nr (by decide), l2]
          unfold leF
          rw [if_neg (fun q => q.2.2 y2)]
        · rw [gI_nr (by decide), gI_eq]; exact q3
        · rw [gI_eq, bit_or1 (by omega) (by omega) (by omega) (by omega), if_pos rfl]
          unfold leF
          rw [if_pos ⟨q2, by omega, y2⟩]
        · obtain ⟨z1, z2⟩ := keep i i1 i2 i3
          refine ⟨?_, ?_⟩
          · rw [gI_nr (by decide)]; exact z1
          · rw [gI_eq, bit_or1 (by omega) (by omega) (by omega) (by omega), if_neg i3]; exact z2
      refine s_X2_sail_2 (by omega) ?_
      unfold b_X2_sail_2
      refine ok_rf (j := c) hx.1 (ok_be (p_X0_size hx.2.1 w) (ok_f (by omega) (ok_ck (by omega) ?_)))
      rw [hw]
      refine ok_if (fun y => next _ _ (by omega) hF f0 f1 f2 f7 ⟨?_, ?_⟩ (fun i i1 i2 i3 => ⟨rfl, rfl⟩)) (fun y => ok_ck (by omega) (ok_if (fun y2 => go3 _ _ (by omega) y ?_) (fun y2 => ok_ck (by omega) (ok_ck (by omega) (go3 _ _ (by omega) y ?_)))))
      · rw [l1]; unfold loF; rw [if_pos y]
      · rw [l2]; unfold leF; rw [if_neg (fun q => q.1 y)]
      · unfold loF; rw [if_neg y, if_pos y2]
      · rw [l1]; unfold loF; rw [if_neg y, if_neg y2]
  refine fuv_X2_sail (fun nFU hFU => ?_)
  refine s_X2_sail_0 (by first | omega | decide) ?_
  unfold b_X2_sail_0
  refine ok_be (p_X2_comesTo hx0 hv0) (ok_lt ?_)
  simp only [gI_nr (show (2 : Nat) ≠ 10 by decide), gI_nk (show (2 : Int) ≠ 1 by decide), htw, he, iv_2 hv0]
  have fr1 : Fr (VyW v) h0 (sI h0 10 v 1 (ctF C V k)) := fr_sI fr_rf (by unfold VyW; omega)
  have go : ∀ (m' : Nat) (y : Int), 1000 ≤ m' → V 2 0 - y = (if tw = 4 then V 2 0 else V 2 0 - eaF C V tw ta F) → 0 ≤ y → y ≤ 100 → ok (g_X2_sail m' 1 [v, k, y, V 2 0, v] (sI h0 10 v 1 (ctF C V k))) (fun _ h' => Fr (VyW v) h0 h' ∧ isV C h' v (slV C V tw ta F k rn)) := by
    intro m' y q1 q2 q3 q4
    refine s_X2_sail_1 (by omega) ?_
    unfold b_X2_sail_1
    refine ok_ck (by omega) (ok_lt (key _ _ _ _ 0 rfl (by omega) (by omega) (by omega) (fr_sI fr1 (by unfold VyW; omega)) ?_ ?_ ?_ ?_ (fun i i1 i2 => by omega) (fun i i1 i2 => ?_)))
    · rw [gI_nk (by first | omega | decide), gI_nk (by first | omega | decide)]; exact iv_0 hv0
    · rw [gI_nk (by first | omega | decide), gI_eq]
    · rw [gI_eq]; exact q2
    · rw [gI_nk (by first | omega | decide), gI_nk (by first | omega | decide)]; exact iv_7 hv0
    · rw [gI_nr (by first | omega | decide), gI_nr (by first | omega | decide), gI_nk (show (6 : Int) ≠ 2 by decide), gI_nk (show (6 : Int) ≠ 1 by decide)]
      exact ⟨iv_8 hv0 i (by omega) i2, iv_6 hv0 i (by omega) i2⟩
  refine ok_if (fun y => go _ _ (by first | omega | decide) (by rw [if_pos y]; omega) (by omega) (by omega)) (fun y => go _ _ (by first | omega | decide) (by rw [if_neg y]) (by omega) (by omega))
def HoW (v : Int) : Nat → Int → Int → Prop := fun r i k => r = 27 ∨ r = 28 ∨ r = 29 ∨ r = 30 ∨ r = 31 ∨ (r = 2 ∧ (k = 7 ∨ k = 8 ∨ k = 10)) ∨ (i = v ∧ ((r = 10 ∧ k ≠ 4 ∧ k ≠ 5) ∨ r = 57))
theorem how_C : ∀ (r : Nat) (i k : Int), inC r k → ¬ HoW v r i k := by intro r i k; unfold inC HoW; omega
set_option maxHeartbeats 8000000 in
theorem p_X2_hold {h0 : Hp} {fed : Int} (hx0 : CX h0 c C) (hv0 : isV C h0 v V) (hr0 : gI h0 10 v 3 = V 3 0) (r1 : 0 ≤ V 3 0) (r2 : V 3 0 < 2147483648) (vw : VW C V) (hm : V 0 0 < 60) (hf : ∀ i, 0 ≤ i → i < C 20 0 → bit fed i = F i) (tw1 : gI h0 2 0 1 = tw) (tw2 : tw = 3 → gI h0 2 0 2 = ta) : ok (f_X2_hold v fed h0) (fun r h' => r = wnr C V tw ta F false ∧ Fr (HoW v) h0 h' ∧ isV C h' v (hdV C V tw ta F false) ∧ gI h' 10 v 3 = rnF C V tw false ∧ gI h' 2 0 7 = eaF C V tw ta F ∧ gI h' 2 0 8 = stF C V tw false ∧ gI h' 2 0 10 = -1) := by
  have w := hx0.2.2
  refine fuv_X2_hold (fun nFU hFU => ?_)
  refine s_X2_hold_0 (by first | omega | decide) ?_
  unfold b_X2_hold_0
  refine ok_lt ?_
  have F1 : Fr (HoW v) h0 (sI h0 2 0 10 (-1)) := fr_sI fr_rf (by unfold HoW; omega)
  have a1 : gI (sI h0 2 0 10 (-1)) 2 0 1 = tw := by rw [gI_nk (by first | omega | decide)]; exact tw1
  have a2 : tw = 3 → gI (sI h0 2 0 10 (-1)) 2 0 2 = ta := fun z => by rw [gI_nk (by first | omega | decide)]; exact tw2 z
  have hx1 := CX_fr F1 how_C hx0
  have hv1 : isV C (sI h0 2 0 10 (-1)) v V := isV_sI (by omega) hv0
  refine ok_bq (p_X2_serve (F := F) hx1 hv1 vw a1 a2 hf) ?_
  intro _ h3 ⟨s1, s2, s3⟩
  have F3 : Fr (HoW v) h0 h3 := fr_tr F1 (fr_mo s1 (fun r i k y => by unfold SvW at y; unfold HoW; omega))
  have hx3 := CX_fr F3 how_C hx0
  have hv3 : isV C h3 v V := isV_fr s1 (fun k => by unfold SvW; omega) hv1
  have b1 : gI h3 2 0 1 = tw := (s1.1 2 0 1 (by unfold SvW; omega)).trans a1
  have b10 : gI h3 2 0 10 = -1 := (s1.1 2 0 10 (by unfold SvW; omega)).trans gI_eq
  refine ok_bq (p_X2_poll (ta := ta) (F := F) hx3 hv3 vw (by rw [b1]; exact s2) (Or.inl b10)) ?_
  rw [b1, b10]
  intro _ h5 ⟨p1, p2, p3, p4⟩
  have F5 : Fr (HoW v) h0 h5 := fr_tr F3 (fr_mo p1 (fun r i k y => by unfold PoW at y; unfold HoW; omega))
  have hx5 := CX_fr F5 how_C hx0
  have hv5 : isV C h5 v V := isV_fr p1 (fun k => by unfold PoW; omega) hv3
  have c1 : gI h5 2 0 1 = tw := (p1.1 2 0 1 (by unfold PoW; omega)).trans b1
  have cr : gI h5 10 v 3 = V 3 0 := (p1.1 10 v 3 (by unfold PoW; omega)).trans ((s1.1 10 v 3 (by unfold SvW; omega)).trans ((gI_nr (by first | omega | decide)).trans hr0))
  refine ok_bq (p_X2_blow (ta := ta) (F := F) hx5 cr r1 r2 vw (by rw [c1]; exact p2)) ?_
  rw [c1]
  intro _ h7 ⟨q1, q2, q3, q4⟩
  have F7 : Fr (HoW v) h0 h7 := fr_tr F5 (fr_mo q1 (fun r i k y => by unfold BlW at y; unfold HoW; omega))
  have hx7 := CX_fr F7 how_C hx0
  have hv7 : isV C h7 v V := by
    have e : ∀ k, k ≠ 3 → gI h7 10 v k = gI h5 10 v k := fun k z => q1.1 10 v k (by unfold BlW; omega)
    have e8 : ∀ k, gI h7 57 v k = gI h5 57 v k := fun k => q1.1 57 v k (by unfold BlW; omega)
    exact ⟨(e 0 (by first | omega | decide)).trans (iv_0 hv5), (e 1 (by first | omega | decide)).trans (iv_1 hv5), (e 2 (by first | omega | decide)).trans (iv_2 hv5), (e 5 (by first | omega | decide)).trans (iv_5 hv5), fun i i1 i2 => by rw [e 6 (by first | omega | decide)]; exact iv_6 hv5 i i1 i2, (e 7 (by first | omega | decide)).trans (iv_7 hv5), fun i i1 i2 => by rw [e8]; exact iv_8 hv5 i i1 i2⟩
  refine ok_be (p_X2_winner hx7 hv7 vw q4) ?_
  have d1 : gI h7 2 0 1 = tw := (q1.1 2 0 1 (by unfold BlW; omega)).trans c1
  have d7 : gI h7 2 0 7 = eaF C V tw ta F := (q1.1 2 0 7 (by unfold BlW; omega)).trans ((p1.1 2 0 7 (by unfold PoW; omega)).trans s3)
  refine ok_bq (p_X2_sail (tw := tw) (ta := ta) (F := F) hx7 hv7 vw hm d1 (fun i i1 i2 => (q1.1 30 0 i (by unfold BlW; omega)).trans (p3 i i1 i2)) d7 (rnF C V tw false)) ?_
  intro _ h9 ⟨t1, t2⟩
  refine ok_some ⟨rfl, fr_tr F7 (fr_mo t1 (fun r i k y => by unfold VyW at y; unfold HoW; omega)), t2, ?_, ?_, ?_, ?_⟩
  · exact (t1.1 10 v 3 (by unfold VyW; omega)).trans q3
  · exact (t1.1 2 0 7 (by unfold VyW; omega)).trans d7
  · exact (t1.1 2 0 8 (by unfold VyW; omega)).trans q2
  · exact (t1.1 2 0 10 (by unfold VyW; omega)).trans ((q1.1 2 0 10 (by unfold BlW; omega)).trans ((p1.1 2 0 10 (by unfold PoW; omega)).trans b10))
end
