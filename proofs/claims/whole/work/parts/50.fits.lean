/-! WHO FITS -/
theorem bor_r {a b : Int} (a1 : 0 ≤ a) (a2 : a < 65536) (b1 : 0 ≤ b) (b2 : b < 65536) : 0 ≤ bor a b ∧ bor a b < 65536 := by
  unfold bor
  show 0 ≤ (BitVec.ofInt 32 a ||| BitVec.ofInt 32 b).toInt ∧ (BitVec.ofInt 32 a ||| BitVec.ofInt 32 b).toInt < 65536
  have ea : (BitVec.ofInt 32 a).toNat = a.toNat := by
    rw [BitVec.toNat_ofInt]
    show (a % 4294967296).toNat = a.toNat
    omega
  have eb : (BitVec.ofInt 32 b).toNat = b.toNat := by
    rw [BitVec.toNat_ofInt]
    show (b % 4294967296).toNat = b.toNat
    omega
  have e : (BitVec.ofInt 32 a ||| BitVec.ofInt 32 b).toNat = a.toNat ||| b.toNat := by rw [BitVec.toNat_or, ea, eb]
  have l : a.toNat ||| b.toNat < 2 ^ 16 := Nat.or_lt_two_pow (by omega) (by omega)
  rw [BitVec.toInt_eq_toNat_of_lt (by rw [e]; omega), e]
  omega
theorem bor_0 {a : Int} (a1 : 0 ≤ a) (a2 : a < 65536) : bor a 0 = a := by
  unfold bor
  rw [show Int32.ofInt a ||| Int32.ofInt 0 = Int32.ofInt a from b_ext (fun i hi => by rw [b_or, show bt (Int32.ofInt 0) i = false from b_0 i, Bool.or_false])]
  exact i3_of (by omega)
theorem tb_n {a i : Int} (a1 : 0 ≤ a) (a2 : a < 65536) (i1 : 0 ≤ i) (i2 : i < 32) : tb a i = a.toNat.testBit i.toNat := by
  unfold tb bt
  show (BitVec.ofInt 32 a).getLsbD i.toNat = _
  have e : BitVec.ofInt 32 a = BitVec.ofNat 32 a.toNat := by
    rw [show a = ((a.toNat : Nat) : Int) by omega]; exact BitVec.ofInt_natCast 32 _
  rw [e, BitVec.getLsbD_ofNat]
  simp only [show i.toNat < 32 by omega, decide_true, Bool.true_and]
/-- bits below 16 make the number -/
theorem bits_u {a b : Int} (a1 : 0 ≤ a) (a2 : a < 65536) (b1 : 0 ≤ b) (b2 : b < 65536) (e : ∀ m, 0 ≤ m → m < 16 → (bit a m = 1 ↔ bit b m = 1)) : a = b := by
  have h : a.toNat = b.toNat := by
    refine Nat.eq_of_testBit_eq (fun i => ?_)
    by_cases y : i < 16
    · have z := e i (by omega) (by omega)
      rw [bit_tb (by omega) (by omega), bit_tb (by omega) (by omega), tb_n a1 a2 (by omega) (by omega), tb_n b1 b2 (by omega) (by omega)] at z
      rw [show ((i : Int)).toNat = i by omega] at z
      cases p : a.toNat.testBit i <;> cases r : b.toNat.testBit i <;> simp [p, r] at z ⊢
    · have x1 : a.toNat < 2 ^ i := Nat.lt_of_lt_of_le (show a.toNat < 2 ^ 16 by omega) (Nat.pow_le_pow_right (by decide) (by omega))
      have x2 : b.toNat < 2 ^ i := Nat.lt_of_lt_of_le (show b.toNat < 2 ^ 16 by omega) (Nat.pow_le_pow_right (by decide) (by omega))
      rw [Nat.testBit_lt_two_pow x1, Nat.testBit_lt_two_pow x2]
  omega
theorem isFit_u {C X : Ch} {M a b : Int} (p : isFit C X M a) (q : isFit C X M b) : a = b := bits_u p.1 p.2.1 q.1 q.2.1 (fun m m1 m2 => (p.2.2 m m1 m2).trans (q.2.2 m m1 m2).symm)
theorem pw16 {C : Ch} (w : CW C) : 1 ≤ bshl 1 (C 21 0) ∧ bshl 1 (C 21 0) ≤ 16 := by
  have cM := cw_M w
  have b1 := bshl1 (j := C 21 0) (by omega) (by omega)
  rw [b1]
  have e : (C 21 0).toNat = 0 ∨ (C 21 0).toNat = 1 ∨ (C 21 0).toNat = 2 ∨ (C 21 0).toNat = 3 ∨ (C 21 0).toNat = 4 := by omega
  rcases e with e | e | e | e | e <;> rw [e] <;> decide
theorem bsh16 {j : Int} (j1 : 0 ≤ j) (j2 : j < 16) : 0 ≤ bshl 1 j ∧ bshl 1 j < 65536 := by
  rw [bshl1 j1 (by omega)]
  have h : (2 : Nat) ^ j.toNat < 2 ^ 16 := Nat.pow_lt_pow_right (by decide) (by omega)
  have e : ((2 : Int) ^ j.toNat) = ((2 ^ j.toNat : Nat) : Int) := by simp
  rw [e]
  generalize (2 : Nat) ^ j.toNat = N at h
  omega
theorem rnV_m {C X : Ch} {m : Int} : ∀ t : Nat, rnV C X m t 0 0 = t
  | 0 => rfl
  | t + 1 => by
    show rnV C X m t 0 0 + 1 = _
    rw [rnV_m t]; omega
theorem rnV_w {C X : Ch} {m : Int} (w : CW C) (m1 : 0 ≤ m) (m2 : m < 16) : ∀ t : Nat, t ≤ 60 → VWF C (rnV C X m t)
  | 0, _ => by
    obtain ⟨⟨a1, a2, a3, a4, a5, a6, a7⟩, b⟩ := bgV_w w
    exact ⟨⟨a1, a2, a3, ⟨m1, m2⟩, a5, a6, a7⟩, b⟩
  | t + 1, h => by
    have a := rnV_w (X := X) w m1 m2 t (by omega)
    have b := rnV_m (C := C) (X := X) (m := m) t
    exact ⟨slV_w w a.1 (by omega) _, rnF_r a.2.1 a.2.2⟩
/-- what the class has found among the first n sets -/
def acF (C X : Ch) (M n r : Int) : Prop := 0 ≤ r ∧ r < 65536 ∧ ∀ m, 0 ≤ m → m < 16 → (bit r m = 1 ↔ (m < n ∧ fitP C X M m))
theorem acF_0 {C X : Ch} {M : Int} : acF C X M 0 0 := ⟨by decide, by decide, fun m m1 m2 => by
  rw [bit0 m1 (by omega)]
  exact ⟨fun z => by omega, fun z => by have := z.1; omega⟩⟩
theorem acF_y {C X : Ch} {M n r : Int} (n1 : 0 ≤ n) (n2 : n < 16) (a : acF C X M n r) (f : fitP C X M n) : acF C X M (n + 1) (bor r (bshl 1 n)) := by
  obtain ⟨a1, a2, a3⟩ := a
  have b := bsh16 n1 n2
  have c := bor_r a1 a2 b.1 b.2
  refine ⟨c.1, c.2, fun m m1 m2 => ?_⟩
  rw [bit_or1 n1 (by omega) m1 (by omega)]
  by_cases y : m = n
  · rw [if_pos y, y]; exact ⟨fun _ => ⟨by omega, f⟩, fun _ => rfl⟩
  · rw [if_neg y, a3 m m1 m2]
    exact ⟨fun z => ⟨by have := z.1; omega, z.2⟩, fun z => ⟨by have := z.1; omega, z.2⟩⟩
theorem acF_n {C X : Ch} {M n r : Int} (n1 : 0 ≤ n) (a : acF C X M n r) (f : ¬ fitP C X M n) : acF C X M (n + 1) r := by
  obtain ⟨a1, a2, a3⟩ := a
  refine ⟨a1, a2, fun m m1 m2 => ?_⟩
  rw [a3 m m1 m2]
  refine ⟨fun z => ⟨by have := z.1; omega, z.2⟩, fun z => ⟨?_, z.2⟩⟩
  by_cases y : m = n
  · rw [y] at z; exact absurd z.2 f
  · have := z.1; omega
/-- how far a set has been held against the notes -/
def agF (C X : Ch) (m t : Int) : Prop := ∀ k, 0 ≤ k → cnP (xN X) (xK X) k → X 21 k < t → X 22 k = if X 20 k = 0 then rnc C X m (X 21 k) else rne C X m (X 21 k)
set_option maxHeartbeats 8000000 in
theorem p_fitting {h : Hp} {c : Int} {σ : Sg} (w : SW σ) (q : IC h c σ) : ok (f_X11_fitting h) (fun r h' => isFit (sC σ) (sX σ) (sV σ 0 0 0) r ∧ IC h' c σ ∧ FrX ClW h h') := by
  have wC := sw_C w
  have ez := sz_r wC
  have vm := vw_m (sw_V w).1
  have wN := sw_N w
  have kr := kn_r wN
  have hK : ((xK (sX σ) : Nat) : Int) = kn (sX σ 23 0) (sX σ 24 0) := Int.toNat_of_nonneg kr.1
  have hK2 : ((sK σ : Nat) : Int) = kn (sX σ 23 0) (sX σ 24 0) := Int.toNat_of_nonneg kr.1
  have p16 := pw16 wC
  have kg := q.2.2.2.1
  have e0 := iv_0 q.2.2.1.1
  have hx := q.1.2.2.2
  have kN0 := q.2.2.2.2.2.2.2.1
  have kL0 := q.2.2.2.2.1
  have e21 := ic_21 hx.2.1
  refine fuv_X11_fitting (fun n hn => ?_)
  refine s_X11_fitting_0 (by omega) ?_
  unfold b_X11_fitting_0
  refine ok_if (fun y => ?_) (fun y => ok_some ⟨(show gI h 11 0 16 = -1 ∨ isFit (sC σ) (sX σ) (sV σ 0 0 0) (gI h 11 0 16) from q.2.2.2.2.2.2.2.2.2.2).resolve_left y, q, cx_rf⟩)
  refine ok_bq (p_X5_sift kN0 wN) ?_
  intro _ h1 ⟨f1, fs⟩
  refine ok_bq (p_X5_latestMeal (isN_42 f1 kN0) wN fs) ?_
  intro L h1' ⟨l0, l1, l2, l3, l4⟩
  subst l0
  have F1 : Fr ScW h h1' := fr_mo f1 (fun r i k u => by unfold W42 at u; unfold ScW; omega)
  have G1 : kG h1' := ⟨(f1.1 2 0 1 (by unfold W42; omega)).trans kg.1, (f1.1 2 0 10 (by unfold W42; omega)).trans kg.2⟩
  have six : ∀ (n : Nat) (H : Hp) (r : Int), 3 ≤ n → Fr ScW h H → kG H → isFit (sC σ) (sX σ) (sV σ 0 0 0) r → ok (g_X11_fitting n 6 [r] H) (fun r h' => isFit (sC σ) (sX σ) (sV σ 0 0 0) r ∧ IC h' c σ ∧ FrX ClW h h') := by
    intro n H r hn hF hG hr
    refine s_X11_fitting_6 (by omega) ?_
    unfold b_X11_fitting_6
    refine ok_lt (ok_some ⟨hr, ?_, cx_sI (cx_of hF scw_Cl) (by unfold ClW; omega)⟩)
    have q' := IC_sc hF hG q
    obtain ⟨q1, q2, q3, q4, q5, q6, q7, q8, q9, q10, q11⟩ := q'
    have e : ∀ (r' : Nat) (i k : Int), ¬ (r' = 11 ∧ k = 16) → gI (sI H 11 0 16 r) r' i k = gI H r' i k := fun r' i k z => by rw [gI_sI, if_neg (by omega)]
    have e2 : (sI H 11 0 16 r).2 = H.2 := rfl
    exact ⟨kA_e (fun r i k z => e r i k (by unfold inC at z; omega)) e2 q1, kR_e e2 q2, kV_e (fun k => e 10 0 k (by omega)) (fun k => e 57 0 k (by omega)) q3, kG_e (fun k z => e 2 0 k (by omega)) q4, kL_e (fun r k a b => e r 0 k (by omega)) q5, kU_e (e 11 0 10 (by omega)) (fun v k a b => e 10 v k (by omega)) (fun v k a b => e 57 v k (by omega)) q6, kI_e (e 11 0 13 (by omega)) (fun k => e 10 21 k (by omega)) (fun k => e 57 21 k (by omega)) (fun r k a b => e r 1 k (by omega)) q7, kN_e (fun k z => e 5 0 k (by omega)) (fun r k a b => e r 0 k (by omega)) q8, kT_e (e 11 0 1 (by omega)) (fun k => e 58 0 k (by omega)) q9, kF_e (fun k z => e 7 0 k (by omega)) q10, (Or.inr (by rw [gI_eq]; exact hr))⟩
  have key : ∀ (d n : Nat) (H : Hp) (r x : Int), (bshl 1 (sC σ 21 0) - x).toNat = d → 0 ≤ x → x ≤ bshl 1 (sC σ 21 0) → 500 * d + 500 ≤ n → Fr ScW h H → kG H → sfO H (sN σ) (sX σ 23 0) (sX σ 24 0) → acF (sC σ) (sX σ) (sV σ 0 0 0) x r → L + 1 ≤ sV σ 0 0 0 → ok (g_X11_fitting n 1 [L + 1, r, x] H) (fun r h' => isFit (sC σ) (sX σ) (sV σ 0 0 0) r ∧ IC h' c σ ∧ FrX ClW h h') := by
    intro d
    induction d with
    | zero =>
      intro n H r x hd x1 x2 hn hF hG hs ha hL
      have hxH := CX_fr hF (fun r i k z => by unfold inC at z; unfold ScW; omega) hx
      have gc : gR H 11 0 2 = some (0, c) := by rw [fr_R hF]; exact q.1.1
      refine s_X11_fitting_1 (by omega) ?_
      unfold b_X11_fitting_1
      rw [hF.1 10 0 0 (by unfold ScW; omega), e0]
      refine ok_f (by omega) (ok_rf (j := c) gc ?_)
      rw [ic_21 hxH.2.1]
      have ex : x = bshl 1 (sC σ 21 0) := by omega
      rw [ex] at ha
      exact ok_t (by omega) (six _ _ _ (by omega) hF hG ha)
    | succ d ih =>
      intro n H r x hd x1 x2 hn hF hG hs ha hL
      have hxH := CX_fr hF (fun r i k z => by unfold inC at z; unfold ScW; omega) hx
      have gc : gR H 11 0 2 = some (0, c) := by rw [fr_R hF]; exact q.1.1
      have five : ∀ (m : Nat) (H : Hp) (ag : Int), 500 * d + 505 ≤ m → Fr ScW h H → kG H → sfO H (sN σ) (sX σ 23 0) (sX σ 24 0) → ((ag = 0 ∧ ¬ fitP (sC σ) (sX σ) (sV σ 0 0 0) x) ∨ (ag = 1 ∧ fitP (sC σ) (sX σ) (sV σ 0 0 0) x)) → ok (g_X11_fitting m 4 [L + 1, r, x, ag] H) (fun r h' => isFit (sC σ) (sX σ) (sV σ 0 0 0) r ∧ IC h' c σ ∧ FrX ClW h h') := by
        intro m H ag z1 z2 z3 z4 z5
        have last : ∀ (m : Nat) (y0 : Int), 500 * d + 503 ≤ m → acF (sC σ) (sX σ) (sV σ 0 0 0) (x + 1) (bor r y0) → ok (g_X11_fitting m 5 [L + 1, x, y0, r] H) (fun r h' => isFit (sC σ) (sX σ) (sV σ 0 0 0) r ∧ IC h' c σ ∧ FrX ClW h h') := by
          intro m y0 y1 y2
          refine s_X11_fitting_5 (by omega) ?_
          unfold b_X11_fitting_5
          exact ok_lt (ok_ck (by omega) (ih _ _ _ _ (by omega) (by omega) (by omega) (by omega) z2 z3 z4 y2 hL))
        refine s_X11_fitting_4 (by omega) ?_
        unfold b_X11_fitting_4
        rcases z5 with ⟨y1, y2⟩ | ⟨y1, y2⟩
        · refine ok_t y1 (last _ _ (by omega) ?_)
          have eb : bor r 0 = r := bor_0 ha.1 ha.2.1
          rw [eb]; exact acF_n x1 ha y2
        · exact ok_f (by omega) (last _ _ (by omega) (acF_y x1 (by omega) ha y2))
      have inn : ∀ (e m : Nat) (H : Hp) (ag t : Int) (a : Nat), (L + 1 - t).toNat = e → t = (a : Int) → t ≤ L + 1 → 500 * d + 510 + 3 * e ≤ m → Fr ScW h H → kG H → sfO H (sN σ) (sX σ 23 0) (sX σ 24 0) → isV (sC σ) H 22 (rnV (sC σ) (sX σ) x a) → gI H 10 22 3 = rnV (sC σ) (sX σ) x a 3 0 → ((ag = 0 ∧ ¬ fitP (sC σ) (sX σ) (sV σ 0 0 0) x) ∨ (ag = 1 ∧ agF (sC σ) (sX σ) x t)) → ok (g_X11_fitting m 2 [L + 1, r, x, ag, t] H) (fun r h' => isFit (sC σ) (sX σ) (sV σ 0 0 0) r ∧ IC h' c σ ∧ FrX ClW h h') := by
        intro e
        induction e with
        | zero =>
          intro m H ag t a he ht t2 hm z2 z3 z4 v1 v2 z5
          refine s_X11_fitting_2 (by omega) ?_
          unfold b_X11_fitting_2
          rcases z5 with ⟨y1, y2⟩ | ⟨y1, y2⟩
          · exact ok_t y1 (five _ _ _ (by omega) z2 z3 z4 (Or.inl ⟨y1, y2⟩))
          · refine ok_f (by omega) (ok_t (by omega) (five _ _ _ (by omega) z2 z3 z4 (Or.inr ⟨y1, fun k k1 k2 => ?_⟩)))
            have := l3 k k1 k2
            have l5 : sX σ 21 k ≤ L := this
            exact ⟨by omega, y2 k k1 k2 (by omega)⟩
        | succ e ihe =>
          intro m H ag t a he ht t2 hm z2 z3 z4 v1 v2 z5
          refine s_X11_fitting_2 (by omega) ?_
          unfold b_X11_fitting_2
          rcases z5 with ⟨y1, y2⟩ | ⟨y1, y2⟩
          · exact ok_t y1 (five _ _ _ (by omega) z2 z3 z4 (Or.inl ⟨y1, y2⟩))
          · have hxH := CX_fr z2 (fun r i k z => by unfold inC at z; unfold ScW; omega) hx
            obtain ⟨-, -, -, -, lf⟩ := kL0 t (by omega) (by omega)
            have tm := rnV_m (C := sC σ) (X := sX σ) (m := x) a
            have tv := rnV_w (X := sX σ) wC x1 (by omega) a (by omega)
            have h38 : gI H 38 0 t = gI h 38 0 t := z2.1 38 0 t (by unfold ScW; omega)
            rw [h38]
            refine ok_f (by omega) (ok_f (by omega) (ok_f (by omega) (ok_ck (by omega) (ok_bq (p_X2_hold (tw := -1) (ta := -1) (F := fun i => sX σ 4 (8 * t + i)) hxH v1 v2 tv.2.1 tv.2.2 tv.1 (by omega) lf z3.1 (fun u => by omega)) ?_))))
            intro vc h3 ⟨u1, u2, u3, u4, u5, u6, u7⟩
            have F3 : Fr ScW h h3 := fr_tr z2 (fr_mo u2 (how_Sc (by decide)))
            have G3 : kG h3 := ⟨(u2.1 2 0 1 (by unfold HoW; omega)).trans z3.1, u7⟩
            have S3 : sfO h3 (sN σ) (sX σ 23 0) (sX σ 24 0) := fun j j1 j2 => by rw [u2.1 42 0 j (by unfold HoW; omega)]; exact z4 j j1 j2
            have N3 : isN h3 (sN σ) (sX σ 23 0) (sX σ 24 0) := isN_fr F3 (by unfold ScW; omega) (by unfold ScW; omega) (fun r k a b => by unfold ScW; omega) kN0
            rw [u5]
            have ec : vc = rnc (sC σ) (sX σ) x t := by rw [u1]; unfold rnc; rw [show t.toNat = a by omega]
            have ee : eaF (sC σ) (rnV (sC σ) (sX σ) x a) (-1) (-1) (fun i => sX σ 4 (8 * t + i)) = rne (sC σ) (sX σ) x t := by unfold rne; rw [show t.toNat = a by omega]
            rw [ec, ee]
            refine ok_bq (p_X5_firstFalse N3 wN S3) ?_
            intro b h4 ⟨w1, w2⟩
            subst w1
            have nv : isV (sC σ) h4 22 (rnV (sC σ) (sX σ) x (a + 1)) := by
              have : rnV (sC σ) (sX σ) x (a + 1) = hdV (sC σ) (rnV (sC σ) (sX σ) x a) (-1) (-1) (fun i => sX σ 4 (8 * t + i)) false := by rw [ht]; rfl
              rw [this]; exact u3
            have nr : gI h4 10 22 3 = rnV (sC σ) (sX σ) x (a + 1) 3 0 := u4
            have three : ∀ (m : Nat) (ag : Int), 500 * d + 511 + 3 * e ≤ m → ((ag = 0 ∧ ¬ fitP (sC σ) (sX σ) (sV σ 0 0 0) x) ∨ (ag = 1 ∧ agF (sC σ) (sX σ) x (t + 1))) → ok (g_X11_fitting m 3 [L + 1, r, x, t, ag] h4) (fun r h' => isFit (sC σ) (sX σ) (sV σ 0 0 0) r ∧ IC h' c σ ∧ FrX ClW h h') := by
              intro m ag y3 y4
              refine s_X11_fitting_3 (by omega) ?_
              unfold b_X11_fitting_3
              exact ok_ck (by omega) (ihe _ _ _ _ (a + 1) (by omega) (by omega) (by omega) (by omega) F3 G3 S3 nv nr y4)
            refine ok_if (fun y3 => three _ 1 (by omega) (Or.inr ⟨rfl, fun k k1 k2 k3 => ?_⟩)) (fun y3 => three _ 0 (by omega) (Or.inl ⟨rfl, fun f => ?_⟩))
            · by_cases y4 : sX σ 21 k = t
              · rcases w2 with ⟨-, w3⟩ | ⟨w3, -⟩
                · by_cases y5 : sX σ 22 k = if sX σ 20 k = 0 then rnc (sC σ) (sX σ) x (sX σ 21 k) else rne (sC σ) (sX σ) x (sX σ 21 k)
                  · exact y5
                  · refine absurd ⟨k2, y4, ?_⟩ (w3 k k1 (by have := k2.1; omega))
                    rw [y4] at y5
                    exact y5
                · omega
              · exact y2 k k1 k2 (by omega)
            · rcases w2 with ⟨w3, -⟩ | ⟨w3, w4, ⟨w5, w6, w7⟩, -⟩
              · exact y3 w3
              · have := (f b w3 w5).2
                have w6 : sX σ 21 b = t := w6
                rw [w6] at this
                exact w7 this
      refine s_X11_fitting_1 (by omega) ?_
      unfold b_X11_fitting_1
      rw [hF.1 10 0 0 (by unfold ScW; omega), e0]
      refine ok_f (by omega) (ok_rf (j := c) gc ?_)
      rw [ic_21 hxH.2.1]
      refine ok_f (by omega) (ok_rf (j := c) gc (ok_bq (p_X10_begin hxH.2.1 wC) ?_))
      intro _ h4 ⟨b1, b2, b3, b4⟩
      have F4 : Fr ScW h (sI h4 10 22 5 x) := fr_sI (fr_tr hF (fr_mo b1 (fun r i k u => by unfold VoW at u; unfold ScW; omega))) (by unfold ScW; omega)
      refine ok_lt (inn _ _ _ _ _ 0 rfl (by omega) (by omega) (by omega) F4 ⟨?_, ?_⟩ (fun j j1 j2 => ?_) ?_ ?_ (Or.inr ⟨rfl, fun k k1 k2 k3 => ?_⟩))
      · rw [gI_nr (by decide), b1.1 2 0 1 (by unfold VoW; omega)]; exact hG.1
      · rw [gI_nr (by decide), b1.1 2 0 10 (by unfold VoW; omega)]; exact hG.2
      · rw [gI_nr (by decide), b1.1 42 0 j (by unfold VoW; omega)]; exact hs j j1 j2
      · obtain ⟨a0, a1, a2, a5, a6, a7, a8⟩ := b2
        refine ⟨?_, ?_, ?_, ?_, fun i i1 i2 => ?_, ?_, fun i i1 i2 => ?_⟩
        · rw [gI_nk (by decide)]; exact a0
        · rw [gI_nk (by decide)]; exact a1
        · rw [gI_nk (by decide)]; exact a2
        · rw [gI_eq]; rfl
        · rw [gI_nk (by decide)]; exact a6 i i1 i2
        · rw [gI_nk (by decide)]; exact a7
        · rw [gI_nr (by decide)]; exact a8 i i1 i2
      · rw [gI_nk (by decide)]; exact b3
      · have k4 := (nw_k wN k k1 (by have := k2.1; omega)).2.2.2 k2.2.2
        have k5 : 0 ≤ sX σ 21 k := k4.1
        omega
  have S1 : sfO h1' (sN σ) (sX σ 23 0) (sX σ 24 0) := fs
  refine ok_ck (by omega) (ok_lt ?_)
  by_cases hL : L + 1 ≤ sV σ 0 0 0
  · exact key _ _ _ _ _ rfl (by omega) (by omega) (by omega) F1 G1 S1 acF_0 hL
  · refine s_X11_fitting_1 (by omega) ?_
    unfold b_X11_fitting_1
    rw [F1.1 10 0 0 (by unfold ScW; omega), e0]
    refine ok_t (by omega) (six _ _ _ (by omega) F1 G1 ⟨by decide, by decide, fun m m1 m2 => ?_⟩)
    rw [bit0 m1 (by omega)]
    refine ⟨fun z => by omega, fun z => ?_⟩
    rcases l4 with l4 | ⟨k, k1, k2, k3⟩
    · omega
    · have := (z.2 k k1 k2).1
      have k3 : sX σ 21 k = L := k3
      omega
