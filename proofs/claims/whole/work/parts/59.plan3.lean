/-! PLAN, 3: a meal doesn't look at field 7; pages of the reference -/
def v7 (V : Ch) (y : Int) : Ch := fun f i => if f = 7 then y else V f i
section
variable {C V : Ch} {tw ta y : Int} {F : Int → Int} {st : Bool}
theorem srv_7 : ∀ n : Nat, srv C (v7 V y) tw ta F n = srv C V tw ta F n
  | 0 => rfl
  | n + 1 => by
    have ih := srv_7 n
    simp only [srv]
    rw [ih]
    rfl
theorem plt_7 : plt C (v7 V y) tw ta F = plt C V tw ta F := funext fun i => by
  unfold plt
  rw [srv_7]
  rfl
theorem wsh_7 {i p : Int} : ∀ n : Nat, wsh C (v7 V y) i p n = wsh C V i p n
  | 0 => rfl
  | n + 1 => by
    have ih := wsh_7 (i := i) (p := p) n
    simp only [wsh]
    rw [ih]
    rfl
theorem wsF_7 {i p : Int} : wsF C (v7 V y) i p = wsF C V i p := by
  unfold wsF
  rw [wsh_7]
theorem wi_7 : wi C (v7 V y) tw ta F = wi C V tw ta F := funext fun i => by
  unfold wi
  rw [plt_7, wsF_7]
theorem vA_7 (c : Int) : ∀ n : Nat, vA C (v7 V y) tw ta F c n = vA C V tw ta F c n
  | 0 => rfl
  | n + 1 => by
    have ih := vA_7 c n
    simp only [vA]
    rw [ih, wi_7, plt_7]
theorem brS_7 {k : Int} : ∀ n : Nat, brS C (v7 V y) k n = brS C V k n
  | 0 => rfl
  | n + 1 => by
    have ih := brS_7 (k := k) n
    simp only [brS]
    rw [ih]
    rfl
theorem brF_7 {k : Int} : brF C (v7 V y) k = brF C V k := by
  unfold brF
  rw [brS_7]
theorem vB_7 (c : Int) : ∀ n : Nat, vB C (v7 V y) c n = vB C V c n
  | 0 => rfl
  | n + 1 => by
    have ih := vB_7 c n
    simp only [vB]
    rw [ih, brF_7]
    rfl
theorem vG_7 (c : Int) : ∀ n : Nat, vG C (v7 V y) c n = vG C V c n
  | 0 => rfl
  | n + 1 => by
    have ih := vG_7 c n
    simp only [vG]
    rw [ih]
    rfl
theorem vt_7 : vt C (v7 V y) tw ta F = vt C V tw ta F := funext fun c => by
  unfold vt
  rw [vA_7, vB_7, vG_7]
theorem vS_7 : vS C (v7 V y) tw ta F st = vS C V tw ta F st := funext fun c => by
  unfold vS
  rw [vt_7]
  rfl
theorem wnr_7 : wnr C (v7 V y) tw ta F st = wnr C V tw ta F st := by
  unfold wnr
  rw [vS_7]
  rfl
theorem loF_7 {k : Int} : loF C (v7 V y) tw ta F k = loF C V tw ta F k := funext fun i => by
  unfold loF
  rw [wi_7]
  rfl
theorem leF_7 {k : Int} : leF C (v7 V y) tw ta F k = leF C V tw ta F k := funext fun i => by
  unfold leF
  rw [wi_7, loF_7]
  rfl
theorem eaF_7 : eaF C (v7 V y) tw ta F = eaF C V tw ta F := by
  unfold eaF
  rw [srv_7]
theorem hdV_7 : hdV C (v7 V y) tw ta F st = v7 (hdV C V tw ta F st) (if y = -1 ∧ ctF C V (wnr C V tw ta F st) = C 4 0 then V 0 0 + 1 else y) := by
  funext f i
  match f with
  | 0 => rfl
  | 1 => show ctF C (v7 V y) (wnr C (v7 V y) tw ta F st) = ctF C V (wnr C V tw ta F st); rw [wnr_7]; rfl
  | 2 => show (if tw = 4 then V 2 0 else V 2 0 - eaF C (v7 V y) tw ta F) = (if tw = 4 then V 2 0 else V 2 0 - eaF C V tw ta F); rw [eaF_7]
  | 3 => rfl
  | 4 => rfl
  | 5 => rfl
  | 6 => show leF C (v7 V y) tw ta F (wnr C (v7 V y) tw ta F st) i = leF C V tw ta F (wnr C V tw ta F st) i; rw [wnr_7, leF_7]
  | 7 => show (if y = -1 ∧ ctF C (v7 V y) (wnr C (v7 V y) tw ta F st) = C 4 0 then V 0 0 + 1 else y) = (if y = -1 ∧ ctF C V (wnr C V tw ta F st) = C 4 0 then V 0 0 + 1 else y); rw [wnr_7]; rfl
  | n + 8 => show loF C (v7 V y) tw ta F (wnr C (v7 V y) tw ta F st) i = v7 (hdV C V tw ta F st) _ (n + 8) i; rw [wnr_7, loF_7]; unfold v7; rw [if_neg (by omega)]; rfl
theorem VW_7 (vw : VW C V) (y1 : -1 ≤ y) (y2 : y ≤ 60) : VW C (v7 V y) := by
  obtain ⟨a, b, c, d, e, _, g⟩ := vw
  exact ⟨a, b, c, d, e, ⟨y1, y2⟩, g⟩
end
def PuW (k : Int) : Nat → Int → Int → Prop := fun r _ j => (105 ≤ r ∧ r ≤ 107 ∧ j = k) ∨ ((r = 108 ∨ r = 109) ∧ 9 * k ≤ j ∧ j < 9 * k + 9)
def TkW : Nat → Int → Int → Prop := fun r _ j => (84 ≤ r ∧ r ≤ 86 ∧ j = 1) ∨ ((r = 91 ∨ r = 92) ∧ 9 ≤ j ∧ j < 18)
section
variable {h0 : Hp} {k : Int}
set_option maxHeartbeats 8000000 in
theorem p_X12_puts_ (b9 : B92 h0) (k1 : 0 ≤ k) (k2 : k < 3) : ok (f_X12_puts_ k h0) (fun _ h' => Fr (PuW k) h0 h' ∧ (gI h' 105 0 k = gI h0 84 0 1 ∧ gI h' 106 0 k = gI h0 85 0 1 ∧ gI h' 107 0 k = gI h0 86 0 1) ∧ (∀ m, 0 ≤ m → m < 9 → gI h' 108 0 (9 * k + m) = gI h0 91 0 (9 + m) ∧ gI h' 109 0 (9 * k + m) = gI h0 92 0 (9 + m))) := by
  have key : ∀ (d n : Nat) (h : Hp) (x : Int), (9 - x).toNat = d → 0 ≤ x → x ≤ 9 → 2 * d + 2 ≤ n → Fr (PuW k) h0 h → (gI h 105 0 k = gI h0 84 0 1 ∧ gI h 106 0 k = gI h0 85 0 1 ∧ gI h 107 0 k = gI h0 86 0 1) → (∀ m, 0 ≤ m → m < x → gI h 108 0 (9 * k + m) = gI h0 91 0 (9 + m) ∧ gI h 109 0 (9 * k + m) = gI h0 92 0 (9 + m)) → ok (g_X12_puts_ n 1 [k, x] h) (fun _ h' => Fr (PuW k) h0 h' ∧ (gI h' 105 0 k = gI h0 84 0 1 ∧ gI h' 106 0 k = gI h0 85 0 1 ∧ gI h' 107 0 k = gI h0 86 0 1) ∧ (∀ m, 0 ≤ m → m < 9 → gI h' 108 0 (9 * k + m) = gI h0 91 0 (9 + m) ∧ gI h' 109 0 (9 * k + m) = gI h0 92 0 (9 + m))) := by
    intro d
    induction d with
    | zero =>
      intro n h x hd x1 x2 hn hF h1 h2
      refine s_X12_puts__1 (by omega) ?_
      unfold b_X12_puts__1
      exact ok_t (by omega) (ok_some ⟨hF, h1, fun m m1 m2 => h2 m m1 (by omega)⟩)
    | succ d ih =>
      intro n h x hd x1 x2 hn hF h1 h2
      have a1 : -2147483648 ≤ 9 * k ∧ 9 * k < 2147483648 := by omega
      have a2 : -2147483648 ≤ 9 * k + x ∧ 9 * k + x < 2147483648 := by omega
      have a3 : -2147483648 ≤ 9 + x ∧ 9 + x < 2147483648 := by omega
      have a5 : 0 ≤ 9 + x ∧ 9 + x < 207 := by omega
      have a6 : 0 ≤ 9 * k + x ∧ 9 * k + x < 27 := by omega
      have f1 : gI h 91 0 (9 + x) = gI h0 91 0 (9 + x) := hF.1 91 0 _ (by unfold PuW; omega)
      have f2 : gI h 92 0 (9 + x) = gI h0 92 0 (9 + x) := hF.1 92 0 _ (by unfold PuW; omega)
      refine s_X12_puts__1 (by omega) ?_
      unfold b_X12_puts__1
      refine ok_f (by omega) (ok_ck a1 (ok_ck a2 (ok_ck a3 (ok_ck a5 (ok_ck a6 (ok_lt (ok_ck a1 (ok_ck a2 (ok_ck a3 (ok_ck a5 (ok_ck a6 ?_)))))))))))
      rw [gI_nr (show (92 : Nat) ≠ 108 by decide), f2]
      refine ok_ck (b9 _) (ok_lt (ok_ck (by omega) (ih _ _ _ (by omega) (by omega) (by omega) (by omega) (fr_sI (fr_sI hF (by unfold PuW; omega)) (by unfold PuW; omega)) ?_ (fun m m1 m2 => ?_))))
      · rw [gI_nr (by decide), gI_nr (by decide), gI_nr (by decide), gI_nr (by decide), gI_nr (by decide), gI_nr (by decide)]
        exact h1
      · by_cases y : m = x
        · rw [y, gI_nr (by decide), gI_eq, gI_eq, f1]; exact ⟨rfl, rfl⟩
        · rw [gI_nr (by decide), gI_nk (by omega), gI_nk (by omega), gI_nr (by decide)]
          exact h2 m m1 (by omega)
  refine fuv_X12_puts_ (fun nFU hFU => ?_)
  refine s_X12_puts__0 (by omega) ?_
  unfold b_X12_puts__0
  have s3 : 0 ≤ k ∧ k < 3 := ⟨k1, k2⟩
  refine ok_ck (by decide) (ok_ck s3 (ok_lt (ok_ck (by decide) (ok_ck s3 (ok_lt (ok_ck (by decide) (ok_ck s3 (ok_lt ?_))))))))
  refine key 9 _ _ _ (by omega) (by omega) (by omega) (by omega) ?_ ?_ (fun m m1 m2 => by omega)
  · repeat (first | exact fr_rf | refine fr_sI ?_ (by unfold PuW; omega))
  · simp [gI_sI]
set_option maxHeartbeats 8000000 in
theorem p_X12_takes (b9 : ∀ m, 0 ≤ m → m < 9 → 0 ≤ gI h0 109 0 (9 * k + m) ∧ gI h0 109 0 (9 * k + m) < 2) (k1 : 0 ≤ k) (k2 : k < 3) : ok (f_X12_takes k h0) (fun _ h' => Fr TkW h0 h' ∧ (gI h' 84 0 1 = gI h0 105 0 k ∧ gI h' 85 0 1 = gI h0 106 0 k ∧ gI h' 86 0 1 = gI h0 107 0 k) ∧ (∀ m, 0 ≤ m → m < 9 → gI h' 91 0 (9 + m) = gI h0 108 0 (9 * k + m) ∧ gI h' 92 0 (9 + m) = gI h0 109 0 (9 * k + m))) := by
  have key : ∀ (d n : Nat) (h : Hp) (x : Int), (9 - x).toNat = d → 0 ≤ x → x ≤ 9 → 2 * d + 2 ≤ n → Fr TkW h0 h → (gI h 84 0 1 = gI h0 105 0 k ∧ gI h 85 0 1 = gI h0 106 0 k ∧ gI h 86 0 1 = gI h0 107 0 k) → (∀ m, 0 ≤ m → m < x → gI h 91 0 (9 + m) = gI h0 108 0 (9 * k + m) ∧ gI h 92 0 (9 + m) = gI h0 109 0 (9 * k + m)) → ok (g_X12_takes n 1 [k, x] h) (fun _ h' => Fr TkW h0 h' ∧ (gI h' 84 0 1 = gI h0 105 0 k ∧ gI h' 85 0 1 = gI h0 106 0 k ∧ gI h' 86 0 1 = gI h0 107 0 k) ∧ (∀ m, 0 ≤ m → m < 9 → gI h' 91 0 (9 + m) = gI h0 108 0 (9 * k + m) ∧ gI h' 92 0 (9 + m) = gI h0 109 0 (9 * k + m))) := by
    intro d
    induction d with
    | zero =>
      intro n h x hd x1 x2 hn hF h1 h2
      refine s_X12_takes_1 (by omega) ?_
      unfold b_X12_takes_1
      exact ok_t (by omega) (ok_some ⟨hF, h1, fun m m1 m2 => h2 m m1 (by omega)⟩)
    | succ d ih =>
      intro n h x hd x1 x2 hn hF h1 h2
      have a1 : -2147483648 ≤ 9 * k ∧ 9 * k < 2147483648 := by omega
      have a2 : -2147483648 ≤ 9 * k + x ∧ 9 * k + x < 2147483648 := by omega
      have a3 : -2147483648 ≤ 9 + x ∧ 9 + x < 2147483648 := by omega
      have a5 : 0 ≤ 9 + x ∧ 9 + x < 207 := by omega
      have a6 : 0 ≤ 9 * k + x ∧ 9 * k + x < 27 := by omega
      have f1 : gI h 108 0 (9 * k + x) = gI h0 108 0 (9 * k + x) := hF.1 108 0 _ (by unfold TkW; omega)
      have f2 : gI h 109 0 (9 * k + x) = gI h0 109 0 (9 * k + x) := hF.1 109 0 _ (by unfold TkW; omega)
      refine s_X12_takes_1 (by omega) ?_
      unfold b_X12_takes_1
      refine ok_f (by omega) (ok_ck a3 (ok_ck a1 (ok_ck a2 (ok_ck a6 (ok_ck a5 (ok_lt (ok_ck a3 (ok_ck a1 (ok_ck a2 (ok_ck a6 (ok_ck a5 ?_)))))))))))
      rw [gI_nr (show (109 : Nat) ≠ 91 by decide), f2]
      refine ok_ck (b9 x x1 (by omega)) (ok_lt (ok_ck (by omega) (ih _ _ _ (by omega) (by omega) (by omega) (by omega) (fr_sI (fr_sI hF (by unfold TkW; omega)) (by unfold TkW; omega)) ?_ (fun m m1 m2 => ?_))))
      · rw [gI_nr (by decide), gI_nr (by decide), gI_nr (by decide), gI_nr (by decide), gI_nr (by decide), gI_nr (by decide)]
        exact h1
      · by_cases y : m = x
        · rw [y, gI_nr (by decide), gI_eq, gI_eq, f1]; exact ⟨rfl, rfl⟩
        · rw [gI_nr (by decide), gI_nk (by omega), gI_nk (by omega), gI_nr (by decide)]
          exact h2 m m1 (by omega)
  refine fuv_X12_takes (fun nFU hFU => ?_)
  refine s_X12_takes_0 (by omega) ?_
  unfold b_X12_takes_0
  have s3 : 0 ≤ k ∧ k < 3 := ⟨k1, k2⟩
  refine ok_ck s3 (ok_ck (by decide) (ok_lt (ok_ck s3 (ok_ck (by decide) (ok_lt (ok_ck s3 (ok_ck (by decide) (ok_lt ?_))))))))
  refine key 9 _ _ _ (by omega) (by omega) (by omega) (by omega) ?_ ?_ (fun m m1 m2 => by omega)
  · repeat (first | exact fr_rf | refine fr_sI ?_ (by unfold TkW; omega))
  · simp [gI_sI]
end
