/-! THE CLASS'S GALLEY, 3: votes -/
def iF (C : Ch) (k x : Int) : Int := if 0 ≤ x ∧ x < 64 then C 36 (64 * k + x) else 99
/-- an isle's bribe: best COURSE and how far, among the first n -/
def brS (C V : Ch) (k : Int) : Nat → Int × Int
  | 0 => (-1, 99)
  | n + 1 => if iF C k (stC C (V 1 0) n) < (brS C V k n).2 then ((n : Int), iF C k (stC C (V 1 0) n)) else brS C V k n
def brF (C V : Ch) (k : Int) : Int := (brS C V k 4).1
def wi (C V : Ch) (tw ta : Int) (F : Int → Int) (i : Int) : Int := if 0 < plt C V tw ta F i then wsF C V i (plt C V tw ta F i) else -1
def vA (C V : Ch) (tw ta : Int) (F : Int → Int) (c : Int) : Nat → Int
  | 0 => 0
  | n + 1 => vA C V tw ta F c n + (if wi C V tw ta F n = c then plt C V tw ta F n else 0)
def vB (C V : Ch) (c : Int) : Nat → Int
  | 0 => 0
  | n + 1 => vB C V c n + (if C 36 (64 * n + V 1 0) ≤ C 8 n ∧ brF C V n = c then C 9 n else 0)
def vG (C V : Ch) (c : Int) : Nat → Int
  | 0 => 0
  | n + 1 => vG C V c n + (if C 13 n = V 0 0 ∧ C 14 n = c then C 15 n else 0)
def vt (C V : Ch) (tw ta : Int) (F : Int → Int) (c : Int) : Int := vA C V tw ta F c (sz C).toNat + (if tw = 1 then 0 else vB C V c (C 5 0).toNat) + (if tw = 2 then 0 else vG C V c (C 12 0).toNat)
section
variable {h : Hp} {c v i x k p tw ta : Int} {C V : Ch} {F N : Int → Int}
theorem brS_r : ∀ n : Nat, -1 ≤ (brS C V k n).1 ∧ (brS C V k n).1 < n ∧ (brS C V k n).2 ≤ 99
  | 0 => by simp [brS]
  | n + 1 => by
    have := brS_r n
    unfold brS
    split
    · show -1 ≤ (n : Int) ∧ (n : Int) < _ ∧ iF C k _ ≤ 99; omega
    · omega
theorem brF_r : -1 ≤ brF C V k ∧ brF C V k < 4 := by have := brS_r (C := C) (V := V) (k := k) 4; exact ⟨this.1, this.2.1⟩
theorem plt_r (w : CW C) (vw : VW C V) (i1 : 0 ≤ i) (i2 : i < sz C) : 0 ≤ plt C V tw ta F i ∧ plt C V tw ta F i ≤ 9 := by
  have a := srv_r (tw := tw) (ta := ta) (F := F) w vw i.toNat (by omega)
  have b := plF_r (V := V) (tw := tw) (ta := ta) (F := F) w i1 i2 a.1
  exact ⟨b.1, b.2.1⟩
theorem vA_r (w : CW C) (vw : VW C V) : ∀ n : Nat, (n : Int) ≤ sz C → 0 ≤ vA C V tw ta F c n ∧ vA C V tw ta F c n ≤ 9 * n
  | 0, _ => by simp [vA]
  | n + 1, h => by
    have a := vA_r w vw n (by omega)
    have b := plt_r (tw := tw) (ta := ta) (F := F) (i := (n : Int)) w vw (by omega) (by omega)
    unfold vA
    split <;> omega
theorem vB_r (w : CW C) : ∀ n : Nat, (n : Int) ≤ C 5 0 → 0 ≤ vB C V c n ∧ vB C V c n ≤ 9 * n
  | 0, _ => by simp [vB]
  | n + 1, h => by
    have a := vB_r w n (by omega)
    have b := cw_i w n (by omega) (by omega)
    unfold vB
    split <;> omega
theorem vG_r (w : CW C) : ∀ n : Nat, (n : Int) ≤ C 12 0 → 0 ≤ vG C V c n ∧ vG C V c n ≤ 99 * n
  | 0, _ => by simp [vG]
  | n + 1, h => by
    have a := vG_r w n (by omega)
    have b := cw_g w n (by omega) (by omega)
    unfold vG
    split <;> omega
theorem vt_r (w : CW C) (vw : VW C V) : 0 ≤ vt C V tw ta F c ∧ vt C V tw ta F c ≤ 600 := by
  have z := sz_r w
  have a := vA_r (c := c) (tw := tw) (ta := ta) (F := F) w vw (sz C).toNat (by omega)
  have y := cw_I w
  have b := vB_r (c := c) (V := V) w (C 5 0).toNat (by omega)
  have y2 := cw_G w
  have d := vG_r (c := c) (V := V) w (C 12 0).toNat (by omega)
  unfold vt
  split <;> split <;> omega
theorem p_X11_isCourse : f_X11_isCourse x h = some (b2i (0 ≤ x ∧ x < 4), h) := by
  refine ok_eq.mp ?_
  refine fuv_X11_isCourse (fun nFU hFU => ?_)
  refine s_X11_isCourse_0 (by first | omega | decide) ?_
  unfold b_X11_isCourse_0
  refine ok_if (fun y => ok_some ⟨by unfold b2i; rw [if_neg (by omega)], rfl⟩) (fun y => ok_if (fun y => ok_some ⟨by unfold b2i; rw [if_neg (by omega)], rfl⟩) (fun y => ok_some ⟨by unfold b2i; rw [if_pos (by omega)], rfl⟩))
theorem p_X2_give (hb : 0 ≤ x → x < 4 → -2147483648 ≤ gI h 31 0 x + p ∧ gI h 31 0 x + p < 2147483648) : f_X2_give x p h = some (0, if 0 ≤ x ∧ x < 4 then sI h 31 0 x (gI h 31 0 x + p) else h) := by
  refine ok_eq.mp ?_
  refine fuv_X2_give (fun nFU hFU => ?_)
  refine s_X2_give_0 (by first | omega | decide) ?_
  unfold b_X2_give_0
  refine ok_be p_X11_isCourse (ok_if (fun y => ?_) (fun y => ?_))
  · have y := b2i_0.mp y
    rw [if_neg y]
    exact ok_some ⟨rfl, rfl⟩
  · have y := b2i_n.mp y
    rw [if_pos y]
    exact ok_ck y (ok_ck (hb y.1 y.2) (ok_ck y (ok_lt (ok_some ⟨rfl, rfl⟩))))
theorem p_X2_bribe (hx : CX h c C) (hv : isV C h v V) (k1 : 0 ≤ k) (k2 : k < C 5 0) : f_X2_bribe v k h = some (brF C V k, h) := by
  have w := hx.2.2
  have key : ∀ (t n : Nat) (b m x : Int) (a : Nat), 4 - a = t → a ≤ 4 → x = (a : Int) → 3 * t + 3 ≤ n → b = (brS C V k a).1 → m = (brS C V k a).2 → ok (g_X2_bribe n 1 [v, k, b, m, x] h) (fun r h' => r = brF C V k ∧ h' = h) := by
    intro t
    induction t with
    | zero =>
      intro n b m x a ht ha hx' hn hb hm
      have e : a = 4 := by omega
      subst e
      refine s_X2_bribe_1 (by omega) ?_
      unfold b_X2_bribe_1
      exact ok_t (by omega) (ok_some ⟨hb, rfl⟩)
    | succ t ih =>
      intro n b m x a ht ha hx' hn hb hm
      subst hx'
      have e1 : brS C V k (a + 1) = if iF C k (stC C (V 1 0) a) < (brS C V k a).2 then ((a : Int), iF C k (stC C (V 1 0) a)) else brS C V k a := rfl
      have next : ∀ (m' : Nat) (b' l' : Int), 3 * t + 4 ≤ m' → b' = (brS C V k (a + 1)).1 → l' = (brS C V k (a + 1)).2 → ok (g_X2_bribe m' 2 [v, k, b', l', (a : Int)] h) (fun r h' => r = brF C V k ∧ h' = h) := by
        intro m' b' l' q1 q2 q3
        refine s_X2_bribe_2 (by omega) ?_
        unfold b_X2_bribe_2
        exact ok_ck (by omega) (ih _ _ _ _ (a + 1) (by omega) (by omega) (by omega) (by omega) q2 q3)
      refine s_X2_bribe_1 (by omega) ?_
      unfold b_X2_bribe_1
      refine ok_f (by omega) (ok_rf (j := c) hx.1 (ok_rf (j := c) hx.1 ?_))
      rw [iv_1 hv]
      refine ok_be (p9_step hx.2.1 w) (ok_be (p9_fromIsle hx.2.1 w k1 k2) ?_)
      refine ok_if (fun y => ?_) (fun y => ?_)
      · have y : ¬ iF C k (stC C (V 1 0) a) < (brS C V k a).2 := by unfold iF; omega
        exact next _ _ _ (by omega) (by rw [e1, if_neg y]; exact hb) (by rw [e1, if_neg y]; exact hm)
      · have y : iF C k (stC C (V 1 0) a) < (brS C V k a).2 := by unfold iF; omega
        exact next _ _ _ (by omega) (by rw [e1, if_pos y]) (by rw [e1, if_pos y]; rfl)
  refine ok_eq.mp ?_
  refine fuv_X2_bribe (fun nFU hFU => ?_)
  refine s_X2_bribe_0 (by first | omega | decide) ?_
  unfold b_X2_bribe_0
  exact key 4 _ _ _ _ 0 (by omega) (by omega) (by omega) (by omega) rfl rfl
def PoW (b : Int) : Nat → Int → Int → Prop := fun r _ k => r = 27 ∨ r = 28 ∨ (r = 33 ∧ 0 ≤ b ∧ b ≤ k ∧ k < b + 90) ∨ r = 30 ∨ r = 31
theorem pow_C {b : Int} : ∀ (r : Nat) (i k : Int), inC r k → ¬ PoW b r i k := by intro r i k; unfold inC PoW; omega
/-- one vote more, at every COURSE -/
theorem gv {h : Hp} {x p : Int} {A B : Int → Int} (e : ∀ c, 0 ≤ c → c < 4 → gI h 31 0 c = A c) (z : ∀ c, 0 ≤ c → c < 4 → B c = A c + if x = c then p else 0) : ∀ c, 0 ≤ c → c < 4 → gI (if 0 ≤ x ∧ x < 4 then sI h 31 0 x (gI h 31 0 x + p) else h) 31 0 c = B c := by
  intro c c1 c2
  rw [z c c1 c2, ← e c c1 c2]
  by_cases y : 0 ≤ x ∧ x < 4
  · rw [if_pos y, gI_sI]
    by_cases y2 : x = c
    · subst y2; rw [if_pos ⟨rfl, rfl, rfl⟩, if_pos rfl]
    · rw [if_neg (fun q => y2 q.2.2.symm), if_neg y2]; omega
  · rw [if_neg y, if_neg (by omega)]; omega
theorem gv_fr {W : Nat → Int → Int → Prop} {h0 h : Hp} {x p : Int} (f : Fr W h0 h) (d : ∀ k, W 31 0 k) : Fr W h0 (if 0 ≤ x ∧ x < 4 then sI h 31 0 x (gI h 31 0 x + p) else h) := by
  split
  · exact fr_sI f (d _)
  · exact f
theorem gv_nr {h : Hp} {x p : Int} {r : Nat} {j k : Int} (d : r ≠ 31) : gI (if 0 ≤ x ∧ x < 4 then sI h 31 0 x (gI h 31 0 x + p) else h) r j k = gI h r j k := by
  split
  · exact gI_nr d
  · rfl

set_option maxHeartbeats 8000000 in
theorem p_X2_poll {h0 : Hp} (hx0 : CX h0 c C) (hv0 : isV C h0 v V) (vw : VW C V) (hp : ∀ i, 0 ≤ i → i < sz C → gI h0 29 0 i = plt C V (gI h0 2 0 1) ta F i) (hm0 : mmO h0 C V) : ok (f_X2_poll v h0) (fun _ h' => Fr (PoW (gI h0 2 0 10)) h0 h' ∧ (∀ c, 0 ≤ c → c < 4 → gI h' 31 0 c = vt C V (gI h0 2 0 1) ta F c) ∧ (∀ i, 0 ≤ i → i < sz C → gI h' 30 0 i = wi C V (gI h0 2 0 1) ta F i) ∧ mmO h' C V) := by
  have w := hx0.2.2
  have ez := sz_r w
  have eI := cw_I w
  have eG := cw_G w
  have vc := vw_c vw
  have hmul := sea_mul (cw_W w)
  have k7 : ∀ (t n : Nat) (h : Hp) (x : Int) (a : Nat), (C 12 0).toNat - a = t → (a : Int) ≤ C 12 0 → x = (a : Int) → 3 * t + 3 ≤ n → (gI h0 2 0 1 = 2 → a = 0) → Fr (PoW (gI h0 2 0 10)) h0 h → (∀ c, 0 ≤ c → c < 4 → gI h 31 0 c = vA C V (gI h0 2 0 1) ta F c (sz C).toNat + (if gI h0 2 0 1 = 1 then 0 else vB C V c (C 5 0).toNat) + vG C V c a) → (∀ i, 0 ≤ i → i < sz C → gI h 30 0 i = wi C V (gI h0 2 0 1) ta F i) → mmO h C V → ok (g_X2_poll n 7 [v, x] h) (fun _ h' => Fr (PoW (gI h0 2 0 10)) h0 h' ∧ (∀ c, 0 ≤ c → c < 4 → gI h' 31 0 c = vt C V (gI h0 2 0 1) ta F c) ∧ (∀ i, 0 ≤ i → i < sz C → gI h' 30 0 i = wi C V (gI h0 2 0 1) ta F i) ∧ mmO h' C V) := by
    intro t
    induction t with
    | zero =>
      intro n h x a ht ha hxa hn h2 hF hvt hwi hm
      subst hxa
      have hx : CX h c C := CX_fr hF pow_C hx0
      have hv : isV C h v V := isV_fr hF (fun k => by unfold PoW; omega) hv0
      have tw1 : gI h 2 0 1 = gI h0 2 0 1 := hF.1 2 0 1 (by unfold PoW; omega)
      have fin : ∀ c, 0 ≤ c → c < 4 → gI h 31 0 c = vt C V (gI h0 2 0 1) ta F c := by
        intro c c1 c2
        rw [hvt c c1 c2]
        unfold vt
        have : a = (C 12 0).toNat := by omega
        subst this
        by_cases y : gI h0 2 0 1 = 2
        · rw [if_pos y, h2 y]; simp only [vG]
        · rw [if_neg y]
      refine s_X2_poll_7 (by omega) ?_
      unfold b_X2_poll_7
      have e12 := ic_12 hx.2.1
      refine ok_if (fun y => ok_some ⟨hF, fin, hwi, hm⟩) (fun y => ok_rf (j := c) hx.1 (ok_t (by omega) (ok_some ⟨hF, fin, hwi, hm⟩)))
    | succ t ih =>
      intro n h x a ht ha hxa hn h2 hF hvt hwi hm
      subst hxa
      have hx : CX h c C := CX_fr hF pow_C hx0
      have hv : isV C h v V := isV_fr hF (fun k => by unfold PoW; omega) hv0
      have tw1 : gI h 2 0 1 = gI h0 2 0 1 := hF.1 2 0 1 (by unfold PoW; omega)
      have e12 := ic_12 hx.2.1
      obtain ⟨g1, g2, g3⟩ := ic_13 hx.2.1 a (by omega) (by omega)
      obtain ⟨g4, g5, g6, g7⟩ := cw_g w a (by omega) (by omega)
      have e0 := iv_0 hv
      have eg : ∀ c, vG C V c (a + 1) = vG C V c a + (if C 13 a = V 0 0 ∧ C 14 a = c then C 15 a else 0) := fun _ => rfl
      have next : ∀ (m' : Nat) (h' : Hp), 3 * t + 4 ≤ m' → ¬ gI h0 2 0 1 = 2 → Fr (PoW (gI h0 2 0 10)) h0 h' → (∀ c, 0 ≤ c → c < 4 → gI h' 31 0 c = vA C V (gI h0 2 0 1) ta F c (sz C).toNat + (if gI h0 2 0 1 = 1 then 0 else vB C V c (C 5 0).toNat) + vG C V c (a + 1)) → (∀ i, 0 ≤ i → i < sz C → gI h' 30 0 i = wi C V (gI h0 2 0 1) ta F i) → mmO h' C V → ok (g_X2_poll m' 8 [v, (a : Int)] h') (fun _ h' => Fr (PoW (gI h0 2 0 10)) h0 h' ∧ (∀ c, 0 ≤ c → c < 4 → gI h' 31 0 c = vt C V (gI h0 2 0 1) ta F c) ∧ (∀ i, 0 ≤ i → i < sz C → gI h' 30 0 i = wi C V (gI h0 2 0 1) ta F i) ∧ mmO h' C V) := by
        intro m' h' q1 q2 q3 q4 q5 q6
        refine s_X2_poll_8 (by omega) ?_
        unfold b_X2_poll_8
        exact ok_ck (by omega) (ih _ _ _ (a + 1) (by omega) (by omega) (by omega) (by omega) (fun y => absurd y q2) q3 q4 q5 q6)
      refine s_X2_poll_7 (by omega) ?_
      unfold b_X2_poll_7
      refine ok_if (fun y => ok_some ⟨hF, ?_, hwi, hm⟩) (fun y => ok_rf (j := c) hx.1 (ok_f (by omega) (ok_f (by omega) (ok_rf (j := c) hx.1 (ok_ck (by omega) ?_)))))
      · rw [tw1] at y
        intro c c1 c2
        rw [hvt c c1 c2, h2 y]
        unfold vt
        rw [if_pos y]; simp only [vG]
      · rw [tw1] at y
        refine ok_if (fun y2 => ok_rf (j := c) hx.1 (ok_ck (by omega) (ok_rf (j := c) hx.1 (ok_ck (by omega) ?_)))) (fun y2 => next _ _ (by omega) y hF (fun c c1 c2 => ?_) hwi hm)
        · have bA : ∀ c, 0 ≤ vA C V (gI h0 2 0 1) ta F c (sz C).toNat ∧ vA C V (gI h0 2 0 1) ta F c (sz C).toNat ≤ 100 := fun c => by have := vA_r (c := c) (tw := gI h0 2 0 1) (ta := ta) (F := F) w vw (sz C).toNat (by omega); omega
          have bB : ∀ c, 0 ≤ vB C V c (C 5 0).toNat ∧ vB C V c (C 5 0).toNat ≤ 100 := fun c => by have := vB_r (c := c) (V := V) w (C 5 0).toNat (by omega); omega
          have bG : ∀ c, 0 ≤ vG C V c a ∧ vG C V c a ≤ 1000 := fun c => by have := vG_r (c := c) (V := V) w a (by omega); omega
          rw [g2, g3]
          refine ok_be (p_X2_give (fun c1 c2 => ?_)) ?_
          · rw [hvt _ c1 c2]
            have := bA (C 14 a); have := bB (C 14 a); have := bG (C 14 a)
            split <;> omega
          · refine next _ _ (by omega) y (gv_fr hF (fun k => by unfold PoW; omega)) (gv hvt (fun c c1 c2 => ?_)) (fun i i1 i2 => by rw [gv_nr (by decide)]; exact hwi i i1 i2) (mmO_eq (gv_nr (by decide)) (fun k => gv_nr (by decide)) hm)
            rw [eg]
            rw [g1, e0] at y2
            by_cases y3 : C 14 a = c
            · have y4 : C 13 a = V 0 0 ∧ C 14 a = c := ⟨y2, y3⟩
              rw [if_pos y4, if_pos y3]; omega
            · have y4 : ¬ (C 13 a = V 0 0 ∧ C 14 a = c) := fun q => y3 q.2
              rw [if_neg y4, if_neg y3]; omega
        · have y4 : ¬ (C 13 a = V 0 0 ∧ C 14 a = c) := fun q => y2 (by rw [g1, e0]; exact q.1)
          rw [hvt c c1 c2, eg, if_neg y4]; omega
  have k4 : ∀ (t n : Nat) (h : Hp) (x : Int) (a : Nat), (C 5 0).toNat - a = t → (a : Int) ≤ C 5 0 → x = (a : Int) → 3 * t + 30 ≤ n → (gI h0 2 0 1 = 1 → a = 0) → Fr (PoW (gI h0 2 0 10)) h0 h → (∀ c, 0 ≤ c → c < 4 → gI h 31 0 c = vA C V (gI h0 2 0 1) ta F c (sz C).toNat + vB C V c a) → (∀ i, 0 ≤ i → i < sz C → gI h 30 0 i = wi C V (gI h0 2 0 1) ta F i) → mmO h C V → ok (g_X2_poll n 4 [v, c, x] h) (fun _ h' => Fr (PoW (gI h0 2 0 10)) h0 h' ∧ (∀ c, 0 ≤ c → c < 4 → gI h' 31 0 c = vt C V (gI h0 2 0 1) ta F c) ∧ (∀ i, 0 ≤ i → i < sz C → gI h' 30 0 i = wi C V (gI h0 2 0 1) ta F i) ∧ mmO h' C V) := by
    intro t
    induction t with
    | zero =>
      intro n h x a ht ha hxa hn h2 hF hvt hwi hm
      subst hxa
      have hx : CX h c C := CX_fr hF pow_C hx0
      have hv : isV C h v V := isV_fr hF (fun k => by unfold PoW; omega) hv0
      have tw1 : gI h 2 0 1 = gI h0 2 0 1 := hF.1 2 0 1 (by unfold PoW; omega)
      have fin : ∀ m', 20 ≤ m' → ok (g_X2_poll m' 6 [v] h) (fun _ h' => Fr (PoW (gI h0 2 0 10)) h0 h' ∧ (∀ c, 0 ≤ c → c < 4 → gI h' 31 0 c = vt C V (gI h0 2 0 1) ta F c) ∧ (∀ i, 0 ≤ i → i < sz C → gI h' 30 0 i = wi C V (gI h0 2 0 1) ta F i) ∧ mmO h' C V) := by
        intro m' hm'
        refine s_X2_poll_6 (by omega) ?_
        unfold b_X2_poll_6
        refine k7 _ _ _ _ 0 rfl (by omega) (by omega) (by omega) (fun _ => rfl) hF (fun c c1 c2 => ?_) hwi hm
        rw [hvt c c1 c2]
        have : a = (C 5 0).toNat := by omega
        subst this
        by_cases y : gI h0 2 0 1 = 1
        · rw [if_pos y, h2 y]; simp [vG, vB]
        · rw [if_neg y]; simp [vG]
      have e5 := ic_5 hx.2.1
      refine s_X2_poll_4 (by omega) ?_
      unfold b_X2_poll_4
      refine ok_if (fun y => fin _ (by omega)) (fun y => ok_t (by omega) (fin _ (by omega)))
    | succ t ih =>
      intro n h x a ht ha hxa hn h2 hF hvt hwi hm
      subst hxa
      have hx : CX h c C := CX_fr hF pow_C hx0
      have hv : isV C h v V := isV_fr hF (fun k => by unfold PoW; omega) hv0
      have tw1 : gI h 2 0 1 = gI h0 2 0 1 := hF.1 2 0 1 (by unfold PoW; omega)
      have e5 := ic_5 hx.2.1
      have e1 := iv_1 hv
      obtain ⟨g0, g1, g2, g3⟩ := ic_6 hx.2.1 a (by omega) (by omega)
      obtain ⟨g4, g5, g6, g7, g8⟩ := cw_i w a (by omega) (by omega)
      have eb : ∀ c, vB C V c (a + 1) = vB C V c a + (if C 36 (64 * a + V 1 0) ≤ C 8 a ∧ brF C V a = c then C 9 a else 0) := fun _ => rfl
      have next : ∀ (m' : Nat) (h' : Hp), 3 * t + 31 ≤ m' → ¬ gI h0 2 0 1 = 1 → Fr (PoW (gI h0 2 0 10)) h0 h' → (∀ c, 0 ≤ c → c < 4 → gI h' 31 0 c = vA C V (gI h0 2 0 1) ta F c (sz C).toNat + vB C V c (a + 1)) → (∀ i, 0 ≤ i → i < sz C → gI h' 30 0 i = wi C V (gI h0 2 0 1) ta F i) → mmO h' C V → ok (g_X2_poll m' 5 [v, c, (a : Int)] h') (fun _ h' => Fr (PoW (gI h0 2 0 10)) h0 h' ∧ (∀ c, 0 ≤ c → c < 4 → gI h' 31 0 c = vt C V (gI h0 2 0 1) ta F c) ∧ (∀ i, 0 ≤ i → i < sz C → gI h' 30 0 i = wi C V (gI h0 2 0 1) ta F i) ∧ mmO h' C V) := by
        intro m' h' q1 q2 q3 q4 q5 q6
        refine s_X2_poll_5 (by omega) ?_
        unfold b_X2_poll_5
        exact ok_ck (by omega) (ih _ _ _ (a + 1) (by omega) (by omega) (by omega) (by omega) (fun y => absurd y q2) q3 q4 q5 q6)
      refine s_X2_poll_4 (by omega) ?_
      unfold b_X2_poll_4
      refine ok_if (fun y => ?_) (fun y => ok_f (by omega) (ok_f (by omega) ?_))
      · rw [tw1] at y
        refine s_X2_poll_6 (by omega) ?_
        unfold b_X2_poll_6
        refine k7 _ _ _ _ 0 rfl (by omega) (by omega) (by omega) (fun _ => rfl) hF (fun c c1 c2 => ?_) hwi hm
        rw [hvt c c1 c2, h2 y, if_pos y]; simp [vG, vB]
      · rw [tw1] at y
        rw [e1]
        refine ok_be (p9_fromIsle hx.2.1 w (by omega) (by omega)) (ok_ck (by omega) ?_)
        have v64 : 0 ≤ V 1 0 ∧ V 1 0 < 64 := ⟨vc.1, by have := vc.2; omega⟩
        rw [if_pos v64, g2]
        refine ok_if (fun y2 => next _ _ (by omega) y hF (fun c c1 c2 => ?_) hwi hm) (fun y2 => ok_be (p_X2_bribe hx hv (by omega) (by omega)) (ok_ck (by omega) ?_))
        · have y4 : ¬ (C 36 (64 * a + V 1 0) ≤ C 8 a ∧ brF C V a = c) := fun q => by have := q.1; omega
          rw [hvt c c1 c2, eb, if_neg y4]; omega
        · have bA : ∀ c, 0 ≤ vA C V (gI h0 2 0 1) ta F c (sz C).toNat ∧ vA C V (gI h0 2 0 1) ta F c (sz C).toNat ≤ 100 := fun c => by have := vA_r (c := c) (tw := gI h0 2 0 1) (ta := ta) (F := F) w vw (sz C).toNat (by omega); omega
          have bB : ∀ c, 0 ≤ vB C V c a ∧ vB C V c a ≤ 100 := fun c => by have := vB_r (c := c) (V := V) w a (by omega); omega
          rw [g3]
          refine ok_be (p_X2_give (fun c1 c2 => ?_)) ?_
          · rw [hvt _ c1 c2]
            have := bA (brF C V a); have := bB (brF C V a)
            omega
          · refine next _ _ (by omega) y (gv_fr hF (fun k => by unfold PoW; omega)) (gv hvt (fun c c1 c2 => ?_)) (fun i i1 i2 => by rw [gv_nr (by decide)]; exact hwi i i1 i2) (mmO_eq (gv_nr (by decide)) (fun k => gv_nr (by decide)) hm)
            rw [eb]
            by_cases y3 : brF C V a = c
            · have y4 : C 36 (64 * a + V 1 0) ≤ C 8 a ∧ brF C V a = c := ⟨by omega, y3⟩
              rw [if_pos y4, if_pos y3]; omega
            · have y4 : ¬ (C 36 (64 * a + V 1 0) ≤ C 8 a ∧ brF C V a = c) := fun q => y3 q.2
              rw [if_neg y4, if_neg y3]; omega
  have k2 : ∀ (t n : Nat) (h : Hp) (x : Int) (a : Nat), (sz C).toNat - a = t → (a : Int) ≤ sz C → x = (a : Int) → 3 * t + 60 ≤ n → Fr (PoW (gI h0 2 0 10)) h0 h → (∀ c, 0 ≤ c → c < 4 → gI h 31 0 c = vA C V (gI h0 2 0 1) ta F c a) → (∀ i, 0 ≤ i → i < (a : Int) → gI h 30 0 i = wi C V (gI h0 2 0 1) ta F i) → mmO h C V → ok (g_X2_poll n 2 [v, x] h) (fun _ h' => Fr (PoW (gI h0 2 0 10)) h0 h' ∧ (∀ c, 0 ≤ c → c < 4 → gI h' 31 0 c = vt C V (gI h0 2 0 1) ta F c) ∧ (∀ i, 0 ≤ i → i < sz C → gI h' 30 0 i = wi C V (gI h0 2 0 1) ta F i) ∧ mmO h' C V) := by
    intro t
    induction t with
    | zero =>
      intro n h x a ht ha hxa hn hF hvt hwi hm
      subst hxa
      have hx : CX h c C := CX_fr hF pow_C hx0
      have hv : isV C h v V := isV_fr hF (fun k => by unfold PoW; omega) hv0
      have tw1 : gI h 2 0 1 = gI h0 2 0 1 := hF.1 2 0 1 (by unfold PoW; omega)
      have : a = (sz C).toNat := by omega
      refine s_X2_poll_2 (by omega) ?_
      unfold b_X2_poll_2
      refine ok_rf (j := c) hx.1 (ok_be (p_X0_size hx.2.1 w) (ok_t (by omega) (ok_rf (j := c) hx.1 ?_)))
      refine k4 _ _ _ _ 0 rfl (by omega) (by omega) (by omega) (fun _ => rfl) hF (fun c c1 c2 => ?_) (fun i i1 i2 => hwi i i1 (by omega)) hm
      rw [hvt c c1 c2, this]; simp [vB]
    | succ t ih =>
      intro n h x a ht ha hxa hn hF hvt hwi hm
      subst hxa
      have hx : CX h c C := CX_fr hF pow_C hx0
      have hv : isV C h v V := isV_fr hF (fun k => by unfold PoW; omega) hv0
      have tw1 : gI h 2 0 1 = gI h0 2 0 1 := hF.1 2 0 1 (by unfold PoW; omega)
      have pa : gI h 29 0 a = plt C V (gI h0 2 0 1) ta F a := (hF.1 29 0 a (by unfold PoW; omega)).trans (hp a (by omega) (by omega))
      have pr := plt_r (tw := gI h0 2 0 1) (ta := ta) (F := F) (i := (a : Int)) w vw (by omega) (by omega)
      have ea : ∀ c, vA C V (gI h0 2 0 1) ta F c (a + 1) = vA C V (gI h0 2 0 1) ta F c a + (if wi C V (gI h0 2 0 1) ta F a = c then plt C V (gI h0 2 0 1) ta F a else 0) := fun _ => rfl
      have go3 : ∀ (m' : Nat) (h' : Hp) (y : Int), 3 * t + 62 ≤ m' → Fr (PoW (gI h0 2 0 10)) h0 h' → (∀ k, gI h' 31 0 k = gI h 31 0 k) → (∀ k, gI h' 30 0 k = gI h 30 0 k) → mmO h' C V → y = wi C V (gI h0 2 0 1) ta F a → ok (g_X2_poll m' 3 [v, (a : Int), y, (a : Int)] h') (fun _ h' => Fr (PoW (gI h0 2 0 10)) h0 h' ∧ (∀ c, 0 ≤ c → c < 4 → gI h' 31 0 c = vt C V (gI h0 2 0 1) ta F c) ∧ (∀ i, 0 ≤ i → i < sz C → gI h' 30 0 i = wi C V (gI h0 2 0 1) ta F i) ∧ mmO h' C V) := by
        intro m' h' y q1 q2 q3 q3b q4 q5
        have pa : gI h' 29 0 a = plt C V (gI h0 2 0 1) ta F a := (q2.1 29 0 a (by unfold PoW; omega)).trans (hp a (by omega) (by omega))
        refine s_X2_poll_3 (by omega) ?_
        unfold b_X2_poll_3
        refine ok_ck (by omega) (ok_lt (ok_ck (by omega) (ok_ck (by omega) ?_)))
        rw [gI_eq, gI_nr (show (29 : Nat) ≠ 30 by decide), pa]
        have hvt2 : ∀ c, 0 ≤ c → c < 4 → gI (sI h' 30 0 a y) 31 0 c = vA C V (gI h0 2 0 1) ta F c a := fun c c1 c2 => by rw [gI_nr (by decide), q3]; exact hvt c c1 c2
        refine ok_be (p_X2_give (fun c1 c2 => ?_)) (ok_ck (by omega) ?_)
        · rw [hvt2 _ c1 c2]
          have := vA_r (c := y) (tw := gI h0 2 0 1) (ta := ta) (F := F) w vw a (by omega)
          omega
        · refine ih _ _ _ (a + 1) (by omega) (by omega) (by omega) (by omega) (gv_fr (fr_sI q2 (by unfold PoW; omega)) (fun k => by unfold PoW; omega)) (gv hvt2 (fun c c1 c2 => ?_)) (fun i i1 i2 => ?_) (mmO_eq (by rw [gv_nr (by decide), gI_nr (by decide)]) (fun k => by rw [gv_nr (by decide), gI_nr (by decide)]) q4)
          · rw [ea, q5]
          · rw [gv_nr (by decide), gI_sI]
            by_cases y2 : i = a
            · rw [if_pos ⟨rfl, rfl, y2⟩, y2]; exact q5
            · rw [if_neg (fun q => y2 q.2.2), q3b]; exact hwi i i1 (by omega)
      refine s_X2_poll_2 (by omega) ?_
      unfold b_X2_poll_2
      refine ok_rf (j := c) hx.1 (ok_be (p_X0_size hx.2.1 w) (ok_f (by omega) (ok_ck (by omega) ?_)))
      rw [pa]
      refine ok_if (fun y => go3 _ _ _ (by omega) hF (fun _ => rfl) (fun _ => rfl) hm ?_) (fun y => ok_ck (by omega) ?_)
      · unfold wi; rw [if_neg (by omega)]
      · have f10 : gI h 2 0 10 = gI h0 2 0 10 := hF.1 2 0 10 (by unfold PoW; omega)
        refine ok_bq (p_X2_wishOf hx hv vw (by omega) (by omega) (by omega) (by omega) hm) ?_
        intro r h' ⟨z1, z2, z3⟩
        rw [f10] at z2
        refine go3 _ _ _ (by omega) (fr_tr hF (fr_mo z2 (fun r i k y => by unfold WiW at y; unfold PoW; omega))) (fun k => z2.1 31 0 k (by unfold WiW; omega)) (fun k => z2.1 30 0 k (by unfold WiW; omega)) z3 ?_
        unfold wi; rw [if_pos (by omega)]; exact z1
  have k1 : ∀ (t n : Nat) (h : Hp) (x : Int) (a : Nat), 4 - a = t → a ≤ 4 → x = (a : Int) → t + 100 ≤ n → Fr (PoW (gI h0 2 0 10)) h0 h → (∀ c, 0 ≤ c → c < (a : Int) → gI h 31 0 c = 0) → mmO h C V → ok (g_X2_poll n 1 [v, x] h) (fun _ h' => Fr (PoW (gI h0 2 0 10)) h0 h' ∧ (∀ c, 0 ≤ c → c < 4 → gI h' 31 0 c = vt C V (gI h0 2 0 1) ta F c) ∧ (∀ i, 0 ≤ i → i < sz C → gI h' 30 0 i = wi C V (gI h0 2 0 1) ta F i) ∧ mmO h' C V) := by
    intro t
    induction t with
    | zero =>
      intro n h x a ht ha hxa hn hF hvt hm
      subst hxa
      refine s_X2_poll_1 (by omega) ?_
      unfold b_X2_poll_1
      refine ok_t (by omega) (k2 _ _ _ _ 0 rfl (by omega) (by omega) (by omega) hF (fun c c1 c2 => by rw [hvt c c1 (by omega)]; simp only [vA]) (fun i i1 i2 => by omega) hm)
    | succ t ih =>
      intro n h x a ht ha hxa hn hF hvt hm
      subst hxa
      refine s_X2_poll_1 (by omega) ?_
      unfold b_X2_poll_1
      refine ok_f (by omega) (ok_ck (by omega) (ok_lt (ok_ck (by omega) (ih _ _ _ (a + 1) (by omega) (by omega) (by omega) (by omega) (fr_sI hF (by unfold PoW; omega)) (fun c c1 c2 => ?_) (mmO_eq (gI_nr (by decide)) (fun k => gI_nr (by decide)) hm)))))
      rw [gI_sI]
      by_cases y : c = a
      · rw [if_pos ⟨rfl, rfl, y⟩]
      · rw [if_neg (fun q => y q.2.2)]; exact hvt c c1 (by omega)
  refine fuv_X2_poll (fun nFU hFU => ?_)
  refine s_X2_poll_0 (by first | omega | decide) ?_
  unfold b_X2_poll_0
  exact k1 4 _ _ _ 0 (by omega) (by omega) (by omega) (by omega) fr_rf (fun c c1 c2 => by omega) hm0
end
