/-! TEXT, 20: the reference's lines, pieces -/
def TxR : Nat → Int → Int → Prop := fun r _ k => (r = 12 ∧ (k = 25 ∨ k = 26 ∨ (28 ≤ k ∧ k ≤ 33) ∨ k = 36 ∨ k = 37)) ∨ (r = 61 ∧ 15 ≤ k) ∨ (r = 62 ∧ 64 ≤ k) ∨ (63 ≤ r ∧ r ≤ 66 ∧ 3 ≤ k) ∨ (r = 67 ∧ 8 ≤ k) ∨ (68 ≤ r ∧ r ≤ 70 ∧ 4 ≤ k) ∨ (71 ≤ r ∧ r ≤ 80 ∧ 9 ≤ k) ∨ ((r = 81 ∨ r = 82) ∧ 64 ≤ k)
def cnH (h : Hp) : Prop := ∀ k, 15 ≤ k → k < 29 → 0 ≤ gI h 61 0 k ∧ gI h 61 0 k ≤ 100000
def rdE (h : Hp) (b : Int → Int) (n t : Nat) : Prop := rdR h b n t ∧ gI h 12 0 32 = 0 ∧ cnH h
def baR (h0 h : Hp) (e : Int × Int) : Prop := Fr TxR h0 h ∧ gI h 12 0 32 = e.1 ∧ gI h 12 0 33 = e.2 ∧ e.1 ≠ 0 ∧ -1 ≤ gI h 12 0 31 ∧ gI h 12 0 31 < 1073741824
def ftR (h0 h : Hp) (e : Int × Int) : Prop := baR h0 h e ∧ cnH h
def drS (h : Hp) (S : Ch) : Prop := gI h 61 0 15 = S 0 0 ∧ gI h 61 0 16 = S 1 0 ∧ gI h 61 0 18 = S 3 0 ∧ gI h 61 0 19 = S 4 0 ∧ gI h 61 0 17 = S 5 0 ∧ ∀ x, 0 ≤ x → x < 64 → gI h 62 0 (64 + x) = S 2 x
def drI (h : Hp) (I : Ch) : Prop := gI h 61 0 20 = I 0 0 ∧ ∀ i, 0 ≤ i → i < I 0 0 → gI h 63 0 (3 + i) = I 1 i ∧ gI h 64 0 (3 + i) = I 2 i ∧ gI h 65 0 (3 + i) = I 3 i ∧ gI h 66 0 (3 + i) = I 4 i
def drN (h : Hp) (N : Ch) : Prop := gI h 61 0 21 = N 0 0 ∧ ∀ k, 0 ≤ k → k < N 0 0 → gI h 67 0 (8 + k) = N 1 k
def drG (h : Hp) (G : Ch) : Prop := gI h 61 0 22 = G 0 0 ∧ ∀ k, 0 ≤ k → k < G 0 0 → gI h 68 0 (4 + k) = G 1 k ∧ gI h 69 0 (4 + k) = G 2 k ∧ gI h 70 0 (4 + k) = G 3 k
def drT (h : Hp) (T : Ch) : Prop := gI h 61 0 23 = T 0 0 ∧ gI h 61 0 24 = T 1 0 ∧ gI h 61 0 25 = T 2 0 ∧ gI h 61 0 26 = T 3 0
def drm (h : Hp) (M : Ch) (s : Int) : Prop := gI h 71 0 (9 + s) = M 2 s ∧ gI h 72 0 (9 + s) = M 3 s ∧ gI h 78 0 (9 + s) = M 4 s ∧ gI h 73 0 (9 + s) = M 5 s ∧ gI h 74 0 (9 + s) = M 6 s ∧ (gI h 75 0 (9 + s) = M 7 s ∨ M 8 s = -1) ∧ gI h 76 0 (9 + s) = M 8 s ∧ gI h 77 0 (9 + s) = M 9 s ∧ gI h 79 0 (9 + s) = M 10 s ∧ gI h 80 0 (9 + s) = M 11 s
def drM (h : Hp) (M : Ch) : Prop := gI h 61 0 27 = M 0 0 ∧ gI h 61 0 28 = M 1 0 ∧ ∀ s, thM M s → drm h M s
def drW (h : Hp) (W : Int → Int) : Prop := ∀ w, 0 ≤ w → w < 10 → w ≠ 6 → bit (gI h 12 0 25) w = W w
section
variable {h h0 h2 : Hp} {b : Int → Int} {n t : Nat} {S I N G T M : Ch} {W : Int → Int} {e : Int × Int}
theorem drS_e (a : ∀ k, 15 ≤ k → k ≤ 19 → gI h2 61 0 k = gI h 61 0 k) (c : ∀ k, 64 ≤ k → gI h2 62 0 k = gI h 62 0 k) (q : drS h S) : drS h2 S := ⟨(a 15 (by decide) (by decide)).trans q.1, (a 16 (by decide) (by decide)).trans q.2.1, (a 18 (by decide) (by decide)).trans q.2.2.1, (a 19 (by decide) (by decide)).trans q.2.2.2.1, (a 17 (by decide) (by decide)).trans q.2.2.2.2.1, fun x x1 x2 => (c (64 + x) (by omega)).trans (q.2.2.2.2.2 x x1 x2)⟩
theorem drI_e (a : gI h2 61 0 20 = gI h 61 0 20) (c : ∀ (r : Nat) (k : Int), 63 ≤ r → r ≤ 66 → gI h2 r 0 k = gI h r 0 k) (q : drI h I) : drI h2 I := ⟨a.trans q.1, fun i i1 i2 => by rw [c 63 _ (by decide) (by decide), c 64 _ (by decide) (by decide), c 65 _ (by decide) (by decide), c 66 _ (by decide) (by decide)]; exact q.2 i i1 i2⟩
theorem drN_e (a : gI h2 61 0 21 = gI h 61 0 21) (c : ∀ k, gI h2 67 0 k = gI h 67 0 k) (q : drN h N) : drN h2 N := ⟨a.trans q.1, fun i i1 i2 => by rw [c]; exact q.2 i i1 i2⟩
theorem drG_e (a : gI h2 61 0 22 = gI h 61 0 22) (c : ∀ (r : Nat) (k : Int), 68 ≤ r → r ≤ 70 → gI h2 r 0 k = gI h r 0 k) (q : drG h G) : drG h2 G := ⟨a.trans q.1, fun i i1 i2 => by rw [c 68 _ (by decide) (by decide), c 69 _ (by decide) (by decide), c 70 _ (by decide) (by decide)]; exact q.2 i i1 i2⟩
theorem drT_e (a : ∀ k, 23 ≤ k → k ≤ 26 → gI h2 61 0 k = gI h 61 0 k) (q : drT h T) : drT h2 T := ⟨(a 23 (by decide) (by decide)).trans q.1, (a 24 (by decide) (by decide)).trans q.2.1, (a 25 (by decide) (by decide)).trans q.2.2.1, (a 26 (by decide) (by decide)).trans q.2.2.2⟩
theorem drm_e {s : Int} (c : ∀ r : Nat, 71 ≤ r → r ≤ 80 → gI h2 r 0 (9 + s) = gI h r 0 (9 + s)) (q : drm h M s) : drm h2 M s := by
  unfold drm at q ⊢
  rw [c 71 (by decide) (by decide), c 72 (by decide) (by decide), c 73 (by decide) (by decide), c 74 (by decide) (by decide), c 75 (by decide) (by decide), c 76 (by decide) (by decide), c 77 (by decide) (by decide), c 78 (by decide) (by decide), c 79 (by decide) (by decide), c 80 (by decide) (by decide)]
  exact q
theorem drM_e (a : gI h2 61 0 27 = gI h 61 0 27) (a2 : gI h2 61 0 28 = gI h 61 0 28) (c : ∀ (r : Nat) (k : Int), 71 ≤ r → r ≤ 80 → gI h2 r 0 k = gI h r 0 k) (q : drM h M) : drM h2 M := ⟨a.trans q.1, a2.trans q.2.1, fun x hx => drm_e (fun r r1 r2 => c r _ r1 r2) (q.2.2 x hx)⟩
theorem drW_e (a : gI h2 12 0 25 = gI h 12 0 25) (q : drW h W) : drW h2 W := fun w w1 w2 w3 => by rw [a]; exact q w w1 w2 w3
theorem ba_0 (f : baR h0 h e) : gI h 12 0 32 ≠ 0 := by rw [f.2.1]; exact f.2.2.2.1
theorem cnH_e (a : ∀ k, gI h2 61 0 k = gI h 61 0 k) (q : cnH h) : cnH h2 := fun k k1 k2 => by rw [a]; exact q k k1 k2
theorem cnH_w {k v : Int} (v1 : 0 ≤ v) (v2 : v ≤ 100000) (q : cnH h) : cnH (sI h 61 0 k v) := fun j j1 j2 => by
  by_cases y : j = k
  · rw [y, gI_eq]; exact ⟨v1, v2⟩
  · rw [gI_nk y]; exact q j j1 j2
theorem rdE_fr {W : Nat → Int → Int → Prop} (f : Fr W h h2) (d : ∀ (r : Nat) (k : Int), (r = 12 ∧ 27 ≤ k ∧ k ≤ 32) ∨ r = 60 ∨ r = 61 → ¬ W r 0 k) (q : rdE h b n t) : rdE h2 b n t := ⟨rdR_fr f (fun r k z => d r k (by omega)) q.1, (f.1 12 0 32 (d 12 32 (by omega))).trans q.2.1, cnH_e (fun k => f.1 61 0 k (d 61 k (by omega))) q.2.2⟩
theorem rdE_w {k v : Int} (v1 : 0 ≤ v) (v2 : v ≤ 100000) (q : rdE h b n t) : rdE (sI h 61 0 k v) b n t := ⟨rdR_fr (W := fun r _ _ => r = 61) (fr_sI fr_rf rfl) (by intro r k; omega) q.1, (gI_nr (by decide)).trans q.2.1, cnH_w v1 v2 q.2.2⟩
theorem rdE_v {r : Nat} {i k v : Int} (d : 62 ≤ r) (q : rdE h b n t) : rdE (sI h r i k v) b n t := rdE_fr (W := fun r2 _ _ => r2 = r) (fr_sI fr_rf rfl) (by intro r k; omega) q
theorem baR_w {r : Nat} {i k v : Int} (w : TxR r i k) (d : r ≠ 12) (f : baR h0 h e) : baR h0 (sI h r i k v) e := ⟨fr_sI f.1 w, (gI_nr (fun y => d y.symm)).trans f.2.1, (gI_nr (fun y => d y.symm)).trans f.2.2.1, f.2.2.2.1, by rw [gI_nr (fun y => d y.symm)]; exact f.2.2.2.2⟩
theorem ftR_w {r : Nat} {i k v : Int} (w : TxR r i k) (d : r ≠ 12) (d2 : r ≠ 61) (f : ftR h0 h e) : ftR h0 (sI h r i k v) e := ⟨baR_w w d f.1, cnH_e (fun k => gI_nr (fun y => d2 y.symm)) f.2⟩
theorem ftR_6 {k v : Int} (k1 : 15 ≤ k) (v1 : 0 ≤ v) (v2 : v ≤ 100000) (f : ftR h0 h e) : ftR h0 (sI h 61 0 k v) e := ⟨baR_w (by unfold TxR; omega) (by decide) f.1, cnH_w v1 v2 f.2⟩
theorem p_fr {x k : Int} (x1 : 0 ≤ x) (x2 : x < 15) (ek : 15 + x = k) : f_X12_fresher x h = some (gI h 61 0 k, h) := by
  refine ok_eq.mp (fuv_X12_fresher (fun m hm => ?_))
  refine s_X12_fresher_0 (by omega) ?_
  unfold b_X12_fresher_0
  rw [ek]
  exact ok_ck (by omega) (ok_ck (by omega) (ok_some ⟨rfl, rfl⟩))
theorem p_rd {x k v : Int} (x1 : 0 ≤ x) (x2 : x < 15) (ek : 15 + x = k) : f_X12_reads x v h = some (0, sI h 61 0 k v) := by
  refine ok_eq.mp (fuv_X12_reads (fun m hm => ?_))
  refine s_X12_reads_0 (by omega) ?_
  unfold b_X12_reads_0
  rw [ek]
  exact ok_ck (by omega) (ok_ck (by omega) (ok_lt (ok_some ⟨rfl, rfl⟩)))
theorem to_tx : ∀ (r : Nat) (i k : Int), ToW r i k → TxR r i k := by intro r i k; unfold ToW TxR; omega
theorem fl_ft (F0 : Fr TxR h0 h) (q : rdE h b n t) (f : flR h h2 e) (e0 : e.1 ≠ 0) : ftR h0 h2 e := ⟨⟨fr_tr F0 (fr_mo f.1 (by intro r i k; unfold TxR; omega)), f.2.1, f.2.2, e0, by rw [f.1.1 12 0 31 (by omega)]; exact q.1.2.2.1⟩, cnH_e (fun k => f.1.1 61 0 k (by omega)) q.2.2⟩
theorem wR {x : Int} {K : Int → Hp → Option (Int × Hp)} {Q : Int → Hp → Prop} (F0 : Fr TxR h0 h) (q : rdE h b n t) (x0 : x ≠ 0) (k : ∀ (v : Int) (h2 : Hp), ftR h0 h2 (x, (tkP b n t : Int)) → ok (K v h2) Q) : ok (bd (f_X12_wrong x h) K) Q := by
  refine ok_bq (p_X12_wrong q.1 q.2.1) ?_
  intro v h2 f
  exact k v h2 (fl_ft F0 q f x0)
theorem tR {K : Int → Hp → Option (Int × Hp)} {Q : Int → Hp → Prop} (F0 : Fr TxR h0 h) (q : rdE h b n t) (k : ∀ (v : Int) (h2 : Hp), Fr ToW h h2 → Fr TxR h0 h2 → rdE h2 b n (t + 1) → ok (K v h2) Q) : ok (bd (f_X12_token h) K) Q := by
  refine ok_bq (p_token_t q.1) ?_
  intro v h2 ⟨f, r⟩
  exact k v h2 f (fr_tr F0 (fr_mo f to_tx)) ⟨r, (f.1 12 0 32 (by unfold ToW; omega)).trans q.2.1, cnH_e (fun k => f.1 61 0 k (by unfold ToW; omega)) q.2.2⟩
theorem goR {K : Int → Hp → Option (Int × Hp)} {Q : Int → Hp → Prop} (F0 : Fr TxR h0 h) (q : rdE h b n t) (k : ∀ (v : Int) (h2 : Hp), Fr ToW h h2 → Fr TxR h0 h2 → rdE h2 b n (t + 1) → ok (K v h2) Q) : ok (bd (f_X12_goOn h) K) Q := by
  refine ok_bq (p_X12_goOn q.1 q.2.1) ?_
  intro v h2 ⟨f, r⟩
  exact k v h2 f (fr_tr F0 (fr_mo f to_tx)) ⟨r, (f.1 12 0 32 (by unfold ToW; omega)).trans q.2.1, cnH_e (fun k => f.1 61 0 k (by unfold ToW; omega)) q.2.2⟩
theorem nR {lo hi : Int} {K : Int → Hp → Option (Int × Hp)} {Q : Int → Hp → Prop} (h9 : hi ≤ 99999) (F0 : Fr TxR h0 h) (q : rdE h b n t)
    (k : ∀ (v : Int) (h2 : Hp), numF b n lo hi t = .ok v → Fr ToW h h2 → Fr TxR h0 h2 → rdE h2 b n (t + 1) → lo ≤ v → v ≤ hi → ok (K v h2) Q)
    (kf : ∀ (e : Int × Int) (h2 : Hp), numF b n lo hi t = .error e → ftR h0 h2 e → ok (K lo h2) Q) : ok (bd (f_X12_numeral lo hi h) K) Q := by
  refine ok_bq (p_X12_numeral q.1 q.2.1 h9) ?_
  intro v h2 z
  cases eN : numF b n lo hi t with
  | error e =>
    rw [eN] at z
    rw [z.1]
    exact kf e h2 eN (fl_ft F0 q z.2.1 z.2.2)
  | ok x =>
    rw [eN] at z
    obtain ⟨z1, f, r⟩ := z
    obtain ⟨-, y2, y3⟩ := num_ok eN
    rw [z1]
    exact k x h2 eN f (fr_tr F0 (fr_mo f to_tx)) ⟨r, (f.1 12 0 32 (by unfold ToW; omega)).trans q.2.1, cnH_e (fun k => f.1 61 0 k (by unfold ToW; omega)) q.2.2⟩ y2 y3
theorem nF {lo hi : Int} {K : Int → Hp → Option (Int × Hp)} {Q : Int → Hp → Prop} (f : ftR h0 h e) (k : ok (K lo h) Q) : ok (bd (f_X12_numeral lo hi h) K) Q := ok_be (p_numeral_f (ba_0 f.1)) k
theorem goF {K : Int → Hp → Option (Int × Hp)} {Q : Int → Hp → Prop} (f : ftR h0 h e) (k : ok (K 0 h) Q) : ok (bd (f_X12_goOn h) K) Q := ok_be (p_goOn_f (ba_0 f.1)) k
theorem p12_isTold {w : Int} (q : drW h W) (w1 : 0 ≤ w) (w2 : w < 10) (w6 : w ≠ 6) : f_X12_isTold w h = some (b2i (W w = 1), h) := by
  refine ok_eq.mp (fuv_X12_isTold (fun m hm => ?_))
  refine s_X12_isTold_0 (by omega) ?_
  unfold b_X12_isTold_0
  have e : band (bshr (gI h 12 0 25) w) 1 = W w := q w w1 w2 w6
  rw [e]
  exact ok_if (fun u => ok_some ⟨(if_pos u).symm, rfl⟩) (fun u => ok_some ⟨(if_neg u).symm, rfl⟩)
theorem r_cel (F0 : Fr TxR h0 h) (q : rdE h b n t) (qs : drS h S) (ws : sW S) : ok (f_X12_cellAtHand h) (fun r h' => endX (celF b n S t) (ftR h0 h') (fun x => r = x ∧ Fr ToW h h' ∧ Fr TxR h0 h' ∧ rdE h' b n (t + 1) ∧ cellP (S 0 0) (S 1 0) x ∧ x < 64)) := by
  obtain ⟨⟨w1, w2, w3, w4⟩, -, -⟩ := ws
  refine fuv_X12_cellAtHand (fun m hm => ?_)
  refine s_X12_cellAtHand_0 (by omega) ?_
  unfold b_X12_cellAtHand_0 celF
  refine ok_be (p_fr (k := 15) (by decide) (by decide) (by decide)) ?_
  rw [qs.1]
  refine ok_ck (by omega) (nR (by omega) F0 q ?_ ?_)
  · intro x h4 ex f4 G4 q4 x1 x2
    rw [ex]
    refine ok_be (p_fr (k := 16) (by decide) (by decide) (by decide)) ?_
    rw [f4.1 61 0 16 (by unfold ToW; omega), qs.2.1]
    refine ok_ck (by omega) (ok_bq (p_X12_hand (lo := 0) (hi := S 1 0 - 1) q4.1 q4.2.1 (by omega)) ?_)
    intro v7 h8 z
    show ok _ (fun r h' => endX (exB (numF b n 0 (S 1 0 - 1) (t + 1)) fun y => .ok (y * S 0 0 + x)) (ftR h0 h') (fun x => r = x ∧ Fr ToW h h' ∧ Fr TxR h0 h' ∧ rdE h' b n (t + 1) ∧ cellP (S 0 0) (S 1 0) x ∧ x < 64))
    cases eN : numF b n 0 (S 1 0 - 1) (t + 1) with
    | error e =>
      rw [eN] at z
      have f8 := fl_ft G4 q4 z.2.1 z.2.2
      have c8 := f8.2 15 (by decide) (by decide)
      rw [z.1]
      refine ok_be (p_fr (k := 15) (by decide) (by decide) (by decide)) (ok_ck (by omega) (ok_ck (by omega) (ok_some (eX_e f8))))
    | ok y =>
      rw [eN] at z
      obtain ⟨-, y1, y2⟩ := num_ok eN
      have cm := cel_m (W := S 0 0) (H := S 1 0) ⟨w1, w2, w3, w4⟩ x1 x2 y1 y2
      rw [z.1, z.2]
      refine ok_be (p_fr (k := 15) (by decide) (by decide) (by decide)) ?_
      rw [f4.1 61 0 15 (by unfold ToW; omega), qs.1]
      exact ok_ck (by omega) (ok_ck (by omega) (ok_some (eX_o ⟨rfl, f4, G4, q4, cm.1, cm.2.2⟩)))
  · intro e h4 ex f4
    rw [ex]
    have c1 := f4.2 16 (by decide) (by decide)
    have c0 := f4.2 15 (by decide) (by decide)
    exact ok_be (p_fr (k := 16) (by decide) (by decide) (by decide)) (ok_ck (by omega) (ok_be (p_hand_f (ba_0 f4.1)) (ok_be (p_fr (k := 15) (by decide) (by decide) (by decide)) (ok_ck (by omega) (ok_ck (by omega) (ok_some (eX_e f4)))))))
theorem r_wat (F0 : Fr TxR h0 h) (q : rdE h b n t) (qs : drS h S) (ws : sW S) : ok (f_X12_water h) (fun r h' => endX (watF b n S t) (ftR h0 h') (fun x => r = x ∧ Fr ToW h h' ∧ Fr TxR h0 h' ∧ rdE h' b n (t + 2) ∧ cellP (S 0 0) (S 1 0) x ∧ x < 64 ∧ S 2 x = 0)) := by
  have ws' := ws
  obtain ⟨⟨w1, w2, w3, w4⟩, wl, -⟩ := ws
  have fin : ∀ (g : Nat) (x : Int) (h1 : Hp) (e : Int × Int) , 0 < g → ftR h0 h1 e → ok (g_X12_water g 1 [x] h1) (fun r h' => ftR h0 h' e) := by
    intro g x h1 e hg f
    refine s_X12_water_1 hg ?_
    unfold b_X12_water_1
    exact goF f (ok_some f)
  refine fuv_X12_water (fun m hm => ?_)
  refine s_X12_water_0 (by omega) ?_
  unfold b_X12_water_0 watF
  refine ok_bq (r_cel F0 q qs ws') ?_
  intro v1 h2 z
  cases eN : celF b n S t with
  | error e =>
    rw [eN] at z
    exact ok_f (ba_0 z.1) (fin _ _ _ _ (by omega) z)
  | ok x =>
    rw [eN] at z
    obtain ⟨z1, f2, G2, q2, cp, x6⟩ := z
    show ok _ (fun r h' => endX (if S 2 x = 1 then .error (5, (tkP b n (t + 1) : Int)) else .ok x) (ftR h0 h') (fun x => r = x ∧ Fr ToW h h' ∧ Fr TxR h0 h' ∧ rdE h' b n (t + 2) ∧ cellP (S 0 0) (S 1 0) x ∧ x < 64 ∧ S 2 x = 0))
    have x0 := cp.1
    have e62 : gI h2 62 0 (64 + x) = S 2 x := (f2.1 62 0 _ (by unfold ToW; omega)).trans (qs.2.2.2.2.2 x x0 x6)
    rw [z1]
    refine ok_t q2.2.1 (ok_ck (by omega) (ok_ck (by omega) ?_))
    rw [e62]
    have := wl x x0 x6
    refine ok_if (fun u => ?_) (fun u => ?_)
    · rw [if_neg (by omega)]
      refine s_X12_water_1 (by omega) ?_
      unfold b_X12_water_1
      refine goR G2 q2 ?_
      intro _ h4 f4 G4 q4
      exact ok_some (eX_o ⟨rfl, fr_tr f2 f4, G4, q4, cp, x6, u⟩)
    · rw [if_pos (by omega)]
      refine wR G2 q2 (by decide) ?_
      intro _ h4 f4
      exact fin _ _ _ _ (by omega) f4
end
