/-! TEXT, 14: lines, without the machine -/
abbrev Ex (α : Type) : Type := Except (Int × Int) α
def exB {α β : Type} : Ex α → (α → Ex β) → Ex β
  | .error e, _ => .error e
  | .ok a, k => k a
def endX {α : Type} (F : Ex α) (bad : Int × Int → Prop) (good : α → Prop) : Prop := match F with
  | .error e => bad e
  | .ok a => good a
section
variable {α β : Type} {bad bad2 : Int × Int → Prop} {good good2 : α → Prop}
theorem eX_e {e : Int × Int} (h : bad e) : endX (.error e : Ex α) bad good := h
theorem eX_o {a : α} (h : good a) : endX (.ok a : Ex α) bad good := h
theorem eX_m {F : Ex α} (q : endX F bad good) (h1 : ∀ e, bad e → bad2 e) (h2 : ∀ a, F = .ok a → good a → good2 a) : endX F bad2 good2 := by
  cases F with
  | error e => exact h1 e q
  | ok a => exact h2 a rfl q
theorem eX_b {F : Ex β} {K : β → Ex α} (q : endX F bad (fun b => endX (K b) bad good)) : endX (exB F K) bad good := by
  cases F with
  | error e => exact q
  | ok a => exact q
end
/-- D with v at place k of field f -/
def ud (D : Ch) (f : Nat) (k v : Int) : Ch := fun f' k' => if f' = f ∧ k' = k then v else D f' k'
theorem ud_eq {D : Ch} {f : Nat} {k v : Int} : ud D f k v f k = v := if_pos ⟨rfl, rfl⟩
theorem ud_nf {D : Ch} {f f2 : Nat} {k k2 v : Int} (e : f2 ≠ f) : ud D f k v f2 k2 = D f2 k2 := if_neg (fun z => e z.1)
theorem ud_nk {D : Ch} {f f2 : Nat} {k k2 v : Int} (e : k2 ≠ k) : ud D f k v f2 k2 = D f2 k2 := if_neg (fun z => e z.2)
/-- a word is told -/
def tdF (W : Int → Int) (w : Int) : Int → Int := fun v => if v = w then 1 else W v
def onF (W : Int → Int) (w pl : Int) : Ex (Int → Int) := if W w = 1 then .error (3, pl) else .ok (tdF W w)
section
variable (b : Int → Int) (n : Nat)
def celF (S : Ch) (t : Nat) : Ex Int := exB (numF b n 0 (S 0 0 - 1) t) fun x => exB (numF b n 0 (S 1 0 - 1) (t + 1)) fun y => .ok (y * S 0 0 + x)
def watF (S : Ch) (t : Nat) : Ex Int := exB (celF b n S t) fun c => if S 2 c = 1 then .error (5, (tkP b n (t + 1) : Int)) else .ok c
def seaF (W : Int → Int) (S : Ch) (t : Nat) (pl : Int) : Ex ((Int → Int) × Ch × Nat) := exB (onF W 0 pl) fun W2 => if W 1 = 1 ∨ W 2 = 1 ∨ W 3 = 1 ∨ W 4 = 1 then .error (4, pl) else exB (numF b n 1 8 t) fun x => exB (numF b n 1 8 (t + 1)) fun y => .ok (W2, ud (ud S 0 0 x) 1 0 y, t + 2)
/-- on a ship, Bahia or an isle -/
def onL (W : Int → Int) (S I : Ch) (c : Int) : Prop := (W 2 = 1 ∧ S 3 0 = c) ∨ (W 3 = 1 ∧ S 4 0 = c) ∨ ∃ k, 0 ≤ k ∧ k < I 0 0 ∧ I 2 k = c
noncomputable def lanF (W : Int → Int) (S I : Ch) (t : Nat) (pl : Int) : Ex ((Int → Int) × Ch × Nat) := if 20 ≤ S 5 0 then .error (2, pl) else exB (celF b n S t) fun c => if S 2 c = 1 then .error (3, (tkP b n (t + 1) : Int)) else @ite _ (onL W S I c) (Classical.propDecidable _) (.error (5, (tkP b n (t + 1) : Int))) (.ok (tdF W 1, ud (ud S 2 c 1) 5 0 (S 5 0 + 1), t + 2))
def shiF (w : Int) (f : Nat) (W : Int → Int) (S : Ch) (t : Nat) (pl : Int) : Ex ((Int → Int) × Ch × Nat) := exB (onF W w pl) fun W2 => exB (watF b n S t) fun c => .ok (W2, ud S f 0 c, t + 2)
/-- a name among the first of a row -/
def nmP (R : Int → Int) (m x : Int) : Prop := ∃ k, 0 ≤ k ∧ k < m ∧ R k = x
noncomputable def islF (W : Int → Int) (S I : Ch) (t : Nat) (pl : Int) : Ex ((Int → Int) × Ch × Nat) := if 3 ≤ I 0 0 then .error (2, pl) else if tkK b n t ≠ 1 then .error (1, (tkP b n t : Int)) else @ite _ (nmP (I 1) (I 0 0) (tkV b n t)) (Classical.propDecidable _) (.error (3, (tkP b n t : Int))) (exB (watF b n S (t + 1)) fun c => exB (numF b n 0 9 (t + 3)) fun x => exB (numF b n 1 9 (t + 4)) fun y => .ok (tdF W 4, ud (ud (ud (ud (ud I 1 (I 0 0) (tkV b n t)) 2 (I 0 0) c) 3 (I 0 0) x) 4 (I 0 0) y) 0 0 (I 0 0 + 1), t + 5))
def wdF : Nat → Nat → Ch → Nat → Ex (Ch × Nat)
  | 0, _, _, _ => .error (0, 0)
  | f + 1, k, N, t => if k = 0 ∨ tkK b n t = 3 then (if k = 8 then .error (2, (tkP b n t : Int)) else exB (numF b n 0 3 t) fun v => wdF f (k + 1) (ud (ud N 1 k v) 0 0 (k + 1)) (t + 1)) else .ok (N, t)
def winF (W : Int → Int) (N : Ch) (t : Nat) (pl : Int) : Ex ((Int → Int) × Ch × Nat) := exB (onF W 5 pl) fun W2 => exB (wdF b n 9 0 N t) fun r => .ok (W2, r.1, r.2)
def galF (G : Ch) (t : Nat) (pl : Int) : Ex (Ch × Nat) := if 4 ≤ G 0 0 then .error (2, pl) else exB (numF b n 0 59 t) fun x => exB (numF b n 0 3 (t + 1)) fun y => exB (numF b n 1 99 (t + 2)) fun z => .ok (ud (ud (ud (ud G 1 (G 0 0) x) 2 (G 0 0) y) 3 (G 0 0) z) 0 0 (G 0 0 + 1), t + 3)
def stmF (W : Int → Int) (T : Ch) (t : Nat) (pl : Int) : Ex ((Int → Int) × Ch × Nat) := exB (onF W 7 pl) fun W2 => exB (numF b n 0 99 t) fun x => exB (numF b n 1 99 (t + 1)) fun y => .ok (W2, ud (ud T 0 0 x) 1 0 y, t + 2)
def stoF (w hi : Int) (f : Nat) (W : Int → Int) (T : Ch) (t : Nat) (pl : Int) : Ex ((Int → Int) × Ch × Nat) := exB (onF W w pl) fun W2 => exB (numF b n 0 hi t) fun x => .ok (W2, ud T f 0 x, t + 1)
end
section
variable {b : Int → Int} {n : Nat}
theorem num_ok {lo hi v : Int} {t : Nat} (e : numF b n lo hi t = .ok v) : tkK b n t = 3 ∧ lo ≤ v ∧ v ≤ hi := by
  unfold numF at e
  by_cases k : tkK b n t = 3
  · rw [if_pos k] at e
    by_cases z : lo ≤ tkV b n t ∧ tkV b n t ≤ hi
    · rw [if_pos z] at e
      injection e with e
      rw [← e]; exact ⟨k, z⟩
    · rw [if_neg z] at e; cases e
  · rw [if_neg k] at e; cases e
theorem cel_m {W H x y : Int} (hb : 1 ≤ W ∧ W ≤ 8 ∧ 1 ≤ H ∧ H ≤ 8) (x1 : 0 ≤ x) (x2 : x ≤ W - 1) (y1 : 0 ≤ y) (y2 : y ≤ H - 1) : cellP W H (y * W + x) ∧ 0 ≤ y * W ∧ y * W + x < 64 := by
  have a : 0 ≤ y * W := Int.mul_nonneg y1 (by omega)
  have c : y * W ≤ (H - 1) * W := Int.mul_le_mul_of_nonneg_right y2 (by omega)
  have d : (H - 1) * W = W * H - W := by rw [Int.sub_mul, Int.one_mul, Int.mul_comm]
  have m := sea_mul hb
  refine ⟨⟨by omega, by omega⟩, a, by omega⟩
end
/-! bits of longs -/
def bt6 (x : Int64) (i : Nat) : Bool := x.toBitVec.getLsbD i
theorem s_l6 : ∀ n, n < 64 → (((nI n).toInt64 &&& 63).toBitVec.smod 64).toNat = n := by decide +kernel
theorem s_u6 : ∀ n, n < 64 → (((nI n).toInt64.toUInt64 &&& Int64.toUInt64 63).toBitVec % 64).toNat = n := by decide +kernel
theorem bt6_1 (j : Nat) : bt6 (Int64.ofInt 1) j = decide (j = 0) := by
  unfold bt6
  show (BitVec.ofInt 64 1).getLsbD j = _
  rcases Nat.lt_or_ge j 64 with h | h
  · exact (show ∀ j, j < 64 → (BitVec.ofInt 64 1).getLsbD j = decide (j = 0) by decide +kernel) j h
  · rw [BitVec.getLsbD_of_ge _ _ h, eq_comm, decide_eq_false_iff_not]; omega
theorem band16 (y : Int) : bandL y 1 = if bt6 (Int64.ofInt y) 0 then 1 else 0 := by
  unfold bandL
  have e : (Int64.ofInt y &&& Int64.ofInt 1) = if bt6 (Int64.ofInt y) 0 then Int64.ofInt 1 else Int64.ofInt 0 := by
    refine Int64.toBitVec_inj.mp (BitVec.eq_of_getLsbD_eq fun i hi => ?_)
    rw [Int64.toBitVec_and, BitVec.getLsbD_and]
    show (bt6 (Int64.ofInt y) i && bt6 (Int64.ofInt 1) i) = bt6 _ i
    rw [bt6_1]
    by_cases q : i = 0
    · subst q; cases bt6 (Int64.ofInt y) 0 <;> decide
    · have z : bt6 (Int64.ofInt 0) i = false := by
        unfold bt6
        exact BitVec.getLsbD_zero
      cases bt6 (Int64.ofInt y) 0
      · rw [if_neg (by decide), z]; simp [q]
      · rw [if_pos rfl, bt6_1]; simp [q]
  rw [e]
  cases bt6 (Int64.ofInt y) 0 <;> decide
theorem lbit_i {N x : Int} (x1 : 0 ≤ x) (x2 : x < 64) : lbit N x ↔ bt6 (Int64.ofInt N) x.toNat = true := by
  have e : bt6 (Int64.ofInt (bushrL N x)) 0 = bt6 (Int64.ofInt N) x.toNat := by
    unfold bushrL
    rw [lo_i, ofI_i x1]
    show ((Int64.ofInt N).toUInt64 >>> ((nI x.toNat).toInt64.toUInt64 &&& Int64.toUInt64 63)).toBitVec.getLsbD 0 = (Int64.ofInt N).toUInt64.toBitVec.getLsbD x.toNat
    rw [UInt64.toBitVec_shiftRight]
    show ((Int64.ofInt N).toUInt64.toBitVec >>> (((nI x.toNat).toInt64.toUInt64 &&& Int64.toUInt64 63).toBitVec % 64).toNat).getLsbD 0 = _
    rw [s_u6 x.toNat (by omega), BitVec.getLsbD_ushiftRight, Nat.add_zero]
  unfold lbit
  rw [band16, e]
  cases bt6 (Int64.ofInt N) x.toNat <;> simp
theorem lbit_set {N c x : Int} (c1 : 0 ≤ c) (c2 : c < 64) (x1 : 0 ≤ x) (x2 : x < 64) : lbit (borL N (bshlL 1 c)) x ↔ (x = c ∨ lbit N x) := by
  have e : bt6 (Int64.ofInt (borL N (bshlL 1 c))) x.toNat = (bt6 (Int64.ofInt N) x.toNat || decide (x = c)) := by
    unfold borL bshlL
    rw [lo_i, lo_i, ofI_i c1]
    show (Int64.ofInt N ||| Int64.ofInt 1 <<< ((nI c.toNat).toInt64 &&& 63)).toBitVec.getLsbD x.toNat = _
    rw [Int64.toBitVec_or, BitVec.getLsbD_or]
    show (bt6 (Int64.ofInt N) x.toNat || (Int64.ofInt 1 <<< ((nI c.toNat).toInt64 &&& 63)).toBitVec.getLsbD x.toNat) = _
    rw [Int64.toBitVec_shiftLeft]
    show (bt6 (Int64.ofInt N) x.toNat || ((Int64.ofInt 1).toBitVec <<< (((nI c.toNat).toInt64 &&& 63).toBitVec.smod 64).toNat).getLsbD x.toNat) = _
    rw [s_l6 c.toNat (by omega), BitVec.getLsbD_shiftLeft]
    show (bt6 (Int64.ofInt N) x.toNat || (decide (x.toNat < 64) && !decide (x.toNat < c.toNat) && bt6 (Int64.ofInt 1) (x.toNat - c.toNat))) = _
    rw [bt6_1]
    congr 1
    by_cases q : x = c
    · subst q; simp; omega
    · by_cases z : c.toNat ≤ x.toNat
      · have : ¬ (x.toNat - c.toNat = 0) := by omega
        simp [q, this]
      · simp [q]; omega
  rw [lbit_i x1 x2, e, lbit_i x1 x2]
  simp only [Bool.or_eq_true, decide_eq_true_eq]
  exact Or.comm
/-! the class's cells of what is read -/
def dcS (h : Hp) (c : Int) (S : Ch) : Prop := gI h 9 c 0 = S 0 0 ∧ gI h 9 c 1 = S 1 0 ∧ gI h 9 c 4 = S 3 0 ∧ gI h 9 c 5 = S 4 0 ∧ gI h 9 c 3 = S 5 0 ∧ ∀ x, 0 ≤ x → x < 64 → (lbit (gI h 9 c 2) x ↔ S 2 x = 1)
def dcI (h : Hp) (c : Int) (I : Ch) : Prop := gI h 9 c 6 = I 0 0 ∧ ∀ i, 0 ≤ i → i < I 0 0 → gI h 51 c i = I 1 i ∧ gI h 52 c i = I 2 i ∧ gI h 53 c i = I 3 i ∧ gI h 54 c i = I 4 i
def dcN (h : Hp) (c : Int) (N : Ch) : Prop := gI h 0 c 6 = N 0 0 ∧ ∀ k, 0 ≤ k → k < N 0 0 → gI h 21 c k = N 1 k
def dcG (h : Hp) (c : Int) (G : Ch) : Prop := gI h 0 c 10 = G 0 0 ∧ ∀ k, 0 ≤ k → k < G 0 0 → gI h 22 c k = G 1 k ∧ gI h 23 c k = G 2 k ∧ gI h 24 c k = G 3 k
def dcT (h : Hp) (c : Int) (T : Ch) : Prop := gI h 0 c 11 = T 0 0 ∧ gI h 0 c 12 = T 1 0 ∧ gI h 0 c 13 = T 2 0 ∧ gI h 0 c 14 = T 3 0
def thM (M : Ch) (s : Int) : Prop := (0 ≤ s ∧ s < M 0 0) ∨ (5 ≤ s ∧ s < 5 + M 1 0)
def dcm (h : Hp) (m : Int) (M : Ch) (s : Int) : Prop := gI h 4 m 0 = M 2 s ∧ gI h 4 m 1 = M 3 s ∧ gI h 4 m 2 = M 4 s ∧ gI h 4 m 3 = M 5 s ∧ gI h 4 m 4 = M 6 s ∧ gI h 4 m 5 = M 7 s ∧ gI h 4 m 6 = M 8 s ∧ gI h 4 m 7 = M 9 s ∧ gI h 4 m 8 = M 10 s ∧ gI h 4 m 9 = M 11 s
def dcM (h : Hp) (c : Int) (π : Int → Int) (M : Ch) : Prop := gI h 0 c 3 = M 0 0 ∧ gI h 0 c 4 = M 1 0 ∧ ∀ s, thM M s → dcm h (9 * c + π s) M s
def dcP (h : Hp) (c : Int) (π : Int → Int) : Prop := gR h 7 0 1 = some (0, c) ∧ (∀ k, 0 ≤ k → k < 9 → gR h 20 c k = some (4, 9 * c + π k) ∧ 0 ≤ π k ∧ π k < 9) ∧ ∀ j k, 0 ≤ j → j < 9 → 0 ≤ k → k < 9 → π j = π k → j = k
def dcW (h : Hp) (W : Int → Int) : Prop := ∀ w, 0 ≤ w → w < 10 → w ≠ 6 → bit (gI h 7 0 13) w = W w
def rdF (h : Hp) (b : Int → Int) (n s t : Nat) : Prop := rdC h b n s t ∧ gI h 7 0 3 = 0 ∧ gI h 7 0 4 = -1
/-- what the class's reading may change -/
def TxC (c : Int) : Nat → Int → Int → Prop := fun r i k => (r = 7 ∧ 3 ≤ k) ∨ r = 8 ∨ r = 46 ∨ r = 48 ∨ r = 49 ∨ r = 50 ∨ (i = c ∧ (r = 0 ∨ r = 1 ∨ r = 9 ∨ (21 ≤ r ∧ r ≤ 26) ∨ (51 ≤ r ∧ r ≤ 56))) ∨ (r = 4 ∧ 9 * c ≤ i ∧ i < 9 * c + 9)
def baC (c : Int) (h0 : Hp) (r : Int) (h : Hp) (e : Int × Int) : Prop := r = 0 ∧ Fr (TxC c) h0 h ∧ gI h 7 0 3 = e.1 ∧ gI h 7 0 4 = e.2
section
variable {h h0 h2 : Hp} {c : Int} {π : Int → Int} {b : Int → Int} {n s t : Nat} {S I N G T M : Ch} {W : Int → Int}
theorem dcS_e (e : ∀ k, 0 ≤ k → k ≤ 5 → gI h2 9 c k = gI h 9 c k) (q : dcS h c S) : dcS h2 c S := by
  unfold dcS at q ⊢
  rw [e 0 (by decide) (by decide), e 1 (by decide) (by decide), e 2 (by decide) (by decide), e 3 (by decide) (by decide), e 4 (by decide) (by decide), e 5 (by decide) (by decide)]
  exact q
theorem dcI_e (e0 : gI h2 9 c 6 = gI h 9 c 6) (e : ∀ (r : Nat) (k : Int), 51 ≤ r → r ≤ 54 → gI h2 r c k = gI h r c k) (q : dcI h c I) : dcI h2 c I := ⟨e0.trans q.1, fun i i1 i2 => by rw [e 51 i (by decide) (by decide), e 52 i (by decide) (by decide), e 53 i (by decide) (by decide), e 54 i (by decide) (by decide)]; exact q.2 i i1 i2⟩
theorem dcN_e (e0 : gI h2 0 c 6 = gI h 0 c 6) (e : ∀ k, gI h2 21 c k = gI h 21 c k) (q : dcN h c N) : dcN h2 c N := ⟨e0.trans q.1, fun i i1 i2 => by rw [e]; exact q.2 i i1 i2⟩
theorem dcG_e (e0 : gI h2 0 c 10 = gI h 0 c 10) (e : ∀ (r : Nat) (k : Int), 22 ≤ r → r ≤ 24 → gI h2 r c k = gI h r c k) (q : dcG h c G) : dcG h2 c G := ⟨e0.trans q.1, fun i i1 i2 => by rw [e 22 i (by decide) (by decide), e 23 i (by decide) (by decide), e 24 i (by decide) (by decide)]; exact q.2 i i1 i2⟩
theorem dcT_e (e : ∀ k, 11 ≤ k → k ≤ 14 → gI h2 0 c k = gI h 0 c k) (q : dcT h c T) : dcT h2 c T := ⟨(e 11 (by decide) (by decide)).trans q.1, (e 12 (by decide) (by decide)).trans q.2.1, (e 13 (by decide) (by decide)).trans q.2.2.1, (e 14 (by decide) (by decide)).trans q.2.2.2⟩
theorem dcm_e {m x : Int} (e : ∀ k, gI h2 4 m k = gI h 4 m k) (q : dcm h m M x) : dcm h2 m M x := by
  unfold dcm at q ⊢
  simp only [e]
  exact q
theorem dcM_e (e0 : gI h2 0 c 3 = gI h 0 c 3) (e1 : gI h2 0 c 4 = gI h 0 c 4) (e : ∀ m k, gI h2 4 m k = gI h 4 m k) (q : dcM h c π M) : dcM h2 c π M := ⟨e0.trans q.1, e1.trans q.2.1, fun x hx => dcm_e (e _) (q.2.2 x hx)⟩
theorem dcP_e (e2 : h2.2 = h.2) (q : dcP h c π) : dcP h2 c π := ⟨by rw [gR_2 e2]; exact q.1, fun k k1 k2 => by rw [gR_2 e2]; exact q.2.1 k k1 k2, q.2.2⟩
theorem dcW_e (e : gI h2 7 0 13 = gI h 7 0 13) (q : dcW h W) : dcW h2 W := fun w w1 w2 w3 => by rw [e]; exact q w w1 w2 w3
theorem rdF_fr {W : Nat → Int → Int → Prop} (f : Fr W h h2) (d : ∀ (r : Nat) (k : Int), (r = 8 ∧ k = 9) ∨ (48 ≤ r ∧ r ≤ 50) ∨ (r = 7 ∧ 3 ≤ k ∧ k ≤ 10) → ¬ W r 0 k) (q : rdF h b n s t) : rdF h2 b n s t := ⟨rdC_fr f (fun r k z => d r k (by omega)) q.1, (f.1 7 0 3 (d 7 3 (by omega))).trans q.2.1, (f.1 7 0 4 (d 7 4 (by omega))).trans q.2.2⟩
theorem rn_tx : ∀ (r : Nat) (i k : Int), RnW r i k → TxC c r i k := by intro r i k; unfold RnW TxC; omega
theorem ad_tx : ∀ (r : Nat) (i k : Int), AdW r i k → TxC c r i k := by intro r i k; unfold AdW TxC; omega
/-- a fault of the class -/
theorem baC_w {x y : Int} (F0 : Fr (TxC c) h0 h) : baC c h0 0 (sI (sI h 7 0 3 x) 7 0 4 y) (x, y) := ⟨rfl, fr_sI (fr_sI F0 (by unfold TxC; omega)) (by unfold TxC; omega), by rw [gI_nk (by decide), gI_eq], gI_eq⟩
theorem wC {α : Type} {x y : Int} {good : α → Int → Hp → Prop} (F0 : Fr (TxC c) h0 h) : ok (bd (f_X7_wrong x y h) fun v h2 => ck (0 ≤ v ∧ v < 2) (some (v, h2))) (fun r h' => endX (.error (x, y) : Ex α) (baC c h0 r h') (fun a => good a r h')) := ok_be p_X7_wrong (ok_ck (by decide) (ok_some (baC_w F0)))
/-- a number, and what follows -/
theorem nC {α : Type} {lo hi : Int} {R : Hp → Option (Int × Hp)} {K : Int → Ex α} {good : α → Int → Hp → Prop} (F0 : Fr (TxC c) h0 h) (q : rdF h b n s t)
    (k : ∀ (v : Int) (h2 : Hp), Fr RnW h h2 → Fr (TxC c) h0 h2 → rdF h2 b n s (t + 1) → gI h2 7 0 11 = v → gI h2 7 0 12 = (tkP b n t : Int) → lo ≤ v → v ≤ hi → ok (R h2) (fun r h' => endX (K v) (baC c h0 r h') (fun a => good a r h'))) :
    ok (bd (f_X7_readNumber lo hi h) fun v h2 => if v = 0 then some (0, h2) else R h2) (fun r h' => endX (exB (numF b n lo hi t) K) (baC c h0 r h') (fun a => good a r h')) := by
  refine ok_bq (p_X7_readNumber (lo := lo) (hi := hi) q.1) ?_
  intro r h2 z
  cases eN : numF b n lo hi t with
  | error e =>
    rw [eN] at z
    obtain ⟨z1, z2, z3, z4⟩ := z
    exact ok_t z1 (ok_some (⟨rfl, fr_tr F0 (fr_mo z2 (by intro r i k; unfold FaW TxC; omega)), z3, z4⟩ : baC c h0 0 h2 e))
  | ok v =>
    rw [eN] at z
    obtain ⟨z1, z2, z3, z4, z5, z6, z7⟩ := z
    obtain ⟨-, y2, y3⟩ := num_ok eN
    exact ok_f (by omega) (k v h2 z2 (fr_tr F0 (fr_mo z2 rn_tx)) ⟨z3, z6.trans q.2.1, z7.trans q.2.2⟩ z4 z5 y2 y3)
theorem p_X7_isTold {w : Int} (q : dcW h W) (w1 : 0 ≤ w) (w2 : w < 10) (w6 : w ≠ 6) : f_X7_isTold w h = some (b2i (W w = 1), h) := by
  refine ok_eq.mp (fuv_X7_isTold (fun m hm => ?_))
  refine s_X7_isTold_0 (by omega) ?_
  unfold b_X7_isTold_0
  have e : band (bshr (gI h 7 0 13) w) 1 = W w := q w w1 w2 w6
  rw [e]
  exact ok_if (fun u => ok_some ⟨(if_pos u).symm, rfl⟩) (fun u => ok_some ⟨(if_neg u).symm, rfl⟩)
theorem tdF_b {x w : Int} (q : ∀ v, 0 ≤ v → v < 10 → v ≠ 6 → bit x v = W v) (w1 : 0 ≤ w) (w2 : w < 10) : ∀ v, 0 ≤ v → v < 10 → v ≠ 6 → bit (bor x (bshl 1 w)) v = tdF W w v := by
  intro v v1 v2 v6
  rw [bit_or1 w1 (by omega) v1 (by omega)]
  unfold tdF
  rw [q v v1 v2 v6]
/-- told once: and what follows -/
theorem oC {α : Type} {w pl : Int} {R : Hp → Option (Int × Hp)} {K : (Int → Int) → Ex α} {good : α → Int → Hp → Prop} (F0 : Fr (TxC c) h0 h) (q : rdF h b n s t) (qw : dcW h W) (w1 : 0 ≤ w) (w2 : w < 10) (w6 : w ≠ 6)
    (k : ∀ h2 : Hp, Fr (fun r _ k => r = 7 ∧ k = 13) h h2 → Fr (TxC c) h0 h2 → rdF h2 b n s t → dcW h2 (tdF W w) → ok (R h2) (fun r h' => endX (K (tdF W w)) (baC c h0 r h') (fun a => good a r h'))) :
    ok (bd (f_X7_tellOnce w pl h) fun v h2 => if v = 0 then some (0, h2) else R h2) (fun r h' => endX (exB (onF W w pl) K) (baC c h0 r h') (fun a => good a r h')) := by
  have T : ok (f_X7_tellOnce w pl h) (fun r h' => endX (onF W w pl) (baC c h0 r h') (fun W2 => r = 1 ∧ h' = sI h 7 0 13 (bor (gI h 7 0 13) (bshl 1 w)) ∧ W2 = tdF W w)) := by
    refine fuv_X7_tellOnce (fun m hm => ?_)
    refine s_X7_tellOnce_0 (by omega) ?_
    unfold b_X7_tellOnce_0 onF
    refine ok_be (p_X7_isTold qw w1 w2 w6) (ok_if (fun u => ?_) (fun u => ?_))
    · rw [if_neg (b2i_0.mp u)]
      exact ok_lt (ok_some ⟨rfl, rfl, rfl⟩)
    · rw [if_pos (b2i_n.mp u)]
      exact wC F0
  refine ok_bq T ?_
  intro r h2 z
  cases eN : onF W w pl with
  | error e =>
    rw [eN] at z
    exact ok_t z.1 (ok_some (⟨rfl, z.2⟩ : baC c h0 0 h2 e))
  | ok W2 =>
    rw [eN] at z
    obtain ⟨z1, z2, z3⟩ := z
    have f2 : Fr (fun r _ k => r = 7 ∧ k = 13) h h2 := by rw [z2]; exact fr_sI fr_rf (by omega)
    refine ok_f (by omega) ?_
    have kk := k h2 f2 (fr_tr F0 (fr_mo f2 (by intro r i k; unfold TxC; omega))) (rdF_fr f2 (by intro r k; omega) q) (by rw [z2]; unfold dcW; rw [gI_eq]; exact tdF_b qw w1 w2)
    rw [← z3] at kk
    exact kk
end
section
variable {h h0 h2 : Hp} {c : Int} {π : Int → Int} {b : Int → Int} {n s t : Nat} {S I N G T M : Ch} {W : Int → Int}
/-- pure: the sea -/
def sW (S : Ch) : Prop := (1 ≤ S 0 0 ∧ S 0 0 ≤ 8 ∧ 1 ≤ S 1 0 ∧ S 1 0 ≤ 8) ∧ (∀ x, 0 ≤ x → x < 64 → S 2 x = 0 ∨ S 2 x = 1) ∧ 0 ≤ S 5 0 ∧ S 5 0 ≤ 20
theorem p_cel (rc : gR h 7 0 1 = some (0, c)) (qs : dcS h c S) (ws : sW S) (q : rdF h b n s t) (F0 : Fr (TxC c) h0 h) : ok (f_X7_readCell h) (fun r h' => endX (celF b n S t) (baC c h0 r h') (fun x => r = 1 ∧ Fr RnW h h' ∧ Fr (TxC c) h0 h' ∧ rdF h' b n s (t + 2) ∧ gI h' 7 0 11 = x ∧ gI h' 7 0 12 = (tkP b n (t + 1) : Int) ∧ cellP (S 0 0) (S 1 0) x ∧ x < 64)) := by
  obtain ⟨⟨w1, w2, w3, w4⟩, -, -⟩ := ws
  refine fuv_X7_readCell (fun m hm => ?_)
  refine s_X7_readCell_0 (by omega) ?_
  unfold b_X7_readCell_0 celF
  refine ok_rf rc ?_
  rw [qs.1]
  refine ok_ck (by omega) (nC F0 q ?_)
  intro x h3 f3 G3 q3 g11 g12 x1 x2
  have s3 := dcS_e (h2 := h3) (fun k _ _ => f3.1 9 c k (by unfold RnW; omega)) qs
  refine ok_lt ?_
  rw [g11]
  refine ok_rf (by rw [fr_R f3]; exact rc) ?_
  rw [s3.2.1]
  refine ok_ck (by omega) (nC G3 q3 ?_)
  intro y h7 f7 G7 q7 k11 k12 y1 y2
  have s7 := dcS_e (h2 := h7) (fun k _ _ => f7.1 9 c k (by unfold RnW; omega)) s3
  have cm := cel_m (W := S 0 0) (H := S 1 0) ⟨w1, w2, w3, w4⟩ x1 x2 y1 y2
  refine ok_rf (by rw [fr_R f7, fr_R f3]; exact rc) ?_
  rw [s7.1, k11]
  have e8 : Fr RnW h7 (sI h7 7 0 11 (y * S 0 0 + x)) := fr_sI fr_rf (by unfold RnW; omega)
  have e9 : Fr (fun r _ k => r = 7 ∧ k = 11) h7 (sI h7 7 0 11 (y * S 0 0 + x)) := fr_sI fr_rf (by omega)
  refine ok_ck (by omega) (ok_ck (by omega) (ok_lt (ok_some ?_)))
  exact eX_o ⟨rfl, fr_tr f3 (fr_tr f7 e8), fr_tr G7 (fr_mo e8 rn_tx), rdF_fr e9 (by intro r k; omega) q7, gI_eq, by rw [gI_nk (by decide)]; exact k12, cm.1, cm.2.2⟩
theorem p_wat (rc : gR h 7 0 1 = some (0, c)) (qs : dcS h c S) (ws : sW S) (q : rdF h b n s t) (F0 : Fr (TxC c) h0 h) : ok (f_X7_readCellOfWater h) (fun r h' => endX (watF b n S t) (baC c h0 r h') (fun x => r = 1 ∧ Fr RnW h h' ∧ Fr (TxC c) h0 h' ∧ rdF h' b n s (t + 2) ∧ gI h' 7 0 11 = x ∧ cellP (S 0 0) (S 1 0) x ∧ x < 64 ∧ S 2 x = 0)) := by
  have ws' := ws
  obtain ⟨⟨w1, w2, w3, w4⟩, wl, -⟩ := ws
  refine fuv_X7_readCellOfWater (fun m hm => ?_)
  refine s_X7_readCellOfWater_0 (by omega) ?_
  unfold b_X7_readCellOfWater_0 watF
  refine ok_bq (p_cel rc qs ws' q F0) ?_
  intro r h2 z
  cases eN : celF b n S t with
  | error e =>
    rw [eN] at z
    exact ok_t z.1 (ok_some (⟨rfl, z.2⟩ : baC c h0 0 h2 e))
  | ok x =>
    rw [eN] at z
    obtain ⟨z1, f2, G2, q2, g11, g12, cp, x6⟩ := z
    have s2 := dcS_e (h2 := h2) (fun k _ _ => f2.1 9 c k (by unfold RnW; omega)) qs
    refine ok_f (by omega) (ok_rf (by rw [fr_R f2]; exact rc) (ok_be (p_X9_isLand (by unfold seaB; rw [s2.1, s2.2.1]; exact ⟨w1, w2, w3, w4⟩)) ?_))
    rw [s2.1, s2.2.1, g11, g12]
    have lb := s2.2.2.2.2.2 x cp.1 x6
    refine ok_if (fun u => ?_) (fun u => ?_)
    · have u1 : ¬ S 2 x = 1 := fun y => b2i_0.mp u ⟨cp, lb.mpr y⟩
      show ok _ (fun r h' => endX (if S 2 x = 1 then .error (5, (tkP b n (t + 1) : Int)) else .ok x) _ _)
      rw [if_neg u1]
      refine s_X7_readCellOfWater_1 (by omega) ?_
      unfold b_X7_readCellOfWater_1
      have := wl x cp.1 x6
      exact ok_some (eX_o ⟨rfl, f2, G2, q2, g11, cp, x6, by omega⟩)
    · have u1 : S 2 x = 1 := lb.mp (b2i_n.mp u).2
      show ok _ (fun r h' => endX (if S 2 x = 1 then .error (5, (tkP b n (t + 1) : Int)) else .ok x) _ _)
      rw [if_pos u1]
      exact ok_be p_X7_wrong (ok_t rfl (ok_some (baC_w G2)))
/-- is a cell an isle's -/
theorem p_isIsle {x : Int} (q : dcI h c I) (i0 : 0 ≤ I 0 0) (i3 : I 0 0 ≤ 3) : ok (f_X9_isIsle c x h) (fun r h' => h' = h ∧ ((r = 0 ∧ ¬ ∃ k, 0 ≤ k ∧ k < I 0 0 ∧ I 2 k = x) ∨ (r = 1 ∧ ∃ k, 0 ≤ k ∧ k < I 0 0 ∧ I 2 k = x))) := by
  have key : ∀ (d m : Nat) (k : Int), (I 0 0 - k).toNat = d → 0 ≤ k → k ≤ I 0 0 → d + 2 ≤ m → (∀ j, 0 ≤ j → j < k → ¬ I 2 j = x) → ok (g_X9_isIsle m 1 [c, x, k] h) (fun r h' => h' = h ∧ ((r = 0 ∧ ¬ ∃ k, 0 ≤ k ∧ k < I 0 0 ∧ I 2 k = x) ∨ (r = 1 ∧ ∃ k, 0 ≤ k ∧ k < I 0 0 ∧ I 2 k = x))) := by
    intro d
    induction d with
    | zero =>
      intro m k hd k1 k2 hm hj
      refine s_X9_isIsle_1 (by omega) ?_
      unfold b_X9_isIsle_1
      rw [q.1]
      exact ok_t (by omega) (ok_some ⟨rfl, Or.inl ⟨rfl, fun ⟨j, j1, j2, j3⟩ => hj j j1 (by omega) j3⟩⟩)
    | succ d ih =>
      intro m k hd k1 k2 hm hj
      refine s_X9_isIsle_1 (by omega) ?_
      unfold b_X9_isIsle_1
      rw [q.1, (q.2 k k1 (by omega)).2.1]
      refine ok_f (by omega) (ok_f (by omega) (ok_ck (by omega) (ok_if (fun z => ok_some ⟨rfl, Or.inr ⟨rfl, k, k1, by omega, z⟩⟩) (fun z => ok_ck (by omega) (ih _ _ (by omega) (by omega) (by omega) (by omega) (fun j j1 j2 => ?_))))))
      by_cases u : j = k
      · rw [u]; exact z
      · exact hj j j1 (by omega)
  refine fuv_X9_isIsle (fun m hm => ?_)
  refine s_X9_isIsle_0 (by omega) ?_
  unfold b_X9_isIsle_0
  exact key _ _ _ rfl (by omega) (by omega) (by omega) (fun j j1 j2 => by omega)
theorem p_isleNm {x : Int} (q : dcI h c I) (i0 : 0 ≤ I 0 0) (i3 : I 0 0 ≤ 3) : ok (f_X9_isleNamed c x h) (fun r h' => h' = h ∧ ((r = -1 ∧ ¬ nmP (I 1) (I 0 0) x) ∨ (r ≠ -1 ∧ nmP (I 1) (I 0 0) x))) := by
  have key : ∀ (d m : Nat) (k : Int), (I 0 0 - k).toNat = d → 0 ≤ k → k ≤ I 0 0 → d + 2 ≤ m → (∀ j, 0 ≤ j → j < k → ¬ I 1 j = x) → ok (g_X9_isleNamed m 1 [c, x, k] h) (fun r h' => h' = h ∧ ((r = -1 ∧ ¬ nmP (I 1) (I 0 0) x) ∨ (r ≠ -1 ∧ nmP (I 1) (I 0 0) x))) := by
    intro d
    induction d with
    | zero =>
      intro m k hd k1 k2 hm hj
      refine s_X9_isleNamed_1 (by omega) ?_
      unfold b_X9_isleNamed_1
      rw [q.1]
      exact ok_t (by omega) (ok_some ⟨rfl, Or.inl ⟨rfl, fun ⟨j, j1, j2, j3⟩ => hj j j1 (by omega) j3⟩⟩)
    | succ d ih =>
      intro m k hd k1 k2 hm hj
      refine s_X9_isleNamed_1 (by omega) ?_
      unfold b_X9_isleNamed_1
      rw [q.1, (q.2 k k1 (by omega)).1]
      refine ok_f (by omega) (ok_f (by omega) (ok_ck (by omega) (ok_if (fun z => ok_some ⟨rfl, Or.inr ⟨by omega, k, k1, by omega, z⟩⟩) (fun z => ok_ck (by omega) (ih _ _ (by omega) (by omega) (by omega) (by omega) (fun j j1 j2 => ?_))))))
      by_cases u : j = k
      · rw [u]; exact z
      · exact hj j j1 (by omega)
  refine fuv_X9_isleNamed (fun m hm => ?_)
  refine s_X9_isleNamed_0 (by omega) ?_
  unfold b_X9_isleNamed_0
  exact key _ _ _ rfl (by omega) (by omega) (by omega) (fun j j1 j2 => by omega)
end
