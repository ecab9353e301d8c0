/-! TEXT, 30: what is read stays in its ranges -/
def seX (S : Ch) (W : Int → Int) : Prop := cellP (S 0 0) (S 1 0) (S 3 0) ∧ cellP (S 0 0) (S 1 0) (S 4 0) ∧ (W 1 ≠ 1 → ∀ x, 0 ≤ x → x < 64 → S 2 x = 0) ∧ (W 2 ≠ 1 → S 3 0 = 0) ∧ (W 3 ≠ 1 → S 4 0 = 0)
def iW (S I : Ch) (W : Int → Int) : Prop := (0 ≤ I 0 0 ∧ I 0 0 ≤ 3) ∧ (W 4 ≠ 1 → I 0 0 = 0) ∧ ∀ i, 0 ≤ i → i < I 0 0 → (cellP (S 0 0) (S 1 0) (I 2 i) ∧ S 2 (I 2 i) = 0) ∧ 0 ≤ I 3 i ∧ I 3 i ≤ 9 ∧ 1 ≤ I 4 i ∧ I 4 i ≤ 9
def nW (N : Ch) : Prop := 0 ≤ N 0 0 ∧ N 0 0 ≤ 8 ∧ ∀ k, 0 ≤ k → k < N 0 0 → 0 ≤ N 1 k ∧ N 1 k < 4
def gW (G : Ch) : Prop := (0 ≤ G 0 0 ∧ G 0 0 ≤ 4) ∧ ∀ k, 0 ≤ k → k < G 0 0 → 0 ≤ G 2 k ∧ G 2 k < 4 ∧ 1 ≤ G 3 k ∧ G 3 k ≤ 99
def tW (T : Ch) : Prop := 0 ≤ T 0 0 ∧ T 0 0 ≤ 99 ∧ 1 ≤ T 1 0 ∧ T 1 0 ≤ 99 ∧ 0 ≤ T 2 0 ∧ T 2 0 ≤ 9999 ∧ 0 ≤ T 3 0 ∧ T 3 0 ≤ 99999
def mW1 (M : Ch) (o : List (Int × Int)) (s : Int) : Prop := 0 ≤ M 3 s ∧ M 3 s ≤ 9 ∧ 0 ≤ M 5 s ∧ M 6 s ≤ 59 ∧ -1 ≤ M 8 s ∧ M 8 s ≤ 59 ∧ 1 ≤ M 9 s ∧ M 9 s ≤ 99 ∧ 0 ≤ M 10 s ∧ M 10 s ≤ M 11 s ∧ M 11 s ≤ (o.length : Int) ∧ vd (cC o) (M 11 s - M 10 s).toNat (M 10 s) 0 = some 1
def mW (M : Ch) (o : List (Int × Int)) : Prop := (0 ≤ M 0 0 ∧ M 0 0 ≤ 5 ∧ 0 ≤ M 1 0 ∧ M 1 0 ≤ 4) ∧ (∀ s, thM M s → mW1 M o s) ∧ ∀ s, 5 ≤ s → s < 5 + M 1 0 → 1 ≤ M 4 s ∧ M 4 s ≤ 99
def oW (o : List (Int × Int)) (k : Nat) : Prop := o.length ≤ k ∧ k ≤ 64 ∧ ∀ e, e ∈ o → eV e
def DW (D : Dr) : Prop := sW (dS D) ∧ seX (dS D) (dW D) ∧ iW (dS D) (dI D) (dW D) ∧ nW (dN D) ∧ gW (dG D) ∧ tW (dT D) ∧ mW (dM D) (dO D) ∧ oW (dO D) (dK D)
def rW7 (R : Nat → Int) : Prop := 0 ≤ R 3 ∧ R 4 ≤ 59 ∧ -1 ≤ R 6 ∧ R 6 ≤ 59 ∧ 1 ≤ R 7 ∧ R 7 ≤ 99
section
variable {b : Int → Int} {n t k : Nat} {D : Dr} {pl w : Int} {S I N G T M : Ch} {W : Int → Int} {o : List (Int × Int)}
theorem dw_0 (q : DW D) : dw0 D := ⟨q.1, q.2.2.1.1, q.2.2.2.2.1.1, q.2.2.2.2.2.2.1.1, q.2.2.2.2.2.2.2.1, q.2.2.2.2.2.2.2.2.1⟩
theorem tdN {v : Int} (z : tdF W w v ≠ 1) : W v ≠ 1 := fun y => z (by unfold tdF; split; rfl; exact y)
theorem td_w : tdF W w w = 1 := if_pos rfl
theorem seX_t (q : seX S W) : seX S (tdF W w) := ⟨q.1, q.2.1, fun z => q.2.2.1 (tdN z), fun z => q.2.2.2.1 (tdN z), fun z => q.2.2.2.2 (tdN z)⟩
theorem iW_t (q : iW S I W) : iW S I (tdF W w) := ⟨q.1, fun z => q.2.1 (tdN z), q.2.2⟩
theorem on_ok {W2 : Int → Int} (e : onF W w pl = .ok W2) : W2 = tdF W w ∧ W w ≠ 1 := by
  unfold onF at e
  by_cases z : W w = 1
  · rw [if_pos z] at e; cases e
  · rw [if_neg z] at e
    injection e with e
    exact ⟨e.symm, z⟩
theorem cel_ok {c : Int} (ws : sW S) (e : celF b n S t = .ok c) : cellP (S 0 0) (S 1 0) c ∧ c < 64 := by
  unfold celF at e
  obtain ⟨x, ex, e⟩ := exB_ok e
  obtain ⟨y, ey, e⟩ := exB_ok e
  injection e with e
  obtain ⟨-, x1, x2⟩ := num_ok ex
  obtain ⟨-, y1, y2⟩ := num_ok ey
  have := cel_m ws.1 x1 x2 y1 y2
  rw [← e]
  exact ⟨this.1, this.2.2⟩
theorem wat_ok {c : Int} (ws : sW S) (e : watF b n S t = .ok c) : cellP (S 0 0) (S 1 0) c ∧ c < 64 ∧ S 2 c = 0 := by
  unfold watF at e
  obtain ⟨x, ex, e⟩ := exB_ok e
  have a := cel_ok ws ex
  have l := ws.2.1 x a.1.1 a.2
  by_cases z : S 2 x = 1
  · rw [if_pos z] at e; cases e
  · rw [if_neg z] at e
    injection e with e
    rw [← e]
    exact ⟨a.1, a.2, by omega⟩
theorem k_sea {a : (Int → Int) × Ch × Nat} (ws : sW S) (wx : seX S W) (wi : iW S I W) (e : seaF b n W S t pl = .ok a) : sW a.2.1 ∧ seX a.2.1 a.1 ∧ iW a.2.1 I a.1 := by
  unfold seaF at e
  obtain ⟨W2, e2, e⟩ := exB_ok e
  by_cases c : W 1 = 1 ∨ W 2 = 1 ∨ W 3 = 1 ∨ W 4 = 1
  · rw [if_pos c] at e; cases e
  · rw [if_neg c] at e
    obtain ⟨x, ex, e⟩ := exB_ok e
    obtain ⟨y, ey, e⟩ := exB_ok e
    injection e with e
    obtain ⟨-, x1, x2⟩ := num_ok ex
    obtain ⟨-, y1, y2⟩ := num_ok ey
    obtain ⟨e3, -⟩ := on_ok e2
    rw [← e, e3]
    have s3 := wx.2.2.2.1 (fun z => c (by omega))
    have s4 := wx.2.2.2.2 (fun z => c (by omega))
    have i4 := wi.2.1 (fun z => c (by omega))
    have mp := (sea_mul (W := x) (H := y) ⟨x1, x2, y1, y2⟩).1
    refine ⟨⟨⟨x1, x2, y1, y2⟩, fun z z1 z2 => ws.2.1 z z1 z2, ws.2.2⟩, seX_t (W := W) ⟨?_, ?_, wx.2.2.1, wx.2.2.2.1, wx.2.2.2.2⟩, iW_t (W := W) ⟨wi.1, wi.2.1, fun i i1 i2 => absurd i2 (by omega)⟩⟩
    · show cellP x y (S 3 0)
      rw [s3]; exact ⟨by decide, by omega⟩
    · show cellP x y (S 4 0)
      rw [s4]; exact ⟨by decide, by omega⟩
theorem k_land {a : (Int → Int) × Ch × Nat} (ws : sW S) (wx : seX S W) (wi : iW S I W) (e : lanF b n W S I t pl = .ok a) : sW a.2.1 ∧ seX a.2.1 a.1 ∧ iW a.2.1 I a.1 := by
  unfold lanF at e
  by_cases c : 20 ≤ S 5 0
  · rw [if_pos c] at e; cases e
  · rw [if_neg c] at e
    obtain ⟨x, ex, e⟩ := exB_ok e
    have cp := cel_ok ws ex
    by_cases z : S 2 x = 1
    · rw [if_pos z] at e; cases e
    · rw [if_neg z] at e
      by_cases on : onL W S I x
      · rw [if_pos on] at e; cases e
      · rw [if_neg on] at e
        injection e with e
        rw [← e]
        have sl : ∀ y, (ud (ud S 2 x 1) 5 0 (S 5 0 + 1)) 2 y = if y = x then 1 else S 2 y := fun y => by simp [ud]
        have w5 := ws.2.2
        refine ⟨⟨ws.1, fun y y1 y2 => ?_, by show 0 ≤ S 5 0 + 1 ∧ S 5 0 + 1 ≤ 20; omega⟩, ⟨wx.1, wx.2.1, fun y => absurd (td_w : tdF W 1 1 = 1) y, fun y => wx.2.2.2.1 (tdN (w := 1) y), fun y => wx.2.2.2.2 (tdN (w := 1) y)⟩, wi.1, fun y => wi.2.1 (tdN (w := 1) y), fun i i1 i2 => ?_⟩
        · show (ud (ud S 2 x 1) 5 0 (S 5 0 + 1)) 2 y = 0 ∨ (ud (ud S 2 x 1) 5 0 (S 5 0 + 1)) 2 y = 1
          rw [sl]
          split
          · exact Or.inr rfl
          · exact ws.2.1 y y1 y2
        · have w := wi.2.2 i i1 i2
          refine ⟨⟨w.1.1, ?_⟩, w.2⟩
          show (ud (ud S 2 x 1) 5 0 (S 5 0 + 1)) 2 (I 2 i) = 0
          rw [sl, if_neg (fun y => on (Or.inr (Or.inr ⟨i, i1, i2, y⟩)))]
          exact w.1.2
theorem k_ship {a : (Int → Int) × Ch × Nat} (ws : sW S) (wx : seX S W) (wi : iW S I W) (e : shiF b n 2 3 W S t pl = .ok a) : sW a.2.1 ∧ seX a.2.1 a.1 ∧ iW a.2.1 I a.1 := by
  unfold shiF at e
  obtain ⟨W2, e2, e⟩ := exB_ok e
  obtain ⟨c, ec, e⟩ := exB_ok e
  injection e with e
  obtain ⟨e3, -⟩ := on_ok e2
  have cp := wat_ok ws ec
  rw [← e, e3]
  exact ⟨⟨ws.1, ws.2.1, ws.2.2⟩, ⟨cp.1, wx.2.1, fun y => wx.2.2.1 (tdN (w := 2) y), fun y => absurd (td_w : tdF W 2 2 = 1) y, fun y => wx.2.2.2.2 (tdN (w := 2) y)⟩, iW_t (W := W) wi⟩
theorem k_bah {a : (Int → Int) × Ch × Nat} (ws : sW S) (wx : seX S W) (wi : iW S I W) (e : shiF b n 3 4 W S t pl = .ok a) : sW a.2.1 ∧ seX a.2.1 a.1 ∧ iW a.2.1 I a.1 := by
  unfold shiF at e
  obtain ⟨W2, e2, e⟩ := exB_ok e
  obtain ⟨c, ec, e⟩ := exB_ok e
  injection e with e
  obtain ⟨e3, -⟩ := on_ok e2
  have cp := wat_ok ws ec
  rw [← e, e3]
  exact ⟨⟨ws.1, ws.2.1, ws.2.2⟩, ⟨wx.1, cp.1, fun y => wx.2.2.1 (tdN (w := 3) y), fun y => wx.2.2.2.1 (tdN (w := 3) y), fun y => absurd (td_w : tdF W 3 3 = 1) y⟩, iW_t (W := W) wi⟩
theorem k_isle {a : (Int → Int) × Ch × Nat} (ws : sW S) (wx : seX S W) (wi : iW S I W) (e : islF b n W S I t pl = .ok a) : seX S a.1 ∧ iW S a.2.1 a.1 := by
  unfold islF at e
  by_cases c : 3 ≤ I 0 0
  · rw [if_pos c] at e; cases e
  · rw [if_neg c] at e
    by_cases k1 : tkK b n t ≠ 1
    · rw [if_pos k1] at e; cases e
    · rw [if_neg k1] at e
      by_cases nm : nmP (I 1) (I 0 0) (tkV b n t)
      · rw [if_pos nm] at e; cases e
      · rw [if_neg nm] at e
        obtain ⟨w, ew, e⟩ := exB_ok e
        obtain ⟨x, ex, e⟩ := exB_ok e
        obtain ⟨y, ey, e⟩ := exB_ok e
        injection e with e
        obtain ⟨-, x1, x2⟩ := num_ok ex
        obtain ⟨-, y1, y2⟩ := num_ok ey
        have cp := wat_ok ws ew
        rw [← e]
        have i0 := wi.1
        refine ⟨seX_t wx, by show 0 ≤ I 0 0 + 1 ∧ I 0 0 + 1 ≤ 3; omega, fun z => absurd (td_w : tdF W 4 4 = 1) z, fun k k1 k2 => ?_⟩
        have k2' : k < I 0 0 + 1 := k2
        have u2 : (ud (ud (ud (ud (ud I 1 (I 0 0) (tkV b n t)) 2 (I 0 0) w) 3 (I 0 0) x) 4 (I 0 0) y) 0 0 (I 0 0 + 1)) 2 k = if k = I 0 0 then w else I 2 k := by simp [ud]
        have u3 : (ud (ud (ud (ud (ud I 1 (I 0 0) (tkV b n t)) 2 (I 0 0) w) 3 (I 0 0) x) 4 (I 0 0) y) 0 0 (I 0 0 + 1)) 3 k = if k = I 0 0 then x else I 3 k := by simp [ud]
        have u4 : (ud (ud (ud (ud (ud I 1 (I 0 0) (tkV b n t)) 2 (I 0 0) w) 3 (I 0 0) x) 4 (I 0 0) y) 0 0 (I 0 0 + 1)) 4 k = if k = I 0 0 then y else I 4 k := by simp [ud]
        show (cellP (S 0 0) (S 1 0) ((ud (ud (ud (ud (ud I 1 (I 0 0) (tkV b n t)) 2 (I 0 0) w) 3 (I 0 0) x) 4 (I 0 0) y) 0 0 (I 0 0 + 1)) 2 k) ∧ S 2 ((ud (ud (ud (ud (ud I 1 (I 0 0) (tkV b n t)) 2 (I 0 0) w) 3 (I 0 0) x) 4 (I 0 0) y) 0 0 (I 0 0 + 1)) 2 k) = 0) ∧ 0 ≤ (ud (ud (ud (ud (ud I 1 (I 0 0) (tkV b n t)) 2 (I 0 0) w) 3 (I 0 0) x) 4 (I 0 0) y) 0 0 (I 0 0 + 1)) 3 k ∧ (ud (ud (ud (ud (ud I 1 (I 0 0) (tkV b n t)) 2 (I 0 0) w) 3 (I 0 0) x) 4 (I 0 0) y) 0 0 (I 0 0 + 1)) 3 k ≤ 9 ∧ 1 ≤ (ud (ud (ud (ud (ud I 1 (I 0 0) (tkV b n t)) 2 (I 0 0) w) 3 (I 0 0) x) 4 (I 0 0) y) 0 0 (I 0 0 + 1)) 4 k ∧ (ud (ud (ud (ud (ud I 1 (I 0 0) (tkV b n t)) 2 (I 0 0) w) 3 (I 0 0) x) 4 (I 0 0) y) 0 0 (I 0 0 + 1)) 4 k ≤ 9
        rw [u2, u3, u4]
        by_cases kk : k = I 0 0
        · rw [if_pos kk, if_pos kk, if_pos kk]
          exact ⟨⟨cp.1, cp.2.2⟩, x1, x2, y1, y2⟩
        · rw [if_neg kk, if_neg kk, if_neg kk]
          exact wi.2.2 k k1 (by omega)
theorem k_wd : ∀ (f k : Nat) (N : Ch) (t : Nat) (a : Ch × Nat), (k ≠ 0 → N 0 0 = (k : Int)) → k ≤ 8 → (∀ j, 0 ≤ j → j < (k : Int) → 0 ≤ N 1 j ∧ N 1 j < 4) → wdF b n f k N t = .ok a → nW a.1
  | 0, k, N, t, a, kc, k8, q, e => by cases e
  | f + 1, k, N, t, a, kc, k8, q, e => by
    unfold wdF at e
    by_cases z : k = 0 ∨ tkK b n t = 3
    · rw [if_pos z] at e
      by_cases z8 : k = 8
      · rw [if_pos z8] at e; cases e
      · rw [if_neg z8] at e
        obtain ⟨v, ev, e⟩ := exB_ok e
        obtain ⟨-, v1, v2⟩ := num_ok ev
        refine k_wd f (k + 1) (ud (ud N 1 k v) 0 0 ((k : Int) + 1)) (t + 1) a (fun _ => by rw [ud_eq]; omega) (by omega) (fun j j1 j2 => ?_) e
        have u1 : (ud (ud N 1 k v) 0 0 (k + 1)) 1 j = if j = (k : Int) then v else N 1 j := by simp [ud]
        rw [u1]
        by_cases jj : j = (k : Int)
        · rw [if_pos jj]; omega
        · rw [if_neg jj]; exact q j j1 (by omega)
    · rw [if_neg z] at e
      injection e with e
      have kk := kc (fun y => z (Or.inl y))
      rw [← e]
      exact ⟨by show 0 ≤ N 0 0; omega, by show N 0 0 ≤ 8; omega, fun j j1 j2 => q j j1 (by have j3 : j < N 0 0 := j2; omega)⟩
theorem k_wind {a : (Int → Int) × Ch × Nat} (e : winF b n W N t pl = .ok a) : nW a.2.1 ∧ a.1 = tdF W 5 := by
  unfold winF at e
  obtain ⟨W2, e2, e⟩ := exB_ok e
  obtain ⟨r, er, e⟩ := exB_ok e
  injection e with e
  obtain ⟨e3, -⟩ := on_ok e2
  rw [← e]
  exact ⟨k_wd 9 0 N t r (fun z => absurd rfl z) (by omega) (fun j j1 j2 => absurd j2 (by omega)) er, e3⟩
theorem k_gale {a : Ch × Nat} (wg : gW G) (e : galF b n G t pl = .ok a) : gW a.1 := by
  unfold galF at e
  by_cases c : 4 ≤ G 0 0
  · rw [if_pos c] at e; cases e
  · rw [if_neg c] at e
    obtain ⟨x, ex, e⟩ := exB_ok e
    obtain ⟨y, ey, e⟩ := exB_ok e
    obtain ⟨z, ez, e⟩ := exB_ok e
    injection e with e
    obtain ⟨-, y1, y2⟩ := num_ok ey
    obtain ⟨-, z1, z2⟩ := num_ok ez
    rw [← e]
    have g0 := wg.1
    refine ⟨by show 0 ≤ G 0 0 + 1 ∧ G 0 0 + 1 ≤ 4; omega, fun k k1 k2 => ?_⟩
    have k2' : k < G 0 0 + 1 := k2
    have u2 : (ud (ud (ud (ud G 1 (G 0 0) x) 2 (G 0 0) y) 3 (G 0 0) z) 0 0 (G 0 0 + 1)) 2 k = if k = G 0 0 then y else G 2 k := by simp [ud]
    have u3 : (ud (ud (ud (ud G 1 (G 0 0) x) 2 (G 0 0) y) 3 (G 0 0) z) 0 0 (G 0 0 + 1)) 3 k = if k = G 0 0 then z else G 3 k := by simp [ud]
    show 0 ≤ (ud (ud (ud (ud G 1 (G 0 0) x) 2 (G 0 0) y) 3 (G 0 0) z) 0 0 (G 0 0 + 1)) 2 k ∧ (ud (ud (ud (ud G 1 (G 0 0) x) 2 (G 0 0) y) 3 (G 0 0) z) 0 0 (G 0 0 + 1)) 2 k < 4 ∧ 1 ≤ (ud (ud (ud (ud G 1 (G 0 0) x) 2 (G 0 0) y) 3 (G 0 0) z) 0 0 (G 0 0 + 1)) 3 k ∧ (ud (ud (ud (ud G 1 (G 0 0) x) 2 (G 0 0) y) 3 (G 0 0) z) 0 0 (G 0 0 + 1)) 3 k ≤ 99
    rw [u2, u3]
    by_cases kk : k = G 0 0
    · rw [if_pos kk, if_pos kk]; omega
    · rw [if_neg kk, if_neg kk]
      exact wg.2 k k1 (by omega)
theorem k_storm {a : (Int → Int) × Ch × Nat} (wt : tW T) (e : stmF b n W T t pl = .ok a) : tW a.2.1 ∧ a.1 = tdF W 7 := by
  unfold stmF at e
  obtain ⟨W2, e2, e⟩ := exB_ok e
  obtain ⟨x, ex, e⟩ := exB_ok e
  obtain ⟨y, ey, e⟩ := exB_ok e
  injection e with e
  obtain ⟨-, x1, x2⟩ := num_ok ex
  obtain ⟨-, y1, y2⟩ := num_ok ey
  obtain ⟨e3, -⟩ := on_ok e2
  rw [← e]
  exact ⟨⟨x1, x2, y1, y2, wt.2.2.2.2⟩, e3⟩
theorem k_soup {a : (Int → Int) × Ch × Nat} (wt : tW T) (e : stoF b n 8 9999 2 W T t pl = .ok a) : tW a.2.1 ∧ a.1 = tdF W 8 := by
  unfold stoF at e
  obtain ⟨W2, e2, e⟩ := exB_ok e
  obtain ⟨x, ex, e⟩ := exB_ok e
  injection e with e
  obtain ⟨-, x1, x2⟩ := num_ok ex
  obtain ⟨e3, -⟩ := on_ok e2
  rw [← e]
  exact ⟨⟨wt.1, wt.2.1, wt.2.2.1, wt.2.2.2.1, x1, x2, wt.2.2.2.2.2.2⟩, e3⟩
theorem k_seed {a : (Int → Int) × Ch × Nat} (wt : tW T) (e : stoF b n 9 99999 3 W T t pl = .ok a) : tW a.2.1 ∧ a.1 = tdF W 9 := by
  unfold stoF at e
  obtain ⟨W2, e2, e⟩ := exB_ok e
  obtain ⟨x, ex, e⟩ := exB_ok e
  injection e with e
  obtain ⟨-, x1, x2⟩ := num_ok ex
  obtain ⟨e3, -⟩ := on_ok e2
  rw [← e]
  exact ⟨⟨wt.1, wt.2.1, wt.2.2.1, wt.2.2.2.1, wt.2.2.2.2.1, wt.2.2.2.2.2.1, x1, x2⟩, e3⟩
theorem k_wr {R : Nat → Int} {a : (Nat → Int) × Nat} (q : rW7 R) (e : wrF b n w R t = .ok a) : rW7 a.1 ∧ a.1 1 = R 1 ∧ a.1 2 = R 2 := by
  obtain ⟨q1, q2, q3, q4, q5, q6⟩ := q
  unfold wrF at e
  by_cases w15 : w = 15
  · rw [if_pos w15] at e
    unfold sicF at e
    obtain ⟨x, ex, e⟩ := exB_ok e
    obtain ⟨y, ey, e⟩ := exB_ok e
    injection e with e
    obtain ⟨-, x1, x2⟩ := num_ok ex
    obtain ⟨-, y1, y2⟩ := num_ok ey
    rw [← e]
    exact ⟨⟨q1, q2, by show -1 ≤ y; omega, y2, q5, q6⟩, rfl, rfl⟩
  · rw [if_neg w15] at e
    by_cases w16 : w = 16
    · rw [if_pos w16] at e
      unfold losF at e
      obtain ⟨x, ex, e⟩ := exB_ok e
      injection e with e
      obtain ⟨-, x1, x2⟩ := num_ok ex
      rw [← e]
      exact ⟨⟨q1, q2, q3, q4, x1, x2⟩, rfl, rfl⟩
    · rw [if_neg w16] at e
      by_cases w13 : w = 13
      · rw [if_pos w13] at e
        unfold froF at e
        obtain ⟨x, ex, e⟩ := exB_ok e
        injection e with e
        obtain ⟨-, x1, x2⟩ := num_ok ex
        rw [← e]
        exact ⟨⟨x1, q2, q3, q4, q5, q6⟩, rfl, rfl⟩
      · rw [if_neg w13] at e
        unfold tilF at e
        obtain ⟨x, ex, e⟩ := exB_ok e
        injection e with e
        obtain ⟨-, x1, x2⟩ := num_ok ex
        rw [← e]
        exact ⟨⟨q1, x2, q3, q4, q5, q6⟩, rfl, rfl⟩
theorem k_rs : ∀ (f : Nat) (hd : Int → Int) (R : Nat → Int) (t : Nat) (a : (Nat → Int) × Nat), rW7 R → rsF b n f hd R t = .ok a → rW7 a.1 ∧ a.1 1 = R 1 ∧ a.1 2 = R 2
  | 0, hd, R, t, a, q, e => by cases e
  | f + 1, hd, R, t, a, q, e => by
    unfold rsF at e
    by_cases z : 13 ≤ kyT b n t ∧ kyT b n t ≤ 16
    · rw [if_pos z] at e
      by_cases y : hd (kyT b n t) = 1
      · rw [if_pos y] at e; cases e
      · rw [if_neg y] at e
        obtain ⟨r, er, e⟩ := exB_ok e
        have a1 := k_wr q er
        have a2 := k_rs f _ r.1 r.2 a a1.1 e
        exact ⟨a2.1, a2.2.1.trans a1.2.1, a2.2.2.trans a1.2.2⟩
    · rw [if_neg z] at e
      injection e with e
      rw [← e]
      exact ⟨q, rfl, rfl⟩
theorem k_mouth {y : Bool} {a : Mr} (wm : mW M o) (wo : oW o k) (e : mouF b n y M o k t pl = .ok a) : mW a.1 a.2.1 ∧ oW a.2.1 a.2.2.1 := by
  unfold mouF at e
  by_cases fu : (if y = true then 4 ≤ M 1 0 else 5 ≤ M 0 0)
  · rw [if_pos fu] at e; cases e
  · rw [if_neg fu] at e
    by_cases k1 : tkK b n t ≠ 1
    · rw [if_pos k1] at e; cases e
    · rw [if_neg k1] at e
      by_cases cr : crP M (tkV b n t)
      · rw [if_pos cr] at e; cases e
      · rw [if_neg cr] at e
        obtain ⟨p, ep, e⟩ := exB_ok e
        obtain ⟨od, eo, e⟩ := exB_ok e
        obtain ⟨r, er, e⟩ := exB_ok e
        obtain ⟨q, eq, e⟩ := exB_ok e
        injection e with e
        obtain ⟨-, p1, p2⟩ := num_ok ep
        obtain ⟨rw7, r1, r2⟩ := k_rs 5 _ _ _ _ (⟨by show (0 : Int) ≤ 0; decide, by show (59 : Int) ≤ 59; decide, by show (-1 : Int) ≤ -1; decide, by show (-1 : Int) ≤ 59; decide, by show (1 : Int) ≤ 99; decide, by show (99 : Int) ≤ 99; decide⟩ : rW7 (mR (tkV b n t) p od.1)) er
        have r1' : r.1 1 = p := r1
        have r2' : r.1 2 = od.1 := r2
        obtain ⟨⟨g, g1, g2, g3⟩, l1, l2⟩ := run_ok (o0 := o) 801 o [] r.2 true k 0 q ⟨[], rfl, rfl, fun e he => (by cases he), trivial⟩ (by show o.length + 0 ≤ k; exact wo.1) wo.2.1 rfl eq
        have lg : q.1.length = g.length + o.length := by rw [g1, List.length_append]
        have m0 := wm.1
        obtain ⟨q1, q2, q3, q4, q5, q6⟩ := rw7
        have eM : ∀ f : Nat, MU y M (ur (ur r.1 8 (o.length : Int)) 9 (q.1.length : Int)) (f + 2) (slM y M) = ur (ur r.1 8 (o.length : Int)) 9 (q.1.length : Int) f := by
          intro f
          unfold MU
          rw [if_neg (by omega), if_neg (by omega), if_pos rfl, Nat.add_sub_cancel]
        have eO : ∀ (f : Nat) (x : Int), 2 ≤ f → x ≠ slM y M → MU y M (ur (ur r.1 8 (o.length : Int)) 9 (q.1.length : Int)) f x = M f x := by
          intro f x hf hx
          unfold MU
          rw [if_neg (by omega), if_neg (by omega), if_neg hx]
        have th : ∀ x, thM (MU y M (ur (ur r.1 8 (o.length : Int)) 9 (q.1.length : Int))) x → x ≠ slM y M → thM M x := by
          intro x
          unfold thM MU slM
          cases y with
          | true =>
            show ((0 ≤ x ∧ x < M 0 0) ∨ (5 ≤ x ∧ x < 5 + (M 1 0 + 1))) → ¬ x = 5 + M 1 0 → _
            omega
          | false =>
            show ((0 ≤ x ∧ x < M 0 0 + 1) ∨ (5 ≤ x ∧ x < 5 + M 1 0)) → ¬ x = M 0 0 → _
            omega
        rw [← e]
        refine ⟨⟨?_, fun x hx => ?_, fun x x1 x2 => ?_⟩, l1, l2, fun e he => ?_⟩
        · cases y with
          | true =>
            have fu' : ¬ 4 ≤ M 1 0 := fu
            show 0 ≤ M 0 0 ∧ M 0 0 ≤ 5 ∧ 0 ≤ M 1 0 + 1 ∧ M 1 0 + 1 ≤ 4
            omega
          | false =>
            have fu' : ¬ 5 ≤ M 0 0 := fu
            show 0 ≤ M 0 0 + 1 ∧ M 0 0 + 1 ≤ 5 ∧ 0 ≤ M 1 0 ∧ M 1 0 ≤ 4
            omega
        · by_cases xs : x = slM y M
          · rw [xs]
            show mW1 (MU y M (ur (ur r.1 8 (o.length : Int)) 9 (q.1.length : Int))) q.1 (slM y M)
            unfold mW1
            rw [eM 1, eM 3, eM 4, eM 6, eM 7, eM 8, eM 9]
            refine ⟨by show 0 ≤ r.1 1; omega, by show r.1 1 ≤ 9; omega, q1, q2, q3, q4, q5, q6, by show (0 : Int) ≤ (o.length : Int); omega, by show (o.length : Int) ≤ (q.1.length : Int); omega, by show (q.1.length : Int) ≤ (q.1.length : Int); omega, ?_⟩
            show vd (cC q.1) ((q.1.length : Int) - (o.length : Int)).toNat (o.length : Int) 0 = some 1
            rw [show ((q.1.length : Int) - (o.length : Int)).toNat = g.length by omega, g1, cC_vd, g2]
          · have w := wm.2.1 x (th x hx xs)
            show mW1 (MU y M (ur (ur r.1 8 (o.length : Int)) 9 (q.1.length : Int))) q.1 x
            unfold mW1 at w ⊢
            rw [eO 3 x (by decide) xs, eO 5 x (by decide) xs, eO 6 x (by decide) xs, eO 8 x (by decide) xs, eO 9 x (by decide) xs, eO 10 x (by decide) xs, eO 11 x (by decide) xs]
            obtain ⟨a1, a2, a3, a4, a5, a6, a7, a8, a9, a10, a11, a12⟩ := w
            refine ⟨a1, a2, a3, a4, a5, a6, a7, a8, a9, a10, by omega, ?_⟩
            rw [← a12]
            refine vd_c _ _ _ (fun j j1 j2 => ?_)
            rw [g1]
            exact cC_old (by omega) (by omega)
        · cases y with
          | true =>
            have fu' : ¬ 4 ≤ M 1 0 := fu
            have x2' : x < 5 + (M 1 0 + 1) := x2
            by_cases xs : x = slM true M
            · have oo : 1 ≤ od.1 ∧ od.1 ≤ 99 := by
                have eo' : oddF b n (t + 2) = .ok od := eo
                unfold oddF at eo'
                by_cases z : kyT b n (t + 2) = 12
                · rw [if_pos z] at eo'
                  obtain ⟨v, ev, e4⟩ := exB_ok eo'
                  injection e4 with e4
                  obtain ⟨-, v1, v2⟩ := num_ok ev
                  rw [← e4]; exact ⟨v1, v2⟩
                · rw [if_neg z] at eo'; cases eo'
              rw [xs]
              show 1 ≤ MU true M (ur (ur r.1 8 (o.length : Int)) 9 (q.1.length : Int)) 4 (slM true M) ∧ MU true M (ur (ur r.1 8 (o.length : Int)) 9 (q.1.length : Int)) 4 (slM true M) ≤ 99
              rw [eM 2]
              show 1 ≤ r.1 2 ∧ r.1 2 ≤ 99
              omega
            · have xs' : x ≠ 5 + M 1 0 := xs
              show 1 ≤ MU true M (ur (ur r.1 8 (o.length : Int)) 9 (q.1.length : Int)) 4 x ∧ MU true M (ur (ur r.1 8 (o.length : Int)) 9 (q.1.length : Int)) 4 x ≤ 99
              rw [eO 4 x (by decide) xs]
              exact wm.2.2 x x1 (by omega)
          | false =>
            have fu' : ¬ 5 ≤ M 0 0 := fu
            have x2' : x < 5 + M 1 0 := x2
            have xs : x ≠ slM false M := by show x ≠ M 0 0; omega
            show 1 ≤ MU false M (ur (ur r.1 8 (o.length : Int)) 9 (q.1.length : Int)) 4 x ∧ MU false M (ur (ur r.1 8 (o.length : Int)) 9 (q.1.length : Int)) 4 x ≤ 99
            rw [eO 4 x (by decide) xs]
            exact wm.2.2 x x1 x2'
        · have he' : e ∈ q.1 := he
          rw [g1] at he'
          rcases List.mem_append.mp he' with z | z
          · exact g3 e z
          · exact wo.2.2 e z
/-- a line keeps all of it -/
theorem k_line {a : Dr × Nat} (q : DW D) (e : lnF b n D t = .ok a) : DW a.1 := by
  unfold lnF at e
  obtain ⟨r, er, e⟩ := exB_ok e
  have e1 : a.1 = r.1 := by
    unfold enF at e
    obtain ⟨t2, -, e⟩ := exB_ok e
    injection e with e
    rw [← e]
  rw [e1]
  obtain ⟨qS, qX, qI, qN, qG, qT, qM, qO⟩ := q
  unfold bodF at er
  by_cases e0 : kyT b n t = 0
  · rw [if_pos e0] at er
    obtain ⟨u, ez, er⟩ := exB_ok er
    injection er with er
    rw [← er]
    have z := k_sea qS qX qI ez
    exact ⟨z.1, z.2.1, z.2.2, qN, qG, qT, qM, qO⟩
  · rw [if_neg e0] at er
    by_cases e1 : kyT b n t = 1
    · rw [if_pos e1] at er
      obtain ⟨u, ez, er⟩ := exB_ok er
      injection er with er
      rw [← er]
      have z := k_land qS qX qI ez
      exact ⟨z.1, z.2.1, z.2.2, qN, qG, qT, qM, qO⟩
    · rw [if_neg e1] at er
      by_cases e2 : kyT b n t = 2
      · rw [if_pos e2] at er
        obtain ⟨u, ez, er⟩ := exB_ok er
        injection er with er
        rw [← er]
        have z := k_ship qS qX qI ez
        exact ⟨z.1, z.2.1, z.2.2, qN, qG, qT, qM, qO⟩
      · rw [if_neg e2] at er
        by_cases e3 : kyT b n t = 3
        · rw [if_pos e3] at er
          obtain ⟨u, ez, er⟩ := exB_ok er
          injection er with er
          rw [← er]
          have z := k_bah qS qX qI ez
          exact ⟨z.1, z.2.1, z.2.2, qN, qG, qT, qM, qO⟩
        · rw [if_neg e3] at er
          by_cases e4 : kyT b n t = 4
          · rw [if_pos e4] at er
            obtain ⟨u, ez, er⟩ := exB_ok er
            injection er with er
            rw [← er]
            have z := k_isle qS qX qI ez
            exact ⟨qS, z.1, z.2, qN, qG, qT, qM, qO⟩
          · rw [if_neg e4] at er
            by_cases e5 : kyT b n t = 5
            · rw [if_pos e5] at er
              obtain ⟨u, ez, er⟩ := exB_ok er
              injection er with er
              rw [← er]
              have z := k_wind ez
              exact ⟨qS, by show seX (dS D) u.1; rw [z.2]; exact seX_t qX, by show iW (dS D) (dI D) u.1; rw [z.2]; exact iW_t qI, z.1, qG, qT, qM, qO⟩
            · rw [if_neg e5] at er
              by_cases e6 : kyT b n t = 6
              · rw [if_pos e6] at er
                obtain ⟨u, ez, er⟩ := exB_ok er
                injection er with er
                rw [← er]
                have z := k_gale qG ez
                exact ⟨qS, qX, qI, qN, z, qT, qM, qO⟩
              · rw [if_neg e6] at er
                by_cases e7 : kyT b n t = 7
                · rw [if_pos e7] at er
                  obtain ⟨u, ez, er⟩ := exB_ok er
                  injection er with er
                  rw [← er]
                  have z := k_storm qT ez
                  exact ⟨qS, by show seX (dS D) u.1; rw [z.2]; exact seX_t qX, by show iW (dS D) (dI D) u.1; rw [z.2]; exact iW_t qI, qN, qG, z.1, qM, qO⟩
                · rw [if_neg e7] at er
                  by_cases e8 : kyT b n t = 8
                  · rw [if_pos e8] at er
                    obtain ⟨u, ez, er⟩ := exB_ok er
                    injection er with er
                    rw [← er]
                    have z := k_soup qT ez
                    exact ⟨qS, by show seX (dS D) u.1; rw [z.2]; exact seX_t qX, by show iW (dS D) (dI D) u.1; rw [z.2]; exact iW_t qI, qN, qG, z.1, qM, qO⟩
                  · rw [if_neg e8] at er
                    by_cases e9 : kyT b n t = 9
                    · rw [if_pos e9] at er
                      obtain ⟨u, ez, er⟩ := exB_ok er
                      injection er with er
                      rw [← er]
                      have z := k_seed qT ez
                      exact ⟨qS, by show seX (dS D) u.1; rw [z.2]; exact seX_t qX, by show iW (dS D) (dI D) u.1; rw [z.2]; exact iW_t qI, qN, qG, z.1, qM, qO⟩
                    · rw [if_neg e9] at er
                      by_cases e10 : kyT b n t = 10
                      · rw [if_pos e10] at er
                        obtain ⟨u, ez, er⟩ := exB_ok er
                        injection er with er
                        rw [← er]
                        have z := k_mouth qM qO ez
                        exact ⟨qS, qX, qI, qN, qG, qT, z.1, z.2⟩
                      · rw [if_neg e10] at er
                        by_cases e11 : kyT b n t = 11
                        · rw [if_pos e11] at er
                          obtain ⟨u, ez, er⟩ := exB_ok er
                          injection er with er
                          rw [← er]
                          have z := k_mouth qM qO ez
                          exact ⟨qS, qX, qI, qN, qG, qT, z.1, z.2⟩
                        · rw [if_neg e11] at er
                          cases er
end
