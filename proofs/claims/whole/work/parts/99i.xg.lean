/-! THE JUDGEMENT WITH ANY END -/
abbrev Zp : Type := List Frame → Array Value → State → State → Prop
def Xg (tb : List ExceptionTableEntry) (E : xE) (M : Mth) (d : Nat) (B u : Nat × Nat) (pc : Nat) (ls : List (Option Av)) (st : List Av) (h : Hp) (Z : Zp) : Prop :=
  Wf E.1 h → (∀ v ∈ st, vok h v) → (∀ v, some v ∈ ls → vok h v) → (∀ (r : Nat) (i : Int) (a : Nat), E.2.2 r i = some a → h.2.2 r i = some a) →
  ∀ (p : Program) (e : Env) (s : State) (m : MethodId) (args : Array Value) (below : List Frame) (meth : Method) (c : Code) (H : Heap) (locs : List Loc) (L : Array Slot),
    Cx E.1 M p s m args meth c → c.exceptionTable.toList = tb → Rep E.1 h H → va_S (wA E.1) s.heap H locs → Lh h L (mNL M) ls →
    W p E.2.1 e (rmo d B) s m args below meth c H locs u.1 u.2 (Z below args s) (F0 m pc L (st.map (cv h)))
section
variable {tb : List ExceptionTableEntry} {E : xE} {M : Mth} {d : Nat} {B u : Nat × Nat} {pc b : Nat} {ls ls' ls2 : List (Option Av)} {st : List Av} {h : Hp} {Q : Zp}
/-- the end of a method that may throw: it returns, with Q1, or throws as XC says -/
def Zx (E : xE) (B : Nat × Nat) (Q1 : Option Av → Hp → Prop) (XC : String → State → State → Prop) : Zp := fun below args s => vx_MQ below (Qm E.1 E.2.2 Q1) XC args s B.1 B.2 (wA E.1)
theorem xg_of {Q1 : Option Av → Hp → Prop} {XC : String → State → State → Prop} (k : X E M d B u pc ls st h Q1) : Xg tb E M d B u pc ls st h (Zx E B Q1 XC) :=
  fun wf ho hl hx p e2 s m args below meth c H locs L C _ hR hS hL => vx_ret (k wf ho hl hx p e2 s m args below meth c H locs L C hR hS hL)
theorem xg_aload_n {j : Fin 4} {i r : Nat} {n : Int} (hd : decode (mCC M) pc = .ok (.aload_n j, 1)) (hj : (j : Nat) = i) (hi : ls[i]? = some (some (xr r n))) (hb : pc + 1 = b) (k : Xg tb E M d B u b ls (xr r n :: st) h Q) : Xg tb E M d B u pc ls (st) h Q := by
  subst hb
  intro wf ho hl hx p e s m args below meth c H locs L C hN hR hS hL
  have hC := C
  obtain ⟨c1, c2, c3, c4, c5, c6, c7, c8, c9⟩ := C
  have hv := hl _ (List.mem_of_getElem? hi)
  obtain ⟨a, ha⟩ := hv _ rfl
  have h2 := hL.2.2 _ _ hi
  have e1 : cv h (xr r n) = .ref a := by simp [cv, xoa, ha, va_rf]
  rw [e1] at h2
  have kk := k wf (List.forall_mem_cons.mpr ⟨hl _ (List.mem_of_getElem? hi), ho⟩) hl hx p e s m args below meth c H locs L hC hN hR hS hL
  rw [List.map_cons, e1] at kk
  exact lv_aload_n c1 c2 hd hj h2 kk
theorem xg_iload_n {j : Fin 4} {i : Nat} {x : Int} (hd : decode (mCC M) pc = .ok (.iload_n j, 1)) (hj : (j : Nat) = i) (hi : ls[i]? = some (some (xi x))) (hb : pc + 1 = b) (k : Xg tb E M d B u b ls (xi x :: st) h Q) : Xg tb E M d B u pc ls (st) h Q := by
  subst hb
  intro wf ho hl hx p e s m args below meth c H locs L C hN hR hS hL
  have hC := C
  obtain ⟨c1, c2, c3, c4, c5, c6, c7, c8, c9⟩ := C
  exact lv_iload_n c1 c2 hd hj (hL.2.2 _ _ hi) (k wf (List.forall_mem_cons.mpr ⟨hl _ (List.mem_of_getElem? hi), ho⟩) hl hx p e s m args below meth c H locs L hC hN hR hS hL)
theorem xg_iconst {n : Int} (hd : decode (mCC M) pc = .ok (.iconst n, 1)) (hn : -2147483648 ≤ n ∧ n < 2147483648) (hb : pc + 1 = b) (k : Xg tb E M d B u b ls (xi n :: st) h Q) : Xg tb E M d B u pc ls (st) h Q := by
  subst hb
  intro wf ho hl hx p e s m args below meth c H locs L C hN hR hS hL
  have hC := C
  obtain ⟨c1, c2, c3, c4, c5, c6, c7, c8, c9⟩ := C
  exact lv_iconst c1 c2 hd rfl (k wf (List.forall_mem_cons.mpr ⟨hn, ho⟩) hl hx p e s m args below meth c H locs L hC hN hR hS hL)
theorem xg_if_ne {x : Int} {off : Int} {tgt : Nat} (hd : decode (mCC M) pc = .ok (.ifCond .ne off, 3)) (ht : (pc : Int) + off = (tgt : Int)) (hb : pc + 3 = b) (kt : ¬ x = 0 → Xg tb E M d B u tgt ls st h Q) (kf : x = 0 → Xg tb E M d B u b ls st h Q) : Xg tb E M d B u pc ls (xi x :: st) h Q := by
  subst hb
  intro wf ho hl hx p e s m args below meth c H locs L C hN hR hS hL
  have hC := C
  obtain ⟨c1, c2, c3, c4, c5, c6, c7, c8, c9⟩ := C
  have h1 : vok h (xi x) := ho _ List.mem_cons_self
  have h2 := v_0
  have hi := not_congr (i3_eq h1 h2)
  exact lv_if_ne c1 c2 hd ht (fun q => kt (hi.mp q) wf (fun v hv => ho v (List.mem_cons_of_mem _ hv)) hl hx p e s m args below meth c H locs L hC hN hR hS hL) (fun q => kf ((i3_eq h1 h2).mp q) wf (fun v hv => ho v (List.mem_cons_of_mem _ hv)) hl hx p e s m args below meth c H locs L hC hN hR hS hL)
theorem xg_tableOut {dflt lo hi x : Int} {offs : Array Int} {len tgt : Nat} (hd : decode (mCC M) pc = .ok (.tableswitch dflt lo hi offs, len)) (hv : x < lo ∨ hi < x) (ht : (pc : Int) + dflt = (tgt : Int)) (k : Xg tb E M d B u tgt ls st h Q) : Xg tb E M d B u pc ls (xi x :: st) h Q := by
  intro wf ho hl hx p e s m args below meth c H locs L C hN hR hS hL
  have hC := C
  obtain ⟨c1, c2, c3, c4, c5, c6, c7, c8, c9⟩ := C
  have h1 : vok h (xi x) := ho _ List.mem_cons_self
  exact lv_tableOut c1 c2 hd (by rw [i3_of h1]; exact hv) ht (k wf (fun v hv => ho v (List.mem_cons_of_mem _ hv)) hl hx p e s m args below meth c H locs L hC hN hR hS hL)
theorem xg_getR {idx r k : Nat} {ft : FieldType} {fin : Bool} {i : Int} {v : Option (Nat × Int)} (hf : Fk (mOwn M) idx r k ft fin) (hd : decode (mCC M) pc = .ok (.getfield idx, 3)) (hk : xkd r k = 4) (hv : gR h r i k = v) (hb : pc + 3 = b) (kk : Xg tb E M d B u b ls (xo v :: st) h Q) : Xg tb E M d B u pc ls (xr r i :: st) h Q := by
  subst hb
  subst hv
  intro wf ho hl hx p e s m args below meth c H locs L C hN hR hS hL
  have hC := C
  obtain ⟨c1, c2, c3, c4, c5, c6, c7, c8, c9⟩ := C
  obtain ⟨C, T, N, ty0, f1, f2, f3, f4, f5, f6, f7, f8, f9, f10, f11⟩ := hf
  obtain ⟨a, ha, e1⟩ := ref_at (ho _ List.mem_cons_self)
  obtain ⟨g1, g2⟩ := hR.1 r i a (by omega) ha
  rw [cel_o f2] at g2
  have hvv : vok h (xo (gR h r i k)) := fun q hq => wf.2.2.1 r i k q hq
  have es : slv h r i k = cv h (xo (gR h r i k)) := by
    unfold slv
    rw [if_pos hk]
    rfl
  rw [List.map_cons, e1]
  refine va_get (ws := [(a, .inr (r, (List.range (xnf r)).map (slv h r i)))]) (v := cv h (xo (gR h r i k))) c1 c2 c7 f5 c5 c8.1 (w_one g2) 0 rfl f1 k f3 (c7 _ f6) (fun _ h9 => h9) (by rw [slv_get f4 f3, es]) hd ?_
  exact kk wf (List.forall_mem_cons.mpr ⟨hvv, fun v hv => ho v (List.mem_cons_of_mem _ hv)⟩) hl hx p e s m args below meth c H locs L hC hN hR hS hL
theorem xg_getL {idx r k : Nat} {ft : FieldType} {fin : Bool} {i j : Int} {t : Nat × Int × Bool} (hf : Fk (mOwn M) idx r k ft fin) (hd : decode (mCC M) pc = .ok (.getfield idx, 3)) (hk : xkd r k = 4) (hL : Lay h) (ht : xtg r k = some t) (hj : (if t.2.2 then i else t.2.1) = j) (hb : pc + 3 = b) (kk : Xg tb E M d B u b ls (xr t.1 j :: st) h Q) : Xg tb E M d B u pc ls (xr r i :: st) h Q := by
  intro wf ho hl
  have hv : vok h (xr r i) := ho _ List.mem_cons_self
  obtain ⟨a, ha⟩ := hv _ rfl
  refine xg_getR hf hd hk (v := some (t.1, j)) ?_ hb kk wf ho hl
  subst hj
  exact hL r k i a t ha ht
theorem xg_callV {M2 : Mth} {B2 : Nat × Nat} {as rest : List Av} {r idx n : Nat} {i : Int} {Q2 : Option Av → Hp → Prop} (hs : Sp M2 d B2 (xr r i :: as) h Q2) (hd : decode (mCC M) pc = .ok (.invokevirtual idx, 3)) (hw : CwV (mOwn M) idx M2 n) (hc : ∃ (T : u_T) (N : Nat), vwCl[r]? = some ((mY M2).cls, T, N) ∧ r < 13) (hst : st = as.reverse ++ xr r i :: rest) (hn : as.length = n) (hcat : (rest.map wid).sum ≤ 8) (hB : u.1 + B2.1 ≤ B.1 ∧ u.2 + B2.2 ≤ B.2) (hb : pc + 3 = b)
    (k : ∀ (rv : Option Av) (h2 : Hp), Q2 rv h2 → (∀ (r : Nat) (i : Int) (a : Nat), h.2.2 r i = some a → h2.2.2 r i = some a) → Xg tb E M (d + 1) B (u.1 + B2.1, u.2 + B2.2) b ls (rv.toList ++ rest) h2 Q) : Xg tb E M (d + 1) B u pc ls st h Q := by
  subst hb
  subst hst
  intro wf ho hl hx p e s m args below meth c H locs L C hN hR hS hL
  have hC := C
  obtain ⟨c1, c2, c3, c4, c5, c6, c7, c8, c9⟩ := C
  obtain ⟨T, N, hc1, hc2⟩ := hc
  have hrv : vok h (xr r i) := ho _ (List.mem_append_right _ List.mem_cons_self)
  obtain ⟨a, ha, e1⟩ := ref_at hrv
  obtain ⟨g1, g2⟩ := hR.1 r i a (by omega) ha
  rw [cel_o hc2] at g2
  have hav : ∀ v ∈ xr r i :: as, vok h v := by
    intro v hv
    rcases List.mem_cons.mp hv with q | q
    · rw [q]; exact hrv
    · exact ho v (List.mem_append_left _ (List.mem_reverse.mpr q))
  have hor : ∀ v ∈ rest, vok h v := fun v hv => ho v (List.mem_append_right _ (List.mem_cons_of_mem _ hv))
  have hMet := hs E.1 E.2.1 wf hav
  rw [List.map_cons, e1] at hMet
  obtain ⟨⟨w1, w2, w3, w4, w5⟩, w6, w7⟩ := hw
  have hG : GoodIn Gw (wsV (mOwn M) idx (mY M2).cls (mY M2) (mWs M2)) := by
    refine gw_in (fun w hw => ?_)
    rcases List.mem_append.mp hw with q | q
    · simp only [List.mem_cons, List.not_mem_nil, or_false] at q
      rcases q with q | q | q | q <;> rw [q] <;> assumption
    · exact gw_ws w3 w q
  have cw := cwV (R := rmo (d + 1) B) (bytes := mCC M2) (maxL := mNL M2) (ret := mRet M2) (rm := rmo d B2) (mc := B2.1) (ms := B2.2) n c7 hG rfl rfl rfl ⟨rfl, w4⟩ ⟨Nat.le_refl _, by show 8 + (mNL M2 + 11) + 64 * d ≤ 64 * (d + 1); omega⟩
  have run := va_runV (l := E.2.1) (e := e) (below := below) (meth := meth) (H := H) (locs := locs) (cells := u.1) (slots := u.2) (As := as.map (cv h)) (rest := rest.map (cv h)) (g := F0 m pc L ((as.reverse ++ xr r i :: rest).map (cv h))) ⟨c1, c2, c4, c5, c7⟩ hMet cw
    ⟨fun a2 U g mk q => ⟨q.1, q.2.1, Kx_blind q.2.2 rfl rfl⟩, va_recv c8.1 (w_one g2) hc1 (q0 := 0) rfl, fun U hU hW => ⟨rfl, by rw [hU]; exact hR, Kx_call c8 hS hU hW⟩⟩ rfl (by rw [List.length_map]; exact hn) hL.1 (by simp [e1]) (lv_room (by rw [wid_sum]; exact hcat)) hd hB
  exact x_behind wf hor hl hx hC hS hL run (fun rv h2 H1 locs1 z1 z2 z3 z4 z5 z6 z7 z8 z9 => k rv h2 z1 z2 z3 z4 z5 z6 p e s m args below meth c H1 locs1 L hC hN z7 z8 z9)
end
