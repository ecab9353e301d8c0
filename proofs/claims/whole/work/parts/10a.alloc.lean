/-! THE LAYER, 9a: new cells. A cell that isn't there yet holds nothing -/
/-- the cell r, i is made: it lies at the machine's end -/
def alA (h : Hp) (r : Nat) (i : Int) : Hp := (fun r' i' k' => if r' = 999 ∧ i' = 0 ∧ k' = 0 then h.1 999 0 0 + 1 else h.1 r' i' k', h.2.1, fun r' i' => if r' = r ∧ i' = i then some (h.1 999 0 0).toNat else h.2.2 r' i')
def blk (h : Hp) (r : Nat) (i : Int) : Prop := h.2.2 r i = none ∧ (∀ k, h.1 r i k = 0) ∧ ∀ k, h.2.1 r i k = none
theorem alA_1 {h : Hp} {r r' : Nat} {i i' k' : Int} (hr : r' ≠ 999) : (alA h r i).1 r' i' k' = h.1 r' i' k' := by
  show (if r' = 999 ∧ i' = 0 ∧ k' = 0 then h.1 999 0 0 + 1 else h.1 r' i' k') = _
  rw [if_neg (fun q => hr q.1)]
theorem alA_x {h : Hp} {r : Nat} {i : Int} (hn : h.2.2 r i = none) {r' : Nat} {i' : Int} {a : Nat} (ha : h.2.2 r' i' = some a) : (alA h r i).2.2 r' i' = some a := by
  show (if r' = r ∧ i' = i then some (h.1 999 0 0).toNat else h.2.2 r' i') = _
  rw [if_neg (fun q => by rw [q.1, q.2, hn] at ha; cases ha)]
  exact ha
theorem xoa_al {w : wk} {h : Hp} {r : Nat} {i : Int} (wf : Wf w h) (hn : h.2.2 r i = none) {r' : Nat} {i' k : Int} : xoa (alA h r i) (h.2.1 r' i' k) = xoa h (h.2.1 r' i' k) := by
  cases hq : h.2.1 r' i' k with
  | none => rfl
  | some q =>
    obtain ⟨a, ha⟩ := wf.2.2.1 r' i' k q hq
    show (alA h r i).2.2 q.1 q.2 = h.2.2 q.1 q.2
    rw [ha, alA_x hn ha]
theorem cel_al {w : wk} {y : Nat → ClassId} {h : Hp} {r r' : Nat} {i i' : Int} (wf : Wf w h) (hn : h.2.2 r i = none) (hr : r' < 900) : cel y (alA h r i) r' i' = cel y h r' i' := by
  have e1 : ∀ k', (alA h r i).1 r' i' k' = h.1 r' i' k' := fun k' => alA_1 (by omega)
  have e3 : ∀ k', xoa (alA h r i) ((alA h r i).2.1 r' i' k') = xoa h (h.2.1 r' i' k') := fun k' => xoa_al wf hn
  have e2 : slv (alA h r i) r' i' = slv h r' i' := by
    funext j
    unfold slv
    rw [e1, e3]
  unfold cel
  rw [e2]
  simp only [e1, e3]
theorem wf_al {w : wk} {h : Hp} {H : Heap} {r : Nat} {i : Int} (wf : Wf w h) (hR : Rep w h H) (hb : blk h r i) (hr : r < 900) : Wf w (alA h r i) := by
  have hz : (h.1 999 0 0).toNat = H.size := by rw [hR.2]; omega
  have key : ∀ (r' : Nat) (i' : Int) (a : Nat), r' < 900 → (alA h r i).2.2 r' i' = some a → (r' = r ∧ i' = i ∧ a = H.size) ∨ (h.2.2 r' i' = some a ∧ a < H.size) := by
    intro r' i' a hr' ha
    by_cases q : r' = r ∧ i' = i
    · have : (if r' = r ∧ i' = i then some (h.1 999 0 0).toNat else h.2.2 r' i') = some a := ha
      rw [if_pos q, hz] at this
      exact Or.inl ⟨q.1, q.2, (Option.some.inj this).symm⟩
    · have : (if r' = r ∧ i' = i then some (h.1 999 0 0).toNat else h.2.2 r' i') = some a := ha
      rw [if_neg q] at this
      exact Or.inr ⟨this, ((hR.1 r' i' a hr' this).2).lt⟩
  refine ⟨?_, fun r' i' k' hr' => ?_, fun r' i' k' q hq => ?_, ?_⟩
  · intro r1 r2 i1 i2 a h1 h2 ha1 ha2
    rcases key _ _ _ h1 ha1 with ⟨e1, e2, e3⟩ | ⟨e1, e2⟩ <;> rcases key _ _ _ h2 ha2 with ⟨f1, f2, f3⟩ | ⟨f1, f2⟩
    · exact ⟨e1.trans f1.symm, e2.trans f2.symm⟩
    · omega
    · omega
    · exact wf.1 _ _ _ _ _ h1 h2 e1 f1
  · rw [alA_1 (by omega)]
    exact wf.2.1 r' i' k' hr'
  · obtain ⟨a, ha⟩ := wf.2.2.1 r' i' k' q hq
    exact ⟨a, alA_x hb.1 ha⟩
  · obtain ⟨a1, a2, a3, a4, a5, a6⟩ := wf.2.2.2
    exact ⟨alA_x hb.1 a1, alA_x hb.1 a2, alA_x hb.1 a3, alA_x hb.1 a4, alA_x hb.1 a5, alA_x hb.1 a6⟩
theorem rep_al {w : wk} {h : Hp} {H H1 : Heap} {r : Nat} {i : Int} (wf : Wf w h) (hR : Rep w h H) (hb : blk h r i) (hr : r < 900) (hn0 : wn0 w ≤ H.size) (h1 : va_at w.1 vwCl (H.size, cel w.2.1 h r i) H1) (z1 : H1.size = H.size + 1) (o1 : ∀ q : Nat, q < H.size → H1[q]? = H[q]?) : Rep w (alA h r i) H1 := by
  have hz : (h.1 999 0 0).toNat = H.size := by rw [hR.2]; omega
  refine ⟨fun r' i' a hr' ha => ?_, ?_⟩
  · rw [cel_al wf hb.1 hr']
    have ha2 : (if r' = r ∧ i' = i then some (h.1 999 0 0).toNat else h.2.2 r' i') = some a := ha
    by_cases q : r' = r ∧ i' = i
    · rw [if_pos q, hz] at ha2
      cases ha2
      rw [q.1, q.2]
      exact ⟨hn0, h1⟩
    · rw [if_neg q] at ha2
      obtain ⟨g1, g2⟩ := hR.1 r' i' a hr' ha2
      exact ⟨g1, g2.kept (o1 a g2.lt)⟩
  · show (if (999 : Nat) = 999 ∧ (0 : Int) = 0 ∧ (0 : Int) = 0 then h.1 999 0 0 + 1 else h.1 999 0 0) = _
    rw [if_pos ⟨rfl, rfl, rfl⟩, hR.2, z1]
    omega
section
variable {E : xE} {M : Mth} {d : Nat} {B u : Nat × Nat} {pc b : Nat} {ls ls2 : List (Option Av)} {st : List Av} {h : Hp} {Q : Option Av → Hp → Prop}
/-- new -/
theorem x_new {idx r N : Nat} {i : Int} {C : String} {T : u_T} {ty0 : Nat → FieldType} (hd : decode (mCC M) pc = .ok (.new idx, 3)) (hc : vwCl[r]? = some (C, T, N)) (hr : r < 13) (hN : xnf r = N) (hlay : ∀ w ∈ u_ws C T N, w ∈ Gw) (hty : ∀ k, k < N → parseFieldDescriptor (T k).2.2.1 = some (ty0 k)) (hkd : ∀ k, k < N → (if xkd r (k : Nat) = 4 then Value.null else if xkd r (k : Nat) = 3 then .long 0 else .int 0) = defaultValue (ty0 k)) (w1 : Cond.classLink (mOwn M) idx C ∈ Gw) (w2 : Cond.instantiable C N ∈ Gw) (w3 : Cond.initialized C ∈ Gw) (hbk : blk h r i) (hu : u.1 + 1 ≤ B.1 ∧ u.2 + N ≤ B.2) (hb : pc + 3 = b) (k : X E M d B (u.1 + 1, u.2 + N) b ls (xr r i :: st) (alA h r i) Q) : X E M d B u pc ls st h Q := by
  subst hb
  intro wf ho hl hx p e s m args below meth c H locs L C hR hS hL
  have hC := C
  obtain ⟨c1, c2, c3, c4, c5, c6, c7, c8, c9⟩ := C
  have hz : (h.1 999 0 0).toNat = H.size := by rw [hR.2]; omega
  have hnew : (alA h r i).2.2 r i = some H.size := by
    show (if r = r ∧ i = i then some (h.1 999 0 0).toNat else h.2.2 r i) = _
    rw [if_pos ⟨rfl, rfl⟩, hz]
  have hKn := c8.1.1 r _ hc
  refine W.newcK c1 c2 c5 (c7 _ w1) (c7 _ w2) (c7 _ w3) rfl hd hu.1 hu.2 hKn.2.1 rfl fun H1 kC hkC e1 z1 o1 => ?_
  have hcell : va_at E.1.1 vwCl (H.size, cel E.1.2.1 h r i) H1 := by
    rw [cel_o hr]
    refine ⟨_, hc, (u_born ty0 c7 hlay hKn hkC e1 hty).to (fun j hj => ?_)⟩
    show defaultValue (ty0 j) = vp_V _ j
    unfold vp_V
    rw [List.getD_eq_getElem?_getD, slv_get hN hj, Option.getD_some, ← hkd j hj]
    unfold slv
    rw [hbk.2.1, hbk.2.2]
    rfl
  have kk := k (wf_al wf hR hbk (by omega)) (List.forall_mem_cons.mpr ⟨(fun q hq => by cases hq; exact ⟨_, hnew⟩), fun v hv => vok_ext (ho v hv) (fun _ _ _ z => alA_x hbk.1 z)⟩) (fun v hv => vok_ext (hl v hv) (fun _ _ _ z => alA_x hbk.1 z)) (fun _ _ _ z => alA_x hbk.1 (hx _ _ _ z)) p e s m args below meth c H1 locs L hC (rep_al wf hR hbk (by omega) (Nat.le_trans c8.2.1 hS.1) hcell z1 o1) ⟨Nat.le_trans hS.1 (by omega), fun q q1 q2 => (o1 q (Nat.lt_of_lt_of_le q1 hS.1)).trans (hS.2.1 q q1 q2), hS.2.2⟩ (hL.heap (fun v hv => cv_ext (hl v hv) (fun _ _ _ z => alA_x hbk.1 z)))
  have e1 : cv (alA h r i) (xr r i) = .ref H.size := by simp [cv, xoa, hnew, va_rf]
  have e2 : st.map (cv (alA h r i)) = st.map (cv h) := List.map_congr_left (fun v hv => cv_ext (ho v hv) (fun _ _ _ z => alA_x hbk.1 z))
  rw [List.map_cons, e1, e2] at kk
  exact kk
/-- newarray -/
theorem x_newa {r kind ct : Nat} {i : Int} {n : Int} {N : Nat} {at9 : ArrayType} (hd : decode (mCC M) pc = .ok (.newarray at9, 2)) (hk : Ak r kind ct) (hk4 : kind < 4) (hN : xln r = N) (hn : n = N) (hw : Cond.arrayClass (newarray.typeOf at9) ∈ Gw) (hct : (wty E.1)[ct]? = some (E.1.2.1 ct, newarray.typeOf at9)) (hdv : defaultValue (newarray.typeOf at9) = if kind = 3 then .long 0 else .int 0) (hby : N * componentBytes (newarray.typeOf at9) ≤ 536870912) (hprim : ∀ C, newarray.typeOf at9 ≠ .object C) (hbk : blk h r i) (hu : u.1 + 1 ≤ B.1 ∧ u.2 + N ≤ B.2) (hb : pc + 2 = b) (k : X E M d B (u.1 + 1, u.2 + N) b ls (xr r i :: st) (alA h r i) Q) : X E M d B u pc ls (xi n :: st) h Q := by
  subst hb
  subst hn
  intro wf ho hl hx p e s m args below meth c H locs L C hR hS hL
  have hC := C
  obtain ⟨c1, c2, c3, c4, c5, c6, c7, c8, c9⟩ := C
  have hz : (h.1 999 0 0).toNat = H.size := by rw [hR.2]; omega
  have hnew : (alA h r i).2.2 r i = some H.size := by
    show (if r = r ∧ i = i then some (h.1 999 0 0).toNat else h.2.2 r i) = _
    rw [if_pos ⟨rfl, rfl⟩, hz]
  have hnn : vok h (xi (N : Int)) := ho _ List.mem_cons_self
  have hcl : (Int32.ofInt (N : Int)).toNatClampNeg = N := by rw [Int32.toNatClampNeg_ofInt_of_le (by omega) (by have := hnn.2; omega)]; omega
  refine va_newaK c1 c2 (c7 _ hw) rfl hd rfl (fun q => by have := (i3_lt hnn v_0).mp q; omega) hcl hby hu.1 hu.2 rfl fun H1 cA e1 z1 o1 hAr hNm => ?_
  have hcA : cA = E.1.2.1 ct := by
    have h5 := (c8.1.2 ct _ hct).2
    have h6 : s.vm.findClass ("[" ++ (newarray.typeOf at9).toString) = some (E.1.2.1 ct) := by
      revert h5
      generalize hg : newarray.typeOf at9 = ty
      rw [hg] at hprim
      intro h5
      cases ty with
      | object C => exact absurd rfl (hprim C)
      | _ => exact h5
    exact Option.some.inj (hNm.symm.trans h6)
  have hcell : va_at E.1.1 vwCl (H.size, cel E.1.2.1 h r i) H1 := by
    by_cases q3 : kind = 3
    · rw [cel_l hk q3]
      show H1[H.size]? = some (vp_cell _ _)
      rw [e1, vp_cell_l, hcA, hN, hdv, if_pos q3]
      congr 2
      funext j
      rw [hbk.2.1]
      rfl
    · rw [cel_i hk (by omega)]
      show H1[H.size]? = some (vp_cell _ _)
      rw [e1, vp_cell_i, hcA, hN, hdv, if_neg q3]
      congr 2
      funext j
      rw [hbk.2.1]
      rfl
  have kk := k (wf_al wf hR hbk hk.2.1) (List.forall_mem_cons.mpr ⟨(fun q hq => by cases hq; exact ⟨_, hnew⟩), fun v hv => vok_ext (ho v (List.mem_cons_of_mem _ hv)) (fun _ _ _ z => alA_x hbk.1 z)⟩) (fun v hv => vok_ext (hl v hv) (fun _ _ _ z => alA_x hbk.1 z)) (fun _ _ _ z => alA_x hbk.1 (hx _ _ _ z)) p e s m args below meth c H1 locs L hC (rep_al wf hR hbk hk.2.1 (Nat.le_trans c8.2.1 hS.1) hcell z1 o1) ⟨Nat.le_trans hS.1 (by omega), fun q q1 q2 => (o1 q (Nat.lt_of_lt_of_le q1 hS.1)).trans (hS.2.1 q q1 q2), hS.2.2⟩ (hL.heap (fun v hv => cv_ext (hl v hv) (fun _ _ _ z => alA_x hbk.1 z)))
  have e1 : cv (alA h r i) (xr r i) = .ref H.size := by simp [cv, xoa, hnew, va_rf]
  have e2 : st.map (cv (alA h r i)) = st.map (cv h) := List.map_congr_left (fun v hv => cv_ext (ho v (List.mem_cons_of_mem _ hv)) (fun _ _ _ z => alA_x hbk.1 z))
  rw [List.map_cons, e1, e2] at kk
  exact kk
/-- anewarray -/
theorem x_newq {r ct idx : Nat} {i : Int} {n : Int} {N : Nat} {C : String} (hd : decode (mCC M) pc = .ok (.anewarray idx, 3)) (hk : Ak r 4 ct) (hN : xln r = N) (hn : n = N) (hw : Cond.classLink (mOwn M) idx C ∈ Gw) (hct : (wty E.1)[ct]? = some (E.1.2.1 ct, .object C)) (hao : ∀ (w : wk) (s : State) (H : Heap), wSt w s H → va_AO C s) (hby : N * 4 ≤ 536870912) (hbk : blk h r i) (hu : u.1 + 1 ≤ B.1 ∧ u.2 + N ≤ B.2) (hb : pc + 3 = b) (k : X E M d B (u.1 + 1, u.2 + N) b ls (xr r i :: st) (alA h r i) Q) : X E M d B u pc ls (xi n :: st) h Q := by
  subst hb
  subst hn
  intro wf ho hl hx p e s m args below meth c H locs L C hR hS hL
  have hC := C
  obtain ⟨c1, c2, c3, c4, c5, c6, c7, c8, c9⟩ := C
  have hz : (h.1 999 0 0).toNat = H.size := by rw [hR.2]; omega
  have hnew : (alA h r i).2.2 r i = some H.size := by
    show (if r = r ∧ i = i then some (h.1 999 0 0).toNat else h.2.2 r i) = _
    rw [if_pos ⟨rfl, rfl⟩, hz]
  have hnn : vok h (xi (N : Int)) := ho _ List.mem_cons_self
  have hcl : (Int32.ofInt (N : Int)).toNatClampNeg = N := by rw [Int32.toNatClampNeg_ofInt_of_le (by omega) (by have := hnn.2; omega)]; omega
  refine W.anew c1 c2 c5 (c7 _ hw) (va_AO.use (hao _ _ _ c8.2.2)) rfl hd rfl (fun q => by have := (i3_lt hnn v_0).mp q; omega) (by rw [hcl]; exact hby) hu.1 (by rw [hcl]; exact hu.2) fun cA kA comp f1 f2 f3 f4 => ?_
  rw [hcl]
  generalize hH1 : H.push ({ cls := cA, slots := Array.replicate N .null, vm := .none } : Cell) = H1
  have z1 : H1.size = H.size + 1 := by rw [← hH1, Array.size_push]
  have e1 : H1[H.size]? = some (arrV cA N (fun _ => .null)) := by rw [← hH1, Array.getElem?_push_size, ← arrV_new]
  have o1 : ∀ q : Nat, q < H.size → H1[q]? = H[q]? := fun q hq => by rw [← hH1, Array.getElem?_push, if_neg (Nat.ne_of_lt hq)]
  have hcA : cA = E.1.2.1 ct := by
    obtain ⟨kA2, comp2, g1, g2, g3, g4⟩ := (c8.1.2 ct _ hct).2
    exact Option.some.inj (f1.symm.trans g4)
  have hcell : va_at E.1.1 vwCl (H.size, cel E.1.2.1 h r i) H1 := by
    rw [cel_q hk rfl]
    show H1[H.size]? = some (vp_cell _ _)
    rw [e1, vp_cell_q, hcA, hN]
    congr 2
    funext j
    rw [hbk.2.2]
    rfl
  have kk := k (wf_al wf hR hbk hk.2.1) (List.forall_mem_cons.mpr ⟨(fun q hq => by cases hq; exact ⟨_, hnew⟩), fun v hv => vok_ext (ho v (List.mem_cons_of_mem _ hv)) (fun _ _ _ z => alA_x hbk.1 z)⟩) (fun v hv => vok_ext (hl v hv) (fun _ _ _ z => alA_x hbk.1 z)) (fun _ _ _ z => alA_x hbk.1 (hx _ _ _ z)) p e s m args below meth c H1 locs L hC (rep_al wf hR hbk hk.2.1 (Nat.le_trans c8.2.1 hS.1) hcell z1 o1) ⟨Nat.le_trans hS.1 (by omega), fun q q1 q2 => (o1 q (Nat.lt_of_lt_of_le q1 hS.1)).trans (hS.2.1 q q1 q2), hS.2.2⟩ (hL.heap (fun v hv => cv_ext (hl v hv) (fun _ _ _ z => alA_x hbk.1 z)))
  have e1 : cv (alA h r i) (xr r i) = .ref H.size := by simp [cv, xoa, hnew, va_rf]
  have e2 : st.map (cv (alA h r i)) = st.map (cv h) := List.map_congr_left (fun v hv => cv_ext (ho v (List.mem_cons_of_mem _ hv)) (fun _ _ _ z => alA_x hbk.1 z))
  rw [List.map_cons, e1, e2] at kk
  exact kk
/-- Object.<init> -/
theorem x_objInit {idx r : Nat} {i : Int} (hd : decode (mCC M) pc = .ok (.invokespecial idx, 3)) (w1 : Cond.methodLink (mOwn M) idx Lib.objectInit ∈ Gw) (w2 : Cond.instanceMethod Lib.objectInit ∈ Gw) (w3 : Cond.code Lib.objectInit ⟨#[0xb1]⟩ 1 none ∈ Gw) (hcat : (st.map wid).sum ≤ 8) (hb : pc + 3 = b) (k : X E M (d + 1) B u b ls st h Q) : X E M (d + 1) B u pc ls (xr r i :: st) h Q := by
  subst hb
  intro wf ho hl hx p e s m args below meth c H locs L C hR hS hL
  have hC := C
  obtain ⟨c1, c2, c3, c4, c5, c6, c7, c8, c9⟩ := C
  obtain ⟨a, ha, e1⟩ := ref_at (ho _ List.mem_cons_self)
  rw [List.map_cons, e1]
  refine W.objInit c1 c2 c5 (c7 _ w1) (c7 _ w2) (c7 _ w3) rfl (hL.1.trans c4.symm) rfl hd (show 1 ≤ d + 1 by omega) ?_ (k wf (fun v hv => ho v (List.mem_cons_of_mem _ hv)) hl hx p e s m args below meth c H locs L hC hR hS hL)
  show 2 * 0 + ((st.map (cv h)).map fun v => v.category).sum + 12 ≤ 64 * (d + 1)
  rw [wid_sum]
  omega
theorem x_callI {M2 : Mth} {B2 : Nat × Nat} {as rest : List Av} {r idx n : Nat} {i : Int} {Q2 : Option Av → Hp → Prop} (hs : Sp M2 d B2 (xr r i :: as) h Q2) (hret : mRet M2 = none) (hnm : (mY M2).name = "<init>") (hd : decode (mCC M) pc = .ok (.invokespecial idx, 3)) (hw : Cw (mOwn M) idx M2 n ∧ Cond.instanceMethod (mY M2) ∈ Gw) (hst : st = as.reverse ++ xr r i :: rest) (hn : as.length = n) (hcat : (rest.map wid).sum ≤ 8) (hB : u.1 + B2.1 ≤ B.1 ∧ u.2 + B2.2 ≤ B.2) (hb : pc + 3 = b)
    (k : ∀ (rv : Option Av) (h2 : Hp), Q2 rv h2 → (∀ (r : Nat) (i : Int) (a : Nat), h.2.2 r i = some a → h2.2.2 r i = some a) → X E M (d + 1) B (u.1 + B2.1, u.2 + B2.2) b ls (rv.toList ++ rest) h2 Q) : X E M (d + 1) B u pc ls st h Q := by
  subst hb
  subst hst
  intro wf ho hl hx p e s m args below meth c H locs L C hR hS hL
  have hC := C
  obtain ⟨c1, c2, c3, c4, c5, c6, c7, c8, c9⟩ := C
  have hrv : vok h (xr r i) := ho _ (List.mem_append_right _ List.mem_cons_self)
  obtain ⟨a, ha, e1⟩ := ref_at hrv
  have hav : ∀ v ∈ xr r i :: as, vok h v := by
    intro v hv
    rcases List.mem_cons.mp hv with q | q
    · rw [q]; exact hrv
    · exact ho v (List.mem_append_left _ (List.mem_reverse.mpr q))
  have hor : ∀ v ∈ rest, vok h v := fun v hv => ho v (List.mem_append_right _ (List.mem_cons_of_mem _ hv))
  have hMet := hs E.1 E.2.1 wf hav
  rw [List.map_cons, e1] at hMet
  obtain ⟨⟨w1, w2, w3, w4, w5⟩, w6⟩ := hw
  rw [hret] at w3
  have cw := cwI (R := rmo (d + 1) B) (own := mOwn M) (index := idx) (y := mY M2) (bytes := mCC M2) (maxL := mNL M2) (ws := mWs M2) (rm := rmo d B2) (mc := B2.1) (ms := B2.2) n c7 (gw_in (gw_ws (by rw [hret]; exact w3))) (by unfold mWs; rw [hret]) rfl rfl (c7 _ w2) (c7 _ w1) (c7 _ w6) hnm w4 ⟨Nat.le_refl _, by show 8 + (mNL M2 + 11) + 64 * d ≤ 64 * (d + 1); omega⟩
  have run := va_runI (l := E.2.1) (e := e) (below := below) (meth := meth) (H := H) (locs := locs) (cells := u.1) (slots := u.2) (b := a) (As := as.map (cv h)) (rest := rest.map (cv h)) (g := F0 m pc L ((as.reverse ++ xr r i :: rest).map (cv h))) ⟨c1, c2, c4, c5, c7⟩ hMet cw
    ⟨fun a2 U g mk q => ⟨q.1, q.2.1, Kx_blind q.2.2 rfl rfl⟩, fun U hU hW => ⟨rfl, by rw [hU]; exact hR, Kx_call c8 hS hU hW⟩⟩ rfl (by rw [List.length_map]; exact hn) hL.1 (by simp [e1]) (lv_room (by rw [wid_sum]; exact hcat)) hd hB
  exact x_behind wf hor hl hx hC hS hL run (fun rv h2 H1 locs1 z1 z2 z3 z4 z5 z6 z7 z8 z9 => k rv h2 z1 z2 z3 z4 z5 z6 p e s m args below meth c H1 locs1 L hC z7 z8 z9)
end
