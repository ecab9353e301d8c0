/-! THROWS: an end that throws, a contract with throws, a row of a table that takes one -/
theorem cel_9 {y : Nat → ClassId} {h : Hp} {v : Int} {r : Nat} {i : Int} (hr : r < 900) : cel y (sI h 999 0 0 v) r i = cel y h r i := by
  have e1 : ∀ k, (sI h 999 0 0 v).1 r i k = h.1 r i k := fun k => by
    show (if r = 999 ∧ i = 0 ∧ k = 0 then v else h.1 r i k) = _
    rw [if_neg (fun q => by have := q.1; omega)]
  have e2 : slv (sI h 999 0 0 v) r i = slv h r i := by
    funext j
    unfold slv
    rw [e1]
    rfl
  unfold cel
  rw [e2]
  simp only [e1]
  rfl
theorem rep_9 {w : wk} {h : Hp} {H H1 : Heap} (hR : Rep w h H) (o1 : ∀ q : Nat, q < H.size → H1[q]? = H[q]?) : Rep w (sI h 999 0 0 (H1.size : Int)) H1 := by
  refine ⟨fun r i a hr ha => ?_, ?_⟩
  · obtain ⟨g1, g2⟩ := hR.1 r i a hr ha
    rw [cel_9 hr]
    exact ⟨g1, g2.kept (o1 a g2.lt)⟩
  · show (if (999 : Nat) = 999 ∧ (0 : Int) = 0 ∧ (0 : Int) = 0 then (H1.size : Int) else h.1 999 0 0) = _
    rw [if_pos ⟨rfl, rfl, rfl⟩]
theorem wf_9 {w : wk} {h : Hp} {v : Int} (wf : Wf w h) : Wf w (sI h 999 0 0 v) := by
  refine ⟨wf.1, fun r i k hr => ?_, wf.2.2.1, wf.2.2.2⟩
  show xrg (xkd r k) (if r = 999 ∧ i = 0 ∧ k = 0 then v else h.1 r i k)
  rw [if_neg (fun q => by have := q.1; omega)]
  exact wf.2.1 r i k hr
theorem cast_f {args : Array Value} {s : State} {C : String} {c : ClassId} (hc : s.vm.findClass C = some c) : (Cond.castable C C).before args s = true := by
  have ha := va_asg s.vm c
  simp [Cond.before, Cond.holds, Cond.value, hc, ha]
theorem decl_f {args : Array Value} {s : State} {y : MethodName} {bytes : ByteArray} {n : Nat} {ret : Option FieldType} (h1 : (Cond.instanceMethod y).before args s = true) (h2 : (Cond.code y bytes n ret).before args s = true) : (Cond.declares y).before args s = true := by
  obtain ⟨mk, meth, hn, hm, hst, -⟩ := Cond.instanceMethod_spec h1
  obtain ⟨meth2, c, hm2, -, -, -, -, -, -, hsig⟩ := Cond.code_spec hn h2
  cases hm.symm.trans hm2
  simp [Cond.before, Cond.holds, Cond.value, hn, hm, hst, hsig]
def lkD (w : Cond) : Prop := ∃ (y : MethodName) (b : ByteArray) (n : Nat) (r : Option FieldType), w = .declares y ∧ Cond.instanceMethod y ∈ Gw ∧ Cond.code y b n r ∈ Gw
/-- it threw En: the cells are as they were, but for how many there are -/
def lkX (w : wk) (h : Hp) (En : String) : String → State → State → Prop := fun E9 st t => E9 = En ∧ (∃ n : Int, Rep w (sI h 999 0 0 n) t.heap) ∧ va_F (wA w) st t
section
variable {tb : List ExceptionTableEntry} {E : xE} {M : Mth} {d : Nat} {B u : Nat × Nat} {pc b : Nat} {ls ls2 : List (Option Av)} {st : List Av} {h : Hp} {Q : Zp}
theorem xg_throwS {cls text : String} {names : List String} {ik is ic : Nat} {Q1 : Option Av → Hp → Prop} (ht : tb = []) (hl : E.2.1.stackTraces = false) (hcls : Bundle.fit cls = true) (hnames : ∀ n ∈ names, Bundle.fit n = true)
    (hk : Cond.classLink (mOwn M) ik cls ∈ Gw) (hini : Cond.initialized cls ∈ Gw) (hstr : ∀ (s : State) (H : Heap), wThr E.1 s H → ∃ sa : Nat, vk_R (mOwn M) is text sa s) (hat : ∀ w ∈ vx_atS (mOwn M) ic cls names, w = .castable cls cls ∨ lkD w ∨ w ∈ Gw)
    (d0 : decode (mCC M) pc = .ok (.new ik, 3)) (d3 : decode (mCC M) (pc + 3) = .ok (.dup, 1)) (d4 : decode (mCC M) (pc + 4) = .ok (.ldc is, 2)) (d6 : decode (mCC M) (pc + 6) = .ok (.invokespecial ic, 3)) (d9 : decode (mCC M) (pc + 9) = .ok (.athrow, 1))
    (hf : names.length + 3 < d) (hlo : 13 * (names.length + 1) + 43 ≤ 64 * d) (hu : u.1 + 1 ≤ B.1 ∧ u.2 + 6 ≤ B.2) : Xg tb E M d B u pc ls [] h (Zx E B Q1 (lkX E.1 h cls)) := by
  intro wf ho hlv hx9 p e s m args below meth c H locs L C hN hR hS hL
  obtain ⟨c1, c2, c3, c4, c5, c6, c7, c8, c9⟩ := C
  have hth : wThr E.1 s s.heap := c8.2.2.2.2.2.2.2.2.2.2.2.2.2.2.2.2.2.2
  obtain ⟨sa, hsa⟩ := hstr s s.heap hth
  have ot : ∀ w ∈ Gw, vx_ot w = true := fun w hw => by
    unfold vx_ot
    rw [Gw_good w hw, Bool.or_true]
  have hgood : ∀ w ∈ Cond.classLink (mOwn M) ik cls :: Cond.initialized cls :: vx_atS (mOwn M) ic cls names, vx_ot w = true := by
    intro w hw
    rcases List.mem_cons.mp hw with q | hw
    · rw [q]; exact ot _ hk
    · rcases List.mem_cons.mp hw with q | hw
      · rw [q]; exact ot _ hini
      · rcases hat w hw with q | ⟨y, b9, n9, r9, q, _⟩ | q
        · rw [q]; rfl
        · rw [q]; rfl
        · exact ot _ q
  have hat2 : ∀ w ∈ vx_atS (mOwn M) ic cls names, w.before args s = true := fun w hw => by
    rcases hat w hw with q | ⟨y, b9, n9, r9, q, y1, y2⟩ | q
    · rw [q]
      cases hc : s.vm.findClass cls with
      | none =>
        have y := c7 _ hini
        simp [Cond.before, Cond.holds, Cond.value, hc] at y
      | some c9 => exact cast_f hc
    · rw [q]; exact decl_f (c7 _ y1) (c7 _ y2)
    · exact c7 _ q
  refine vx_throwS (A := wA E.1) (sa := sa) (text := text) (mc := B.1) (ms := B.2) c1 c2 hl c5 hcls hnames (c7 _ hk) (c7 _ hini) hsa hat2 hgood hth.1 hth.2.1 hS (hL.1.trans c4.symm) d0 d3 d4 d6 d9 (fun x hx => ?_) hf ?_ hu.1 hu.2 c6 (fun t _ hz hq => ?_) hS.2.2 hu.1 hu.2
  · rw [hN, ht] at hx; cases hx
  · show ([] : List Nat).sum + _ ≤ 64 * d
    rw [List.sum_nil, Nat.zero_add]; exact hlo
  · exact ⟨rfl, ⟨_, rep_9 hR hq⟩, Nat.le_trans hS.1 hz, fun q h1 h2 => (hq q (Nat.lt_of_lt_of_le h1 hS.1)).trans (hS.2.1 q h1 h2)⟩
/-- a call that throws -/
theorem xg_callT {M2 : Mth} {B2 : Nat × Nat} {as rest : List Av} {r idx n : Nat} {i : Int} {En : String} (hs : (∀ v ∈ xr r i :: as, vok h v) → vx_Met E.2.1 (mY M2) (mWs M2) (rmo d B2) (va_Pc ((xr r i :: as).map (cv h)) fun U => Rep E.1 h U.heap ∧ Kx E.1 U U.heap) (Qm E.1 h.2.2 (fun _ _ => False)) (lkX E.1 h En) B2.1 B2.2 (wA E.1)) (hd : decode (mCC M) pc = .ok (.invokevirtual idx, 3)) (hw : CwV (mOwn M) idx M2 n) (hc : ∃ (T : u_T) (N : Nat), vwCl[r]? = some ((mY M2).cls, T, N) ∧ r < 13) (hst : st = as.reverse ++ xr r i :: rest) (hn : as.length = n) (hcat : (rest.map wid).sum ≤ 8) (hB : u.1 + B2.1 ≤ B.1 ∧ u.2 + B2.2 ≤ B.2)
    (kx : ∀ (p : Program) (e : Env) (s : State) (m : MethodId) (args : Array Value) (below : List Frame) (meth : Method) (c : Code) (H1 : Heap) (locs1 : List Loc) (L : Array Slot) (q9 : Addr) (ce : Cell) (n9 : Int), Cx E.1 M p s m args meth c → c.exceptionTable.toList = tb → Wf E.1 h → (∀ (r : Nat) (i : Int) (a : Nat), E.2.2 r i = some a → h.2.2 r i = some a) → Rep E.1 (sI h 999 0 0 n9) H1 → va_S (wA E.1) s.heap H1 locs1 → Lh h L (mNL M) ls → H1[q9]? = some ce → ce.vm = .none → s.vm.findClass En = some ce.cls → vx_W p E.2.1 e (rmo (d + 1) B) s m args below meth c H1 locs1 (u.1 + B2.1) (u.2 + B2.2) (Q below args s) (F0 m pc L (rest.map (cv h))) q9) : Xg tb E M (d + 1) B u pc ls st h Q := by
  subst hst
  intro wf ho hl hx p e s m args below meth c H locs L C hN hR hS hL
  have hC := C
  obtain ⟨c1, c2, c3, c4, c5, c6, c7, c8, c9⟩ := C
  obtain ⟨T, N, hc1, hc2⟩ := hc
  have hrv : vok h (xr r i) := ho _ (List.mem_append_right _ List.mem_cons_self)
  obtain ⟨a, ha, e1⟩ := ref_at hrv
  obtain ⟨g1, g2⟩ := hR.1 r i a (by omega) ha
  rw [cel_o hc2] at g2
  have hav : ∀ v ∈ xr r i :: as, vok h v := by
    intro v hv
    rcases List.mem_cons.mp hv with q | q
    · rw [q]; exact hrv
    · exact ho v (List.mem_append_left _ (List.mem_reverse.mpr q))
  have hMet := hs hav
  rw [List.map_cons, e1] at hMet
  obtain ⟨⟨w1, w2, w3, w4, w5⟩, w6, w7⟩ := hw
  have hG : GoodIn Gw (wsV (mOwn M) idx (mY M2).cls (mY M2) (mWs M2)) := by
    refine gw_in (fun w hw => ?_)
    rcases List.mem_append.mp hw with q | q
    · simp only [List.mem_cons, List.not_mem_nil, or_false] at q
      rcases q with q | q | q | q <;> rw [q] <;> assumption
    · exact gw_ws w3 w q
  have cw := cwV (R := rmo (d + 1) B) (bytes := mCC M2) (maxL := mNL M2) (ret := mRet M2) (rm := rmo d B2) (mc := B2.1) (ms := B2.2) n c7 hG rfl rfl rfl ⟨rfl, w4⟩ ⟨Nat.le_refl _, by show 8 + (mNL M2 + 11) + 64 * d ≤ 64 * (d + 1); omega⟩
  have run := vx_runV (l := E.2.1) (e := e) (below := below) (meth := meth) (H := H) (locs := locs) (cells := u.1) (slots := u.2) (As := as.map (cv h)) (rest := rest.map (cv h)) (g := F0 m pc L ((as.reverse ++ xr r i :: rest).map (cv h))) ⟨c1, c2, c4, c5, c7⟩ hMet cw
    ⟨fun a2 U g mk q => ⟨q.1, q.2.1, Kx_blind q.2.2 rfl rfl⟩, va_recv c8.1 (w_one g2) hc1 (q0 := 0) rfl, fun U hU hW => ⟨rfl, by rw [hU]; exact hR, Kx_call c8 hS hU hW⟩⟩ rfl (by rw [List.length_map]; exact hn) hL.1 (by simp [e1]) (lv_room (by rw [wid_sum]; exact hcat)) hd hB
  intro T9 hT X0
  rcases run T9 hT X0 with ⟨v, st₀, t, T', Lx, h0, X', hLx, e2, e3, ⟨⟨rv, h2, hv, hq, hz⟩, hF⟩, stp⟩ | ⟨q, st₀, t, T', Lx, E9, ce, h0, X', hLx, e2, e3, ⟨eN, ⟨n9, hRn⟩, hF⟩, hce, hcv, hcl, stp⟩
  · exact hq.elim
  · rw [eN] at hcl
    obtain ⟨k1, k2, k3⟩ := vx_keep h0 e2 hS (fun q _ y => y) (fun q y => y) hLx hF
    obtain ⟨t2, a1, b1⟩ := kx p e s m args below meth c T'.heap (locs ++ Lx) L q ce n9 hC hN wf hx (by rw [e2]; exact hRn) k3 hL (by rw [e2]; exact hce) hcv hcl T' rfl X'
    exact ⟨t2, stp.trans a1, b1⟩
end
/-- a contract with throws out of a walk -/
theorem xg_met {M : Mth} {d : Nat} {B : Nat × Nat} {as : List Av} {h : Hp} {Q1 : Option Av → Hp → Prop} {XC : String → State → State → Prop} {w : wk} {l : Launch} (hy : plainName (mY M).cls = true) (hc : (mY M).cls = mOwn M) (hn : (as.flatMap fun v => if one v then [some v] else [some v, none]).length ≤ mNL M) {ls : List (Option Av)} (he : ent (mNL M) as = ls) (wf : Wf w h) (hv : ∀ v ∈ as, vok h v) (k : Xg [] (w, l, h.2.2) M d B (0, 0) 0 ls [] h (Zx (w, l, h.2.2) B Q1 XC)) : vx_Met l (mY M) (mWs M) (rmo d B) (va_Pc (as.map (cv h)) fun U => Rep w h U.heap ∧ Kx w U U.heap) (Qm w h.2.2 Q1) XC B.1 B.2 (wA w) := by
  subst he
  refine vx_ofW (cc := mCC M) (maxL := mNL M) (ret := mRet M) hy rfl ?_
  intro p e s m args below meth c s₁ Bd hml hN hP
  obtain ⟨rfl, hR, hK⟩ := hP
  have hts := atoms_spec (ws := mWs M) Bd.pre
  have hown : s.vm.findClass (mY M).cls = some m.cls := findClass_of_methodNamed Bd.named
  rw [lg_entry_eq]
  have hL0 := lv_entry (as.map (cv h)) (n := mNL M) (by rw [sl_len]; exact hn)
  exact k wf (fun _ h9 => by cases h9) (ent_ok hv) (fun _ _ _ h9 => h9) p e s m _ below meth c s.heap [] _ ⟨Bd.exec, Bd.bytes, Bd.returns, hml, by rw [← hc]; exact hown, Bd.notSynchronized, fun wd h9 => hts wd (List.mem_cons_of_mem _ h9), hK, (name_of_methodNamed Bd.named Bd.method).1⟩ (List.eq_nil_iff_forall_not_mem.mpr (fun x hx => hN x hx)) hR va_S.rf (Lh.of hL0 (fun i v hi => by have := ent_has (h := h) as 0 i v (ent_get hi); rwa [Nat.zero_add] at this))
/-- a row of the table whose entry may still be to resolve -/
theorem ct_row {e : Env} {S : State} {f : JFrame} {a : Addr} {x : ExceptionTableEntry} {t : List ExceptionTableEntry} {k : ClassId} {ce : Cell} {Q : Handler → Pre} {E : CtlPost} {d : Bool} {acts : List Action} (hx : covers x f.pc = true) (h0 : x.catchType ≠ 0) (hl : S.vm.ClassLinks e.platform f.method.cls x.catchType k) (hcell : S.heap[a]? = some ce) (hobj : ∀ z, ce.vm ≠ .statics z) (hk : ∃ z, S.vm.classes[ce.cls]? = some z) (hc : ∃ z, S.vm.classes[k]? = some z) :
    wp (findHandler.go f a (x :: t)) Q E e d acts S ↔ if S.vm.assignable ce.cls k = true then Q (.found x.handlerPc) d acts (S.setVm (S.vm.noted f.method.cls x.catchType (.cls k))) else wp (findHandler.go f a t) Q E e d acts (S.setVm (S.vm.noted f.method.cls x.catchType (.cls k))) := by
  simp only [covers] at hx
  obtain ⟨ha, ht⟩ := (resolveClass_links e.toSetting hl).op (op := VmOp.resolveClass f.method.cls x.catchType) rfl
  have hal : S.vm.Alike (S.vm.noted f.method.cls x.catchType (.cls k)) := (Vm.Alike.refl S.vm).noted _ _ _
  obtain ⟨z1, y1⟩ := hk
  obtain ⟨z2, y2⟩ := hc
  obtain ⟨z3, y3, -⟩ := hal.2.2 _ _ y1
  obtain ⟨z4, y4, -⟩ := hal.2.2 _ _ y2
  have has : (S.vm.noted f.method.cls x.catchType (.cls k)).assignable ce.cls k = S.vm.assignable ce.cls k := by rw [hal.assignable]
  cases hfit : S.vm.assignable ce.cls k
  · rw [hfit] at has
    simp [findHandler.go, hx, h0, ha, ht, hcell, hobj, y3, y4, has, VmOp.dirties, VmOp.acts]
  · rw [hfit] at has
    simp [findHandler.go, hx, h0, ha, ht, hcell, hobj, y3, y4, has, VmOp.dirties, VmOp.acts]
/-- the step into the handler that the search finds -/
theorem ct_go {tb : Tables} {e : Env} {S target : State} {g : JFrame} {c : Code} {below : List Frame} {a : Addr} {meth : Method} (h : At S g.method c below) {pc : Nat} {v : Vm} (hm : S.vm.method? g.method = some meth) (hc : meth.code = some c)
    (hf : ∀ (Q : Handler → Pre) (E : CtlPost) (d : Bool) (acts : List Action), wp (findHandler.go g a c.exceptionTable.toList) Q E e d acts ((S.setTop g).pushFrame (.throwing a)) ↔ Q (.found pc) d acts (((S.setTop g).pushFrame (.throwing a)).setVm v))
    (hrest : Steps tb e below ((S.setVm v).setTop { g with pc := pc, stack := [.ref a] }) target) : Steps tb e below ((S.setTop g).pushFrame (.throwing a)) target := by
  have hf2 : ∀ (Q : Handler → Pre) (E : CtlPost) (d : Bool) (acts : List Action), wp (findHandler g a) Q E e d acts ((S.setTop g).pushFrame (.throwing a)) ↔ Q (.found pc) d acts (((S.setTop g).pushFrame (.throwing a)).setVm v) := fun Q E d acts => (Jvm.W.findHandler_eq (s := (S.setTop g).pushFrame (.throwing a)) (f := g) (meth := meth) (code := c) hm hc).trans (hf Q E d acts)
  have st : ∀ r : List Frame, (stepThrowing e ((S.setTop g).pushFrame (.throwing a)) a (.java g :: r)).Is ((((S.setTop g).pushFrame (.throwing a)).setVm v).setFrames (.java { g with pc := pc, stack := [.ref a] } :: r)) [] := by
    intro r
    simp only [stepThrowing, searchFrame, vmDo]
    generalize hr : Sem.go _ e false [] _ = res
    obtain ⟨as, rfl, ha⟩ := Sem.eq_ok_of hr (a := Handler.found pc) (s' := ((S.setTop g).pushFrame (.throwing a)).setVm v) (acts' := []) (by simp [hf2 _ _ _ _])
    exact ⟨rfl, ha⟩
  obtain ⟨hgo, hw⟩ := h.throwing a
  refine Steps.head hgo hw ?_
  rw [stepThread_throwing (frames_entered h.top _), (st _).1]
  obtain ⟨g0, hg⟩ := Option.isSome_iff_exists.mp h.top
  obtain ⟨r, hr⟩ := State.topJava?_eq_some.mp hg
  have hr2 : (S.setVm v).frames = .java g0 :: r := hr
  have e1 : ∀ (u : State) (F G : List Frame), ((u.setFrames F).setVm v).setFrames G = (u.setVm v).setFrames G := fun u F G => by
    have h1 : (u.setFrames F).setVm v = (u.setVm v).setFrames F := rfl
    rw [h1, State.setFrames_setFrames]
  rw [State.setTop_of_frames _ hr2] at hrest
  rw [hr, List.tail_cons, State.pushFrame, e1, State.setTop_of_frames _ hr, e1]
  exact hrest
/-- a table of two rows: the first takes it, or the second where the first names another kind -/
theorem ct_W {p : Program} {l : Launch} {e : Env} {R : Room} {s : State} {m : MethodId} {args : Array Value} {below : List Frame} {meth : Method} {c : Code} {H : Heap} {locs : List Loc} {cells slots : Nat} {Q : State → Prop} {pc : Nat} {ls : Array Slot} {rest : List Value} {own En n1 n2 : String} {ce : Cell} {q : Addr} {x1 x2 : ExceptionTableEntry}
    (hown : s.vm.findClass own = some m.cls) (htb : c.exceptionTable.toList = [x1, x2]) (k1 : covers x1 pc = true) (k2 : covers x2 pc = true) (z1 : x1.catchType ≠ 0) (z2 : x2.catchType ≠ 0) (l1 : (Cond.classLink own x1.catchType n1).before args s = true) (l2 : (Cond.classLink own x2.catchType n2).before args s = true) (hcell : H[q]? = some ce) (hv : ce.vm = .none) (hcl : s.vm.findClass En = some ce.cls)
    (hh : ((Cond.castable En n1).before args s = true ∧ W p l e R s m args below meth c H locs cells slots Q (F0 m x1.handlerPc ls [.ref q])) ∨ (va_Nc En n1 s ∧ (Cond.castable En n2).before args s = true ∧ W p l e R s m args below meth c H locs cells slots Q (F0 m x2.handlerPc ls [.ref q]))) : vx_W p l e R s m args below meth c H locs cells slots Q (F0 m pc ls rest) q := by
  intro T hT X
  have hpl : e.platform.magicAccessors = ({} : Platform).magicAccessors := by rw [X.admits.platform]
  obtain ⟨c1, hc1, hL1⟩ := Cond.classLink_spec hown l1 e.platform hpl
  obtain ⟨c2, hc2, hL2⟩ := Cond.classLink_spec hown l2 e.platform hpl
  obtain ⟨dk1, _, _, kt1, hd1, _, _, _, _, hkt1, _, ho1⟩ := hL1.here
  obtain ⟨dk2, _, _, kt2, hd2, _, _, _, _, hkt2, _, ho2⟩ := hL2.here
  have hW0 : s.WarmedH T.vm := X.warmed
  have hW1 : s.WarmedH (T.vm.noted m.cls x1.catchType (.cls c1)) := hW0.noted hd1 ho1 (State.rightAt_cls hL1)
  have hcT : T.heap[q]? = some ce := by rw [hT]; exact hcell
  have hob : ∀ z, ce.vm ≠ .statics z := fun z y => by rw [hv] at y; cases y
  have at9 : ∀ {v : Vm} {k : ClassId} {z : Class}, s.WarmedH v → s.vm.classes[k]? = some z → ∃ z2, v.classes[k]? = some z2 := fun hW y => by
    obtain ⟨z3, y3, -⟩ := hW.alike.2.2 _ _ y
    exact ⟨z3, y3⟩
  obtain ⟨z9, y9⟩ := Vm.classAt_of_findClass hcl
  rcases hh with ⟨hcast, kk⟩ | ⟨hnc, hcast, kk⟩
  · obtain ⟨c3, c4, hc3, hc4, hasg⟩ := Cond.castable_spec hcast
    rw [show c3 = ce.cls from Option.some.inj (hc3.symm.trans hcl), show c4 = c1 from Option.some.inj (hc4.symm.trans hc1)] at hasg
    obtain ⟨t, a1, b1⟩ := kk (T.setVm (T.vm.noted m.cls x1.catchType (.cls c1))) hT (X.noted hW1)
    refine ⟨t, ct_go (g := F0 m pc ls rest) X.here X.method' X.code (fun Q9 E9 d9 as9 => ?_) a1, b1⟩
    rw [htb]
    refine (ct_row (S := (T.setTop (F0 m pc ls rest)).pushFrame (.throwing q)) (f := F0 m pc ls rest) (ce := ce) (k := c1) k1 z1 (hW0.classLinks hL1) hcT hob (at9 hW0 y9) (at9 hW0 hkt1)).trans ?_
    exact (iff_of_eq (if_pos (show T.vm.assignable ce.cls c1 = true by rw [hW0.alike.assignable]; exact hasg))).trans Iff.rfl
  · obtain ⟨a8, b8, h1, h2, h3⟩ := hnc
    rw [show a8 = ce.cls from Option.some.inj (h1.symm.trans hcl), show b8 = c1 from Option.some.inj (h2.symm.trans hc1)] at h3
    obtain ⟨c3, c4, hc3, hc4, hasg⟩ := Cond.castable_spec hcast
    rw [show c3 = ce.cls from Option.some.inj (hc3.symm.trans hcl), show c4 = c2 from Option.some.inj (hc4.symm.trans hc2)] at hasg
    have hW2 : s.WarmedH ((T.vm.noted m.cls x1.catchType (.cls c1)).noted m.cls x2.catchType (.cls c2)) := hW1.noted hd2 ho2 (State.rightAt_cls hL2)
    obtain ⟨t, a1, b1⟩ := kk (T.setVm ((T.vm.noted m.cls x1.catchType (.cls c1)).noted m.cls x2.catchType (.cls c2))) hT (X.noted hW2)
    refine ⟨t, ct_go (g := F0 m pc ls rest) X.here X.method' X.code (fun Q9 E9 d9 as9 => ?_) a1, b1⟩
    rw [htb]
    refine (ct_row (S := (T.setTop (F0 m pc ls rest)).pushFrame (.throwing q)) (f := F0 m pc ls rest) (ce := ce) (k := c1) k1 z1 (hW0.classLinks hL1) hcT hob (at9 hW0 y9) (at9 hW0 hkt1)).trans ?_
    refine (iff_of_eq (if_neg (show ¬ T.vm.assignable ce.cls c1 = true by rw [hW0.alike.assignable, h3]; exact Bool.false_ne_true))).trans ?_
    refine (ct_row (S := ((T.setTop (F0 m pc ls rest)).pushFrame (.throwing q)).setVm (T.vm.noted m.cls x1.catchType (.cls c1))) (f := F0 m pc ls rest) (ce := ce) (k := c2) k2 z2 (hW1.classLinks hL2) hcT hob (at9 hW1 y9) (at9 hW1 hkt2)).trans ?_
    exact (iff_of_eq (if_pos (show (T.vm.noted m.cls x1.catchType (.cls c1)).assignable ce.cls c2 = true by rw [hW1.alike.assignable]; exact hasg))).trans Iff.rfl
