/-! LOOK: the throwing ends of the class's, and the law's own look -/
abbrev iyS (C : String) : MethodName := ⟨C, "<init>", "(Ljava/lang/String;)V"⟩
def lkDs : List Cond := [.declares (iyS "java/lang/RuntimeException"), .declares (iyS "java/lang/Exception"), .declares (iyS "java/lang/Throwable")]
theorem lk_Ds : ∀ w ∈ lkDs, lkD w := List.forall_mem_cons.mpr ⟨⟨iyS "java/lang/RuntimeException", prog_22_method_2_code, 2, none, rfl, gt_6 (i := 133) rfl rfl, gt_6 (i := 134) rfl rfl⟩, List.forall_mem_cons.mpr ⟨⟨iyS "java/lang/Exception", prog_18_method_2_code, 2, none, rfl, gt_6 (i := 136) rfl rfl, gt_6 (i := 137) rfl rfl⟩, List.forall_mem_cons.mpr ⟨⟨iyS "java/lang/Throwable", prog_26_method_2_code, 2, none, rfl, gt_6 (i := 139) rfl rfl, gt_6 (i := 140) rfl rfl⟩, fun _ h => by cases h⟩⟩⟩
theorem at_gw {C : String} {L : List Cond} (h : L.all (fun w => decide (w = .castable C C) || (decide (w ∈ lkDs) || (decide (w ∈ lw_tbl) && goodWord w))) = true) : ∀ w ∈ L, w = .castable C C ∨ lkD w ∨ w ∈ Gw := fun w hw => by
  have h1 := List.all_eq_true.mp h w hw
  simp only [Bool.or_eq_true, Bool.and_eq_true, decide_eq_true_eq] at h1
  exact h1.imp id (fun y => y.imp (fun z => lk_Ds w z) (fun z => List.mem_filter.mpr z))
set_option maxRecDepth 100000 in
set_option maxHeartbeats 4000000 in
theorem at_IO : (vx_atS RX11 143 "java/lang/IndexOutOfBoundsException" ["java/lang/RuntimeException", "java/lang/Exception"]).all (fun w => decide (w = .castable "java/lang/IndexOutOfBoundsException" "java/lang/IndexOutOfBoundsException" ) || (decide (w ∈ lkDs) || (decide (w ∈ lw_tbl) && goodWord w))) = true := by decide +kernel
set_option maxRecDepth 100000 in
set_option maxHeartbeats 4000000 in
theorem at_NS : (atN RX11 172 "java/util/NoSuchElementException" "java/lang/RuntimeException" 13 prog_29_method_4_code ["java/lang/Exception"]).all (fun w => decide (w = .castable "java/util/NoSuchElementException" "java/util/NoSuchElementException" ) || (decide (w ∈ lkDs) || (decide (w ∈ lw_tbl) && goodWord w))) = true := by decide +kernel
theorem gl_1288 : Cond.classLink RX11 139 "java/lang/IndexOutOfBoundsException" ∈ Gw := gt_6 (i := 88) rfl rfl
theorem gl_1356 : Cond.classLink RX11 168 "java/util/NoSuchElementException" ∈ Gw := gt_6 (i := 156) rfl rfl
theorem gl_22 : Cond.initialized "java/lang/IndexOutOfBoundsException" ∈ Gw := gt_1 (i := 22) rfl rfl
theorem gl_23 : Cond.initialized "java/util/NoSuchElementException" ∈ Gw := gt_1 (i := 23) rfl rfl
theorem gl_1279 : Cond.methodLink RL 39 yL_look ∈ Gw := gt_6 (i := 79) rfl rfl
theorem gl_1280 : Cond.static yL_look ∈ Gw := gt_6 (i := 80) rfl rfl
theorem gl_1281 : Cond.codeWith yL_look cL_look 5 (some .int) [(0, 10, 13, 13), (0, 10, 17, 15)] ∈ Gw := gt_6 (i := 81) rfl rfl
theorem gl_1282 : Cond.classLink RL 13 "java/lang/IndexOutOfBoundsException" ∈ Gw := gt_6 (i := 82) rfl rfl
theorem gl_1283 : Cond.classLink RL 15 "java/util/NoSuchElementException" ∈ Gw := gt_6 (i := 83) rfl rfl
theorem gl_0 : Cond.initialized RL ∈ Gw := gt_1 (i := 0) rfl rfl
theorem dL_look_0 : decode cL_look 0 = .ok (.aload_n 3, 1) := by decide +kernel
theorem dL_look_1 : decode cL_look 1 = .ok (.iconst 0, 1) := by decide +kernel
theorem dL_look_2 : decode cL_look 2 = .ok (.aload_n 0, 1) := by decide +kernel
theorem dL_look_3 : decode cL_look 3 = .ok (.iload_n 1, 1) := by decide +kernel
theorem dL_look_4 : decode cL_look 4 = .ok (.iload_n 2, 1) := by decide +kernel
theorem dL_look_5 : decode cL_look 5 = .ok (.invokevirtual 7, 3) := by decide +kernel
theorem dL_look_8 : decode cL_look 8 = .ok (.i2l, 1) := by decide +kernel
theorem dL_look_9 : decode cL_look 9 = .ok (.lastore, 1) := by decide +kernel
theorem dL_look_10 : decode cL_look 10 = .ok (.goto 11, 3) := by decide +kernel
theorem dL_look_13 : decode cL_look 13 = .ok (.astore 4, 2) := by decide +kernel
theorem dL_look_15 : decode cL_look 15 = .ok (.iconst 1, 1) := by decide +kernel
theorem dL_look_16 : decode cL_look 16 = .ok (.ireturn, 1) := by decide +kernel
theorem dL_look_17 : decode cL_look 17 = .ok (.astore 4, 2) := by decide +kernel
theorem dL_look_19 : decode cL_look 19 = .ok (.iconst 2, 1) := by decide +kernel
theorem dL_look_20 : decode cL_look 20 = .ok (.ireturn, 1) := by decide +kernel
theorem dL_look_21 : decode cL_look 21 = .ok (.iconst 0, 1) := by decide +kernel
theorem dL_look_22 : decode cL_look 22 = .ok (.ireturn, 1) := by decide +kernel
section
variable {tb : List ExceptionTableEntry} {E : xE} {M : Mth} {d : Nat} {B u : Nat × Nat} {pc b : Nat} {ls ls2 : List (Option Av)} {st : List Av} {h : Hp} {Q : Zp}
theorem xg_throwN {cls sy text : String} {nr : List String} {rx : ByteArray} {ik is ic ix : Nat} {Q1 : Option Av → Hp → Prop} (ht : tb = []) (hl : E.2.1.stackTraces = false) (hcls : Bundle.fit cls = true) (hsy : Bundle.fit sy = true) (hnr : ∀ n ∈ nr, Bundle.fit n = true) (y0 : decode rx 0 = .ok (.aload_n 0, 1)) (y1 : decode rx 1 = .ok (.aload_n 1, 1)) (y2 : decode rx 2 = .ok (.invokespecial ix, 3)) (y5 : decode rx 5 = .ok (.return_, 1))
    (hk : Cond.classLink (mOwn M) ik cls ∈ Gw) (hini : Cond.initialized cls ∈ Gw) (hstr : ∀ (s : State) (H : Heap), wThr E.1 s H → ∃ sa : Nat, vk_R (mOwn M) is text sa s) (hat : ∀ w ∈ atN (mOwn M) ic cls sy ix rx nr, w = .castable cls cls ∨ lkD w ∨ w ∈ Gw)
    (d0 : decode (mCC M) pc = .ok (.new ik, 3)) (d3 : decode (mCC M) (pc + 3) = .ok (.dup, 1)) (d4 : decode (mCC M) (pc + 4) = .ok (.ldc is, 2)) (d6 : decode (mCC M) (pc + 6) = .ok (.invokespecial ic, 3)) (d9 : decode (mCC M) (pc + 9) = .ok (.athrow, 1))
    (hf : nr.length + 4 < d) (hlo : 13 * (nr.length + 2) + 43 ≤ 64 * d) (hu : u.1 + 1 ≤ B.1 ∧ u.2 + 6 ≤ B.2) : Xg tb E M d B u pc ls [] h (Zx E B Q1 (lkX E.1 h cls)) := by
  intro wf ho hlv hx9 p e s m args below meth c H locs L C hN hR hS hL
  obtain ⟨c1, c2, c3, c4, c5, c6, c7, c8, c9⟩ := C
  have hth : wThr E.1 s s.heap := c8.2.2.2.2.2.2.2.2.2.2.2.2.2.2.2.2.2.2
  obtain ⟨sa, hsa⟩ := hstr s s.heap hth
  have ot : ∀ w ∈ Gw, vx_ot w = true := fun w hw => by
    unfold vx_ot
    rw [Gw_good w hw, Bool.or_true]
  have hgood : ∀ w ∈ Cond.classLink (mOwn M) ik cls :: Cond.initialized cls :: atN (mOwn M) ic cls sy ix rx nr, vx_ot w = true := by
    intro w hw
    rcases List.mem_cons.mp hw with q | hw
    · rw [q]; exact ot _ hk
    · rcases List.mem_cons.mp hw with q | hw
      · rw [q]; exact ot _ hini
      · rcases hat w hw with q | ⟨y, b9, n9, r9, q, _⟩ | q
        · rw [q]; rfl
        · rw [q]; rfl
        · exact ot _ q
  have hat2 : ∀ w ∈ atN (mOwn M) ic cls sy ix rx nr, w.before args s = true := fun w hw => by
    rcases hat w hw with q | ⟨y, b9, n9, r9, q, y1, y2⟩ | q
    · rw [q]
      cases hc : s.vm.findClass cls with
      | none =>
        have y := c7 _ hini
        simp [Cond.before, Cond.holds, Cond.value, hc] at y
      | some c9 => exact cast_f hc
    · rw [q]; exact decl_f (c7 _ y1) (c7 _ y2)
    · exact c7 _ q
  refine xn_throwS (A := wA E.1) (sa := sa) (text := text) (mc := B.1) (ms := B.2) c1 c2 hl c5 hcls hsy hnr y0 y1 y2 y5 (c7 _ hk) (c7 _ hini) hsa hat2 hgood hth.1 hth.2.1 hS (hL.1.trans c4.symm) d0 d3 d4 d6 d9 (fun x hx => ?_) hf ?_ hu.1 hu.2 c6 (fun t _ hz hq => ?_) hS.2.2 hu.1 hu.2
  · rw [hN, ht] at hx; cases hx
  · show ([] : List Nat).sum + _ ≤ 64 * d
    rw [List.sum_nil, Nat.zero_add]; exact hlo
  · exact ⟨rfl, ⟨_, rep_9 hR hq⟩, Nat.le_trans hS.1 hz, fun q h1 h2 => (hq q (Nat.lt_of_lt_of_le h1 hS.1)).trans (hS.2.1 q h1 h2)⟩
end
abbrev mL_look : Mth := (RL, cL_look, 5, (some .int), yL_look)
def lkN (t : Int) : String := if t = 1 then "java/lang/IndexOutOfBoundsException" else "java/util/NoSuchElementException"
def lkE1 : ExceptionTableEntry := { startPc := 0, endPc := 10, handlerPc := 13, catchType := 13 }
def lkE2 : ExceptionTableEntry := { startPc := 0, endPc := 10, handlerPc := 17, catchType := 15 }
theorem lk_tb : tableOf [(0, 10, 13, 13), (0, 10, 17, 15)] = [lkE1, lkE2] := rfl
/-- what the law's look leaves -/
def lkPo (C V : Ch) (x1 x2 : Int) (h : Hp) : Option Av → Hp → Prop := fun r h' => (lkT C x1 x2 = 0 ∧ r = some (xi 0) ∧ h' = sI h 114 0 0 (lkV C V x1 x2)) ∨ (lkT C x1 x2 ≠ 0 ∧ r = some (xi (lkT C x1 x2)) ∧ ∃ n : Int, h' = sI h 999 0 0 n)
section
variable {E : xE} {d : Nat} {h : Hp} {c : Int} {σ : Sg} {x1 x2 : Int} {Q1 : Option Av → Hp → Prop}
set_option maxRecDepth 100000 in
set_option maxHeartbeats 4000000 in
theorem lk_thr (hl : E.2.1.stackTraces = false) (hL : Lay h) (w : SW σ) (q : IC h c σ) (t : lkT (sC σ) x1 x2 ≠ 0) : Xg [] E mX11_look (d + 8) (1, 6) (0, 0) 0 [some (xr 11 0), some (xi x1), some (xi x2)] [] h (Zx E (1, 6) Q1 (lkX E.1 h (lkN (lkT (sC σ) x1 x2)))) := by
  refine xg_aload_n (i := 0) (b := 1) dX11_look_0 rfl rfl rfl ?_
  refine xg_getR (v := some (0, c)) (b := 4) fk_X11_20 dX11_look_1 rfl q.1.1 rfl ?_
  refine xg_iload_n (i := 1) (b := 5) dX11_look_4 rfl rfl rfl ?_
  refine xg_callV (as := [xi x1]) (rest := []) (b := 8) (c_X0_isMouth (d + 5) c x1 h _ hL (p_X0_isMouth q.1.2.2.2.2.1 (sw_C w))) dX11_look_5 cw_X11_135 ⟨_, _, rfl, Nat.le_of_ble_eq_true rfl⟩ rfl rfl (Nat.le_of_ble_eq_true rfl) ⟨Nat.le_of_ble_eq_true rfl, Nat.le_of_ble_eq_true rfl⟩ rfl (fun rv hh hp _ => ?_)
  obtain ⟨rfl, rfl, hL2⟩ := hp
  by_cases z : 0 ≤ x1 ∧ x1 < sz (sC σ)
  · have z2 : ¬ (0 ≤ x2 ∧ x2 ≤ 4) := fun y => t (by unfold lkT; rw [if_pos z, if_pos y])
    have en : lkN (lkT (sC σ) x1 x2) = "java/util/NoSuchElementException" := by unfold lkN lkT; rw [if_pos z, if_neg z2]; rfl
    refine xg_if_ne (tgt := 21) (b := 11) dX11_look_8 (by decide) rfl (fun hc => ?_) (fun hc => absurd z (b2i_0.mp hc))
    refine xg_iload_n (i := 2) (b := 22) dX11_look_21 rfl rfl rfl ?_
    refine xg_tableOut (tgt := 136) dX11_look_22 (by omega) (by decide) ?_
    rw [en]
    exact xg_throwN (sy := "java/lang/RuntimeException") (nr := ["java/lang/Exception"]) (ix := 13) (rx := prog_29_method_4_code) (text := "no such what") rfl hl (by decide) (by decide) (by decide) (by decide +kernel) (by decide +kernel) (by decide +kernel) (by decide +kernel) gl_1356 gl_23 (fun s H y => y.2.2.2.1) (at_gw at_NS) dX11_look_136 dX11_look_139 dX11_look_140 dX11_look_142 dX11_look_145 (by show 1 + 4 < d + 8; omega) (by show 13 * (1 + 2) + 43 ≤ 64 * (d + 8); omega) ⟨Nat.le_of_ble_eq_true rfl, Nat.le_of_ble_eq_true rfl⟩
  · have en : lkN (lkT (sC σ) x1 x2) = "java/lang/IndexOutOfBoundsException" := by unfold lkN lkT; rw [if_neg z]; rfl
    refine xg_if_ne (tgt := 21) (b := 11) dX11_look_8 (by decide) rfl (fun hc => absurd (b2i_n.mp hc) z) (fun hc => ?_)
    rw [en]
    exact xg_throwS (names := ["java/lang/RuntimeException", "java/lang/Exception"]) (text := "no such mouth") rfl hl (by decide) (by decide) gl_1288 gl_22 (fun s H y => y.2.2.1) (at_gw at_IO) dX11_look_11 dX11_look_14 dX11_look_15 dX11_look_17 dX11_look_20 (by show 2 + 3 < d + 8; omega) (by show 13 * (2 + 1) + 43 ≤ 64 * (d + 8); omega) ⟨Nat.le_of_ble_eq_true rfl, Nat.le_of_ble_eq_true rfl⟩
theorem lk_metT {w : wk} {l : Launch} (hl : l.stackTraces = false) (hL : Lay h) (sw : SW σ) (q : IC h c σ) (t : lkT (sC σ) x1 x2 ≠ 0) (wf : Wf w h) (hv : ∀ v ∈ [xr 11 0, xi x1, xi x2], vok h v) : vx_Met l (mY mX11_look) (mWs mX11_look) (rmo (d + 8) (1, 6)) (va_Pc ([xr 11 0, xi x1, xi x2].map (cv h)) fun U => Rep w h U.heap ∧ Kx w U U.heap) (Qm w h.2.2 (fun _ _ => False)) (lkX w h (lkN (lkT (sC σ) x1 x2))) 1 6 (wA w) :=
  xg_met (M := mX11_look) (B := (1, 6)) (by decide) rfl (Nat.le_of_ble_eq_true rfl) (ls := [some (xr 11 0), some (xi x1), some (xi x2)]) rfl wf hv (lk_thr hl hL sw q t)
/-- the handler's first act: what it holds is put away -/
theorem w_asto {M : Mth} {B u : Nat × Nat} {pc i : Nat} {h0 : Hp} {Q : Option Av → Hp → Prop} {p : Program} {e : Env} {s : State} {m : MethodId} {args : Array Value} {below : List Frame} {meth : Method} {c : Code} {H : Heap} {locs : List Loc} {L : Array Slot} {ls : List (Option Av)} {q9 : Nat} (hd : decode (mCC M) pc = .ok (.astore i, 2)) (hn : i < mNL M) (k : X E M d B u (pc + 2) [] [] h Q) (wf : Wf E.1 h) (hx : ∀ (r : Nat) (i : Int) (a : Nat), E.2.2 r i = some a → h.2.2 r i = some a) (C : Cx E.1 M p s m args meth c) (hR : Rep E.1 h H) (hS : va_S (wA E.1) s.heap H locs) (hL : Lh h0 L (mNL M) ls) : W p E.2.1 e (rmo d B) s m args below meth c H locs u.1 u.2 (MQ below (Qm E.1 E.2.2 Q) args s B.1 B.2 (wA E.1)) (F0 m pc L [.ref q9]) :=
  lv_astore C.1 C.2.1 hd hL.has hn rfl (fun L2 hL2 => k wf (fun _ h9 => by cases h9) (fun _ h9 => by cases h9) hx p e s m args below meth c H locs L2 C hR hS (Lh.of hL2 (fun i v hi => by simp at hi)))
set_option maxRecDepth 100000 in
set_option maxHeartbeats 4000000 in
theorem lk_law (hl : E.2.1.stackTraces = false) (hL : Lay h) (w : SW σ) (q : IC h c σ) : Xg [lkE1, lkE2] E mL_look (d + 9) (1, 6) (0, 0) 0 [some (xr 11 0), some (xi x1), some (xi x2), some (xr 114 0), none] [] h (Zx E (1, 6) (lkPo (sC σ) (sV σ 0) x1 x2 h) (fun _ _ _ => False)) := by
  by_cases t : lkT (sC σ) x1 x2 = 0
  · refine xg_of ?_
    refine x_aload_n (i := 3) (b := 1) dL_look_0 rfl rfl rfl ?_
    refine x_iconst (n := 0) (b := 2) dL_look_1 (by decide) rfl ?_
    refine x_aload_n (i := 0) (b := 3) dL_look_2 rfl rfl rfl ?_
    refine x_iload_n (i := 1) (b := 4) dL_look_3 rfl rfl rfl ?_
    refine x_iload_n (i := 2) (b := 5) dL_look_4 rfl rfl rfl ?_
    refine x_callV (as := [xi x1, xi x2]) (rest := [xi 0, xr 114 0]) (b := 8) (c_X11_look (d + 4) x1 x2 h _ hL (lk_C w q t)) dL_look_5 cw_L_7 ⟨_, _, rfl, Nat.le_of_ble_eq_true rfl⟩ rfl rfl (Nat.le_of_ble_eq_true rfl) ⟨Nat.le_of_ble_eq_true rfl, Nat.le_of_ble_eq_true rfl⟩ rfl (fun rv hh hp _ => ?_)
    obtain ⟨rfl, rfl, hL2⟩ := hp
    refine x_i2l (b := 9) dL_look_8 rfl ?_
    refine x_last (b := 10) ak_114 dL_look_9 (by decide) rfl ?_
    refine x_goto (tgt := 21) dL_look_10 (by decide) ?_
    refine x_iconst (n := 0) (b := 22) dL_look_21 (by decide) rfl ?_
    exact x_ireturn dL_look_22 rfl ⟨Nat.le_of_ble_eq_true rfl, Nat.le_of_ble_eq_true rfl⟩ (Or.inl ⟨t, rfl, rfl⟩)
  · refine fun wf => (?_ : Xg [lkE1, lkE2] E mL_look (d + 9) (1, 6) (0, 0) 0 [some (xr 11 0), some (xi x1), some (xi x2), some (xr 114 0), none] [] h (Zx E (1, 6) (lkPo (sC σ) (sV σ 0) x1 x2 h) (fun _ _ _ => False))) wf
    refine xg_aload_n (i := 3) (b := 1) dL_look_0 rfl rfl rfl ?_
    refine xg_iconst (n := 0) (b := 2) dL_look_1 (by decide) rfl ?_
    refine xg_aload_n (i := 0) (b := 3) dL_look_2 rfl rfl rfl ?_
    refine xg_iload_n (i := 1) (b := 4) dL_look_3 rfl rfl rfl ?_
    refine xg_iload_n (i := 2) (b := 5) dL_look_4 rfl rfl rfl ?_
    refine xg_callT (M2 := mX11_look) (B2 := (1, 6)) (as := [xi x1, xi x2]) (rest := [xi 0, xr 114 0]) (fun hv => lk_metT hl hL w q t wf hv) dL_look_5 cw_L_7 ⟨_, _, rfl, Nat.le_of_ble_eq_true rfl⟩ rfl rfl (Nat.le_of_ble_eq_true rfl) ⟨Nat.le_of_ble_eq_true rfl, Nat.le_of_ble_eq_true rfl⟩ ?_
    intro p e s m args below meth cd H1 locs1 L q9 ce n9 hC hN wf9 hx hR hS hLh hce hcv hcl
    have hC2 := hC
    obtain ⟨c1, c2, c3, c4, c5, c6, c7, c8, c9⟩ := hC2
    have hth : wThr E.1 s s.heap := c8.2.2.2.2.2.2.2.2.2.2.2.2.2.2.2.2.2.2
    refine ct_W (own := RL) (n1 := "java/lang/IndexOutOfBoundsException") (n2 := "java/util/NoSuchElementException") (x1 := lkE1) (x2 := lkE2) c5 hN (by decide) (by decide) (by decide) (by decide) (c7 _ gl_1282) (c7 _ gl_1283) hce hcv hcl ?_
    by_cases z : lkT (sC σ) x1 x2 = 1
    · have en : lkN (lkT (sC σ) x1 x2) = "java/lang/IndexOutOfBoundsException" := by unfold lkN; rw [if_pos z]
      rw [en]
      refine Or.inl ⟨cast_f (c := ce.cls) (by rw [← en]; exact hcl), vx_ret (w_asto (u := (1, 6)) (pc := 13) (h := sI h 999 0 0 n9) dL_look_13 (Nat.le_of_ble_eq_true rfl) ?_ (wf_9 wf) hx hC hR hS hLh)⟩
      exact x_iconst (n := 1) (b := 16) dL_look_15 (by decide) rfl (x_ireturn dL_look_16 rfl ⟨Nat.le_of_ble_eq_true rfl, Nat.le_of_ble_eq_true rfl⟩ (Or.inr ⟨t, by rw [z], n9, rfl⟩))
    · have z2 : lkT (sC σ) x1 x2 = 2 := by
        unfold lkT at t z ⊢
        split at t
        · rename_i y
          rw [if_pos y]
          split at t
          · exact absurd rfl t
          · rename_i y2
            rw [if_neg y2]
        · rename_i y
          rw [if_neg y] at z; exact absurd rfl z
      have en : lkN (lkT (sC σ) x1 x2) = "java/util/NoSuchElementException" := by unfold lkN; rw [if_neg z]
      rw [en]
      refine Or.inr ⟨hth.2.2.2.2.1, cast_f (c := ce.cls) (by rw [← en]; exact hcl), vx_ret (w_asto (u := (1, 6)) (pc := 17) (h := sI h 999 0 0 n9) dL_look_17 (Nat.le_of_ble_eq_true rfl) ?_ (wf_9 wf) hx hC hR hS hLh)⟩
      exact x_iconst (n := 2) (b := 20) dL_look_19 (by decide) rfl (x_ireturn dL_look_20 rfl ⟨Nat.le_of_ble_eq_true rfl, Nat.le_of_ble_eq_true rfl⟩ (Or.inr ⟨t, by rw [z2], n9, rfl⟩))
end
def lkW : List Cond := Cond.codeWith yL_look cL_look 5 (some .int) [(0, 10, 13, 13), (0, 10, 17, 15)] :: Gw
theorem lk_met {d : Nat} {h : Hp} {c : Int} {σ : Sg} {x1 x2 : Int} {w : wk} {l : Launch} (hl : l.stackTraces = false) (hL : Lay h) (sw : SW σ) (q : IC h c σ) (wf : Wf w h) (hv : ∀ v ∈ [xr 11 0, xi x1, xi x2, xr 114 0], vok h v) : vx_Met l yL_look lkW (rmo (d + 9) (1, 6)) (va_Pc ([xr 11 0, xi x1, xi x2, xr 114 0].map (cv h)) fun U => Rep w h U.heap ∧ Kx w U U.heap) (Qm w h.2.2 (lkPo (sC σ) (sV σ 0) x1 x2 h)) (fun _ _ _ => False) 1 6 (wA w) := by
  refine vx_ofWH (cc := cL_look) (maxL := 5) (ret := some .int) (hh := [(0, 10, 13, 13), (0, 10, 17, 15)]) (by decide) rfl ?_
  intro p e s m args below meth cd s₁ Bd hml hP
  obtain ⟨rfl, hR, hK⟩ := hP
  have hts := atoms_spec (ws := lkW) Bd.pre
  have htb := vx_table (x := yL_look) Bd (hts _ List.mem_cons_self)
  have hown : s.vm.findClass yL_look.cls = some m.cls := findClass_of_methodNamed Bd.named
  rw [lg_entry_eq]
  have hL0 := lv_entry ([xr 11 0, xi x1, xi x2, xr 114 0].map (cv h)) (n := 5) (by rw [sl_len]; exact Nat.le_of_ble_eq_true rfl)
  exact lk_law (E := (w, l, h.2.2)) (d := d) hl hL sw q wf (fun _ h9 => by cases h9) (ent_ok (n := 5) hv) (fun _ _ _ h9 => h9) p e s m _ below meth cd s.heap [] _ ⟨Bd.exec, Bd.bytes, Bd.returns, hml, hown, Bd.notSynchronized, fun wd h9 => hts wd (List.mem_cons_of_mem _ h9), hK, (name_of_methodNamed Bd.named Bd.method).1⟩ (htb.trans lk_tb) hR va_S.rf (Lh.of hL0 (fun i v hi => by have := ent_has (h := h) [xr 11 0, xi x1, xi x2, xr 114 0] 0 i v (ent_get (n := 5) hi); rwa [Nat.zero_add] at this))
