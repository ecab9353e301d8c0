/-! THE LAYER, 8: a contract out of a walk, and calls -/
theorem wThr_kept {w : wk} {s : State} {H H1 : Heap} (hs : wThr w s H) (hq : ∀ a : Nat, a < H.size → ¬ wA w a → H1[a]? = H[a]?) : wThr w s H1 :=
  ⟨hs.1.kept hq, hs.2.1.kept hq, hs.2.2.1, hs.2.2.2.1, hs.2.2.2.2.1, va_T.kept hs.2.2.2.2.2.1 hq, hs.2.2.2.2.2.2⟩
theorem wThr_moved {w : wk} {s U : State} {H : Heap} (hv : s.WarmedH U.vm) (hs : wThr w s H) : wThr w U H :=
  ⟨vx_Zq.moved hv.alike hs.1, vx_Zq.moved hv.alike hs.2.1, hs.2.2.1.imp (fun _ q => q.warm hv), hs.2.2.2.1.imp (fun _ q => q.warm hv), va_Nc.moved hv.alike hs.2.2.2.2.1, va_T.moved hv.alike hs.2.2.2.2.2.1, hs.2.2.2.2.2.2⟩
theorem wStr_kept {w : wk} {s : State} {H H1 : Heap} (hs : wStr w s H) (hq : ∀ a : Nat, a < H.size → ¬ wA w a → H1[a]? = H[a]?) : wStr w s H1 :=
  ⟨hs.1, hs.2.1, hs.2.2.1.kept hq, hs.2.2.2.1.kept hq, hs.2.2.2.2.1.kept hq, va_T.kept hs.2.2.2.2.2.1 hq, va_Z.kept hs.2.2.2.2.2.2.1 hq, hs.2.2.2.2.2.2.2.1.imp (fun q => va_Z.kept q hq) (fun q => va_Z.kept q hq), hs.2.2.2.2.2.2.2.2.1, hs.2.2.2.2.2.2.2.2.2.1, wThr_kept hs.2.2.2.2.2.2.2.2.2.2 hq⟩
theorem wStr_moved {w : wk} {s U : State} {H : Heap} (hv : s.WarmedH U.vm) (hs : wStr w s H) : wStr w U H :=
  ⟨hs.1.warm hv, hs.2.1.warm hv, va_O.moved hv.alike hs.2.2.1, va_OF.moved hv.alike hs.2.2.2.1, va_OF.moved hv.alike hs.2.2.2.2.1, va_T.moved hv.alike hs.2.2.2.2.2.1, va_Z.moved hv.alike hs.2.2.2.2.2.2.1, hs.2.2.2.2.2.2.2.1.imp (fun q => va_Z.moved hv.alike q) (fun q => va_Z.moved hv.alike q), va_AO.moved hv.alike hs.2.2.2.2.2.2.2.2.1, va_AO.moved hv.alike hs.2.2.2.2.2.2.2.2.2.1, wThr_moved hv hs.2.2.2.2.2.2.2.2.2.2⟩
theorem wSt_kept {w : wk} {s : State} {H H1 : Heap} (hs : wSt w s H) (hq : ∀ a : Nat, a < H.size → ¬ wA w a → H1[a]? = H[a]?) : wSt w s H1 := ⟨va_Z.kept hs.1 hq, va_T.kept hs.2.1 hq, va_Z.kept hs.2.2.1 hq, va_T.kept hs.2.2.2.1 hq, hs.2.2.2.2.1, hs.2.2.2.2.2.1, wStr_kept hs.2.2.2.2.2.2 hq⟩
theorem wSt_moved {w : wk} {s U : State} {H : Heap} (hv : s.WarmedH U.vm) (hs : wSt w s H) : wSt w U H := ⟨va_Z.moved hv.alike hs.1, va_T.moved hv.alike hs.2.1, va_Z.moved hv.alike hs.2.2.1, va_T.moved hv.alike hs.2.2.2.1, va_Nw.warmF hv hs.2.2.2.2.1, va_Nw.warmM hv hs.2.2.2.2.2.1, wStr_moved hv hs.2.2.2.2.2.2⟩
/-- what holds of the tables holds at a call -/
theorem Kx_call {w : wk} {s U : State} {H : Heap} {locs : List Loc} (hK : Kx w s s.heap) (hS : va_S (wA w) s.heap H locs) (hU : U.heap = H) (hv : s.WarmedH U.vm) : Kx w U U.heap := by
  refine ⟨va_K.moved hv.alike hK.1, ?_, ?_⟩
  · rw [hU]; exact Nat.le_trans hK.2.1 hS.1
  · rw [hU]
    exact wSt_moved hv (wSt_kept hK.2.2 hS.2.1)
theorem Kx_blind {w : wk} {U V : State} (hK : Kx w U U.heap) (hh : V.heap = U.heap) (hv : V.vm = U.vm) : Kx w V V.heap := by
  have hw : U.WarmedH V.vm := by rw [hv]; exact State.WarmedH.refl U
  exact Kx_call (H := U.heap) (locs := []) hK va_S.rf hh hw
/-- the locals at a method's entry -/
def ent (n : Nat) (as : List Av) : List (Option Av) := ((as.flatMap fun v => if one v then [some v] else [some v, none]) ++ List.replicate n none).take n
theorem cv_cat {h : Hp} {v : Av} : (cv h v).category = if one v then 1 else 2 := by
  match v with
  | .inl _ => rfl
  | .inr (.inl _) => rfl
  | .inr (.inr o) => exact cat_o
/-- where the arguments lie -/
theorem ent_has {h : Hp} : ∀ (as : List Av) (k : Nat) (i : Nat) (v : Av), (as.flatMap fun v => if one v then [some v] else [some v, none])[i]? = some (some v) → (k + i, cv h v) ∈ lv_args k (as.map (cv h))
  | [], k, i, v, hi => by simp at hi
  | a :: as, k, i, v, hi => by
    rw [List.flatMap_cons] at hi
    rw [List.map_cons, lv_args, cv_cat]
    by_cases ha : one a = true
    · rw [if_pos ha] at hi ⊢
      match i, hi with
      | 0, hi => simp at hi; subst hi; exact List.mem_cons_self
      | i + 1, hi =>
        have h2 := ent_has (h := h) as (k + 1) i v (by simpa using hi)
        refine List.mem_cons_of_mem _ ?_
        rw [show k + (i + 1) = k + 1 + i by omega]
        exact h2
    · rw [if_neg ha] at hi ⊢
      match i, hi with
      | 0, hi => simp at hi; subst hi; exact List.mem_cons_self
      | 1, hi => simp at hi
      | i + 2, hi =>
        have h2 := ent_has (h := h) as (k + 2) i v (by simpa using hi)
        refine List.mem_cons_of_mem _ ?_
        rw [show k + (i + 2) = k + 2 + i by omega]
        exact h2

theorem ent_get {n i : Nat} {as : List Av} {v : Av} (hi : (ent n as)[i]? = some (some v)) : (as.flatMap fun v => if one v then [some v] else [some v, none])[i]? = some (some v) := by
  unfold ent at hi
  rw [List.getElem?_take] at hi
  split at hi
  · by_cases hl : i < (as.flatMap fun v => if one v then [some v] else [some v, none]).length
    · rwa [List.getElem?_append_left hl] at hi
    · rw [List.getElem?_append_right (by omega)] at hi
      have := List.eq_of_mem_replicate (List.mem_of_getElem? hi)
      cases this
  · cases hi
theorem ent_ok {h : Hp} {n : Nat} {as : List Av} (hv : ∀ v ∈ as, vok h v) : ∀ v, some v ∈ ent n as → vok h v := by
  intro v h1
  obtain ⟨i, hi⟩ := List.getElem?_of_mem h1
  have h2 := List.mem_of_getElem? (ent_get hi)
  obtain ⟨a, ha, h3⟩ := List.mem_flatMap.mp h2
  split at h3
  · rw [List.mem_singleton] at h3
    cases h3
    exact hv v ha
  · rcases List.mem_cons.mp h3 with q | q
    · cases q
      exact hv v ha
    · rw [List.mem_singleton] at q
      cases q
theorem sl_len {h : Hp} : ∀ as : List Av, (lg_sl (as.map (cv h))).length = (as.flatMap fun v => if one v then [some v] else [some v, none]).length
  | [] => rfl
  | a :: as => by
    have ih := sl_len (h := h) as
    unfold lg_sl at ih ⊢
    rw [List.map_cons, List.flatMap_cons, List.flatMap_cons, List.length_append, List.length_append, ih, cv_cat]
    cases one a <;> rfl
/-- A CONTRACT OUT OF A WALK -/
theorem sp_of {M : Mth} {d : Nat} {B : Nat × Nat} {as : List Av} {h : Hp} {Q : Option Av → Hp → Prop} (hy : plainName (mY M).cls = true) (hc : (mY M).cls = mOwn M) (hn : (as.flatMap fun v => if one v then [some v] else [some v, none]).length ≤ mNL M) {ls : List (Option Av)} (he : ent (mNL M) as = ls) (k : ∀ E : xE, E.2.2 = h.2.2 → X E M d B (0, 0) 0 ls [] h Q) : Sp M d B as h Q := by
  subst he
  intro w l wf hv
  refine Met.ofW (cc := mCC M) (maxL := mNL M) (ret := mRet M) hy rfl ?_
  intro p e s m args below meth c s₁ Bd hml hP
  obtain ⟨rfl, hR, hK⟩ := hP
  have hts := atoms_spec (ws := mWs M) Bd.pre
  have hown : s.vm.findClass (mY M).cls = some m.cls := findClass_of_methodNamed Bd.named
  rw [lg_entry_eq]
  have hL0 := lv_entry (as.map (cv h)) (n := mNL M) (by rw [sl_len]; exact hn)
  exact k (w, l, h.2.2) rfl wf (fun _ h9 => by cases h9) (ent_ok hv) (fun _ _ _ h9 => h9) p e s m _ below meth c s.heap [] _ ⟨Bd.exec, Bd.bytes, Bd.returns, hml, by rw [← hc]; exact hown, Bd.notSynchronized, fun wd h9 => hts wd (List.mem_cons_of_mem _ h9), hK, (name_of_methodNamed Bd.named Bd.method).1⟩ hR va_S.rf (Lh.of hL0 (fun i v hi => by have := ent_has (h := h) as 0 i v (ent_get hi); rwa [Nat.zero_add] at this))
theorem cv_ext {h h2 : Hp} {v : Av} (hv : vok h v) (hx : ∀ (r : Nat) (i : Int) (a : Nat), h.2.2 r i = some a → h2.2.2 r i = some a) : cv h2 v = cv h v := by
  match v, hv with
  | .inl _, _ => rfl
  | .inr (.inl _), _ => rfl
  | .inr (.inr none), _ => rfl
  | .inr (.inr (some q)), hv =>
    obtain ⟨a, ha⟩ := hv q rfl
    simp [cv, xoa, ha, hx _ _ _ ha]
theorem vok_ext {h h2 : Hp} {v : Av} (hv : vok h v) (hx : ∀ (r : Nat) (i : Int) (a : Nat), h.2.2 r i = some a → h2.2.2 r i = some a) : vok h2 v := by
  match v, hv with
  | .inl _, hv => exact hv
  | .inr (.inl _), hv => exact hv
  | .inr (.inr o), hv =>
    intro q hq
    obtain ⟨a, ha⟩ := hv q hq
    exact ⟨a, hx _ _ _ ha⟩
/-- width of values -/
def wid (v : Av) : Nat := if one v then 1 else 2
theorem wid_sum {h : Hp} : ∀ l : List Av, ((l.map (cv h)).map fun v => v.category).sum = (l.map wid).sum
  | [] => rfl
  | a :: l => by
    rw [List.map_cons, List.map_cons, List.map_cons, List.sum_cons, List.sum_cons, wid_sum l, cv_cat]
    rfl
section
variable {E : xE} {M : Mth} {d : Nat} {B u : Nat × Nat} {pc b : Nat} {ls ls2 : List (Option Av)} {st : List Av} {h : Hp} {Q : Option Av → Hp → Prop}
/-- behind a call -/
theorem x_behind {ls : List (Option Av)} {rest : List Av} {B2 : Nat × Nat} {Q2 : Option Av → Hp → Prop} (wf : Wf E.1 h) (ho : ∀ v ∈ rest, vok h v) (hl : ∀ v, some v ∈ ls → vok h v) (hx : ∀ (r : Nat) (i : Int) (a : Nat), E.2.2 r i = some a → h.2.2 r i = some a) {p : Program} {e : Env} {s : State} {m : MethodId} {args a : Array Value} {below : List Frame} {meth : Method} {c : Code} {H : Heap} {locs : List Loc} {L : Array Slot} (hC : Cx E.1 M p s m args meth c) (hS : va_S (wA E.1) s.heap H locs) (hL : Lh h L (mNL M) ls) {R : Room} {Qs : State → Prop} {st0 : List Value}
    (hr : va_Run p E.2.1 e R s m args below meth c H locs u.1 u.2 B2.1 B2.2 (F0 m pc L st0) (rest.map (cv h)) (Qm E.1 h.2.2 Q2 a) (wA E.1))
    (k : ∀ (rv : Option Av) (h2 : Hp) (H1 : Heap) (locs1 : List Loc), Q2 rv h2 → (∀ (r : Nat) (i : Int) (a : Nat), h.2.2 r i = some a → h2.2.2 r i = some a) → Wf E.1 h2 → (∀ v ∈ rv.toList ++ rest, vok h2 v) → (∀ v, some v ∈ ls → vok h2 v) → (∀ (r : Nat) (i : Int) (a : Nat), E.2.2 r i = some a → h2.2.2 r i = some a) → Rep E.1 h2 H1 → va_S (wA E.1) s.heap H1 locs1 → Lh h2 L (mNL M) ls → W p E.2.1 e R s m args below meth c H1 locs1 (u.1 + B2.1) (u.2 + B2.2) Qs (F0 m (pc + 3) L ((rv.toList ++ rest).map (cv h2)))) :
    W p E.2.1 e R s m args below meth c H locs u.1 u.2 Qs (F0 m pc L st0) := by
  intro T hT X0
  obtain ⟨v, st₀, t, T', Lx, h0, X', hLx, e1, e2, ⟨⟨rv, h2, hv, hq, q1, q2, q3, q4⟩, hz, hk⟩, stp⟩ := hr T hT X0
  rw [h0] at hz hk
  have hv2 : v = rv.map (cv h2) := by cases hv; rfl
  subst hv2
  have hS1 : va_S (wA E.1) s.heap T'.heap (locs ++ Lx) := by
    refine ⟨Nat.le_trans hS.1 (by rw [e1]; exact hz), fun q z1 z2 => ?_, fun q hq => ?_⟩
    · rw [e1, hk q (Nat.lt_of_lt_of_le z1 hS.1) z2]
      exact hS.2.1 q z1 z2
    · rcases List.mem_append.mp hq with z | z
      · exact hS.2.2 q z
      · exact hLx q z
  have hst : (rv.map (cv h2)).toList ++ rest.map (cv h) = (rv.toList ++ rest).map (cv h2) := by
    rw [List.map_append]
    congr 1
    · cases rv <;> rfl
    · exact List.map_congr_left (fun v hv => (cv_ext (ho v hv) q1).symm)
  have hvo : ∀ v ∈ rv.toList ++ rest, vok h2 v := by
    intro v hv
    rcases List.mem_append.mp hv with z | z
    · exact q3 v (by cases rv with
        | none => cases z
        | some y => simp at z; rw [z])
    · exact vok_ext (ho v z) q1
  obtain ⟨t2, a1, b1⟩ := k rv h2 T'.heap (locs ++ Lx) hq q1 q2 hvo (fun v hv => vok_ext (hl v hv) q1) (fun r i a ha => q1 _ _ _ (hx _ _ _ ha)) (by rw [e1]; exact q4) hS1 (hL.heap (fun v hv => cv_ext (hl v hv) q1)) T' rfl X'
  refine ⟨t2, stp t2 ?_, b1⟩
  have e9 : ({ F0 m pc L st0 with pc := (F0 m pc L st0).pc + 3, stack := (rv.map (cv h2)).toList ++ rest.map (cv h) } : JFrame) = F0 m (pc + 3) L ((rv.toList ++ rest).map (cv h2)) := by rw [← hst]
  rw [e9]
  exact a1
/-- how a class file names a method that is called -/
def Cw (own : String) (idx : Nat) (M2 : Mth) (n : Nat) : Prop := Cond.methodLink own idx (mY M2) ∈ Gw ∧ Cond.initialized (mY M2).cls ∈ Gw ∧ Cond.code (mY M2) (mCC M2) (mNL M2) (mRet M2) ∈ Gw ∧ ((mY M2).cls ≠ "java/lang/invoke/MethodHandle" ∧ (mY M2).cls ≠ "java/lang/invoke/VarHandle" ∧ (parseMethodDescriptor (mY M2).desc).map (fun d => d.parameters.length) = some n) ∧ mNL M2 ≤ 40
def CwV (own : String) (idx : Nat) (M2 : Mth) (n : Nat) : Prop := Cw own idx M2 n ∧ Cond.instanceMethod (mY M2) ∈ Gw ∧ Cond.selects (mY M2).cls (mY M2) (mY M2) ∈ Gw
def CwS (own : String) (idx : Nat) (M2 : Mth) (n : Nat) : Prop := Cw own idx M2 n ∧ Cond.static (mY M2) ∈ Gw
theorem gw_in {ws : List Cond} (h : ∀ w ∈ ws, w ∈ Gw) : GoodIn Gw ws := fun w hw => ⟨h w hw, good_of_word (Gw_good w (h w hw))⟩
theorem gw_ws {M2 : Mth} (h : Cond.code (mY M2) (mCC M2) (mNL M2) (mRet M2) ∈ Gw) : ∀ w ∈ mWs M2, w ∈ Gw := by
  intro w hw
  rcases List.mem_cons.mp hw with q | q
  · rw [q]; exact h
  · exact q
theorem x_callV {M2 : Mth} {B2 : Nat × Nat} {as rest : List Av} {r idx n : Nat} {i : Int} {Q2 : Option Av → Hp → Prop} (hs : Sp M2 d B2 (xr r i :: as) h Q2) (hd : decode (mCC M) pc = .ok (.invokevirtual idx, 3)) (hw : CwV (mOwn M) idx M2 n) (hc : ∃ (T : u_T) (N : Nat), vwCl[r]? = some ((mY M2).cls, T, N) ∧ r < 13) (hst : st = as.reverse ++ xr r i :: rest) (hn : as.length = n) (hcat : (rest.map wid).sum ≤ 8) (hB : u.1 + B2.1 ≤ B.1 ∧ u.2 + B2.2 ≤ B.2) (hb : pc + 3 = b)
    (k : ∀ (rv : Option Av) (h2 : Hp), Q2 rv h2 → (∀ (r : Nat) (i : Int) (a : Nat), h.2.2 r i = some a → h2.2.2 r i = some a) → X E M (d + 1) B (u.1 + B2.1, u.2 + B2.2) b ls (rv.toList ++ rest) h2 Q) : X E M (d + 1) B u pc ls st h Q := by
  subst hb
  subst hst
  intro wf ho hl hx p e s m args below meth c H locs L C hR hS hL
  have hC := C
  obtain ⟨c1, c2, c3, c4, c5, c6, c7, c8, c9⟩ := C
  obtain ⟨T, N, hc1, hc2⟩ := hc
  have hrv : vok h (xr r i) := ho _ (List.mem_append_right _ List.mem_cons_self)
  obtain ⟨a, ha, e1⟩ := ref_at hrv
  obtain ⟨g1, g2⟩ := hR.1 r i a (by omega) ha
  rw [cel_o hc2] at g2
  have hav : ∀ v ∈ xr r i :: as, vok h v := by
    intro v hv
    rcases List.mem_cons.mp hv with q | q
    · rw [q]; exact hrv
    · exact ho v (List.mem_append_left _ (List.mem_reverse.mpr q))
  have hor : ∀ v ∈ rest, vok h v := fun v hv => ho v (List.mem_append_right _ (List.mem_cons_of_mem _ hv))
  have hMet := hs E.1 E.2.1 wf hav
  rw [List.map_cons, e1] at hMet
  obtain ⟨⟨w1, w2, w3, w4, w5⟩, w6, w7⟩ := hw
  have hG : GoodIn Gw (wsV (mOwn M) idx (mY M2).cls (mY M2) (mWs M2)) := by
    refine gw_in (fun w hw => ?_)
    rcases List.mem_append.mp hw with q | q
    · simp only [List.mem_cons, List.not_mem_nil, or_false] at q
      rcases q with q | q | q | q <;> rw [q] <;> assumption
    · exact gw_ws w3 w q
  have cw := cwV (R := rmo (d + 1) B) (bytes := mCC M2) (maxL := mNL M2) (ret := mRet M2) (rm := rmo d B2) (mc := B2.1) (ms := B2.2) n c7 hG rfl rfl rfl ⟨rfl, w4⟩ ⟨Nat.le_refl _, by show 8 + (mNL M2 + 11) + 64 * d ≤ 64 * (d + 1); omega⟩
  have run := va_runV (l := E.2.1) (e := e) (below := below) (meth := meth) (H := H) (locs := locs) (cells := u.1) (slots := u.2) (As := as.map (cv h)) (rest := rest.map (cv h)) (g := F0 m pc L ((as.reverse ++ xr r i :: rest).map (cv h))) ⟨c1, c2, c4, c5, c7⟩ hMet cw
    ⟨fun a2 U g mk q => ⟨q.1, q.2.1, Kx_blind q.2.2 rfl rfl⟩, va_recv c8.1 (w_one g2) hc1 (q0 := 0) rfl, fun U hU hW => ⟨rfl, by rw [hU]; exact hR, Kx_call c8 hS hU hW⟩⟩ rfl (by rw [List.length_map]; exact hn) hL.1 (by simp [e1]) (lv_room (by rw [wid_sum]; exact hcat)) hd hB
  exact x_behind wf hor hl hx hC hS hL run (fun rv h2 H1 locs1 z1 z2 z3 z4 z5 z6 z7 z8 z9 => k rv h2 z1 z2 z3 z4 z5 z6 p e s m args below meth c H1 locs1 L hC z7 z8 z9)
theorem x_callS {M2 : Mth} {B2 : Nat × Nat} {as rest : List Av} {idx n : Nat} {Q2 : Option Av → Hp → Prop} (hs : Sp M2 d B2 as h Q2) (hd : decode (mCC M) pc = .ok (.invokestatic idx, 3)) (hw : CwS (mOwn M) idx M2 n) (hst : st = as.reverse ++ rest) (hn : as.length = n) (hcat : (rest.map wid).sum ≤ 8) (hB : u.1 + B2.1 ≤ B.1 ∧ u.2 + B2.2 ≤ B.2) (hb : pc + 3 = b)
    (k : ∀ (rv : Option Av) (h2 : Hp), Q2 rv h2 → (∀ (r : Nat) (i : Int) (a : Nat), h.2.2 r i = some a → h2.2.2 r i = some a) → X E M (d + 1) B (u.1 + B2.1, u.2 + B2.2) b ls (rv.toList ++ rest) h2 Q) : X E M (d + 1) B u pc ls st h Q := by
  subst hb
  subst hst
  intro wf ho hl hx p e s m args below meth c H locs L C hR hS hL
  have hC := C
  obtain ⟨c1, c2, c3, c4, c5, c6, c7, c8, c9⟩ := C
  have hav : ∀ v ∈ as, vok h v := fun v q => ho v (List.mem_append_left _ (List.mem_reverse.mpr q))
  have hor : ∀ v ∈ rest, vok h v := fun v hv => ho v (List.mem_append_right _ hv)
  have hMet := hs E.1 E.2.1 wf hav
  obtain ⟨⟨w1, w2, w3, w4, w5⟩, w6⟩ := hw
  have hG : GoodIn Gw (va_wsS (mOwn M) idx (mY M2) (mWs M2)) := by
    refine gw_in (fun w hw => ?_)
    rcases List.mem_append.mp hw with q | q
    · simp only [List.mem_cons, List.not_mem_nil, or_false] at q
      rcases q with q | q | q <;> rw [q] <;> assumption
    · exact gw_ws w3 w q
  have cw := va_cwS (R := rmo (d + 1) B) (bytes := mCC M2) (maxL := mNL M2) (ret := mRet M2) (rm := rmo d B2) (mc := B2.1) (ms := B2.2) n c7 hG rfl rfl rfl w4 ⟨Nat.le_refl _, by show 8 + (mNL M2 + 11) + 64 * d ≤ 64 * (d + 1); omega⟩
  have run := va_runS (l := E.2.1) (e := e) (below := below) (meth := meth) (H := H) (locs := locs) (cells := u.1) (slots := u.2) (As := as.map (cv h)) (rest := rest.map (cv h)) (g := F0 m pc L ((as.reverse ++ rest).map (cv h))) ⟨c1, c2, c4, c5, c7⟩ hMet cw
    ⟨fun a2 U g mk q => ⟨q.1, q.2.1, Kx_blind q.2.2 rfl rfl⟩, fun U hU hW => ⟨rfl, by rw [hU]; exact hR, Kx_call c8 hS hU hW⟩⟩ rfl (by rw [List.length_map]; exact hn) hL.1 (by simp) (lv_room (by rw [wid_sum]; exact hcat)) hd hB
  exact x_behind wf hor hl hx hC hS hL run (fun rv h2 H1 locs1 z1 z2 z3 z4 z5 z6 z7 z8 z9 => k rv h2 z1 z2 z3 z4 z5 z6 p e s m args below meth c H1 locs1 L hC z7 z8 z9)
end
