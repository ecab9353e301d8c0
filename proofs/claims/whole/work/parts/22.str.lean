/-! THE LAYER, 10: the constant text, and the JDK methods that read it -/
section
variable {E : xE} {M : Mth} {d : Nat} {B u : Nat × Nat} {pc b : Nat} {ls ls2 : List (Option Av)} {st : List Av} {h : Hp} {Q : Option Av → Hp → Prop}
theorem x_ldcS12 (ho1 : mOwn M = "PlateVoteModel") (hd : decode (mCC M) pc = .ok (.ldc 236, 2)) (hb : pc + 2 = b) (k : X E M d B u b ls (xr 910 0 :: st) h Q) : X E M d B u pc ls st h Q := by
  subst hb
  intro wf ho hl hx p e s m args below meth c H locs L C hR hS hL
  have hC := C
  obtain ⟨c1, c2, c3, c4, c5, c6, c7, c8, c9⟩ := C
  have hstr := c8.2.2.2.2.2.2.2.2
  have hA : h.2.2 910 0 = some (E.1.2.2.2 2) := wf.2.2.2.2.2.1
  have hv : vok h (xr 910 0) := fun q hq => by cases hq; exact ⟨_, hA⟩
  have kk := k wf (List.forall_mem_cons.mpr ⟨hv, ho⟩) hl hx p e s m args below meth c H locs L hC hR hS hL
  have e1 : cv h (xr 910 0) = .ref (E.1.2.2.2 2) := by simp [cv, xoa, hA, va_rf]
  rw [List.map_cons, e1] at kk
  exact va_ldcS c1 c2 (by rw [← ho1]; exact c5) hstr.1 hd kk
theorem x_ldcS8 (ho1 : mOwn M = "PlateVote$Scanner") (hd : decode (mCC M) pc = .ok (.ldc 44, 2)) (hb : pc + 2 = b) (k : X E M d B u b ls (xr 910 0 :: st) h Q) : X E M d B u pc ls st h Q := by
  subst hb
  intro wf ho hl hx p e s m args below meth c H locs L C hR hS hL
  have hC := C
  obtain ⟨c1, c2, c3, c4, c5, c6, c7, c8, c9⟩ := C
  have hstr := c8.2.2.2.2.2.2.2.2
  have hA : h.2.2 910 0 = some (E.1.2.2.2 2) := wf.2.2.2.2.2.1
  have hv : vok h (xr 910 0) := fun q hq => by cases hq; exact ⟨_, hA⟩
  have kk := k wf (List.forall_mem_cons.mpr ⟨hv, ho⟩) hl hx p e s m args below meth c H locs L hC hR hS hL
  have e1 : cv h (xr 910 0) = .ref (E.1.2.2.2 2) := by simp [cv, xoa, hA, va_rf]
  rw [List.map_cons, e1] at kk
  exact va_ldcS c1 c2 (by rw [← ho1]; exact c5) hstr.2.1 hd kk
theorem x_sVal (ho1 : mOwn M = "java/lang/String") (hd : decode (mCC M) pc = .ok (.getfield 9, 3)) (hw : Cond.fieldLink "java/lang/String" 9 "java/lang/String" "value" "[B" ∈ Gw) (hb : pc + 3 = b) (k : X E M d B u b ls (xr 911 0 :: st) h Q) : X E M d B u pc ls (xr 910 0 :: st) h Q := by
  subst hb
  intro wf ho hl hx p e s m args below meth c H locs L C hR hS hL
  have hC := C
  obtain ⟨c1, c2, c3, c4, c5, c6, c7, c8, c9⟩ := C
  have hstr := c8.2.2.2.2.2.2.2.2
  have hA : h.2.2 910 0 = some (E.1.2.2.2 2) := wf.2.2.2.2.2.1
  have hA2 : h.2.2 911 0 = some (E.1.2.2.2 3) := wf.2.2.2.2.2.2.1
  have hv : vok h (xr 911 0) := fun q hq => by cases hq; exact ⟨_, hA2⟩
  have kk := k wf (List.forall_mem_cons.mpr ⟨hv, fun v hv => ho v (List.mem_cons_of_mem _ hv)⟩) hl hx p e s m args below meth c H locs L hC hR hS hL
  have e1 : cv h (xr 910 0) = .ref (E.1.2.2.2 2) := by simp [cv, xoa, hA, va_rf]
  have e2 : cv h (xr 911 0) = .ref (E.1.2.2.2 3) := by simp [cv, xoa, hA2, va_rf]
  rw [List.map_cons, e2] at kk
  rw [List.map_cons, e1]
  exact vk_getf c1 c2 hstr.2.2.2.2.1 hS (by rw [← ho1]; exact c5) (c7 _ hw) (fun _ h9 => h9) hd kk
theorem x_sCod (ho1 : mOwn M = "java/lang/String") (hd : decode (mCC M) pc = .ok (.getfield 15, 3)) (hw : Cond.fieldLink "java/lang/String" 15 "java/lang/String" "coder" "B" ∈ Gw) (hb : pc + 3 = b) (k : X E M d B u b ls (xi 0 :: st) h Q) : X E M d B u pc ls (xr 910 0 :: st) h Q := by
  subst hb
  intro wf ho hl hx p e s m args below meth c H locs L C hR hS hL
  have hC := C
  obtain ⟨c1, c2, c3, c4, c5, c6, c7, c8, c9⟩ := C
  have hstr := c8.2.2.2.2.2.2.2.2
  have hA : h.2.2 910 0 = some (E.1.2.2.2 2) := wf.2.2.2.2.2.1
  have kk := k wf (List.forall_mem_cons.mpr ⟨v_0, fun v hv => ho v (List.mem_cons_of_mem _ hv)⟩) hl hx p e s m args below meth c H locs L hC hR hS hL
  have e1 : cv h (xr 910 0) = .ref (E.1.2.2.2 2) := by simp [cv, xoa, hA, va_rf]
  rw [List.map_cons, e1]
  exact vk_getf c1 c2 hstr.2.2.2.1 hS (by rw [← ho1]; exact c5) (c7 _ hw) (fun _ h9 => h9) hd kk
theorem x_gsCS (hd : decode (mCC M) pc = .ok (.getstatic 38, 3)) (hw : Cond.fieldLink (mOwn M) 38 "java/lang/String" "COMPACT_STRINGS" "Z" ∈ Gw) (hb : pc + 3 = b) (k : X E M d B u b ls (xi 1 :: st) h Q) : X E M d B u pc ls st h Q := by
  subst hb
  intro wf ho hl hx p e s m args below meth c H locs L C hR hS hL
  have hC := C
  obtain ⟨c1, c2, c3, c4, c5, c6, c7, c8, c9⟩ := C
  have hstr := c8.2.2.2.2.2.2.2.2
  have kk := k wf (List.forall_mem_cons.mpr ⟨(by decide : -2147483648 ≤ (1 : Int) ∧ (1 : Int) < 2147483648), ho⟩) hl hx p e s m args below meth c H locs L hC hR hS hL
  exact va_gets c1 c2 hstr.2.2.2.2.2.2.1 hS c5 (c7 _ hw) (fun _ h9 => h9) hd kk
theorem x_gsFmt (hd : decode (mCC M) pc = .ok (.getstatic 1053, 3)) (hw : Cond.fieldLink (mOwn M) 1053 "jdk/internal/util/Preconditions" "SIOOBE_FORMATTER" "Ljava/util/function/BiFunction;" ∈ Gw) (hb : pc + 3 = b) (k : X E M d B u b ls (xo none :: st) h Q) (k2 : X E M d B u b ls (xr 912 0 :: st) h Q) : X E M d B u pc ls st h Q := by
  subst hb
  intro wf ho hl hx p e s m args below meth c H locs L C hR hS hL
  have hC := C
  obtain ⟨c1, c2, c3, c4, c5, c6, c7, c8, c9⟩ := C
  have hstr := c8.2.2.2.2.2.2.2.2
  have hA : h.2.2 912 0 = some (E.1.2.2.2 4) := wf.2.2.2.2.2.2.2.1
  rcases hstr.2.2.2.2.2.2.2.1 with hz | hz
  · have kk := k wf (List.forall_mem_cons.mpr ⟨(fun _ h9 => (by cases h9)), ho⟩) hl hx p e s m args below meth c H locs L hC hR hS hL
    exact va_gets c1 c2 hz hS c5 (c7 _ hw) (fun _ h9 => h9) hd kk
  · have hv : vok h (xr 912 0) := fun q hq => by cases hq; exact ⟨_, hA⟩
    have kk := k2 wf (List.forall_mem_cons.mpr ⟨hv, ho⟩) hl hx p e s m args below meth c H locs L hC hR hS hL
    have e1 : cv h (xr 912 0) = .ref (E.1.2.2.2 4) := by simp [cv, xoa, hA, va_rf]
    rw [List.map_cons, e1] at kk
    exact va_gets c1 c2 hz hS c5 (c7 _ hw) (fun _ h9 => h9) hd kk
theorem x_alenS {v : Int} (hd : decode (mCC M) pc = .ok (.arraylength, 1)) (hv : 138 = v) (hb : pc + 1 = b) (k : X E M d B u b ls (xi v :: st) h Q) : X E M d B u pc ls (xr 911 0 :: st) h Q := by
  subst hb
  subst hv
  intro wf ho hl hx p e s m args below meth c H locs L C hR hS hL
  have hC := C
  obtain ⟨c1, c2, c3, c4, c5, c6, c7, c8, c9⟩ := C
  have hstr := c8.2.2.2.2.2.2.2.2
  have hA : h.2.2 911 0 = some (E.1.2.2.2 3) := wf.2.2.2.2.2.2.1
  have kk := k wf (List.forall_mem_cons.mpr ⟨(by decide : -2147483648 ≤ (138 : Int) ∧ (138 : Int) < 2147483648), fun v hv => ho v (List.mem_cons_of_mem _ hv)⟩) hl hx p e s m args below meth c H locs L hC hR hS hL
  have e1 : cv h (xr 911 0) = .ref (E.1.2.2.2 3) := by simp [cv, xoa, hA, va_rf]
  rw [List.map_cons, e1]
  exact va_tlen c1 c2 hstr.2.2.2.2.2.1 hS rfl hd kk
theorem x_baldS {x v : Int} (hd : decode (mCC M) pc = .ok (.baload, 1)) (hi : 0 ≤ x ∧ x < 138) (hv : xTb.getD x.toNat 0 = v) (hb : pc + 1 = b) (k : X E M d B u b ls (xi v :: st) h Q) : X E M d B u pc ls (xi x :: xr 911 0 :: st) h Q := by
  subst hb
  subst hv
  intro wf ho hl hx p e s m args below meth c H locs L C hR hS hL
  have hC := C
  obtain ⟨c1, c2, c3, c4, c5, c6, c7, c8, c9⟩ := C
  have hstr := c8.2.2.2.2.2.2.2.2
  have hA : h.2.2 911 0 = some (E.1.2.2.2 3) := wf.2.2.2.2.2.2.1
  obtain ⟨i1, i2⟩ := in_of (n := 138) (by decide) hi
  have hvv : vok h (xi (xTb.getD x.toNat 0)) := by
    have hall : ∀ j, j < 138 → -2147483648 ≤ xTb.getD j 0 ∧ xTb.getD j 0 < 2147483648 := by decide +kernel
    exact hall _ (by omega)
  have kk := k wf (List.forall_mem_cons.mpr ⟨hvv, fun v hv => ho v (List.mem_cons_of_mem _ (List.mem_cons_of_mem _ hv))⟩) hl hx p e s m args below meth c H locs L hC hR hS hL
  have e1 : cv h (xr 911 0) = .ref (E.1.2.2.2 3) := by simp [cv, xoa, hA, va_rf]
  rw [List.map_cons, List.map_cons, e1]
  exact va_tb c1 c2 hstr.2.2.2.2.2.1 hS i1 (by rw [i2]; rfl) hd kk
theorem x_i2c {x : Int} (hd : decode (mCC M) pc = .ok (.i2c, 1)) (hv : 0 ≤ x ∧ x < 65536) (hb : pc + 1 = b) (k : X E M d B u b ls (xi x :: st) h Q) : X E M d B u pc ls (xi x :: st) h Q := by
  subst hb
  intro wf ho hl hx p e s m args below meth c H locs L C hR hS hL
  have hC := C
  obtain ⟨c1, c2, c3, c4, c5, c6, c7, c8, c9⟩ := C
  have hstr := c8.2.2.2.2.2.2.2.2
  have h1 : vok h (xi x) := ho _ List.mem_cons_self
  have e1 : ((Int32.ofInt x).toUInt32 % 65536).toInt32 = Int32.ofInt x := by
    obtain ⟨j, rfl⟩ : ∃ j : Nat, x = (j : Int) := ⟨x.toNat, by omega⟩
    rw [Int32.ofInt_eq_ofNat]
    show ((nI j).toUInt32 % 65536).toInt32 = nI j
    rw [pk_char, pk_tn (by omega), Nat.mod_eq_of_lt (by omega)]
  exact lv_i2c c1 c2 hd e1 (k wf ho hl hx p e s m args below meth c H locs L hC hR hS hL)
theorem x_creturn {x : Int} (hd : decode (mCC M) pc = .ok (.ireturn, 1)) (hr : mRet M = some .char) (hu : u.1 ≤ B.1 ∧ u.2 ≤ B.2) (hv : 0 ≤ x ∧ x < 65536) (q : Q (some (xi x)) h) : X E M d B u pc ls [xi x] h Q := by
  intro wf ho hl hx p e s m args below meth c H locs L C hR hS hL
  have hC := C
  obtain ⟨c1, c2, c3, c4, c5, c6, c7, c8, c9⟩ := C
  have hstr := c8.2.2.2.2.2.2.2.2
  refine W.widen (k := B.1) (n := B.2) hu.1 hu.2 ?_
  have hn : narrow .char (.int (Int32.ofInt x)) = .int (Int32.ofInt x) := by
    obtain ⟨j, rfl⟩ : ∃ j : Nat, x = (j : Int) := ⟨x.toNat, by omega⟩
    rw [Int32.ofInt_eq_ofNat]
    exact (pk_charN (by omega)).1
  exact W.zret c1 c2 (c3.trans hr) hn (fun t ht hW => x_q (r := some (xi x)) q hx wf (fun v hv => by cases hv; exact ho _ List.mem_cons_self) hR hS ht) hS.2.2 hd c6
theorem x_breturn {x : Int} (hd : decode (mCC M) pc = .ok (.ireturn, 1)) (hr : mRet M = some .byte) (hu : u.1 ≤ B.1 ∧ u.2 ≤ B.2) (hv : -128 ≤ x ∧ x < 128) (q : Q (some (xi x)) h) : X E M d B u pc ls [xi x] h Q := by
  intro wf ho hl hx p e s m args below meth c H locs L C hR hS hL
  have hC := C
  obtain ⟨c1, c2, c3, c4, c5, c6, c7, c8, c9⟩ := C
  have hstr := c8.2.2.2.2.2.2.2.2
  refine W.widen (k := B.1) (n := B.2) hu.1 hu.2 ?_
  have hn : narrow .byte (.int (Int32.ofInt x)) = .int (Int32.ofInt x) := by
    have h9 := nar_b hv
    rw [vp_nar_byte] at h9
    have h8 := pk_nb (Int32.ofInt x)
    rwa [h9] at h8
  exact W.zret c1 c2 (c3.trans hr) hn (fun t ht hW => x_q (r := some (xi x)) q hx wf (fun v hv => by cases hv; exact ho _ List.mem_cons_self) hR hS ht) hS.2.2 hd c6
theorem x_callVS {M2 : Mth} {B2 : Nat × Nat} {as rest : List Av} {idx n : Nat} {Q2 : Option Av → Hp → Prop} (hs : Sp M2 d B2 (xr 910 0 :: as) h Q2) (hcs : (mY M2).cls = "java/lang/String") (hd : decode (mCC M) pc = .ok (.invokevirtual idx, 3)) (hw : CwV (mOwn M) idx M2 n) (hst : st = as.reverse ++ xr 910 0 :: rest) (hn : as.length = n) (hcat : (rest.map wid).sum ≤ 8) (hB : u.1 + B2.1 ≤ B.1 ∧ u.2 + B2.2 ≤ B.2) (hb : pc + 3 = b)
    (k : ∀ (rv : Option Av) (h2 : Hp), Q2 rv h2 → (∀ (r : Nat) (i : Int) (a : Nat), h.2.2 r i = some a → h2.2.2 r i = some a) → X E M (d + 1) B (u.1 + B2.1, u.2 + B2.2) b ls (rv.toList ++ rest) h2 Q) : X E M (d + 1) B u pc ls st h Q := by
  subst hb
  subst hst
  intro wf ho hl hx p e s m args below meth c H locs L C hR hS hL
  have hC := C
  obtain ⟨c1, c2, c3, c4, c5, c6, c7, c8, c9⟩ := C
  have hstr := c8.2.2.2.2.2.2.2.2
  have hA : h.2.2 910 0 = some (E.1.2.2.2 2) := wf.2.2.2.2.2.1
  have e1 : cv h (xr 910 0) = .ref (E.1.2.2.2 2) := by simp [cv, xoa, hA, va_rf]
  have hrv : vok h (xr 910 0) := ho _ (List.mem_append_right _ List.mem_cons_self)
  have hav : ∀ v ∈ xr 910 0 :: as, vok h v := by
    intro v hv
    rcases List.mem_cons.mp hv with q | q
    · rw [q]; exact hrv
    · exact ho v (List.mem_append_left _ (List.mem_reverse.mpr q))
  have hor : ∀ v ∈ rest, vok h v := fun v hv => ho v (List.mem_append_right _ (List.mem_cons_of_mem _ hv))
  have hMet := hs E.1 E.2.1 wf hav
  rw [List.map_cons, e1] at hMet
  obtain ⟨⟨w1, w2, w3, w4, w5⟩, w6, w7⟩ := hw
  have hG : GoodIn Gw (wsV (mOwn M) idx (mY M2).cls (mY M2) (mWs M2)) := by
    refine gw_in (fun w hw => ?_)
    rcases List.mem_append.mp hw with q | q
    · simp only [List.mem_cons, List.not_mem_nil, or_false] at q
      rcases q with q | q | q | q <;> rw [q] <;> assumption
    · exact gw_ws w3 w q
  have cw := cwV (R := rmo (d + 1) B) (bytes := mCC M2) (maxL := mNL M2) (ret := mRet M2) (rm := rmo d B2) (mc := B2.1) (ms := B2.2) n c7 hG rfl rfl rfl ⟨rfl, w4⟩ ⟨Nat.le_refl _, by show 8 + (mNL M2 + 11) + 64 * d ≤ 64 * (d + 1); omega⟩
  have run := va_runV (l := E.2.1) (e := e) (below := below) (meth := meth) (H := H) (locs := locs) (cells := u.1) (slots := u.2) (As := as.map (cv h)) (rest := rest.map (cv h)) (g := F0 m pc L ((as.reverse ++ xr 910 0 :: rest).map (cv h))) ⟨c1, c2, c4, c5, c7⟩ hMet cw
    ⟨fun a2 U g mk q => ⟨q.1, q.2.1, Kx_blind q.2.2 rfl rfl⟩, by rw [hcs]; exact va_Orecv hstr.2.2.1 hS, fun U hU hW => ⟨rfl, by rw [hU]; exact hR, Kx_call c8 hS hU hW⟩⟩ rfl (by rw [List.length_map]; exact hn) hL.1 (by simp [e1]) (lv_room (by rw [wid_sum]; exact hcat)) hd hB
  exact x_behind wf hor hl hx hC hS hL run (fun rv h2 H1 locs1 z1 z2 z3 z4 z5 z6 z7 z8 z9 => k rv h2 z1 z2 z3 z4 z5 z6 p e s m args below meth c H1 locs1 L hC z7 z8 z9)
end

abbrev mJ0_coder_7d493 : Mth := (RJ0, cJ0_coder_7d493, 1, (some .byte), yJ0_coder_7d493)
abbrev mJ0_isLatin1_aae02 : Mth := (RJ0, cJ0_isLatin1_aae02, 1, (some .boolean), yJ0_isLatin1_aae02)
abbrev mJ0_length_8abf5 : Mth := (RJ0, cJ0_length_8abf5, 1, (some .int), yJ0_length_8abf5)
abbrev mJ0_charAt_5068e : Mth := (RJ0, cJ0_charAt_5068e, 2, (some .char), yJ0_charAt_5068e)
abbrev mJ0_checkIndex_df160 : Mth := (RJ0, cJ0_checkIndex_df160, 2, none, yJ0_checkIndex_df160)
abbrev mJ1_charAt_3b067 : Mth := (RJ1, cJ1_charAt_3b067, 2, (some .char), yJ1_charAt_3b067)
abbrev mJ3_checkIndex_8e157 : Mth := (RJ3, cJ3_checkIndex_8e157, 3, (some .int), yJ3_checkIndex_8e157)
theorem kx_430 : Cond.methodLink RX8 46 yJ0_length_8abf5 ∈ Gw := gt_2 (i := 75) rfl rfl
theorem kx_123 : Cond.initialized "java/lang/String" ∈ Gw := gt_1 (i := 8) rfl rfl
theorem kx_433 : Cond.code yJ0_length_8abf5 cJ0_length_8abf5 1 (some .int) ∈ Gw := gt_2 (i := 78) rfl rfl
theorem kx_431 : Cond.instanceMethod yJ0_length_8abf5 ∈ Gw := gt_2 (i := 76) rfl rfl
theorem kx_432 : Cond.selects "java/lang/String" yJ0_length_8abf5 yJ0_length_8abf5 ∈ Gw := gt_2 (i := 77) rfl rfl
theorem cx_X8_46 : CwV RX8 46 mJ0_length_8abf5 0 := ⟨⟨kx_430, kx_123, kx_433, ⟨by decide +kernel, by decide +kernel, by decide +kernel⟩, Nat.le_of_ble_eq_true rfl⟩, kx_431, kx_432⟩
theorem kx_434 : Cond.methodLink RJ0 335 yJ0_coder_7d493 ∈ Gw := gt_2 (i := 79) rfl rfl
theorem kx_437 : Cond.code yJ0_coder_7d493 cJ0_coder_7d493 1 (some .byte) ∈ Gw := gt_2 (i := 82) rfl rfl
theorem kx_435 : Cond.instanceMethod yJ0_coder_7d493 ∈ Gw := gt_2 (i := 80) rfl rfl
theorem kx_436 : Cond.selects "java/lang/String" yJ0_coder_7d493 yJ0_coder_7d493 ∈ Gw := gt_2 (i := 81) rfl rfl
theorem cx_J0_335 : CwV RJ0 335 mJ0_coder_7d493 0 := ⟨⟨kx_434, kx_123, kx_437, ⟨by decide +kernel, by decide +kernel, by decide +kernel⟩, Nat.le_of_ble_eq_true rfl⟩, kx_435, kx_436⟩
theorem kx_440 : Cond.methodLink RX8 51 yJ0_charAt_5068e ∈ Gw := gt_2 (i := 85) rfl rfl
theorem kx_443 : Cond.code yJ0_charAt_5068e cJ0_charAt_5068e 2 (some .char) ∈ Gw := gt_2 (i := 88) rfl rfl
theorem kx_441 : Cond.instanceMethod yJ0_charAt_5068e ∈ Gw := gt_2 (i := 86) rfl rfl
theorem kx_442 : Cond.selects "java/lang/String" yJ0_charAt_5068e yJ0_charAt_5068e ∈ Gw := gt_2 (i := 87) rfl rfl
theorem cx_X8_51 : CwV RX8 51 mJ0_charAt_5068e 1 := ⟨⟨kx_440, kx_123, kx_443, ⟨by decide +kernel, by decide +kernel, by decide +kernel⟩, Nat.le_of_ble_eq_true rfl⟩, kx_441, kx_442⟩
theorem kx_444 : Cond.methodLink RJ0 492 yJ0_isLatin1_aae02 ∈ Gw := gt_2 (i := 89) rfl rfl
theorem kx_447 : Cond.code yJ0_isLatin1_aae02 cJ0_isLatin1_aae02 1 (some .boolean) ∈ Gw := gt_2 (i := 92) rfl rfl
theorem kx_445 : Cond.instanceMethod yJ0_isLatin1_aae02 ∈ Gw := gt_2 (i := 90) rfl rfl
theorem kx_446 : Cond.selects "java/lang/String" yJ0_isLatin1_aae02 yJ0_isLatin1_aae02 ∈ Gw := gt_2 (i := 91) rfl rfl
theorem cx_J0_492 : CwV RJ0 492 mJ0_isLatin1_aae02 0 := ⟨⟨kx_444, kx_123, kx_447, ⟨by decide +kernel, by decide +kernel, by decide +kernel⟩, Nat.le_of_ble_eq_true rfl⟩, kx_445, kx_446⟩
theorem kx_448 : Cond.methodLink RJ0 495 yJ1_charAt_3b067 ∈ Gw := gt_2 (i := 93) rfl rfl
theorem kx_124 : Cond.initialized "java/lang/StringLatin1" ∈ Gw := gt_1 (i := 9) rfl rfl
theorem kx_450 : Cond.code yJ1_charAt_3b067 cJ1_charAt_3b067 2 (some .char) ∈ Gw := gt_2 (i := 95) rfl rfl
theorem kx_449 : Cond.static yJ1_charAt_3b067 ∈ Gw := gt_2 (i := 94) rfl rfl
theorem cx_J0_495 : CwS RJ0 495 mJ1_charAt_3b067 2 := ⟨⟨kx_448, kx_124, kx_450, ⟨by decide +kernel, by decide +kernel, by decide +kernel⟩, Nat.le_of_ble_eq_true rfl⟩, kx_449⟩
theorem kx_451 : Cond.methodLink RJ1 9 yJ0_checkIndex_df160 ∈ Gw := gt_2 (i := 96) rfl rfl
theorem kx_453 : Cond.code yJ0_checkIndex_df160 cJ0_checkIndex_df160 2 none ∈ Gw := gt_2 (i := 98) rfl rfl
theorem kx_452 : Cond.static yJ0_checkIndex_df160 ∈ Gw := gt_2 (i := 97) rfl rfl
theorem cx_J1_9 : CwS RJ1 9 mJ0_checkIndex_df160 2 := ⟨⟨kx_451, kx_123, kx_453, ⟨by decide +kernel, by decide +kernel, by decide +kernel⟩, Nat.le_of_ble_eq_true rfl⟩, kx_452⟩
theorem kx_456 : Cond.methodLink RJ0 1059 yJ3_checkIndex_8e157 ∈ Gw := gt_2 (i := 101) rfl rfl
theorem kx_125 : Cond.initialized "jdk/internal/util/Preconditions" ∈ Gw := gt_1 (i := 10) rfl rfl
theorem kx_458 : Cond.code yJ3_checkIndex_8e157 cJ3_checkIndex_8e157 3 (some .int) ∈ Gw := gt_2 (i := 103) rfl rfl
theorem kx_457 : Cond.static yJ3_checkIndex_8e157 ∈ Gw := gt_2 (i := 102) rfl rfl
theorem cx_J0_1059 : CwS RJ0 1059 mJ3_checkIndex_8e157 3 := ⟨⟨kx_456, kx_125, kx_458, ⟨by decide +kernel, by decide +kernel, by decide +kernel⟩, Nat.le_of_ble_eq_true rfl⟩, kx_457⟩
theorem kx_468 : Cond.methodLink RJ2 414 yJ0_checkIndex_df160 ∈ Gw := gt_2 (i := 113) rfl rfl
theorem cx_J2_414 : CwS RJ2 414 mJ0_checkIndex_df160 2 := ⟨⟨kx_468, kx_123, kx_453, ⟨by decide +kernel, by decide +kernel, by decide +kernel⟩, Nat.le_of_ble_eq_true rfl⟩, kx_452⟩
theorem kx_1782 : Cond.methodLink RX12 238 yJ0_length_8abf5 ∈ Gw := gt_7 (i := 227) rfl rfl
theorem cx_X12_238 : CwV RX12 238 mJ0_length_8abf5 0 := ⟨⟨kx_1782, kx_123, kx_433, ⟨by decide +kernel, by decide +kernel, by decide +kernel⟩, Nat.le_of_ble_eq_true rfl⟩, kx_431, kx_432⟩
theorem kx_1783 : Cond.methodLink RX12 243 yJ0_charAt_5068e ∈ Gw := gt_7 (i := 228) rfl rfl
theorem cx_X12_243 : CwV RX12 243 mJ0_charAt_5068e 1 := ⟨⟨kx_1783, kx_123, kx_443, ⟨by decide +kernel, by decide +kernel, by decide +kernel⟩, Nat.le_of_ble_eq_true rfl⟩, kx_441, kx_442⟩
theorem kx_438 : Cond.fieldLink RJ0 38 "java/lang/String" "COMPACT_STRINGS" "Z" ∈ Gw := gt_2 (i := 83) rfl rfl
theorem kx_454 : Cond.fieldLink RJ0 1053 "jdk/internal/util/Preconditions" "SIOOBE_FORMATTER" "Ljava/util/function/BiFunction;" ∈ Gw := gt_2 (i := 99) rfl rfl
theorem kx_2163 : Cond.fieldLink RJ0 9 "java/lang/String" "value" "[B" ∈ Gw := gt_9 (i := 128) rfl rfl
theorem kx_2164 : Cond.fieldLink RJ0 15 "java/lang/String" "coder" "B" ∈ Gw := gt_9 (i := 129) rfl rfl
theorem dJ0_checkIndex_df160_0 : decode cJ0_checkIndex_df160 0 = .ok (.iload_n 0, 1) := by decide +kernel
theorem dJ0_checkIndex_df160_1 : decode cJ0_checkIndex_df160 1 = .ok (.iload_n 1, 1) := by decide +kernel
theorem dJ0_checkIndex_df160_2 : decode cJ0_checkIndex_df160 2 = .ok (.getstatic 1053, 3) := by decide +kernel
theorem dJ0_checkIndex_df160_5 : decode cJ0_checkIndex_df160 5 = .ok (.invokestatic 1059, 3) := by decide +kernel
theorem dJ0_checkIndex_df160_8 : decode cJ0_checkIndex_df160 8 = .ok (.pop, 1) := by decide +kernel
theorem dJ0_checkIndex_df160_9 : decode cJ0_checkIndex_df160 9 = .ok (.return_, 1) := by decide +kernel
theorem dJ3_checkIndex_8e157_0 : decode cJ3_checkIndex_8e157 0 = .ok (.iload_n 0, 1) := by decide +kernel
theorem dJ3_checkIndex_8e157_1 : decode cJ3_checkIndex_8e157 1 = .ok (.ifCond .lt 8, 3) := by decide +kernel
theorem dJ3_checkIndex_8e157_4 : decode cJ3_checkIndex_8e157 4 = .ok (.iload_n 0, 1) := by decide +kernel
theorem dJ3_checkIndex_8e157_5 : decode cJ3_checkIndex_8e157 5 = .ok (.iload_n 1, 1) := by decide +kernel
theorem dJ3_checkIndex_8e157_6 : decode cJ3_checkIndex_8e157 6 = .ok (.if_icmp .lt 10, 3) := by decide +kernel
theorem dJ3_checkIndex_8e157_9 : decode cJ3_checkIndex_8e157 9 = .ok (.aload_n 2, 1) := by decide +kernel
theorem dJ3_checkIndex_8e157_10 : decode cJ3_checkIndex_8e157 10 = .ok (.iload_n 0, 1) := by decide +kernel
theorem dJ3_checkIndex_8e157_11 : decode cJ3_checkIndex_8e157 11 = .ok (.iload_n 1, 1) := by decide +kernel
theorem dJ3_checkIndex_8e157_12 : decode cJ3_checkIndex_8e157 12 = .ok (.invokestatic 95, 3) := by decide +kernel
theorem dJ3_checkIndex_8e157_15 : decode cJ3_checkIndex_8e157 15 = .ok (.athrow, 1) := by decide +kernel
theorem dJ3_checkIndex_8e157_16 : decode cJ3_checkIndex_8e157 16 = .ok (.iload_n 0, 1) := by decide +kernel
theorem dJ3_checkIndex_8e157_17 : decode cJ3_checkIndex_8e157 17 = .ok (.ireturn, 1) := by decide +kernel
set_option maxHeartbeats 4000000 in
theorem c_J3_checkIndex_8e157 (d : Nat) (x y : Int) (v : Option (Nat × Int)) (h : Hp) (hL : Lay h) (hi : 0 ≤ x ∧ x < y) : Sp mJ3_checkIndex_8e157 (d + 1) (0, 0) [xi x, xi y, xo v] h (PoI (x, h)) := by
  refine sp_of (by decide) rfl (Nat.le_of_ble_eq_true rfl) (ls := [some (xi x), some (xi y), some (xo v)]) rfl (fun E hE => ?_)
  refine x_iload_n (i := 0) (b := 1) dJ3_checkIndex_8e157_0 rfl rfl rfl ?_
  refine x_if_lt (tgt := 9) (b := 4) dJ3_checkIndex_8e157_1 (by decide) rfl (fun hc => absurd hc (by omega)) (fun hc => ?_)
  refine x_iload_n (i := 0) (b := 5) dJ3_checkIndex_8e157_4 rfl rfl rfl ?_
  refine x_iload_n (i := 1) (b := 6) dJ3_checkIndex_8e157_5 rfl rfl rfl ?_
  refine x_icmp_lt (tgt := 16) (b := 9) dJ3_checkIndex_8e157_6 (by decide) rfl (fun hc => ?_) (fun hc => absurd hi.2 hc)
  refine x_iload_n (i := 0) (b := 17) dJ3_checkIndex_8e157_16 rfl rfl rfl ?_
  exact x_ireturn dJ3_checkIndex_8e157_17 rfl ⟨Nat.le_refl _, Nat.le_refl _⟩ ⟨rfl, rfl, hL⟩
def f_J0_checkIndex_df160 (x0 x1 : Int) (h : Hp) : Option (Int × Hp) := ck (0 ≤ x0 ∧ x0 < x1) (some (0, h))
set_option maxHeartbeats 4000000 in
theorem c_J0_checkIndex_df160 (d : Nat) (x0 x1 : Int) (h : Hp) (r : Int × Hp) (hL : Lay h) (hF : f_J0_checkIndex_df160 x0 x1 h = some r) : Sp mJ0_checkIndex_df160 (d + 2) (0, 0) [xi x0, xi x1] h (PoV r) := by
  obtain ⟨hi, hF⟩ := ck_e hF
  cases hF
  refine sp_of (by decide) rfl (Nat.le_of_ble_eq_true rfl) (ls := [some (xi x0), some (xi x1)]) rfl (fun E hE => ?_)
  refine x_iload_n (i := 0) (b := 1) dJ0_checkIndex_df160_0 rfl rfl rfl ?_
  refine x_iload_n (i := 1) (b := 2) dJ0_checkIndex_df160_1 rfl rfl rfl ?_
  refine x_gsFmt (b := 5) dJ0_checkIndex_df160_2 kx_454 rfl ?_ ?_
  · refine x_callS (as := [xi x0, xi x1, xo none]) (rest := []) (b := 8) (c_J3_checkIndex_8e157 d x0 x1 _ h hL hi) dJ0_checkIndex_df160_5 cx_J0_1059 rfl rfl (Nat.le_of_ble_eq_true rfl) ⟨Nat.le_refl _, Nat.le_refl _⟩ rfl (fun rv hh hp _ => ?_)
    obtain ⟨rfl, rfl, hL⟩ := hp
    refine x_pop (b := 9) dJ0_checkIndex_df160_8 rfl rfl ?_
    exact x_return dJ0_checkIndex_df160_9 rfl ⟨Nat.le_refl _, Nat.le_refl _⟩ ⟨rfl, rfl, hL⟩
  · refine x_callS (as := [xi x0, xi x1, xr 912 0]) (rest := []) (b := 8) (c_J3_checkIndex_8e157 d x0 x1 _ h hL hi) dJ0_checkIndex_df160_5 cx_J0_1059 rfl rfl (Nat.le_of_ble_eq_true rfl) ⟨Nat.le_refl _, Nat.le_refl _⟩ rfl (fun rv hh hp _ => ?_)
    obtain ⟨rfl, rfl, hL⟩ := hp
    refine x_pop (b := 9) dJ0_checkIndex_df160_8 rfl rfl ?_
    exact x_return dJ0_checkIndex_df160_9 rfl ⟨Nat.le_refl _, Nat.le_refl _⟩ ⟨rfl, rfl, hL⟩
