/-! THE ENTRY: what the machine holds where the law begins, in the layer's words -/
theorem ws_e (x : Int32) : Int32.ofInt ((((x.toInt + 2147483648).toNat % 4294967296 : Nat) : Int) - 2147483648) = x := by
  have h1 := Int32.le_toInt x
  have h2 := Int32.toInt_lt x
  have e : ((((x.toInt + 2147483648).toNat % 4294967296 : Nat) : Int) - 2147483648) = x.toInt := by omega
  rw [e]; exact Int32.ofInt_toInt x
/-- where the constants lie, the script, its length, its numbers -/
def lwF (f : Nat → Nat) (b L : Nat) (xs : Nat → Int32) (k : Nat) : Nat := if k < 5 then f k else if k = 5 then b else if k = 6 then L else ((xs (k - 7)).toInt + 2147483648).toNat
theorem lwF_7 {f : Nat → Nat} {b L j : Nat} {xs : Nat → Int32} : lwF f b L xs (7 + j) = ((xs j).toInt + 2147483648).toNat := by
  unfold lwF
  rw [if_neg (by omega), if_neg (by omega), if_neg (by omega), show 7 + j - 7 = j by omega]
section
variable {s : State} {args : Array Value}
theorem k_cls (hG : ∀ w ∈ Gw, w.before args s = true) : ∃ D : va_G, ∀ (k : Nat) (q : vw_C), vwCl[k]? = some q → u_Kn s q.1 q.2.1 q.2.2 (D.1 k) (D.2 k) := by
  have key : ∀ (k : Nat) (q : vw_C), vwCl[k]? = some q → ∃ (a : ClassId) (i : Nat → Nat), u_Kn s q.1 q.2.1 q.2.2 a i := by
    intro k q hq
    match k, hq with
    | 0, hq => cases hq; exact u_known (n := 15) hG lay_0 (hG (Cond.instantiable RX0 15) (gt_1 (i := 34) rfl rfl))
    | 1, hq => cases hq; exact u_known (n := 5) hG lay_1 (hG (Cond.instantiable RX1 5) (gt_1 (i := 110) rfl rfl))
    | 2, hq => cases hq; exact u_known (n := 11) hG lay_2 (hG (Cond.instantiable RX2 11) (gt_2 (i := 220) rfl rfl))
    | 3, hq => cases hq; exact u_known (n := 5) hG lay_3 (hG (Cond.instantiable RX3 5) (gt_3 (i := 110) rfl rfl))
    | 4, hq => cases hq; exact u_known (n := 10) hG lay_4 (hG (Cond.instantiable RX4 10) (gt_1 (i := 138) rfl rfl))
    | 5, hq => cases hq; exact u_known (n := 6) hG lay_5 (hG (Cond.instantiable RX5 6) (gt_3 (i := 137) rfl rfl))
    | 6, hq => cases hq; exact u_known (n := 6) hG lay_6 (hG (Cond.instantiable RX6 6) (gt_3 (i := 29) rfl rfl))
    | 7, hq => cases hq; exact u_known (n := 19) hG lay_7 (hG (Cond.instantiable RX7 19) (gt_2 (i := 63) rfl rfl))
    | 8, hq => cases hq; exact u_known (n := 10) hG lay_8 (hG (Cond.instantiable RX8 10) (gt_2 (i := 69) rfl rfl))
    | 9, hq => cases hq; exact u_known (n := 13) hG lay_9 (hG (Cond.instantiable RX9 13) (gt_1 (i := 40) rfl rfl))
    | 10, hq => cases hq; exact u_known (n := 9) hG lay_10 (hG (Cond.instantiable RX10 9) (gt_3 (i := 36) rfl rfl))
    | 11, hq => cases hq; exact u_known (n := 17) hG lay_11 (hG (Cond.instantiable RX11 17) (gt_1 (i := 26) rfl rfl))
    | 12, hq => cases hq; exact u_known (n := 80) hG lay_12 (hG (Cond.instantiable RX12 80) (gt_6 (i := 173) rfl rfl))
    | k + 13, hq => simp [vwCl] at hq
  have key2 : ∀ k : Nat, ∃ p : ClassId × (Nat → Nat), ∀ q : vw_C, vwCl[k]? = some q → u_Kn s q.1 q.2.1 q.2.2 p.1 p.2 := by
    intro k
    by_cases hk : ∃ q : vw_C, vwCl[k]? = some q
    · obtain ⟨q, hq⟩ := hk
      obtain ⟨a, i, h⟩ := key k q hq
      exact ⟨(a, i), fun q2 h2 => by cases hq.symm.trans h2; exact h⟩
    · obtain ⟨a, i, _⟩ := key 0 _ rfl
      exact ⟨(a, i), fun q2 h2 => absurd ⟨q2, h2⟩ hk⟩
  obtain ⟨f, hf⟩ := Classical.axiomOfChoice key2
  exact ⟨(fun k => (f k).1, fun k => (f k).2), fun k q hq => hf k q hq⟩
theorem k_arr {t : FieldType} (ht : ∀ C, t ≠ .object C) (h : (Cond.arrayClass t).before args s = true) : ∃ a : ClassId, ArrOfT s a t ∧ va_RA s a t := by
  obtain ⟨a, k, comp, f1, f2, f3⟩ := Cond.arrayClass_spec h
  refine ⟨a, fun N z => ⟨(fun k h => by cases h), k, f2, comp, f3⟩, ?_⟩
  cases t with
  | object C => exact absurd rfl (ht C)
  | _ => exact f1
theorem k_obj {C : String} (h : (Cond.arrayOver (.object C)).before args s = true) : ∃ a : ClassId, ArrOfT s a (.object C) ∧ va_RA s a (.object C) := by
  obtain ⟨comp, a, k, f1, f2, f3, f4, f5⟩ := Cond.arrayOver_spec h
  exact ⟨a, fun N z => ⟨(fun k h => by cases h), k, f3, comp, f4⟩, k, comp, f3, f4, f1, f5⟩
/-- the words of the tables that aren't kept by calls -/
theorem k_lay1 : Cond.laysStatic "PlateVote" "ORDERS" "[I" ∈ lw_tbl := by decide +kernel
theorem k_lay2 : Cond.laysStatic "PlateVote$Reader" "RANK" "[I" ∈ lw_tbl := by decide +kernel
theorem k_lay3 : Cond.laysStatic "java/lang/String" "COMPACT_STRINGS" "Z" ∈ lw_tbl := by decide +kernel
theorem k_lay4 : Cond.laysStatic "jdk/internal/util/Preconditions" "SIOOBE_FORMATTER" "Ljava/util/function/BiFunction;" ∈ lw_tbl := by decide +kernel
theorem k_lay5 : Cond.laysStatic Bundle.tN "UNASSIGNED_STACK" Bundle.steD ∈ lw_tbl := by decide +kernel
theorem k_lay6 : Cond.laysStatic Bundle.tN "SUPPRESSED_SENTINEL" Bundle.listD ∈ lw_tbl := by decide +kernel
theorem k_ini1 : Cond.initialized "PlateVote" ∈ lw_tbl := by decide +kernel
theorem k_ini2 : Cond.initialized "PlateVote$Reader" ∈ lw_tbl := by decide +kernel
theorem k_ini3 : Cond.initialized "java/lang/String" ∈ lw_tbl := by decide +kernel
theorem k_ini4 : Cond.initialized "jdk/internal/util/Preconditions" ∈ lw_tbl := by decide +kernel
theorem k_ini5 : Cond.initialized Bundle.tN ∈ lw_tbl := by decide +kernel
theorem k_ao1 : Cond.arrayOver (.object RX4) ∈ lw_tbl := by decide +kernel
theorem k_ao2 : Cond.arrayOver (.object RX10) ∈ lw_tbl := by decide +kernel
theorem k_ac1 : Cond.arrayClass .int ∈ lw_tbl := by decide +kernel
theorem k_ac2 : Cond.arrayClass .byte ∈ lw_tbl := by decide +kernel
theorem k_ac3 : Cond.arrayClass .boolean ∈ lw_tbl := by decide +kernel
theorem k_ac4 : Cond.arrayClass .long ∈ lw_tbl := by decide +kernel
theorem k_sr1 : Cond.stringRef "PlateVoteModel" 236 xTx ∈ lw_tbl := by decide +kernel
theorem k_sr2 : Cond.stringRef "PlateVote$Scanner" 44 xTx ∈ lw_tbl := by decide +kernel
theorem k_sr3 : Cond.stringRef "PlateVote" 141 "no such mouth" ∈ lw_tbl := by decide +kernel
theorem k_sr4 : Cond.stringRef "PlateVote" 170 "no such what" ∈ lw_tbl := by decide +kernel
theorem k_nst1 : Cond.fieldLinkNest "PlateVote$Galley" 252 "PlateVote" "ORDERS" "[I" "PlateVote" ∈ lw_tbl := by decide +kernel
theorem k_nst2 : Cond.methodLinkNest "PlateVote$Galley" 205 yX11_isCourse "PlateVote" ∈ lw_tbl := by decide +kernel
/-- what the statement gives of the start -/
def lwG : List Cond := flatC (Jvm.Cond.and given_1 narrow_1)
abbrev tmO : Term := .static "PlateVote" "ORDERS" "[I"
abbrev tmR : Term := .static "PlateVote$Reader" "RANK" "[I"
abbrev tmS : Term := .string "PlateVote$Scanner" 44
abbrev tmV : Term := .field tmS "java/lang/String" "value" "[B"
set_option maxRecDepth 100000 in
theorem g_0 : [Cond.eq (.static "java/lang/String" "COMPACT_STRINGS" "Z") (.int 1), .isRef (.static "jdk/internal/util/Preconditions" "SIOOBE_FORMATTER" "Ljava/util/function/BiFunction;"), .arrayOf tmR .int, .eq (.length tmR) (.int (Int32.ofNat 16)), .arrayOf tmO .int, .eq (.length tmO) (.int (Int32.ofNat 10)), .isRef (.static Bundle.tN "UNASSIGNED_STACK" Bundle.steD), .isRef (.static Bundle.tN "SUPPRESSED_SENTINEL" Bundle.listD), .not (.castable "java/util/NoSuchElementException" "java/lang/IndexOutOfBoundsException"), .exactly tmS "java/lang/String", .eq (.field tmS "java/lang/String" "coder" "B") (.int 0), .arrayOf tmV .byte, .eq (.length tmV) (.int (Int32.ofNat 138)), .exactly (.string "PlateVote" 141) "java/lang/String", .exactly (.string "PlateVote" 170) "java/lang/String", .eq tmS (.string "PlateVoteModel" 236)].all (fun w => decide (w ∈ lwG)) = true := by decide +kernel
set_option maxRecDepth 100000 in
theorem g_R : ∀ j : Nat, j < 16 → lwG[12 + j]? = some (Cond.eq (.elem tmR (.int (Int32.ofNat j))) (.int (Int32.ofInt (xRnk.getD j 0)))) := by decide +kernel
set_option maxRecDepth 100000 in
theorem g_O : ∀ j : Nat, j < 10 → lwG[31 + j]? = some (Cond.eq (.elem tmO (.int (Int32.ofNat j))) (.int (Int32.ofInt (xOrd.getD j 0)))) := by decide +kernel
set_option maxRecDepth 100000 in
theorem g_V : ∀ j : Nat, j < 138 → lwG[75 + j]? = some (Cond.eq (.elem tmV (.int (Int32.ofNat j))) (.int (Int32.ofInt (xTb.getD j 0)))) := by decide +kernel
theorem g_in {w : Cond} {L : List Cond} (h : L.all (fun w => decide (w ∈ lwG)) = true) (hw : w ∈ L) : w ∈ lwG := of_decide_eq_true (List.all_eq_true.mp h w hw)
/-- THE WORLD at the law's entry -/
theorem k_world {b L : Nat} {xs : Nat → Int32} (hL : L ≤ 3072) (hts : ∀ w ∈ lw_tbl, w.before args s = true) (hX : va_X b L xs s s.heap) (hbl : b < s.heap.size) (hgv : (Jvm.Cond.and given_1 narrow_1).before args s = true) : ∃ w : wk, Kx w s s.heap ∧ wn0 w = s.heap.size ∧ w.2.2.2 5 = b := by
  have hG : ∀ w ∈ Gw, w.before args s = true := fun w hw => hts w (List.mem_filter.mp hw).1
  have hN : ∀ w ∈ lwG, w.before args s = true := flat_of_before _ hgv
  have hA : ∀ a : Nat, a < s.heap.size → ¬ (s.heap.size ≤ a) := fun a h => Nat.not_le.mpr h
  obtain ⟨D, hD⟩ := k_cls hG
  obtain ⟨c0, p0, r0⟩ := k_arr (t := .int) (fun C h => by cases h) (hts _ k_ac1)
  obtain ⟨c1, p1, r1⟩ := k_arr (t := .byte) (fun C h => by cases h) (hts _ k_ac2)
  obtain ⟨c2, p2, r2⟩ := k_arr (t := .boolean) (fun C h => by cases h) (hts _ k_ac3)
  obtain ⟨c3, p3, r3⟩ := k_arr (t := .long) (fun C h => by cases h) (hts _ k_ac4)
  obtain ⟨c4, p4, r4⟩ := k_obj (C := RX4) (hts _ k_ao1)
  obtain ⟨c5, p5, r5⟩ := k_obj (C := RX10) (hts _ k_ao2)
  obtain ⟨aR, eR, tR⟩ := va_Tof (tm := tmR) (ty := .int) (N := 16) (f := fun j => .int (Int32.ofInt (xRnk.getD j 0))) (A := fun q => s.heap.size ≤ q) (by decide) (hN _ (g_in g_0 (by simp))) (va_eqt (hN _ (g_in g_0 (by simp)))) (fun j hj => va_eqt (hN _ (List.mem_of_getElem? (g_R j hj)))) hA
  obtain ⟨aO, eO, tO⟩ := va_Tof (tm := tmO) (ty := .int) (N := 10) (f := fun j => .int (Int32.ofInt (xOrd.getD j 0))) (A := fun q => s.heap.size ≤ q) (by decide) (hN _ (g_in g_0 (by simp))) (va_eqt (hN _ (g_in g_0 (by simp)))) (fun j hj => va_eqt (hN _ (List.mem_of_getElem? (g_O j hj)))) hA
  obtain ⟨aS, _, _, _, eS, _⟩ := Cond.exactly_spec (args := args) (first := s) (o := none) (s := s) (idx := []) (t := tmS) (cls := "java/lang/String") (hN _ (g_in g_0 (by simp)))
  obtain ⟨aV, eV, tV⟩ := va_Tof (tm := tmV) (ty := .byte) (N := 138) (f := fun j => .int (Int32.ofInt (xTb.getD j 0))) (A := fun q => s.heap.size ≤ q) (by decide) (hN _ (g_in g_0 (by simp))) (va_eqt (hN _ (g_in g_0 (by simp)))) (fun j hj => va_eqt (hN _ (List.mem_of_getElem? (g_V j hj)))) hA
  obtain ⟨a1, _, _, _, e1, _⟩ := Cond.exactly_spec (args := args) (first := s) (o := none) (s := s) (idx := []) (t := .string "PlateVote" 141) (cls := "java/lang/String") (hN _ (g_in g_0 (by simp)))
  obtain ⟨a2, _, _, _, e2, _⟩ := Cond.exactly_spec (args := args) (first := s) (o := none) (s := s) (idx := []) (t := .string "PlateVote" 170) (cls := "java/lang/String") (hN _ (g_in g_0 (by simp)))
  have eM : (Term.string "PlateVoteModel" 236).eval args s none [] s = some (.ref aS) := by
    obtain ⟨y, y1, y2⟩ := Cond.eq_one (args := args) (first := s) (o := none) (s := s) (idx := []) (a := tmS) (b := .string "PlateVoteModel" 236) (hN _ (g_in g_0 (by simp)))
    rw [y2, ← y1, eS]
  obtain ⟨aF, hF⟩ : ∃ aF : Nat, va_Z "jdk/internal/util/Preconditions" "SIOOBE_FORMATTER" "Ljava/util/function/BiFunction;" .null (fun q => s.heap.size ≤ q) s s.heap ∨ va_Z "jdk/internal/util/Preconditions" "SIOOBE_FORMATTER" "Ljava/util/function/BiFunction;" (.ref aF) (fun q => s.heap.size ≤ q) s s.heap := by
    rcases va_Zqof (A := fun q => s.heap.size ≤ q) (hts _ k_lay4) (hts _ k_ini4) (hN _ (g_in g_0 (by simp))) hA with z | ⟨t, z⟩
    · exact ⟨0, Or.inl z⟩
    · exact ⟨t, Or.inr z⟩
  obtain ⟨f, hf⟩ : ∃ f : Nat → Nat, f = fun k => if k = 0 then aO else if k = 1 then aR else if k = 2 then aS else if k = 3 then aV else aF := ⟨_, rfl⟩
  obtain ⟨y, hy⟩ : ∃ y : Nat → ClassId, y = fun k => if k = 0 then c0 else if k = 1 then c1 else if k = 2 then c2 else if k = 3 then c3 else if k = 4 then c4 else c5 := ⟨_, rfl⟩
  have q0 : lwF f b L xs 0 = aO := by rw [hf]; rfl
  have q1 : lwF f b L xs 1 = aR := by rw [hf]; rfl
  have q2 : lwF f b L xs 2 = aS := by rw [hf]; rfl
  have q3 : lwF f b L xs 3 = aV := by rw [hf]; rfl
  have q4 : lwF f b L xs 4 = aF := by rw [hf]; rfl
  have q5 : lwF f b L xs 5 = b := rfl
  have q6 : lwF f b L xs 6 = L := rfl
  have scr : va_T .int b L (fun j => .int (Int32.ofInt (((lwF f b L xs (7 + j) % 4294967296 : Nat) : Int) - 2147483648))) (fun q => s.heap.size ≤ q) s s.heap := by
    obtain ⟨cell, h1, h2, h3, h4, h5⟩ := hX
    refine ⟨cell, h1, h2, h3, Nat.le_of_eq h4.symm, by rw [h4], fun j hj => ?_, Nat.not_le.mpr hbl⟩
    rw [h5 j hj]
    show some (Value.int (xs j)) = some (Value.int (Int32.ofInt (((lwF f b L xs (7 + j) % 4294967296 : Nat) : Int) - 2147483648)))
    rw [lwF_7, ws_e]
  refine ⟨(D, y, s.heap.size, lwF f b L xs), ⟨⟨hD, ?_⟩, Nat.le_refl _, ?_⟩, rfl, rfl⟩
  · intro k q hq
    subst hy
    match k, hq with
    | 0, hq => obtain rfl : (c0, FieldType.int) = q := Option.some.inj hq; exact ⟨p0, r0⟩
    | 1, hq => obtain rfl : (c1, FieldType.byte) = q := Option.some.inj hq; exact ⟨p1, r1⟩
    | 2, hq => obtain rfl : (c2, FieldType.boolean) = q := Option.some.inj hq; exact ⟨p2, r2⟩
    | 3, hq => obtain rfl : (c3, FieldType.long) = q := Option.some.inj hq; exact ⟨p3, r3⟩
    | 4, hq => obtain rfl : (c4, FieldType.object RX4) = q := Option.some.inj hq; exact ⟨p4, r4⟩
    | 5, hq => obtain rfl : (c5, FieldType.object RX10) = q := Option.some.inj hq; exact ⟨p5, r5⟩
    | k + 6, hq => simp [wty] at hq
  · refine ⟨?_, ?_, ?_, ?_, va_Nw.of rfl (hts _ k_nst1), va_Nw.of rfl (hts _ k_nst2), ?_, ?_, ?_, ?_, ?_, ?_, ?_, ?_, va_AO.of (hts _ k_ao1), va_AO.of (hts _ k_ao2), ?_⟩
    · show va_Z _ _ _ (.ref (lwF f b L xs 0)) _ _ _
      rw [q0]; exact va_Zof (hts _ k_lay1) (hts _ k_ini1) eO hA
    · show va_T .int (lwF f b L xs 0) 10 _ _ _ _
      rw [q0]; exact tO
    · show va_Z _ _ _ (.ref (lwF f b L xs 1)) _ _ _
      rw [q1]; exact va_Zof (hts _ k_lay2) (hts _ k_ini2) eR hA
    · show va_T .int (lwF f b L xs 1) 16 _ _ _ _
      rw [q1]; exact tR
    · show vk_R _ _ _ (lwF f b L xs 2) _
      rw [q2]; exact vk_R.of (hts _ k_sr1) eM
    · show vk_R _ _ _ (lwF f b L xs 2) _
      rw [q2]; exact vk_R.of (hts _ k_sr2) eS
    · show va_O _ (lwF f b L xs 2) _ _ _
      rw [q2]; exact va_Oof (hN _ (g_in g_0 (by simp))) eS hA
    · show va_OF _ _ _ _ (lwF f b L xs 2) _ _ _
      rw [q2]; exact vk_OFof eS (va_eqt (hN _ (g_in g_0 (by simp)))) hA
    · show va_OF _ _ _ (.ref (lwF f b L xs 3)) (lwF f b L xs 2) _ _ _
      rw [q2, q3]; exact vk_OFof eS eV hA
    · show va_T .byte (lwF f b L xs 3) 138 _ _ _ _
      rw [q3]; exact tV
    · exact va_Zof (hts _ k_lay3) (hts _ k_ini3) (va_eqi (hN _ (g_in g_0 (by simp)))) hA
    · show _ ∨ va_Z _ _ _ (.ref (lwF f b L xs 4)) _ _ _
      rw [q4]; exact hF
    · refine ⟨vx_Zqof (hts _ k_lay5) (hts _ k_ini5) (hN _ (g_in g_0 (by simp))) hA, vx_Zqof (hts _ k_lay6) (hts _ k_ini5) (hN _ (g_in g_0 (by simp))) hA, ⟨a1, vk_R.of (hts _ k_sr3) e1⟩, ⟨a2, vk_R.of (hts _ k_sr4) e2⟩, va_Nc.of (hN _ (g_in g_0 (by simp))), ?_, hL⟩
      exact scr
end
/-- the abstract heap where the law begins: nothing but the constants -/
def h_0 (w : wk) : Hp := (fun r i k => if r = 999 ∧ i = 0 ∧ k = 0 then (wn0 w : Int) else 0, fun _ _ _ => none, fun r i => if i = 0 then (if r = 900 then some (w.2.2.2 0) else if r = 901 then some (w.2.2.2 1) else if r = 910 then some (w.2.2.2 2) else if r = 911 then some (w.2.2.2 3) else if r = 912 then some (w.2.2.2 4) else if r = 913 then some (w.2.2.2 5) else none) else none)
theorem h_0n {w : wk} {r : Nat} {i : Int} (hr : r < 900) : (h_0 w).2.2 r i = none := by
  show (if i = 0 then (if r = 900 then some (w.2.2.2 0) else if r = 901 then some (w.2.2.2 1) else if r = 910 then some (w.2.2.2 2) else if r = 911 then some (w.2.2.2 3) else if r = 912 then some (w.2.2.2 4) else if r = 913 then some (w.2.2.2 5) else none) else none) = none
  rw [if_neg (show ¬ r = 900 by omega), if_neg (show ¬ r = 901 by omega), if_neg (show ¬ r = 910 by omega), if_neg (show ¬ r = 911 by omega), if_neg (show ¬ r = 912 by omega), if_neg (show ¬ r = 913 by omega), ite_self]
theorem h_0b {w : wk} (r : Nat) (i : Int) (hr : r < 900) : blk (h_0 w) r i := by
  refine ⟨h_0n hr, fun k => ?_, fun k => rfl⟩
  show (if r = 999 ∧ i = 0 ∧ k = 0 then (wn0 w : Int) else 0) = 0
  rw [if_neg (fun y => by have := y.1; omega)]
theorem xrg_0 {k : Nat} : xrg k 0 := by
  unfold xrg
  split
  · decide
  · split
    · decide
    · split
      · decide
      · decide
theorem h_0w {w : wk} : Wf w (h_0 w) := by
  refine ⟨fun r r2 i i2 a hr _ ha _ => ?_, fun r i k hr => ?_, fun r i k q hq => ?_, rfl, rfl, rfl, rfl, rfl, rfl⟩
  · rw [h_0n hr] at ha; cases ha
  · rw [(h_0b r i hr).2.1 k]; exact xrg_0
  · cases hq
theorem h_0r {w : wk} {H : Heap} (e : wn0 w = H.size) : Rep w (h_0 w) H := by
  refine ⟨fun r i a hr ha => ?_, ?_⟩
  · rw [h_0n hr] at ha; cases ha
  · show (if (999 : Nat) = 999 ∧ (0 : Int) = 0 ∧ (0 : Int) = 0 then (wn0 w : Int) else 0) = _
    rw [if_pos ⟨rfl, rfl, rfl⟩, e]
theorem stand_le {p : Program} {l : Launch} {e : Env} {R R2 : Room} {s : State} {m : MethodId} {args : Array Value} {below : List Frame} {meth : Method} {c : Code} {T : State} {locs : List Loc} {cells slots : Nat} (X : Stand p l e R s m args below meth c T locs cells slots) (hf : R2.frames ≤ R.frames) (hl : R2.locals ≤ R.locals) (hc : R2.cells ≤ R.cells) (hs : R2.slots ≤ R.slots) : Stand p l e R2 s m args below meth c T locs cells slots := by
  refine ⟨X.admits, X.cas, X.clock, X.frames, ?_, X.hears, X.method, X.code, X.here, X.tail, X.warmed, X.limits, X.bytes, X.same⟩
  have h := X.room
  simp only [State.hasRoom, Bool.and_eq_true, decide_eq_true_eq] at h ⊢
  obtain ⟨⟨⟨⟨h1, h2, h3, h4, h5, h6⟩, h7⟩, h8⟩, h9⟩ := h
  exact ⟨⟨⟨⟨by omega, by omega, by omega, by omega, by omega, h6⟩, by omega⟩, by omega⟩, h9⟩
