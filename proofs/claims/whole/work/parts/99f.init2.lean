/-! THE CONSTRUCTORS, 2: the class's -/
theorem s_X1_init_u_0 {n : Nat} {a0 : Int} {h : Hp} {Q : Int → Hp → Prop} (hn : 0 < n) (k : ok (b_X1_init_u_0 (g_X1_init_u (n - 1)) a0 h) Q) : ok (g_X1_init_u n 0 [a0] h) Q := by cases n with | zero => cases hn | succ m => exact k
theorem s_X3_init_u_0 {n : Nat} {a0 : Int} {h : Hp} {Q : Int → Hp → Prop} (hn : 0 < n) (k : ok (b_X3_init_u_0 (g_X3_init_u (n - 1)) a0 h) Q) : ok (g_X3_init_u n 0 [a0] h) Q := by cases n with | zero => cases hn | succ m => exact k
theorem s_X4_init_u_0 {n : Nat} {a0 : Int} {h : Hp} {Q : Int → Hp → Prop} (hn : 0 < n) (k : ok (b_X4_init_u_0 (g_X4_init_u (n - 1)) a0 h) Q) : ok (g_X4_init_u n 0 [a0] h) Q := by cases n with | zero => cases hn | succ m => exact k
theorem s_X5_init_u_0 {n : Nat} {h : Hp} {Q : Int → Hp → Prop} (hn : 0 < n) (k : ok (b_X5_init_u_0 (g_X5_init_u (n - 1))  h) Q) : ok (g_X5_init_u n 0 [] h) Q := by cases n with | zero => cases hn | succ m => exact k
theorem s_X9_init_u_0 {n : Nat} {a0 : Int} {h : Hp} {Q : Int → Hp → Prop} (hn : 0 < n) (k : ok (b_X9_init_u_0 (g_X9_init_u (n - 1)) a0 h) Q) : ok (g_X9_init_u n 0 [a0] h) Q := by cases n with | zero => cases hn | succ m => exact k
theorem s_X10_init_u_0 {n : Nat} {a0 : Int} {h : Hp} {Q : Int → Hp → Prop} (hn : 0 < n) (k : ok (b_X10_init_u_0 (g_X10_init_u (n - 1)) a0 h) Q) : ok (g_X10_init_u n 0 [a0] h) Q := by cases n with | zero => cases hn | succ m => exact k
theorem s_X0_init_u_0 {n : Nat} {a0 : Int} {h : Hp} {Q : Int → Hp → Prop} (hn : 0 < n) (k : ok (b_X0_init_u_0 (g_X0_init_u (n - 1)) a0 h) Q) : ok (g_X0_init_u n 0 [a0] h) Q := by cases n with | zero => cases hn | succ m => exact k
theorem s_X9_clear_u_0 {n : Nat} {a0 : Int} {h : Hp} {Q : Int → Hp → Prop} (hn : 0 < n) (k : ok (b_X9_clear_u_0 (g_X9_clear_u (n - 1)) a0 h) Q) : ok (g_X9_clear_u n 0 [a0] h) Q := by cases n with | zero => cases hn | succ m => exact k
theorem s_X0_clear_u_0 {n : Nat} {a0 : Int} {h : Hp} {Q : Int → Hp → Prop} (hn : 0 < n) (k : ok (b_X0_clear_u_0 (g_X0_clear_u (n - 1)) a0 h) Q) : ok (g_X0_clear_u n 0 [a0] h) Q := by cases n with | zero => cases hn | succ m => exact k
theorem s_X8_init_u_0 {n : Nat} {h : Hp} {Q : Int → Hp → Prop} (hn : 0 < n) (k : ok (b_X8_init_u_0 (g_X8_init_u (n - 1))  h) Q) : ok (g_X8_init_u n 0 [] h) Q := by cases n with | zero => cases hn | succ m => exact k
theorem s_X8_init_u_1 {n : Nat} {a0 a1 a2 a3 : Int} {h : Hp} {Q : Int → Hp → Prop} (hn : 0 < n) (k : ok (b_X8_init_u_1 (g_X8_init_u (n - 1)) a0 a1 a2 a3 h) Q) : ok (g_X8_init_u n 1 [a0, a1, a2, a3] h) Q := by cases n with | zero => cases hn | succ m => exact k
theorem s_X8_init_u_2 {n : Nat} {a0 a1 a2 a3 : Int} {h : Hp} {Q : Int → Hp → Prop} (hn : 0 < n) (k : ok (b_X8_init_u_2 (g_X8_init_u (n - 1)) a0 a1 a2 a3 h) Q) : ok (g_X8_init_u n 2 [a0, a1, a2, a3] h) Q := by cases n with | zero => cases hn | succ m => exact k
theorem s_X7_init_u_0 {n : Nat} {a0 : Int} {h : Hp} {Q : Int → Hp → Prop} (hn : 0 < n) (k : ok (b_X7_init_u_0 (g_X7_init_u (n - 1)) a0 h) Q) : ok (g_X7_init_u n 0 [a0] h) Q := by cases n with | zero => cases hn | succ m => exact k
theorem s_X2_init_u_0 {n : Nat} {a0 : Int} {h : Hp} {Q : Int → Hp → Prop} (hn : 0 < n) (k : ok (b_X2_init_u_0 (g_X2_init_u (n - 1)) a0 h) Q) : ok (g_X2_init_u n 0 [a0] h) Q := by cases n with | zero => cases hn | succ m => exact k
theorem s_X6_init_u_0 {n : Nat} {h : Hp} {Q : Int → Hp → Prop} (hn : 0 < n) (k : ok (b_X6_init_u_0 (g_X6_init_u (n - 1))  h) Q) : ok (g_X6_init_u n 0 [] h) Q := by cases n with | zero => cases hn | succ m => exact k
theorem s_X11_init_u_0 {n : Nat} {h : Hp} {Q : Int → Hp → Prop} (hn : 0 < n) (k : ok (b_X11_init_u_0 (g_X11_init_u (n - 1))  h) Q) : ok (g_X11_init_u n 0 [] h) Q := by cases n with | zero => cases hn | succ m => exact k
theorem s_J0_length_8abf5_u_0 {n : Nat} {h : Hp} {Q : Int → Hp → Prop} (hn : 0 < n) (k : ok (b_J0_length_8abf5_u_0 (g_J0_length_8abf5_u (n - 1))  h) Q) : ok (g_J0_length_8abf5_u n 0 [] h) Q := by cases n with | zero => cases hn | succ m => exact k
theorem s_J0_charAt_5068e_u_0 {n : Nat} {a0 : Int} {h : Hp} {Q : Int → Hp → Prop} (hn : 0 < n) (k : ok (b_J0_charAt_5068e_u_0 (g_J0_charAt_5068e_u (n - 1)) a0 h) Q) : ok (g_J0_charAt_5068e_u n 0 [a0] h) Q := by cases n with | zero => cases hn | succ m => exact k
theorem s_J0_coder_7d493_u_0 {n : Nat} {h : Hp} {Q : Int → Hp → Prop} (hn : 0 < n) (k : ok (b_J0_coder_7d493_u_0 (g_J0_coder_7d493_u (n - 1))  h) Q) : ok (g_J0_coder_7d493_u n 0 [] h) Q := by cases n with | zero => cases hn | succ m => exact k
theorem s_J0_isLatin1_aae02_u_0 {n : Nat} {h : Hp} {Q : Int → Hp → Prop} (hn : 0 < n) (k : ok (b_J0_isLatin1_aae02_u_0 (g_J0_isLatin1_aae02_u (n - 1))  h) Q) : ok (g_J0_isLatin1_aae02_u n 0 [] h) Q := by cases n with | zero => cases hn | succ m => exact k
theorem s_J1_charAt_3b067_u_0 {n : Nat} {a0 : Int} {h : Hp} {Q : Int → Hp → Prop} (hn : 0 < n) (k : ok (b_J1_charAt_3b067_u_0 (g_J1_charAt_3b067_u (n - 1)) a0 h) Q) : ok (g_J1_charAt_3b067_u n 0 [a0] h) Q := by cases n with | zero => cases hn | succ m => exact k
section
variable {h : Hp} {Q : Int → Hp → Prop} {x : Nat}
theorem u_len (q : Q 138 h) : ok (f_J0_length_8abf5_u h) Q := by
  refine fuv_J0_length_8abf5_u (fun n hn => ?_)
  refine s_J0_length_8abf5_u_0 (by omega) ?_
  unfold b_J0_length_8abf5_u_0
  refine ok_bd ?_
  refine fuv_J0_coder_7d493_u (fun n2 hn2 => ?_)
  refine s_J0_coder_7d493_u_0 (by omega) ?_
  unfold b_J0_coder_7d493_u_0
  refine ok_ck (by decide) ?_
  refine ⟨0, h, rfl, ?_⟩
  refine ⟨_, h, rfl, ?_⟩
  have e : bshr 138 0 = 138 := by decide +kernel
  rw [e]; exact q
theorem tb_r : ∀ k : Nat, k < 138 → 0 ≤ band (xTb.getD k 0) 255 ∧ band (xTb.getD k 0) 255 < 65536 := by decide +kernel
theorem u_chr (hx : x < 138) (q : Q (band (xTb.getD x 0) 255) h) : ok (f_J0_charAt_5068e_u (x : Int) h) Q := by
  refine fuv_J0_charAt_5068e_u (fun n hn => ?_)
  refine s_J0_charAt_5068e_u_0 (by omega) ?_
  unfold b_J0_charAt_5068e_u_0
  refine ok_bd ?_
  refine fuv_J0_isLatin1_aae02_u (fun n2 hn2 => ?_)
  refine s_J0_isLatin1_aae02_u_0 (by omega) ?_
  unfold b_J0_isLatin1_aae02_u_0
  refine ⟨1, h, rfl, ?_⟩
  refine ok_if (fun z => absurd z (by decide)) (fun _ => ?_)
  refine ok_bd ?_
  refine fuv_J1_charAt_3b067_u (fun n3 hn3 => ?_)
  refine s_J1_charAt_3b067_u_0 (by omega) ?_
  unfold b_J1_charAt_3b067_u_0
  refine ok_bd ?_
  unfold f_J0_checkIndex_df160_u
  refine ok_ck (by omega) ?_
  refine ⟨0, h, rfl, ?_⟩
  have t := tb_r x hx
  have et : ((x : Int)).toNat = x := Int.toNat_natCast x
  rw [et]
  refine ok_ck (by omega) ?_
  refine ok_ck t ?_
  refine ok_ck t ?_
  refine ⟨_, h, rfl, ?_⟩
  refine ok_ck t ?_
  exact ⟨_, h, rfl, q⟩
end
/-- the words of the text, laid -/
def kl : Nat → Int → Int → Int → Nat → List Opn → Option (List Opn)
  | 0, _, _, _, _, _ => none
  | n + 1, x2, x3, x4, x5, L => if 138 ≤ x5 ∨ 27 ≤ x2 then some L else
      if band (xTb.getD x5 0) 255 = 32 then
        if 0 ≤ x2 ∧ 0 ≤ x4 ∧ x4 ≤ 6 then kl n (x2 + 1) 0 0 (x5 + 1) ((1, 47, 0, x2, bshl x3 (5 * (6 - x4)), none) :: L) else none
      else if 0 ≤ x4 ∧ x4 ≤ 6 then kl n x2 (bor (bshl x3 5) ((band (xTb.getD x5 0) 255 - 97) + 1)) (x4 + 1) (x5 + 1) L else none
theorem kl_s {o : Option (List Opn)} (h : o.isSome = true) : o = some (o.getD []) := by
  cases o with
  | none => cases h
  | some x => rfl
section
variable {H : List (Nat × Int)} {m g : Hp} {Q : Int → Hp → Prop} {L' : List Opn}
theorem kl_ok (nh : nH H 47 0 = true) (kk : ∀ h', Ds ZC L' H m g h' → Q 0 h') : ∀ (n g2 : Nat) (x2 x3 x4 : Int) (x5 : Nat) (L : List Opn) (h : Hp), kl n x2 x3 x4 x5 L = some L' → Ds ZC L H m g h → lR L 8 0 0 = some (47, 0) → 2 * n + 2 ≤ g2 → ok (g_X8_init_u g2 1 [x2, x3, x4, (x5 : Int)] h) Q
  | 0, g2, x2, x3, x4, x5, L, h, e, d, lr, hg => by cases e
  | n + 1, g2, x2, x3, x4, x5, L, h, e, d, lr, hg => by
    unfold kl at e
    refine s_X8_init_u_1 (by omega) ?_
    unfold b_X8_init_u_1
    refine ok_bd ?_
    refine u_len ?_
    by_cases y : 138 ≤ x5 ∨ 27 ≤ x2
    · rw [if_pos y] at e
      injection e with e
      subst e
      refine ok_if (fun _ => ⟨0, h, rfl, kk h d⟩) (fun z => ?_)
      refine ok_if (fun _ => ⟨0, h, rfl, kk h d⟩) (fun z2 => ?_)
      omega
    · rw [if_neg y] at e
      refine ok_if (fun z => by omega) (fun z => ?_)
      refine ok_if (fun z2 => by omega) (fun z2 => ?_)
      refine ok_bd ?_
      refine u_chr (by omega) ?_
      have t := tb_r x5 (by omega)
      by_cases y2 : band (xTb.getD x5 0) 255 = 32
      · rw [if_pos y2] at e
        refine ok_if (fun _ => ?_) (fun z3 => absurd y2 z3)
        by_cases y3 : 0 ≤ x2 ∧ 0 ≤ x4 ∧ x4 ≤ 6
        · rw [if_pos y3] at e
          refine zo_ck d (by rfl) lr ?_
          refine ok_ck (by omega) ?_
          refine ok_ck (by omega) ?_
          refine ok_ck (by omega) ?_
          refine zo_sI d (by rfl) nh (fun h2 d2 => ?_)
          refine ok_ck (by omega) ?_
          refine s_X8_init_u_2 (by omega) ?_
          unfold b_X8_init_u_2
          refine ok_ck (by omega) ?_
          have ex : (x5 : Int) + 1 = ((x5 + 1 : Nat) : Int) := by omega
          rw [ex]
          exact kl_ok nh kk n _ _ _ _ (x5 + 1) _ h2 e d2 (by unfold lR; rw [if_neg (fun u => by have := u.1; cases this)]; exact lr) (by omega)
        · rw [if_neg y3] at e; cases e
      · rw [if_neg y2] at e
        refine ok_if (fun z3 => absurd z3 y2) (fun _ => ?_)
        by_cases y3 : 0 ≤ x4 ∧ x4 ≤ 6
        · rw [if_pos y3] at e
          refine ok_ck (by omega) ?_
          refine ok_ck (by omega) ?_
          refine ok_lt ?_
          refine ok_ck (by omega) ?_
          refine s_X8_init_u_2 (by omega) ?_
          unfold b_X8_init_u_2
          refine ok_ck (by omega) ?_
          have ex : (x5 : Int) + 1 = ((x5 + 1 : Nat) : Int) := by omega
          rw [ex]
          exact kl_ok nh kk n _ _ _ _ (x5 + 1) _ h e d lr (by omega)
        · rw [if_neg y3] at e; cases e
end
def zl_X1 (x0 : Int) (L : List Opn) : List Opn := (2, 1, x0, 4, 0, some (28, x0)) :: (0, 28, x0, 0, 0, none) :: (2, 1, x0, 3, 0, some (27, x0)) :: (0, 27, x0, 0, 0, none) :: (1, 1, x0, 2, 0, none) :: (2, 1, x0, 1, 0, some (26, x0)) :: (0, 26, x0, 0, 0, none) :: (2, 1, x0, 0, 0, some (25, x0)) :: (0, 25, x0, 0, 0, none) :: L
theorem zi_X1 {L : List Opn} {H : List (Nat × Int)} {m g h : Hp} {x0 : Int} {Q : Int → Hp → Prop} (d : Ds ZC L H m g h) (z1 : nH H 1 x0 = true) (z25 : nH H 25 x0 = true) (z26 : nH H 26 x0 = true) (z27 : nH H 27 x0 = true) (z28 : nH H 28 x0 = true) (a25 : lNo L 25 x0 = true) (a26 : lNo L 26 x0 = true) (a27 : lNo L 27 x0 = true) (a28 : lNo L 28 x0 = true) (q : ∀ h', Ds ZC (zl_X1 x0 L) H m g h' → Q 0 h') : ok (f_X1_init_u x0 h) Q := by
  refine fuv_X1_init_u (fun n hn => ?_)
  refine s_X1_init_u_0 (by omega) ?_
  unfold b_X1_init_u_0
  refine zo_al d (by rfl) (by rfl) z25 (a25) (fun h d => ?_)
  refine zo_sR d (by rfl) (fun h d => ?_)
  refine zo_al d (by rfl) (by rfl) z26 (lNo_c rfl (lNo_c rfl (a26))) (fun h d => ?_)
  refine zo_sR d (by rfl) (fun h d => ?_)
  refine zo_sI d (by rfl) z1 (fun h d => ?_)
  refine zo_al d (by rfl) (by rfl) z27 (lNo_c rfl (lNo_c rfl (lNo_c rfl (lNo_c rfl (lNo_c rfl (a27)))))) (fun h d => ?_)
  refine zo_sR d (by rfl) (fun h d => ?_)
  refine zo_al d (by rfl) (by rfl) z28 (lNo_c rfl (lNo_c rfl (lNo_c rfl (lNo_c rfl (lNo_c rfl (lNo_c rfl (lNo_c rfl (a28)))))))) (fun h d => ?_)
  refine zo_sR d (by rfl) (fun h d => ?_)
  exact ⟨0, h, rfl, q h d⟩
def zl_X3 (x0 : Int) (L : List Opn) : List Opn := (2, 3, x0, 4, 0, some (38, x0)) :: (0, 38, x0, 0, 0, none) :: (2, 3, x0, 3, 0, some (37, x0)) :: (0, 37, x0, 0, 0, none) :: (2, 3, x0, 2, 0, some (36, x0)) :: (0, 36, x0, 0, 0, none) :: (2, 3, x0, 1, 0, some (35, x0)) :: (0, 35, x0, 0, 0, none) :: (2, 3, x0, 0, 0, some (34, x0)) :: (0, 34, x0, 0, 0, none) :: L
theorem zi_X3 {L : List Opn} {H : List (Nat × Int)} {m g h : Hp} {x0 : Int} {Q : Int → Hp → Prop} (d : Ds ZC L H m g h) (z34 : nH H 34 x0 = true) (z35 : nH H 35 x0 = true) (z36 : nH H 36 x0 = true) (z37 : nH H 37 x0 = true) (z38 : nH H 38 x0 = true) (a34 : lNo L 34 x0 = true) (a35 : lNo L 35 x0 = true) (a36 : lNo L 36 x0 = true) (a37 : lNo L 37 x0 = true) (a38 : lNo L 38 x0 = true) (q : ∀ h', Ds ZC (zl_X3 x0 L) H m g h' → Q 0 h') : ok (f_X3_init_u x0 h) Q := by
  refine fuv_X3_init_u (fun n hn => ?_)
  refine s_X3_init_u_0 (by omega) ?_
  unfold b_X3_init_u_0
  refine zo_al d (by rfl) (by rfl) z34 (a34) (fun h d => ?_)
  refine zo_sR d (by rfl) (fun h d => ?_)
  refine zo_al d (by rfl) (by rfl) z35 (lNo_c rfl (lNo_c rfl (a35))) (fun h d => ?_)
  refine zo_sR d (by rfl) (fun h d => ?_)
  refine zo_al d (by rfl) (by rfl) z36 (lNo_c rfl (lNo_c rfl (lNo_c rfl (lNo_c rfl (a36))))) (fun h d => ?_)
  refine zo_sR d (by rfl) (fun h d => ?_)
  refine zo_al d (by rfl) (by rfl) z37 (lNo_c rfl (lNo_c rfl (lNo_c rfl (lNo_c rfl (lNo_c rfl (lNo_c rfl (a37))))))) (fun h d => ?_)
  refine zo_sR d (by rfl) (fun h d => ?_)
  refine zo_al d (by rfl) (by rfl) z38 (lNo_c rfl (lNo_c rfl (lNo_c rfl (lNo_c rfl (lNo_c rfl (lNo_c rfl (lNo_c rfl (lNo_c rfl (a38))))))))) (fun h d => ?_)
  refine zo_sR d (by rfl) (fun h d => ?_)
  exact ⟨0, h, rfl, q h d⟩
def zl_X4 (x0 : Int) (L : List Opn) : List Opn := (1, 4, x0, 9, 0, none) :: (1, 4, x0, 8, 0, none) :: (1, 4, x0, 7, 0, none) :: (1, 4, x0, 6, 0, none) :: (1, 4, x0, 5, 0, none) :: (1, 4, x0, 4, 0, none) :: (1, 4, x0, 3, 0, none) :: (1, 4, x0, 2, 0, none) :: (1, 4, x0, 1, 0, none) :: (1, 4, x0, 0, 0, none) :: L
theorem zi_X4 {L : List Opn} {H : List (Nat × Int)} {m g h : Hp} {x0 : Int} {Q : Int → Hp → Prop} (d : Ds ZC L H m g h) (z4 : nH H 4 x0 = true)  (q : ∀ h', Ds ZC (zl_X4 x0 L) H m g h' → Q 0 h') : ok (f_X4_init_u x0 h) Q := by
  refine fuv_X4_init_u (fun n hn => ?_)
  refine s_X4_init_u_0 (by omega) ?_
  unfold b_X4_init_u_0
  refine zo_sI d (by rfl) z4 (fun h d => ?_)
  refine zo_sI d (by rfl) z4 (fun h d => ?_)
  refine zo_sI d (by rfl) z4 (fun h d => ?_)
  refine zo_sI d (by rfl) z4 (fun h d => ?_)
  refine zo_sI d (by rfl) z4 (fun h d => ?_)
  refine zo_sI d (by rfl) z4 (fun h d => ?_)
  refine zo_sI d (by rfl) z4 (fun h d => ?_)
  refine zo_sI d (by rfl) z4 (fun h d => ?_)
  refine zo_sI d (by rfl) z4 (fun h d => ?_)
  refine zo_sI d (by rfl) z4 (fun h d => ?_)
  exact ⟨0, h, rfl, q h d⟩
def zl_X9 (x0 : Int) (L : List Opn) : List Opn := (2, 9, x0, 12, 0, some (56, x0)) :: (0, 56, x0, 0, 0, none) :: (2, 9, x0, 11, 0, some (55, x0)) :: (0, 55, x0, 0, 0, none) :: (2, 9, x0, 10, 0, some (54, x0)) :: (0, 54, x0, 0, 0, none) :: (2, 9, x0, 9, 0, some (53, x0)) :: (0, 53, x0, 0, 0, none) :: (2, 9, x0, 8, 0, some (52, x0)) :: (0, 52, x0, 0, 0, none) :: (2, 9, x0, 7, 0, some (51, x0)) :: (0, 51, x0, 0, 0, none) :: (1, 9, x0, 6, 0, none) :: (1, 9, x0, 5, 0, none) :: (1, 9, x0, 4, 0, none) :: (1, 9, x0, 3, 0, none) :: (1, 9, x0, 2, 0, none) :: (1, 9, x0, 1, 4, none) :: (1, 9, x0, 0, 4, none) :: L
theorem zi_X9 {L : List Opn} {H : List (Nat × Int)} {m g h : Hp} {x0 : Int} {Q : Int → Hp → Prop} (d : Ds ZC L H m g h) (z9 : nH H 9 x0 = true) (z51 : nH H 51 x0 = true) (z52 : nH H 52 x0 = true) (z53 : nH H 53 x0 = true) (z54 : nH H 54 x0 = true) (z55 : nH H 55 x0 = true) (z56 : nH H 56 x0 = true) (a51 : lNo L 51 x0 = true) (a52 : lNo L 52 x0 = true) (a53 : lNo L 53 x0 = true) (a54 : lNo L 54 x0 = true) (a55 : lNo L 55 x0 = true) (a56 : lNo L 56 x0 = true) (q : ∀ h', Ds ZC (zl_X9 x0 L) H m g h' → Q 0 h') : ok (f_X9_init_u x0 h) Q := by
  refine fuv_X9_init_u (fun n hn => ?_)
  refine s_X9_init_u_0 (by omega) ?_
  unfold b_X9_init_u_0
  refine zo_sI d (by rfl) z9 (fun h d => ?_)
  refine zo_sI d (by rfl) z9 (fun h d => ?_)
  refine zo_sI d (by rfl) z9 (fun h d => ?_)
  refine zo_sI d (by rfl) z9 (fun h d => ?_)
  refine zo_sI d (by rfl) z9 (fun h d => ?_)
  refine zo_sI d (by rfl) z9 (fun h d => ?_)
  refine zo_sI d (by rfl) z9 (fun h d => ?_)
  refine zo_al d (by rfl) (by rfl) z51 (lNo_c rfl (lNo_c rfl (lNo_c rfl (lNo_c rfl (lNo_c rfl (lNo_c rfl (lNo_c rfl (a51)))))))) (fun h d => ?_)
  refine zo_sR d (by rfl) (fun h d => ?_)
  refine zo_al d (by rfl) (by rfl) z52 (lNo_c rfl (lNo_c rfl (lNo_c rfl (lNo_c rfl (lNo_c rfl (lNo_c rfl (lNo_c rfl (lNo_c rfl (lNo_c rfl (a52)))))))))) (fun h d => ?_)
  refine zo_sR d (by rfl) (fun h d => ?_)
  refine zo_al d (by rfl) (by rfl) z53 (lNo_c rfl (lNo_c rfl (lNo_c rfl (lNo_c rfl (lNo_c rfl (lNo_c rfl (lNo_c rfl (lNo_c rfl (lNo_c rfl (lNo_c rfl (lNo_c rfl (a53)))))))))))) (fun h d => ?_)
  refine zo_sR d (by rfl) (fun h d => ?_)
  refine zo_al d (by rfl) (by rfl) z54 (lNo_c rfl (lNo_c rfl (lNo_c rfl (lNo_c rfl (lNo_c rfl (lNo_c rfl (lNo_c rfl (lNo_c rfl (lNo_c rfl (lNo_c rfl (lNo_c rfl (lNo_c rfl (lNo_c rfl (a54)))))))))))))) (fun h d => ?_)
  refine zo_sR d (by rfl) (fun h d => ?_)
  refine zo_al d (by rfl) (by rfl) z55 (lNo_c rfl (lNo_c rfl (lNo_c rfl (lNo_c rfl (lNo_c rfl (lNo_c rfl (lNo_c rfl (lNo_c rfl (lNo_c rfl (lNo_c rfl (lNo_c rfl (lNo_c rfl (lNo_c rfl (lNo_c rfl (lNo_c rfl (a55)))))))))))))))) (fun h d => ?_)
  refine zo_sR d (by rfl) (fun h d => ?_)
  refine zo_al d (by rfl) (by rfl) z56 (lNo_c rfl (lNo_c rfl (lNo_c rfl (lNo_c rfl (lNo_c rfl (lNo_c rfl (lNo_c rfl (lNo_c rfl (lNo_c rfl (lNo_c rfl (lNo_c rfl (lNo_c rfl (lNo_c rfl (lNo_c rfl (lNo_c rfl (lNo_c rfl (lNo_c rfl (a56)))))))))))))))))) (fun h d => ?_)
  refine zo_sR d (by rfl) (fun h d => ?_)
  exact ⟨0, h, rfl, q h d⟩
def zl_X10 (x0 : Int) (L : List Opn) : List Opn := (2, 10, x0, 8, 0, some (57, x0)) :: (0, 57, x0, 0, 0, none) :: (1, 10, x0, 7, (-1), none) :: (1, 10, x0, 6, 0, none) :: (1, 10, x0, 5, 0, none) :: (1, 10, x0, 4, 0, none) :: (1, 10, x0, 3, 0, none) :: (1, 10, x0, 2, 0, none) :: (1, 10, x0, 1, 0, none) :: (1, 10, x0, 0, 0, none) :: L
theorem zi_X10 {L : List Opn} {H : List (Nat × Int)} {m g h : Hp} {x0 : Int} {Q : Int → Hp → Prop} (d : Ds ZC L H m g h) (z10 : nH H 10 x0 = true) (z57 : nH H 57 x0 = true) (a57 : lNo L 57 x0 = true) (q : ∀ h', Ds ZC (zl_X10 x0 L) H m g h' → Q 0 h') : ok (f_X10_init_u x0 h) Q := by
  refine fuv_X10_init_u (fun n hn => ?_)
  refine s_X10_init_u_0 (by omega) ?_
  unfold b_X10_init_u_0
  refine zo_sI d (by rfl) z10 (fun h d => ?_)
  refine zo_sI d (by rfl) z10 (fun h d => ?_)
  refine zo_sI d (by rfl) z10 (fun h d => ?_)
  refine zo_sI d (by rfl) z10 (fun h d => ?_)
  refine zo_sI d (by rfl) z10 (fun h d => ?_)
  refine zo_sI d (by rfl) z10 (fun h d => ?_)
  refine zo_sI d (by rfl) z10 (fun h d => ?_)
  refine zo_sI d (by rfl) z10 (fun h d => ?_)
  refine zo_al d (by rfl) (by rfl) z57 (lNo_c rfl (lNo_c rfl (lNo_c rfl (lNo_c rfl (lNo_c rfl (lNo_c rfl (lNo_c rfl (lNo_c rfl (a57))))))))) (fun h d => ?_)
  refine zo_sR d (by rfl) (fun h d => ?_)
  exact ⟨0, h, rfl, q h d⟩
section
variable {L : List Opn} {H : List (Nat × Int)} {m g h : Hp} {c : Int} {Q : Int → Hp → Prop}
/-- how far it is from Bahia, in the first sea of a chart -/
def FaC (m : Hp) (c : Int) : Prop := ∀ x, 0 ≤ x → x < 64 → farV (stepF 4 4) (fun x => cellP 4 4 x ∧ ¬ lbit 0 x) 0 x (gI m 55 c (192 + x))
theorem zm_measure (d : Ds ZC L H m g h) (z9 : nH H 9 c = true) (i0 : lI L 9 c 0 = 4) (i1 : lI L 9 c 1 = 4) (i2 : lI L 9 c 2 = 0) (i5 : lI L 9 c 5 = 0) (i6 : lI L 9 c 6 = 0) (r8 : lR L 9 c 8 = some (52, c)) (r11 : lR L 9 c 11 = some (55, c)) (r12 : lR L 9 c 12 = some (56, c)) (q : ∀ v h', Ds ZC L ((55, c) :: (56, c) :: H) h' g h' → Fr (MeW c) h h' → FaC h' c → Q v h') : ok (f_X9_measure_u c h) Q := by
  have e0 : gI h 9 c 0 = 4 := ds_v 9 c 0 d rfl z9 i0
  have e1 : gI h 9 c 1 = 4 := ds_v 9 c 1 d rfl z9 i1
  have e2 : gI h 9 c 2 = 0 := ds_v 9 c 2 d rfl z9 i2
  have e5 : gI h 9 c 5 = 0 := ds_v 9 c 5 d rfl z9 i5
  have e6 : gI h 9 c 6 = 0 := ds_v 9 c 6 d rfl z9 i6
  have hb : seaB h c := by unfold seaB; rw [e0, e1]; decide
  obtain ⟨v, h2, e, F, fa, _⟩ := p_X9_measure hb (by rw [e6]; decide) (by rw [e6]; decide)
  obtain ⟨x, _⟩ := sm_X9_measure (R := h.2) (ds_w 9 c 8 d rfl r8) (ds_w 9 c 11 d rfl r11) (ds_w 9 c 12 d rfl r12) rfl e
  refine ⟨v, h2, x, q v h2 (ds_hv d F (fun r i k z => ?_) (fun r i z => ?_)) F (fun x x1 x2 => ?_)⟩
  · obtain ⟨z1, z2⟩ := z
    subst z1
    rcases z2 with z2 | z2 <;> subst z2
    · exact ⟨rfl, by unfold nH; rw [if_pos ⟨rfl, rfl⟩]⟩
    · refine ⟨rfl, ?_⟩
      unfold nH
      rw [if_neg (fun y => by have := y.1; cases this)]
      unfold nH
      rw [if_pos ⟨rfl, rfl⟩]
  · unfold nH at z
    split at z
    · cases z
    · unfold nH at z
      split at z
      · cases z
      · exact z
  · have t := fa x x1 x2
    unfold stp wtr at t
    rw [e0, e1, e2, e5] at t
    exact t
theorem fa_k (d : Ds ZC L H m g h) (n : nH H 55 0 = false) (f : FaC m 0) : FaC h 0 := fun x x1 x2 => by rw [ds_m (r := 55) (i := 0) d rfl n]; exact f x x1 x2
theorem fa_1 {h2 : Hp} (F : Fr (MeW 1) h h2) (f : FaC h 0) : FaC h2 0 := fun x x1 x2 => by
  rw [F.1 55 0 (192 + x) (fun y => by have t : (0 : Int) = 1 := y.1; omega)]; exact f x x1 x2
end
def zz1 : List Opn := [(0, 11, 0, 0, 0, none)]
def zz2 : List Opn := (0, 0, 0, 0, 0, none) :: (1, 11, 0, 1, 0, none) :: (2, 11, 0, 0, 0, some (58, 0)) :: (0, 58, 0, 0, 0, none) :: zz1
def zz3 : List Opn := (2, 20, 0, 8, 0, some (4, 8)) :: zl_X4 8 ((0, 4, 8, 0, 0, none) :: (2, 20, 0, 7, 0, some (4, 7)) :: zl_X4 7 ((0, 4, 7, 0, 0, none) :: (2, 20, 0, 6, 0, some (4, 6)) :: zl_X4 6 ((0, 4, 6, 0, 0, none) :: (2, 20, 0, 5, 0, some (4, 5)) :: zl_X4 5 ((0, 4, 5, 0, 0, none) :: (2, 20, 0, 4, 0, some (4, 4)) :: zl_X4 4 ((0, 4, 4, 0, 0, none) :: (2, 20, 0, 3, 0, some (4, 3)) :: zl_X4 3 ((0, 4, 3, 0, 0, none) :: (2, 20, 0, 2, 0, some (4, 2)) :: zl_X4 2 ((0, 4, 2, 0, 0, none) :: (2, 20, 0, 1, 0, some (4, 1)) :: zl_X4 1 ((0, 4, 1, 0, 0, none) :: (2, 20, 0, 0, 0, some (4, 0)) :: zl_X4 0 ((0, 4, 0, 0, 0, none) :: (1, 0, 0, 14, 0, none) :: (1, 0, 0, 13, 0, none) :: (1, 0, 0, 12, 1, none) :: (1, 0, 0, 11, 0, none) :: (1, 0, 0, 10, 0, none) :: (2, 0, 0, 9, 0, some (24, 0)) :: (0, 24, 0, 0, 0, none) :: (2, 0, 0, 8, 0, some (23, 0)) :: (0, 23, 0, 0, 0, none) :: (2, 0, 0, 7, 0, some (22, 0)) :: (0, 22, 0, 0, 0, none) :: (1, 0, 0, 6, 0, none) :: (2, 0, 0, 5, 0, some (21, 0)) :: (0, 21, 0, 0, 0, none) :: (1, 0, 0, 4, 0, none) :: (1, 0, 0, 3, 0, none) :: (2, 0, 0, 2, 0, some (20, 0)) :: (0, 20, 0, 0, 0, none) :: (2, 0, 0, 1, 0, some (1, 0)) :: zl_X1 0 ((0, 1, 0, 0, 0, none) :: (2, 0, 0, 0, 0, some (9, 0)) :: zl_X9 0 ((0, 9, 0, 0, 0, none) :: zz2)))))))))))
def zz4 : List Opn := (1, 9, 0, 6, 0, none) :: (1, 9, 0, 5, 0, none) :: (1, 9, 0, 4, 0, none) :: (1, 9, 0, 3, 0, none) :: (1, 9, 0, 2, 0, none) :: (1, 9, 0, 1, 4, none) :: (1, 9, 0, 0, 4, none) :: zz3
set_option maxHeartbeats 4000000 in
theorem zt5_X9_clear {m g h : Hp} {Q : Int → Hp → Prop} (d : Ds ZC zz3 [] m g h) (q : ∀ v h' m', Ds ZC zz4 [] m' g h' → Q v h') : ok (f_X9_clear_u (0) h) Q := by
  refine fuv_X9_clear_u (fun n hn => ?_)
  refine s_X9_clear_u_0 (by omega) ?_
  unfold b_X9_clear_u_0
  refine zo_sI d (by rfl) (by decide +kernel) (fun h d => ?_)
  refine zo_sI d (by rfl) (by decide +kernel) (fun h d => ?_)
  refine zo_sI d (by rfl) (by decide +kernel) (fun h d => ?_)
  refine zo_sI d (by rfl) (by decide +kernel) (fun h d => ?_)
  refine zo_sI d (by rfl) (by decide +kernel) (fun h d => ?_)
  refine zo_sI d (by rfl) (by decide +kernel) (fun h d => ?_)
  refine zo_sI d (by rfl) (by decide +kernel) (fun h d => ?_)
  exact ⟨0, h, rfl, q 0 h m d⟩
def zz6 : List Opn := (1, 0, 0, 14, 0, none) :: (1, 0, 0, 13, 100, none) :: (1, 0, 0, 12, 1, none) :: (1, 0, 0, 11, 0, none) :: (1, 0, 0, 10, 0, none) :: (1, 0, 0, 6, 0, none) :: (1, 0, 0, 4, 0, none) :: (1, 0, 0, 3, 0, none) :: (1, 1, 0, 2, 0, none) :: zz4
set_option maxHeartbeats 4000000 in
theorem zt7_X0_clear {m g h : Hp} {Q : Int → Hp → Prop} (d : Ds ZC zz3 [] m g h) (q : ∀ v h' m', Ds ZC zz6 [] m' g h' → Q v h') : ok (f_X0_clear_u (0) h) Q := by
  refine fuv_X0_clear_u (fun n hn => ?_)
  refine s_X0_clear_u_0 (by omega) ?_
  unfold b_X0_clear_u_0
  refine zo_ck d (by rfl) (by decide +kernel) ?_
  refine ok_bd ?_
  refine zt5_X9_clear d (fun v h m d => ?_)
  refine zo_ck d (by rfl) (by decide +kernel) ?_
  refine zo_sI d (by rfl) (by decide +kernel) (fun h d => ?_)
  refine zo_sI d (by rfl) (by decide +kernel) (fun h d => ?_)
  refine zo_sI d (by rfl) (by decide +kernel) (fun h d => ?_)
  refine zo_sI d (by rfl) (by decide +kernel) (fun h d => ?_)
  refine zo_sI d (by rfl) (by decide +kernel) (fun h d => ?_)
  refine zo_sI d (by rfl) (by decide +kernel) (fun h d => ?_)
  refine zo_sI d (by rfl) (by decide +kernel) (fun h d => ?_)
  refine zo_sI d (by rfl) (by decide +kernel) (fun h d => ?_)
  refine zo_sI d (by rfl) (by decide +kernel) (fun h d => ?_)
  exact ⟨0, h, rfl, q 0 h m d⟩
set_option maxHeartbeats 4000000 in
theorem zt8_X0_init {m g h : Hp} {Q : Int → Hp → Prop} (d : Ds ZC zz2 [] m g h) (q : ∀ v h' m', Ds ZC zz6 [(55, 0), (56, 0)] m' g h' → FaC m' 0 → Q v h') : ok (f_X0_init_u (0) h) Q := by
  refine fuv_X0_init_u (fun n hn => ?_)
  refine s_X0_init_u_0 (by omega) ?_
  unfold b_X0_init_u_0
  refine zo_al d (by rfl) (by rfl) (by decide +kernel) (by decide +kernel) (fun h d => ?_)
  refine ok_bd ?_
  refine zi_X9 (x0 := 0) d (by decide +kernel) (by decide +kernel) (by decide +kernel) (by decide +kernel) (by decide +kernel) (by decide +kernel) (by decide +kernel) (by decide +kernel) (by decide +kernel) (by decide +kernel) (by decide +kernel) (by decide +kernel) (by decide +kernel) (fun h d => ?_)
  refine zo_sR d (by rfl) (fun h d => ?_)
  refine zo_al d (by rfl) (by rfl) (by decide +kernel) (by decide +kernel) (fun h d => ?_)
  refine ok_bd ?_
  refine zi_X1 (x0 := 0) d (by decide +kernel) (by decide +kernel) (by decide +kernel) (by decide +kernel) (by decide +kernel) (by decide +kernel) (by decide +kernel) (by decide +kernel) (by decide +kernel) (fun h d => ?_)
  refine zo_sR d (by rfl) (fun h d => ?_)
  refine zo_al d (by rfl) (by rfl) (by decide +kernel) (by decide +kernel) (fun h d => ?_)
  refine zo_sR d (by rfl) (fun h d => ?_)
  refine zo_sI d (by rfl) (by decide +kernel) (fun h d => ?_)
  refine zo_sI d (by rfl) (by decide +kernel) (fun h d => ?_)
  refine zo_al d (by rfl) (by rfl) (by decide +kernel) (by decide +kernel) (fun h d => ?_)
  refine zo_sR d (by rfl) (fun h d => ?_)
  refine zo_sI d (by rfl) (by decide +kernel) (fun h d => ?_)
  refine zo_al d (by rfl) (by rfl) (by decide +kernel) (by decide +kernel) (fun h d => ?_)
  refine zo_sR d (by rfl) (fun h d => ?_)
  refine zo_al d (by rfl) (by rfl) (by decide +kernel) (by decide +kernel) (fun h d => ?_)
  refine zo_sR d (by rfl) (fun h d => ?_)
  refine zo_al d (by rfl) (by rfl) (by decide +kernel) (by decide +kernel) (fun h d => ?_)
  refine zo_sR d (by rfl) (fun h d => ?_)
  refine zo_sI d (by rfl) (by decide +kernel) (fun h d => ?_)
  refine zo_sI d (by rfl) (by decide +kernel) (fun h d => ?_)
  refine zo_sI d (by rfl) (by decide +kernel) (fun h d => ?_)
  refine zo_sI d (by rfl) (by decide +kernel) (fun h d => ?_)
  refine zo_sI d (by rfl) (by decide +kernel) (fun h d => ?_)
  refine zo_ck d (by rfl) (by decide +kernel) ?_
  refine zo_al d (by rfl) (by rfl) (by decide +kernel) (by decide +kernel) (fun h d => ?_)
  refine ok_bd ?_
  refine zi_X4 (x0 := 0) d (by decide +kernel) (fun h d => ?_)
  refine ok_ck (by decide) ?_
  refine zo_sR d (by rfl) (fun h d => ?_)
  refine zo_ck d (by rfl) (by decide +kernel) ?_
  refine zo_al d (by rfl) (by rfl) (by decide +kernel) (by decide +kernel) (fun h d => ?_)
  refine ok_bd ?_
  refine zi_X4 (x0 := 1) d (by decide +kernel) (fun h d => ?_)
  refine ok_ck (by decide) ?_
  refine zo_sR d (by rfl) (fun h d => ?_)
  refine zo_ck d (by rfl) (by decide +kernel) ?_
  refine zo_al d (by rfl) (by rfl) (by decide +kernel) (by decide +kernel) (fun h d => ?_)
  refine ok_bd ?_
  refine zi_X4 (x0 := 2) d (by decide +kernel) (fun h d => ?_)
  refine ok_ck (by decide) ?_
  refine zo_sR d (by rfl) (fun h d => ?_)
  refine zo_ck d (by rfl) (by decide +kernel) ?_
  refine zo_al d (by rfl) (by rfl) (by decide +kernel) (by decide +kernel) (fun h d => ?_)
  refine ok_bd ?_
  refine zi_X4 (x0 := 3) d (by decide +kernel) (fun h d => ?_)
  refine ok_ck (by decide) ?_
  refine zo_sR d (by rfl) (fun h d => ?_)
  refine zo_ck d (by rfl) (by decide +kernel) ?_
  refine zo_al d (by rfl) (by rfl) (by decide +kernel) (by decide +kernel) (fun h d => ?_)
  refine ok_bd ?_
  refine zi_X4 (x0 := 4) d (by decide +kernel) (fun h d => ?_)
  refine ok_ck (by decide) ?_
  refine zo_sR d (by rfl) (fun h d => ?_)
  refine zo_ck d (by rfl) (by decide +kernel) ?_
  refine zo_al d (by rfl) (by rfl) (by decide +kernel) (by decide +kernel) (fun h d => ?_)
  refine ok_bd ?_
  refine zi_X4 (x0 := 5) d (by decide +kernel) (fun h d => ?_)
  refine ok_ck (by decide) ?_
  refine zo_sR d (by rfl) (fun h d => ?_)
  refine zo_ck d (by rfl) (by decide +kernel) ?_
  refine zo_al d (by rfl) (by rfl) (by decide +kernel) (by decide +kernel) (fun h d => ?_)
  refine ok_bd ?_
  refine zi_X4 (x0 := 6) d (by decide +kernel) (fun h d => ?_)
  refine ok_ck (by decide) ?_
  refine zo_sR d (by rfl) (fun h d => ?_)
  refine zo_ck d (by rfl) (by decide +kernel) ?_
  refine zo_al d (by rfl) (by rfl) (by decide +kernel) (by decide +kernel) (fun h d => ?_)
  refine ok_bd ?_
  refine zi_X4 (x0 := 7) d (by decide +kernel) (fun h d => ?_)
  refine ok_ck (by decide) ?_
  refine zo_sR d (by rfl) (fun h d => ?_)
  refine zo_ck d (by rfl) (by decide +kernel) ?_
  refine zo_al d (by rfl) (by rfl) (by decide +kernel) (by decide +kernel) (fun h d => ?_)
  refine ok_bd ?_
  refine zi_X4 (x0 := 8) d (by decide +kernel) (fun h d => ?_)
  refine ok_ck (by decide) ?_
  refine zo_sR d (by rfl) (fun h d => ?_)
  refine ok_bd ?_
  refine zt7_X0_clear d (fun v h m d => ?_)
  refine zo_ck d (by rfl) (by decide +kernel) ?_
  refine ok_bd ?_
  refine zm_measure (c := 0) d (by decide +kernel) (by decide +kernel) (by decide +kernel) (by decide +kernel) (by decide +kernel) (by decide +kernel) (by decide +kernel) (by decide +kernel) (by decide +kernel) (fun v h2 d2 F2 f2 => ?_)
  have f := f2
  clear d
  have d := d2
  clear d2
  exact ⟨0, h2, rfl, q 0 h2 h2 d f⟩
def zz9 : List Opn := (0, 0, 1, 0, 0, none) :: (2, 11, 0, 2, 0, some (0, 0)) :: zz6
def zz10 : List Opn := (2, 20, 1, 8, 0, some (4, 17)) :: zl_X4 17 ((0, 4, 17, 0, 0, none) :: (2, 20, 1, 7, 0, some (4, 16)) :: zl_X4 16 ((0, 4, 16, 0, 0, none) :: (2, 20, 1, 6, 0, some (4, 15)) :: zl_X4 15 ((0, 4, 15, 0, 0, none) :: (2, 20, 1, 5, 0, some (4, 14)) :: zl_X4 14 ((0, 4, 14, 0, 0, none) :: (2, 20, 1, 4, 0, some (4, 13)) :: zl_X4 13 ((0, 4, 13, 0, 0, none) :: (2, 20, 1, 3, 0, some (4, 12)) :: zl_X4 12 ((0, 4, 12, 0, 0, none) :: (2, 20, 1, 2, 0, some (4, 11)) :: zl_X4 11 ((0, 4, 11, 0, 0, none) :: (2, 20, 1, 1, 0, some (4, 10)) :: zl_X4 10 ((0, 4, 10, 0, 0, none) :: (2, 20, 1, 0, 0, some (4, 9)) :: zl_X4 9 ((0, 4, 9, 0, 0, none) :: (1, 0, 1, 14, 0, none) :: (1, 0, 1, 13, 0, none) :: (1, 0, 1, 12, 1, none) :: (1, 0, 1, 11, 0, none) :: (1, 0, 1, 10, 0, none) :: (2, 0, 1, 9, 0, some (24, 1)) :: (0, 24, 1, 0, 0, none) :: (2, 0, 1, 8, 0, some (23, 1)) :: (0, 23, 1, 0, 0, none) :: (2, 0, 1, 7, 0, some (22, 1)) :: (0, 22, 1, 0, 0, none) :: (1, 0, 1, 6, 0, none) :: (2, 0, 1, 5, 0, some (21, 1)) :: (0, 21, 1, 0, 0, none) :: (1, 0, 1, 4, 0, none) :: (1, 0, 1, 3, 0, none) :: (2, 0, 1, 2, 0, some (20, 1)) :: (0, 20, 1, 0, 0, none) :: (2, 0, 1, 1, 0, some (1, 1)) :: zl_X1 1 ((0, 1, 1, 0, 0, none) :: (2, 0, 1, 0, 0, some (9, 1)) :: zl_X9 1 ((0, 9, 1, 0, 0, none) :: zz9)))))))))))
def zz11 : List Opn := (1, 9, 1, 6, 0, none) :: (1, 9, 1, 5, 0, none) :: (1, 9, 1, 4, 0, none) :: (1, 9, 1, 3, 0, none) :: (1, 9, 1, 2, 0, none) :: (1, 9, 1, 1, 4, none) :: (1, 9, 1, 0, 4, none) :: zz10
set_option maxHeartbeats 4000000 in
theorem zt12_X9_clear {m g h : Hp} {Q : Int → Hp → Prop} (d : Ds ZC zz10 [(55, 0), (56, 0)] m g h) (f : FaC m 0) (q : ∀ v h' m', Ds ZC zz11 [(55, 0), (56, 0)] m' g h' → FaC m' 0 → Q v h') : ok (f_X9_clear_u (1) h) Q := by
  refine fuv_X9_clear_u (fun n hn => ?_)
  refine s_X9_clear_u_0 (by omega) ?_
  unfold b_X9_clear_u_0
  refine zo_sI d (by rfl) (by decide +kernel) (fun h d => ?_)
  refine zo_sI d (by rfl) (by decide +kernel) (fun h d => ?_)
  refine zo_sI d (by rfl) (by decide +kernel) (fun h d => ?_)
  refine zo_sI d (by rfl) (by decide +kernel) (fun h d => ?_)
  refine zo_sI d (by rfl) (by decide +kernel) (fun h d => ?_)
  refine zo_sI d (by rfl) (by decide +kernel) (fun h d => ?_)
  refine zo_sI d (by rfl) (by decide +kernel) (fun h d => ?_)
  exact ⟨0, h, rfl, q 0 h m d f⟩
def zz13 : List Opn := (1, 0, 1, 14, 0, none) :: (1, 0, 1, 13, 100, none) :: (1, 0, 1, 12, 1, none) :: (1, 0, 1, 11, 0, none) :: (1, 0, 1, 10, 0, none) :: (1, 0, 1, 6, 0, none) :: (1, 0, 1, 4, 0, none) :: (1, 0, 1, 3, 0, none) :: (1, 1, 1, 2, 0, none) :: zz11
set_option maxHeartbeats 4000000 in
theorem zt14_X0_clear {m g h : Hp} {Q : Int → Hp → Prop} (d : Ds ZC zz10 [(55, 0), (56, 0)] m g h) (f : FaC m 0) (q : ∀ v h' m', Ds ZC zz13 [(55, 0), (56, 0)] m' g h' → FaC m' 0 → Q v h') : ok (f_X0_clear_u (1) h) Q := by
  refine fuv_X0_clear_u (fun n hn => ?_)
  refine s_X0_clear_u_0 (by omega) ?_
  unfold b_X0_clear_u_0
  refine zo_ck d (by rfl) (by decide +kernel) ?_
  refine ok_bd ?_
  refine zt12_X9_clear d f (fun v h m d f => ?_)
  refine zo_ck d (by rfl) (by decide +kernel) ?_
  refine zo_sI d (by rfl) (by decide +kernel) (fun h d => ?_)
  refine zo_sI d (by rfl) (by decide +kernel) (fun h d => ?_)
  refine zo_sI d (by rfl) (by decide +kernel) (fun h d => ?_)
  refine zo_sI d (by rfl) (by decide +kernel) (fun h d => ?_)
  refine zo_sI d (by rfl) (by decide +kernel) (fun h d => ?_)
  refine zo_sI d (by rfl) (by decide +kernel) (fun h d => ?_)
  refine zo_sI d (by rfl) (by decide +kernel) (fun h d => ?_)
  refine zo_sI d (by rfl) (by decide +kernel) (fun h d => ?_)
  refine zo_sI d (by rfl) (by decide +kernel) (fun h d => ?_)
  exact ⟨0, h, rfl, q 0 h m d f⟩
set_option maxHeartbeats 4000000 in
theorem zt15_X0_init {m g h : Hp} {Q : Int → Hp → Prop} (d : Ds ZC zz9 [(55, 0), (56, 0)] m g h) (f : FaC m 0) (q : ∀ v h' m', Ds ZC zz13 [(55, 1), (56, 1), (55, 0), (56, 0)] m' g h' → FaC m' 0 → Q v h') : ok (f_X0_init_u (1) h) Q := by
  refine fuv_X0_init_u (fun n hn => ?_)
  refine s_X0_init_u_0 (by omega) ?_
  unfold b_X0_init_u_0
  refine zo_al d (by rfl) (by rfl) (by decide +kernel) (by decide +kernel) (fun h d => ?_)
  refine ok_bd ?_
  refine zi_X9 (x0 := 1) d (by decide +kernel) (by decide +kernel) (by decide +kernel) (by decide +kernel) (by decide +kernel) (by decide +kernel) (by decide +kernel) (by decide +kernel) (by decide +kernel) (by decide +kernel) (by decide +kernel) (by decide +kernel) (by decide +kernel) (fun h d => ?_)
  refine zo_sR d (by rfl) (fun h d => ?_)
  refine zo_al d (by rfl) (by rfl) (by decide +kernel) (by decide +kernel) (fun h d => ?_)
  refine ok_bd ?_
  refine zi_X1 (x0 := 1) d (by decide +kernel) (by decide +kernel) (by decide +kernel) (by decide +kernel) (by decide +kernel) (by decide +kernel) (by decide +kernel) (by decide +kernel) (by decide +kernel) (fun h d => ?_)
  refine zo_sR d (by rfl) (fun h d => ?_)
  refine zo_al d (by rfl) (by rfl) (by decide +kernel) (by decide +kernel) (fun h d => ?_)
  refine zo_sR d (by rfl) (fun h d => ?_)
  refine zo_sI d (by rfl) (by decide +kernel) (fun h d => ?_)
  refine zo_sI d (by rfl) (by decide +kernel) (fun h d => ?_)
  refine zo_al d (by rfl) (by rfl) (by decide +kernel) (by decide +kernel) (fun h d => ?_)
  refine zo_sR d (by rfl) (fun h d => ?_)
  refine zo_sI d (by rfl) (by decide +kernel) (fun h d => ?_)
  refine zo_al d (by rfl) (by rfl) (by decide +kernel) (by decide +kernel) (fun h d => ?_)
  refine zo_sR d (by rfl) (fun h d => ?_)
  refine zo_al d (by rfl) (by rfl) (by decide +kernel) (by decide +kernel) (fun h d => ?_)
  refine zo_sR d (by rfl) (fun h d => ?_)
  refine zo_al d (by rfl) (by rfl) (by decide +kernel) (by decide +kernel) (fun h d => ?_)
  refine zo_sR d (by rfl) (fun h d => ?_)
  refine zo_sI d (by rfl) (by decide +kernel) (fun h d => ?_)
  refine zo_sI d (by rfl) (by decide +kernel) (fun h d => ?_)
  refine zo_sI d (by rfl) (by decide +kernel) (fun h d => ?_)
  refine zo_sI d (by rfl) (by decide +kernel) (fun h d => ?_)
  refine zo_sI d (by rfl) (by decide +kernel) (fun h d => ?_)
  refine zo_ck d (by rfl) (by decide +kernel) ?_
  refine zo_al d (by rfl) (by rfl) (by decide +kernel) (by decide +kernel) (fun h d => ?_)
  refine ok_bd ?_
  refine zi_X4 (x0 := 9) d (by decide +kernel) (fun h d => ?_)
  refine ok_ck (by decide) ?_
  refine zo_sR d (by rfl) (fun h d => ?_)
  refine zo_ck d (by rfl) (by decide +kernel) ?_
  refine zo_al d (by rfl) (by rfl) (by decide +kernel) (by decide +kernel) (fun h d => ?_)
  refine ok_bd ?_
  refine zi_X4 (x0 := 10) d (by decide +kernel) (fun h d => ?_)
  refine ok_ck (by decide) ?_
  refine zo_sR d (by rfl) (fun h d => ?_)
  refine zo_ck d (by rfl) (by decide +kernel) ?_
  refine zo_al d (by rfl) (by rfl) (by decide +kernel) (by decide +kernel) (fun h d => ?_)
  refine ok_bd ?_
  refine zi_X4 (x0 := 11) d (by decide +kernel) (fun h d => ?_)
  refine ok_ck (by decide) ?_
  refine zo_sR d (by rfl) (fun h d => ?_)
  refine zo_ck d (by rfl) (by decide +kernel) ?_
  refine zo_al d (by rfl) (by rfl) (by decide +kernel) (by decide +kernel) (fun h d => ?_)
  refine ok_bd ?_
  refine zi_X4 (x0 := 12) d (by decide +kernel) (fun h d => ?_)
  refine ok_ck (by decide) ?_
  refine zo_sR d (by rfl) (fun h d => ?_)
  refine zo_ck d (by rfl) (by decide +kernel) ?_
  refine zo_al d (by rfl) (by rfl) (by decide +kernel) (by decide +kernel) (fun h d => ?_)
  refine ok_bd ?_
  refine zi_X4 (x0 := 13) d (by decide +kernel) (fun h d => ?_)
  refine ok_ck (by decide) ?_
  refine zo_sR d (by rfl) (fun h d => ?_)
  refine zo_ck d (by rfl) (by decide +kernel) ?_
  refine zo_al d (by rfl) (by rfl) (by decide +kernel) (by decide +kernel) (fun h d => ?_)
  refine ok_bd ?_
  refine zi_X4 (x0 := 14) d (by decide +kernel) (fun h d => ?_)
  refine ok_ck (by decide) ?_
  refine zo_sR d (by rfl) (fun h d => ?_)
  refine zo_ck d (by rfl) (by decide +kernel) ?_
  refine zo_al d (by rfl) (by rfl) (by decide +kernel) (by decide +kernel) (fun h d => ?_)
  refine ok_bd ?_
  refine zi_X4 (x0 := 15) d (by decide +kernel) (fun h d => ?_)
  refine ok_ck (by decide) ?_
  refine zo_sR d (by rfl) (fun h d => ?_)
  refine zo_ck d (by rfl) (by decide +kernel) ?_
  refine zo_al d (by rfl) (by rfl) (by decide +kernel) (by decide +kernel) (fun h d => ?_)
  refine ok_bd ?_
  refine zi_X4 (x0 := 16) d (by decide +kernel) (fun h d => ?_)
  refine ok_ck (by decide) ?_
  refine zo_sR d (by rfl) (fun h d => ?_)
  refine zo_ck d (by rfl) (by decide +kernel) ?_
  refine zo_al d (by rfl) (by rfl) (by decide +kernel) (by decide +kernel) (fun h d => ?_)
  refine ok_bd ?_
  refine zi_X4 (x0 := 17) d (by decide +kernel) (fun h d => ?_)
  refine ok_ck (by decide) ?_
  refine zo_sR d (by rfl) (fun h d => ?_)
  refine ok_bd ?_
  refine zt14_X0_clear d f (fun v h m d f => ?_)
  refine zo_ck d (by rfl) (by decide +kernel) ?_
  refine ok_bd ?_
  refine zm_measure (c := 1) d (by decide +kernel) (by decide +kernel) (by decide +kernel) (by decide +kernel) (by decide +kernel) (by decide +kernel) (by decide +kernel) (by decide +kernel) (by decide +kernel) (fun v h2 d2 F2 f2 => ?_)
  replace f := fa_1 F2 (fa_k d (by decide +kernel) f)
  clear d
  have d := d2
  clear d2
  exact ⟨0, h2, rfl, q 0 h2 h2 d f⟩
def zz16 : List Opn := (0, 7, 0, 0, 0, none) :: (2, 11, 0, 3, 0, some (0, 1)) :: zz13
def zz17 : List Opn := (0, 8, 0, 0, 0, none) :: (1, 7, 0, 18, 1, none) :: (1, 7, 0, 17, 0, none) :: (1, 7, 0, 16, 0, none) :: (1, 7, 0, 15, 0, none) :: (2, 7, 0, 14, 0, some (46, 0)) :: (0, 46, 0, 0, 0, none) :: (1, 7, 0, 13, 0, none) :: (1, 7, 0, 12, 0, none) :: (1, 7, 0, 11, 0, none) :: (1, 7, 0, 10, (-1), none) :: (1, 7, 0, 9, (-1), none) :: (1, 7, 0, 8, 0, none) :: (1, 7, 0, 7, 0, none) :: (1, 7, 0, 6, 0, none) :: (1, 7, 0, 5, 0, none) :: (1, 7, 0, 4, (-1), none) :: (1, 7, 0, 3, 0, none) :: (1, 7, 0, 2, 0, none) :: zz16
def zz18 : List Opn := (2, 8, 0, 1, 0, some (58, 0)) :: (1, 8, 0, 9, 0, none) :: (2, 8, 0, 8, 0, some (50, 0)) :: (0, 50, 0, 0, 0, none) :: (2, 8, 0, 7, 0, some (49, 0)) :: (0, 49, 0, 0, 0, none) :: (2, 8, 0, 6, 0, some (48, 0)) :: (0, 48, 0, 0, 0, none) :: (1, 8, 0, 5, 0, none) :: (1, 8, 0, 4, 0, none) :: (1, 8, 0, 3, 0, none) :: (1, 8, 0, 2, 0, none) :: (2, 8, 0, 0, 0, some (47, 0)) :: (0, 47, 0, 0, 0, none) :: zz17
def zz19 : List Opn := (kl 200 0 0 0 0 zz18).getD []
theorem zz19_e : kl 200 0 0 0 0 zz18 = some zz19 := kl_s (by decide +kernel)
set_option maxHeartbeats 4000000 in
theorem zt20_X8_init {m g h : Hp} {Q : Int → Hp → Prop} (d : Ds ZC zz17 [(55, 1), (56, 1), (55, 0), (56, 0)] m g h) (f : FaC m 0) (q : ∀ v h' m', Ds ZC zz19 [(55, 1), (56, 1), (55, 0), (56, 0)] m' g h' → FaC m' 0 → Q v h') : ok (f_X8_init_u  h) Q := by
  refine fuv_X8_init_u (fun n hn => ?_)
  refine s_X8_init_u_0 (by omega) ?_
  unfold b_X8_init_u_0
  refine zo_al d (by rfl) (by rfl) (by decide +kernel) (by decide +kernel) (fun h d => ?_)
  refine zo_sR d (by rfl) (fun h d => ?_)
  refine zo_sI d (by rfl) (by decide +kernel) (fun h d => ?_)
  refine zo_sI d (by rfl) (by decide +kernel) (fun h d => ?_)
  refine zo_sI d (by rfl) (by decide +kernel) (fun h d => ?_)
  refine zo_sI d (by rfl) (by decide +kernel) (fun h d => ?_)
  refine zo_al d (by rfl) (by rfl) (by decide +kernel) (by decide +kernel) (fun h d => ?_)
  refine zo_sR d (by rfl) (fun h d => ?_)
  refine zo_al d (by rfl) (by rfl) (by decide +kernel) (by decide +kernel) (fun h d => ?_)
  refine zo_sR d (by rfl) (fun h d => ?_)
  refine zo_al d (by rfl) (by rfl) (by decide +kernel) (by decide +kernel) (fun h d => ?_)
  refine zo_sR d (by rfl) (fun h d => ?_)
  refine zo_sI d (by rfl) (by decide +kernel) (fun h d => ?_)
  refine zo_sR d (by rfl) (fun h d => ?_)
  exact kl_ok (L' := zz19) (by decide +kernel) (fun h' d' => q 0 h' m d' f) 200 _ _ _ _ 0 zz18 _ zz19_e d (by decide +kernel) (by omega)
def zz21 : List Opn := (2, 7, 0, 1, 0, some (0, 1)) :: (2, 7, 0, 0, 0, some (8, 0)) :: zz19
set_option maxHeartbeats 4000000 in
theorem zt22_X7_init {m g h : Hp} {Q : Int → Hp → Prop} (d : Ds ZC zz16 [(55, 1), (56, 1), (55, 0), (56, 0)] m g h) (f : FaC m 0) (q : ∀ v h' m', Ds ZC zz21 [(55, 1), (56, 1), (55, 0), (56, 0)] m' g h' → FaC m' 0 → Q v h') : ok (f_X7_init_u (1) h) Q := by
  refine fuv_X7_init_u (fun n hn => ?_)
  refine s_X7_init_u_0 (by omega) ?_
  unfold b_X7_init_u_0
  refine zo_sI d (by rfl) (by decide +kernel) (fun h d => ?_)
  refine zo_sI d (by rfl) (by decide +kernel) (fun h d => ?_)
  refine zo_sI d (by rfl) (by decide +kernel) (fun h d => ?_)
  refine zo_sI d (by rfl) (by decide +kernel) (fun h d => ?_)
  refine zo_sI d (by rfl) (by decide +kernel) (fun h d => ?_)
  refine zo_sI d (by rfl) (by decide +kernel) (fun h d => ?_)
  refine zo_sI d (by rfl) (by decide +kernel) (fun h d => ?_)
  refine zo_sI d (by rfl) (by decide +kernel) (fun h d => ?_)
  refine zo_sI d (by rfl) (by decide +kernel) (fun h d => ?_)
  refine zo_sI d (by rfl) (by decide +kernel) (fun h d => ?_)
  refine zo_sI d (by rfl) (by decide +kernel) (fun h d => ?_)
  refine zo_sI d (by rfl) (by decide +kernel) (fun h d => ?_)
  refine zo_al d (by rfl) (by rfl) (by decide +kernel) (by decide +kernel) (fun h d => ?_)
  refine zo_sR d (by rfl) (fun h d => ?_)
  refine zo_sI d (by rfl) (by decide +kernel) (fun h d => ?_)
  refine zo_sI d (by rfl) (by decide +kernel) (fun h d => ?_)
  refine zo_sI d (by rfl) (by decide +kernel) (fun h d => ?_)
  refine zo_sI d (by rfl) (by decide +kernel) (fun h d => ?_)
  refine zo_al d (by rfl) (by rfl) (by decide +kernel) (by decide +kernel) (fun h d => ?_)
  refine ok_bd ?_
  refine zt20_X8_init d f (fun v h m d f => ?_)
  refine zo_sR d (by rfl) (fun h d => ?_)
  refine zo_sR d (by rfl) (fun h d => ?_)
  exact ⟨0, h, rfl, q 0 h m d f⟩
def zz23 : List Opn := (0, 2, 0, 0, 0, none) :: (2, 11, 0, 4, 0, some (7, 0)) :: zz21
def zz24 : List Opn := (2, 2, 0, 0, 0, some (0, 0)) :: (1, 2, 0, 10, (-1), none) :: (2, 2, 0, 9, 0, some (33, 0)) :: (0, 33, 0, 0, 0, none) :: (1, 2, 0, 8, (-1), none) :: (1, 2, 0, 7, 0, none) :: (2, 2, 0, 6, 0, some (32, 0)) :: (0, 32, 0, 0, 0, none) :: (2, 2, 0, 5, 0, some (31, 0)) :: (0, 31, 0, 0, 0, none) :: (2, 2, 0, 4, 0, some (30, 0)) :: (0, 30, 0, 0, 0, none) :: (2, 2, 0, 3, 0, some (29, 0)) :: (0, 29, 0, 0, 0, none) :: (1, 2, 0, 2, (-1), none) :: (1, 2, 0, 1, (-1), none) :: zz23
set_option maxHeartbeats 4000000 in
theorem zt25_X2_init {m g h : Hp} {Q : Int → Hp → Prop} (d : Ds ZC zz23 [(55, 1), (56, 1), (55, 0), (56, 0)] m g h) (f : FaC m 0) (q : ∀ v h' m', Ds ZC zz24 [(55, 1), (56, 1), (55, 0), (56, 0)] m' g h' → FaC m' 0 → Q v h') : ok (f_X2_init_u (0) h) Q := by
  refine fuv_X2_init_u (fun n hn => ?_)
  refine s_X2_init_u_0 (by omega) ?_
  unfold b_X2_init_u_0
  refine zo_sI d (by rfl) (by decide +kernel) (fun h d => ?_)
  refine zo_sI d (by rfl) (by decide +kernel) (fun h d => ?_)
  refine zo_al d (by rfl) (by rfl) (by decide +kernel) (by decide +kernel) (fun h d => ?_)
  refine zo_sR d (by rfl) (fun h d => ?_)
  refine zo_al d (by rfl) (by rfl) (by decide +kernel) (by decide +kernel) (fun h d => ?_)
  refine zo_sR d (by rfl) (fun h d => ?_)
  refine zo_al d (by rfl) (by rfl) (by decide +kernel) (by decide +kernel) (fun h d => ?_)
  refine zo_sR d (by rfl) (fun h d => ?_)
  refine zo_al d (by rfl) (by rfl) (by decide +kernel) (by decide +kernel) (fun h d => ?_)
  refine zo_sR d (by rfl) (fun h d => ?_)
  refine zo_sI d (by rfl) (by decide +kernel) (fun h d => ?_)
  refine zo_sI d (by rfl) (by decide +kernel) (fun h d => ?_)
  refine zo_al d (by rfl) (by rfl) (by decide +kernel) (by decide +kernel) (fun h d => ?_)
  refine zo_sR d (by rfl) (fun h d => ?_)
  refine zo_sI d (by rfl) (by decide +kernel) (fun h d => ?_)
  refine zo_sR d (by rfl) (fun h d => ?_)
  exact ⟨0, h, rfl, q 0 h m d f⟩
def zz26 : List Opn := (0, 6, 0, 0, 0, none) :: (2, 11, 0, 5, 0, some (2, 0)) :: zz24
def zz27 : List Opn := (2, 43, 0, 3, 0, some (10, 26)) :: zl_X10 26 ((0, 10, 26, 0, 0, none) :: (2, 43, 0, 2, 0, some (10, 25)) :: zl_X10 25 ((0, 10, 25, 0, 0, none) :: (2, 43, 0, 1, 0, some (10, 24)) :: zl_X10 24 ((0, 10, 24, 0, 0, none) :: (2, 43, 0, 0, 0, some (10, 23)) :: zl_X10 23 ((0, 10, 23, 0, 0, none) :: (2, 6, 0, 0, 0, some (2, 0)) :: (1, 6, 0, 5, (-1), none) :: (1, 6, 0, 4, 0, none) :: (2, 6, 0, 3, 0, some (45, 0)) :: (0, 45, 0, 0, 0, none) :: (2, 6, 0, 2, 0, some (44, 0)) :: (0, 44, 0, 0, 0, none) :: (2, 6, 0, 1, 0, some (43, 0)) :: (0, 43, 0, 0, 0, none) :: zz26))))
set_option maxHeartbeats 4000000 in
theorem zt28_X6_init {m g h : Hp} {Q : Int → Hp → Prop} (d : Ds ZC zz26 [(55, 1), (56, 1), (55, 0), (56, 0)] m g h) (f : FaC m 0) (q : ∀ v h' m', Ds ZC zz27 [(55, 1), (56, 1), (55, 0), (56, 0)] m' g h' → FaC m' 0 → Q v h') : ok (f_X6_init_u  h) Q := by
  refine fuv_X6_init_u (fun n hn => ?_)
  refine s_X6_init_u_0 (by omega) ?_
  unfold b_X6_init_u_0
  refine zo_al d (by rfl) (by rfl) (by decide +kernel) (by decide +kernel) (fun h d => ?_)
  refine zo_sR d (by rfl) (fun h d => ?_)
  refine zo_al d (by rfl) (by rfl) (by decide +kernel) (by decide +kernel) (fun h d => ?_)
  refine zo_sR d (by rfl) (fun h d => ?_)
  refine zo_al d (by rfl) (by rfl) (by decide +kernel) (by decide +kernel) (fun h d => ?_)
  refine zo_sR d (by rfl) (fun h d => ?_)
  refine zo_sI d (by rfl) (by decide +kernel) (fun h d => ?_)
  refine zo_sI d (by rfl) (by decide +kernel) (fun h d => ?_)
  refine zo_sR d (by rfl) (fun h d => ?_)
  refine zo_ck d (by rfl) (by decide +kernel) ?_
  refine zo_al d (by rfl) (by rfl) (by decide +kernel) (by decide +kernel) (fun h d => ?_)
  refine ok_bd ?_
  refine zi_X10 (x0 := 23) d (by decide +kernel) (by decide +kernel) (by decide +kernel) (fun h d => ?_)
  refine ok_ck (by decide) ?_
  refine zo_sR d (by rfl) (fun h d => ?_)
  refine zo_ck d (by rfl) (by decide +kernel) ?_
  refine zo_al d (by rfl) (by rfl) (by decide +kernel) (by decide +kernel) (fun h d => ?_)
  refine ok_bd ?_
  refine zi_X10 (x0 := 24) d (by decide +kernel) (by decide +kernel) (by decide +kernel) (fun h d => ?_)
  refine ok_ck (by decide) ?_
  refine zo_sR d (by rfl) (fun h d => ?_)
  refine zo_ck d (by rfl) (by decide +kernel) ?_
  refine zo_al d (by rfl) (by rfl) (by decide +kernel) (by decide +kernel) (fun h d => ?_)
  refine ok_bd ?_
  refine zi_X10 (x0 := 25) d (by decide +kernel) (by decide +kernel) (by decide +kernel) (fun h d => ?_)
  refine ok_ck (by decide) ?_
  refine zo_sR d (by rfl) (fun h d => ?_)
  refine zo_ck d (by rfl) (by decide +kernel) ?_
  refine zo_al d (by rfl) (by rfl) (by decide +kernel) (by decide +kernel) (fun h d => ?_)
  refine ok_bd ?_
  refine zi_X10 (x0 := 26) d (by decide +kernel) (by decide +kernel) (by decide +kernel) (fun h d => ?_)
  refine ok_ck (by decide) ?_
  refine zo_sR d (by rfl) (fun h d => ?_)
  exact ⟨0, h, rfl, q 0 h m d f⟩
def zz29 : List Opn := (0, 5, 0, 0, 0, none) :: (1, 11, 0, 13, 0, none) :: (2, 11, 0, 12, 0, some (3, 1)) :: zl_X3 1 ((0, 3, 1, 0, 0, none) :: (2, 11, 0, 11, 0, some (10, 21)) :: zl_X10 21 ((0, 10, 21, 0, 0, none) :: (1, 11, 0, 10, 0, none) :: (2, 11, 0, 9, 0, some (59, 0)) :: (0, 59, 0, 0, 0, none) :: (2, 11, 0, 8, 0, some (3, 0)) :: zl_X3 0 ((0, 3, 0, 0, 0, none) :: (2, 11, 0, 7, 0, some (10, 0)) :: zl_X10 0 ((0, 10, 0, 0, 0, none) :: (2, 11, 0, 6, 0, some (6, 0)) :: zz27))))
def zz30 : List Opn := (1, 5, 0, 5, (-1), none) :: (1, 5, 0, 4, 0, none) :: (2, 5, 0, 3, 0, some (42, 0)) :: (0, 42, 0, 0, 0, none) :: (2, 5, 0, 2, 0, some (41, 0)) :: (0, 41, 0, 0, 0, none) :: (2, 5, 0, 1, 0, some (40, 0)) :: (0, 40, 0, 0, 0, none) :: (2, 5, 0, 0, 0, some (39, 0)) :: (0, 39, 0, 0, 0, none) :: zz29
set_option maxHeartbeats 4000000 in
theorem zt31_X5_init {m g h : Hp} {Q : Int → Hp → Prop} (d : Ds ZC zz29 [(55, 1), (56, 1), (55, 0), (56, 0)] m g h) (f : FaC m 0) (q : ∀ v h' m', Ds ZC zz30 [(55, 1), (56, 1), (55, 0), (56, 0)] m' g h' → FaC m' 0 → Q v h') : ok (f_X5_init_u  h) Q := by
  refine fuv_X5_init_u (fun n hn => ?_)
  refine s_X5_init_u_0 (by omega) ?_
  unfold b_X5_init_u_0
  refine zo_al d (by rfl) (by rfl) (by decide +kernel) (by decide +kernel) (fun h d => ?_)
  refine zo_sR d (by rfl) (fun h d => ?_)
  refine zo_al d (by rfl) (by rfl) (by decide +kernel) (by decide +kernel) (fun h d => ?_)
  refine zo_sR d (by rfl) (fun h d => ?_)
  refine zo_al d (by rfl) (by rfl) (by decide +kernel) (by decide +kernel) (fun h d => ?_)
  refine zo_sR d (by rfl) (fun h d => ?_)
  refine zo_al d (by rfl) (by rfl) (by decide +kernel) (by decide +kernel) (fun h d => ?_)
  refine zo_sR d (by rfl) (fun h d => ?_)
  refine zo_sI d (by rfl) (by decide +kernel) (fun h d => ?_)
  refine zo_sI d (by rfl) (by decide +kernel) (fun h d => ?_)
  exact ⟨0, h, rfl, q 0 h m d f⟩
def zz32 : List Opn := (2, 59, 0, 19, 0, some (10, 20)) :: zl_X10 20 ((0, 10, 20, 0, 0, none) :: (2, 59, 0, 18, 0, some (10, 19)) :: zl_X10 19 ((0, 10, 19, 0, 0, none) :: (2, 59, 0, 17, 0, some (10, 18)) :: zl_X10 18 ((0, 10, 18, 0, 0, none) :: (2, 59, 0, 16, 0, some (10, 17)) :: zl_X10 17 ((0, 10, 17, 0, 0, none) :: (2, 59, 0, 15, 0, some (10, 16)) :: zl_X10 16 ((0, 10, 16, 0, 0, none) :: (2, 59, 0, 14, 0, some (10, 15)) :: zl_X10 15 ((0, 10, 15, 0, 0, none) :: (2, 59, 0, 13, 0, some (10, 14)) :: zl_X10 14 ((0, 10, 14, 0, 0, none) :: (2, 59, 0, 12, 0, some (10, 13)) :: zl_X10 13 ((0, 10, 13, 0, 0, none) :: (2, 59, 0, 11, 0, some (10, 12)) :: zl_X10 12 ((0, 10, 12, 0, 0, none) :: (2, 59, 0, 10, 0, some (10, 11)) :: zl_X10 11 ((0, 10, 11, 0, 0, none) :: (2, 59, 0, 9, 0, some (10, 10)) :: zl_X10 10 ((0, 10, 10, 0, 0, none) :: (2, 59, 0, 8, 0, some (10, 9)) :: zl_X10 9 ((0, 10, 9, 0, 0, none) :: (2, 59, 0, 7, 0, some (10, 8)) :: zl_X10 8 ((0, 10, 8, 0, 0, none) :: (2, 59, 0, 6, 0, some (10, 7)) :: zl_X10 7 ((0, 10, 7, 0, 0, none) :: (2, 59, 0, 5, 0, some (10, 6)) :: zl_X10 6 ((0, 10, 6, 0, 0, none) :: (2, 59, 0, 4, 0, some (10, 5)) :: zl_X10 5 ((0, 10, 5, 0, 0, none) :: (2, 59, 0, 3, 0, some (10, 4)) :: zl_X10 4 ((0, 10, 4, 0, 0, none) :: (2, 59, 0, 2, 0, some (10, 3)) :: zl_X10 3 ((0, 10, 3, 0, 0, none) :: (2, 59, 0, 1, 0, some (10, 2)) :: zl_X10 2 ((0, 10, 2, 0, 0, none) :: (2, 59, 0, 0, 0, some (10, 1)) :: zl_X10 1 ((0, 10, 1, 0, 0, none) :: (1, 11, 0, 16, (-1), none) :: (2, 11, 0, 15, 0, some (10, 22)) :: zl_X10 22 ((0, 10, 22, 0, 0, none) :: (2, 11, 0, 14, 0, some (5, 0)) :: zz30)))))))))))))))))))))
abbrev lEnd : List Opn := zz32
abbrev hEnd : List (Nat × Int) := [(55, 1), (56, 1), (55, 0), (56, 0)]
set_option maxHeartbeats 4000000 in
theorem zt33_X11_init {m g h : Hp} {Q : Int → Hp → Prop} (d : Ds ZC zz1 [] m g h) (q : ∀ h' m', Ds ZC zz32 [(55, 1), (56, 1), (55, 0), (56, 0)] m' g h' → FaC m' 0 → ok (bd (f_X10_begin_u 0 0 h') fun _ h2 => some (0, h2)) Q) : ok (f_X11_init_u  h) Q := by
  refine fuv_X11_init_u (fun n hn => ?_)
  refine s_X11_init_u_0 (by omega) ?_
  unfold b_X11_init_u_0
  refine zo_al d (by rfl) (by rfl) (by decide +kernel) (by decide +kernel) (fun h d => ?_)
  refine zo_sR d (by rfl) (fun h d => ?_)
  refine zo_sI d (by rfl) (by decide +kernel) (fun h d => ?_)
  refine zo_al d (by rfl) (by rfl) (by decide +kernel) (by decide +kernel) (fun h d => ?_)
  refine ok_bd ?_
  refine zt8_X0_init d (fun v h m d f => ?_)
  refine zo_sR d (by rfl) (fun h d => ?_)
  refine zo_al d (by rfl) (by rfl) (by decide +kernel) (by decide +kernel) (fun h d => ?_)
  refine ok_bd ?_
  refine zt15_X0_init d f (fun v h m d f => ?_)
  refine zo_sR d (by rfl) (fun h d => ?_)
  refine zo_al d (by rfl) (by rfl) (by decide +kernel) (by decide +kernel) (fun h d => ?_)
  refine zo_ck d (by rfl) (by decide +kernel) ?_
  refine zo_rf (j := 1) d (by rfl) (by decide +kernel) ?_
  refine ok_bd ?_
  refine zt22_X7_init d f (fun v h m d f => ?_)
  refine zo_sR d (by rfl) (fun h d => ?_)
  refine zo_al d (by rfl) (by rfl) (by decide +kernel) (by decide +kernel) (fun h d => ?_)
  refine zo_rf (j := 0) d (by rfl) (by decide +kernel) ?_
  refine ok_bd ?_
  refine zt25_X2_init d f (fun v h m d f => ?_)
  refine zo_sR d (by rfl) (fun h d => ?_)
  refine zo_al d (by rfl) (by rfl) (by decide +kernel) (by decide +kernel) (fun h d => ?_)
  refine zo_ck d (by rfl) (by decide +kernel) ?_
  refine ok_bd ?_
  refine zt28_X6_init d f (fun v h m d f => ?_)
  refine zo_sR d (by rfl) (fun h d => ?_)
  refine zo_al d (by rfl) (by rfl) (by decide +kernel) (by decide +kernel) (fun h d => ?_)
  refine ok_bd ?_
  refine zi_X10 (x0 := 0) d (by decide +kernel) (by decide +kernel) (by decide +kernel) (fun h d => ?_)
  refine zo_sR d (by rfl) (fun h d => ?_)
  refine zo_al d (by rfl) (by rfl) (by decide +kernel) (by decide +kernel) (fun h d => ?_)
  refine ok_bd ?_
  refine zi_X3 (x0 := 0) d (by decide +kernel) (by decide +kernel) (by decide +kernel) (by decide +kernel) (by decide +kernel) (by decide +kernel) (by decide +kernel) (by decide +kernel) (by decide +kernel) (by decide +kernel) (fun h d => ?_)
  refine zo_sR d (by rfl) (fun h d => ?_)
  refine zo_al d (by rfl) (by rfl) (by decide +kernel) (by decide +kernel) (fun h d => ?_)
  refine zo_sR d (by rfl) (fun h d => ?_)
  refine zo_sI d (by rfl) (by decide +kernel) (fun h d => ?_)
  refine zo_al d (by rfl) (by rfl) (by decide +kernel) (by decide +kernel) (fun h d => ?_)
  refine ok_bd ?_
  refine zi_X10 (x0 := 21) d (by decide +kernel) (by decide +kernel) (by decide +kernel) (fun h d => ?_)
  refine zo_sR d (by rfl) (fun h d => ?_)
  refine zo_al d (by rfl) (by rfl) (by decide +kernel) (by decide +kernel) (fun h d => ?_)
  refine ok_bd ?_
  refine zi_X3 (x0 := 1) d (by decide +kernel) (by decide +kernel) (by decide +kernel) (by decide +kernel) (by decide +kernel) (by decide +kernel) (by decide +kernel) (by decide +kernel) (by decide +kernel) (by decide +kernel) (fun h d => ?_)
  refine zo_sR d (by rfl) (fun h d => ?_)
  refine zo_sI d (by rfl) (by decide +kernel) (fun h d => ?_)
  refine zo_al d (by rfl) (by rfl) (by decide +kernel) (by decide +kernel) (fun h d => ?_)
  refine ok_bd ?_
  refine zt31_X5_init d f (fun v h m d f => ?_)
  refine zo_sR d (by rfl) (fun h d => ?_)
  refine zo_al d (by rfl) (by rfl) (by decide +kernel) (by decide +kernel) (fun h d => ?_)
  refine ok_bd ?_
  refine zi_X10 (x0 := 22) d (by decide +kernel) (by decide +kernel) (by decide +kernel) (fun h d => ?_)
  refine zo_sR d (by rfl) (fun h d => ?_)
  refine zo_sI d (by rfl) (by decide +kernel) (fun h d => ?_)
  refine zo_ck d (by rfl) (by decide +kernel) ?_
  refine zo_al d (by rfl) (by rfl) (by decide +kernel) (by decide +kernel) (fun h d => ?_)
  refine ok_bd ?_
  refine zi_X10 (x0 := 1) d (by decide +kernel) (by decide +kernel) (by decide +kernel) (fun h d => ?_)
  refine ok_ck (by decide) ?_
  refine zo_sR d (by rfl) (fun h d => ?_)
  refine zo_ck d (by rfl) (by decide +kernel) ?_
  refine zo_al d (by rfl) (by rfl) (by decide +kernel) (by decide +kernel) (fun h d => ?_)
  refine ok_bd ?_
  refine zi_X10 (x0 := 2) d (by decide +kernel) (by decide +kernel) (by decide +kernel) (fun h d => ?_)
  refine ok_ck (by decide) ?_
  refine zo_sR d (by rfl) (fun h d => ?_)
  refine zo_ck d (by rfl) (by decide +kernel) ?_
  refine zo_al d (by rfl) (by rfl) (by decide +kernel) (by decide +kernel) (fun h d => ?_)
  refine ok_bd ?_
  refine zi_X10 (x0 := 3) d (by decide +kernel) (by decide +kernel) (by decide +kernel) (fun h d => ?_)
  refine ok_ck (by decide) ?_
  refine zo_sR d (by rfl) (fun h d => ?_)
  refine zo_ck d (by rfl) (by decide +kernel) ?_
  refine zo_al d (by rfl) (by rfl) (by decide +kernel) (by decide +kernel) (fun h d => ?_)
  refine ok_bd ?_
  refine zi_X10 (x0 := 4) d (by decide +kernel) (by decide +kernel) (by decide +kernel) (fun h d => ?_)
  refine ok_ck (by decide) ?_
  refine zo_sR d (by rfl) (fun h d => ?_)
  refine zo_ck d (by rfl) (by decide +kernel) ?_
  refine zo_al d (by rfl) (by rfl) (by decide +kernel) (by decide +kernel) (fun h d => ?_)
  refine ok_bd ?_
  refine zi_X10 (x0 := 5) d (by decide +kernel) (by decide +kernel) (by decide +kernel) (fun h d => ?_)
  refine ok_ck (by decide) ?_
  refine zo_sR d (by rfl) (fun h d => ?_)
  refine zo_ck d (by rfl) (by decide +kernel) ?_
  refine zo_al d (by rfl) (by rfl) (by decide +kernel) (by decide +kernel) (fun h d => ?_)
  refine ok_bd ?_
  refine zi_X10 (x0 := 6) d (by decide +kernel) (by decide +kernel) (by decide +kernel) (fun h d => ?_)
  refine ok_ck (by decide) ?_
  refine zo_sR d (by rfl) (fun h d => ?_)
  refine zo_ck d (by rfl) (by decide +kernel) ?_
  refine zo_al d (by rfl) (by rfl) (by decide +kernel) (by decide +kernel) (fun h d => ?_)
  refine ok_bd ?_
  refine zi_X10 (x0 := 7) d (by decide +kernel) (by decide +kernel) (by decide +kernel) (fun h d => ?_)
  refine ok_ck (by decide) ?_
  refine zo_sR d (by rfl) (fun h d => ?_)
  refine zo_ck d (by rfl) (by decide +kernel) ?_
  refine zo_al d (by rfl) (by rfl) (by decide +kernel) (by decide +kernel) (fun h d => ?_)
  refine ok_bd ?_
  refine zi_X10 (x0 := 8) d (by decide +kernel) (by decide +kernel) (by decide +kernel) (fun h d => ?_)
  refine ok_ck (by decide) ?_
  refine zo_sR d (by rfl) (fun h d => ?_)
  refine zo_ck d (by rfl) (by decide +kernel) ?_
  refine zo_al d (by rfl) (by rfl) (by decide +kernel) (by decide +kernel) (fun h d => ?_)
  refine ok_bd ?_
  refine zi_X10 (x0 := 9) d (by decide +kernel) (by decide +kernel) (by decide +kernel) (fun h d => ?_)
  refine ok_ck (by decide) ?_
  refine zo_sR d (by rfl) (fun h d => ?_)
  refine zo_ck d (by rfl) (by decide +kernel) ?_
  refine zo_al d (by rfl) (by rfl) (by decide +kernel) (by decide +kernel) (fun h d => ?_)
  refine ok_bd ?_
  refine zi_X10 (x0 := 10) d (by decide +kernel) (by decide +kernel) (by decide +kernel) (fun h d => ?_)
  refine ok_ck (by decide) ?_
  refine zo_sR d (by rfl) (fun h d => ?_)
  refine zo_ck d (by rfl) (by decide +kernel) ?_
  refine zo_al d (by rfl) (by rfl) (by decide +kernel) (by decide +kernel) (fun h d => ?_)
  refine ok_bd ?_
  refine zi_X10 (x0 := 11) d (by decide +kernel) (by decide +kernel) (by decide +kernel) (fun h d => ?_)
  refine ok_ck (by decide) ?_
  refine zo_sR d (by rfl) (fun h d => ?_)
  refine zo_ck d (by rfl) (by decide +kernel) ?_
  refine zo_al d (by rfl) (by rfl) (by decide +kernel) (by decide +kernel) (fun h d => ?_)
  refine ok_bd ?_
  refine zi_X10 (x0 := 12) d (by decide +kernel) (by decide +kernel) (by decide +kernel) (fun h d => ?_)
  refine ok_ck (by decide) ?_
  refine zo_sR d (by rfl) (fun h d => ?_)
  refine zo_ck d (by rfl) (by decide +kernel) ?_
  refine zo_al d (by rfl) (by rfl) (by decide +kernel) (by decide +kernel) (fun h d => ?_)
  refine ok_bd ?_
  refine zi_X10 (x0 := 13) d (by decide +kernel) (by decide +kernel) (by decide +kernel) (fun h d => ?_)
  refine ok_ck (by decide) ?_
  refine zo_sR d (by rfl) (fun h d => ?_)
  refine zo_ck d (by rfl) (by decide +kernel) ?_
  refine zo_al d (by rfl) (by rfl) (by decide +kernel) (by decide +kernel) (fun h d => ?_)
  refine ok_bd ?_
  refine zi_X10 (x0 := 14) d (by decide +kernel) (by decide +kernel) (by decide +kernel) (fun h d => ?_)
  refine ok_ck (by decide) ?_
  refine zo_sR d (by rfl) (fun h d => ?_)
  refine zo_ck d (by rfl) (by decide +kernel) ?_
  refine zo_al d (by rfl) (by rfl) (by decide +kernel) (by decide +kernel) (fun h d => ?_)
  refine ok_bd ?_
  refine zi_X10 (x0 := 15) d (by decide +kernel) (by decide +kernel) (by decide +kernel) (fun h d => ?_)
  refine ok_ck (by decide) ?_
  refine zo_sR d (by rfl) (fun h d => ?_)
  refine zo_ck d (by rfl) (by decide +kernel) ?_
  refine zo_al d (by rfl) (by rfl) (by decide +kernel) (by decide +kernel) (fun h d => ?_)
  refine ok_bd ?_
  refine zi_X10 (x0 := 16) d (by decide +kernel) (by decide +kernel) (by decide +kernel) (fun h d => ?_)
  refine ok_ck (by decide) ?_
  refine zo_sR d (by rfl) (fun h d => ?_)
  refine zo_ck d (by rfl) (by decide +kernel) ?_
  refine zo_al d (by rfl) (by rfl) (by decide +kernel) (by decide +kernel) (fun h d => ?_)
  refine ok_bd ?_
  refine zi_X10 (x0 := 17) d (by decide +kernel) (by decide +kernel) (by decide +kernel) (fun h d => ?_)
  refine ok_ck (by decide) ?_
  refine zo_sR d (by rfl) (fun h d => ?_)
  refine zo_ck d (by rfl) (by decide +kernel) ?_
  refine zo_al d (by rfl) (by rfl) (by decide +kernel) (by decide +kernel) (fun h d => ?_)
  refine ok_bd ?_
  refine zi_X10 (x0 := 18) d (by decide +kernel) (by decide +kernel) (by decide +kernel) (fun h d => ?_)
  refine ok_ck (by decide) ?_
  refine zo_sR d (by rfl) (fun h d => ?_)
  refine zo_ck d (by rfl) (by decide +kernel) ?_
  refine zo_al d (by rfl) (by rfl) (by decide +kernel) (by decide +kernel) (fun h d => ?_)
  refine ok_bd ?_
  refine zi_X10 (x0 := 19) d (by decide +kernel) (by decide +kernel) (by decide +kernel) (fun h d => ?_)
  refine ok_ck (by decide) ?_
  refine zo_sR d (by rfl) (fun h d => ?_)
  refine zo_ck d (by rfl) (by decide +kernel) ?_
  refine zo_al d (by rfl) (by rfl) (by decide +kernel) (by decide +kernel) (fun h d => ?_)
  refine ok_bd ?_
  refine zi_X10 (x0 := 20) d (by decide +kernel) (by decide +kernel) (by decide +kernel) (fun h d => ?_)
  refine ok_ck (by decide) ?_
  refine zo_sR d (by rfl) (fun h d => ?_)
  refine zo_ck d (by rfl) (by decide +kernel) ?_
  refine zo_rf (j := 0) d (by rfl) (by decide +kernel) ?_
  exact q h m d f
theorem zt_X11 {m g h : Hp} {Q : Int → Hp → Prop} (d : Ds ZC [(0, 11, 0, 0, 0, none)] [] m g h) (q : ∀ h' m', Ds ZC lEnd hEnd m' g h' → FaC m' 0 → ok (bd (f_X10_begin_u 0 0 h') fun _ h2 => some (0, h2)) Q) : ok (f_X11_init_u h) Q := zt33_X11_init d q
