/-! TEXT, 9: E, the class: signs, the whole -/
section
variable {h : Hp} {b : Int → Int} {n s0 t : Nat} {c : Int} {o : List (Int × Int)} {s : List Int} {w : Bool} {k p : Nat}
theorem sgT_r (t : Nat) : sgT b n t = -1 ∨ (2 ≤ sgT b n t ∧ sgT b n t ≤ 17) := by
  unfold sgT
  split
  · rename_i z
    have := (tk_v (b := b) (n := n) t).2.2.2 z
    omega
  · split <;> omega
theorem rk_ge : ∀ v : Nat, v < 16 → 2 ≤ v → v ≠ 15 → 1 ≤ rkF (v : Int) := by decide
theorem sOK_rel {r : Int} : ∀ (s : List Int) (o : List (Int × Int)), sOK s → sOK (relF r o s).2
  | [], _, q => q
  | x :: s, o, q => by
    have eR : relF r o (x :: s) = if r ≤ rkF x then relF r ((x, 0) :: o) s else (o, x :: s) := rfl
    rw [eR]
    split
    · exact sOK_rel s _ q.2
    · exact q
/-- what is left on top holds less closely -/
theorem rel_top {r : Int} : ∀ (s : List Int) (o : List (Int × Int)), (relF r o s).2 = [] ∨ ∃ x s', (relF r o s).2 = x :: s' ∧ rkF x < r
  | [], _ => Or.inl rfl
  | x :: s, o => by
    have eR : relF r o (x :: s) = if r ≤ rkF x then relF r ((x, 0) :: o) s else (o, x :: s) := rfl
    rw [eR]
    by_cases y : r ≤ rkF x
    · rw [if_pos y]; exact rel_top s _
    · rw [if_neg y]; exact Or.inr ⟨x, s, rfl, by omega⟩
set_option maxHeartbeats 4000000 in
theorem p_X7_takeSign (d : rdT h b n s0 t) (q : exS h c o s false k p) (I : eI o s k p) (go : ¬ (sgT b n t = -1 ∨ sgT b n t = 4 ∨ sgT b n t = 15 ∨ sgT b n t = 17)) : ok (f_X7_takeSign h) (fun r h' => stE b n c o s t false k p h r h') := by
  obtain ⟨d5, d6, d7, d8, d9, d10⟩ := d
  obtain ⟨q1, q2, q3, q4, q5, q6⟩ := q
  obtain ⟨i1, i2, i3, i4, i5⟩ := I
  have sl := nO_B s
  have sr := sgT_r (b := b) (n := n) t
  have kn : tkK b n t ≠ 0 := by
    intro z
    have e1 : kyT b n t = -1 := if_neg (by omega)
    have e2 : sgT b n t = -1 := by
      unfold sgT
      rw [if_neg (by omega), e1, if_neg (by omega)]
    omega
  have three : ∀ (m : Nat) (h2 : Hp) (r : Int), 0 < m → 1 ≤ r → Fr (RlW c) h h2 → skC h2 (relF r o s).2 → ouC h2 c (relF r o s).1 → (∀ f, runE b n (f + 1) o s t false k p = if k < 64 then runE b n f (relF r o s).1 (sgT b n t :: (relF r o s).2) (t + 1) true (k + 1) p else .error (2, (tkP b n t : Int))) → sgT b n t ≠ 16 → ok (g_X7_takeSign m 3 [] h2) (fun r h' => stE b n c o s t false k p h r h') := by
    intro m h2 r hm r1 f2 s2 o2 er n16
    have ri := relF_I r1 s o
    have rs := nO_B (relF r o s).2
    refine s_X7_takeSign_3 hm ?_
    unfold b_X7_takeSign_3
    refine ok_lt ?_
    have F3 : Fr (fun r _ k => r = 7 ∧ k = 18) h2 (sI h2 7 0 18 1) := fr_sI fr_rf (by omega)
    have e17 : gI (sI h2 7 0 18 1) 7 0 17 = (k : Int) := by rw [gI_nk (by decide), f2.1 7 0 17 (by unfold RlW; omega)]; exact q5
    have cn := p_X7_countKnot e17 i2
    by_cases y : k < 64
    · rw [if_pos y] at cn
      refine ok_be cn (ok_f (by decide) ?_)
      have F4 : Fr (fun r _ k => r = 7 ∧ (k = 17 ∨ k = 18)) h2 (sI (sI h2 7 0 18 1) 7 0 17 ((k : Int) + 1)) := fr_sI (fr_sI fr_rf (by omega)) (by omega)
      have e10 : gI (sI (sI h2 7 0 18 1) 7 0 17 ((k : Int) + 1)) 7 0 10 = sgT b n t := by rw [gI_nk (by decide), gI_nk (by decide), f2.1 7 0 10 (by unfold RlW; omega)]; exact d10
      rw [e10]
      have g17 : gI (sI (sI h2 7 0 18 1) 7 0 17 ((k : Int) + 1)) 7 0 17 = (k : Int) + 1 := gI_eq
      have g18 : gI (sI (sI h2 7 0 18 1) 7 0 17 ((k : Int) + 1)) 7 0 18 = 1 := by rw [gI_nk (by decide), gI_eq]
      generalize sI (sI h2 7 0 18 1) 7 0 17 ((k : Int) + 1) = h4 at F4 g17 g18
      refine ok_bq (p_X7_defer (x := sgT b n t) (skC_e (F4.1 7 0 15 (by omega)) (fun k => F4.1 46 0 k (by omega)) s2) (by omega)) ?_
      intro v h5 ⟨v1, f5, s5⟩
      refine ok_f (by omega) (ok_some (Or.inr ⟨(relF r o s).1, sgT b n t :: (relF r o s).2, true, k + 1, p, rfl, fr_tr (fr_mo f2 (by intro r i k; unfold RlW ExW; omega)) (fr_tr (fr_mo F4 (by intro r i k; unfold ExW; omega)) (fr_mo f5 (by intro r i k; unfold ExW; omega))), ⟨by rw [fr_R f5, fr_R F4, fr_R f2]; exact q1, s5, ouC_e ((f5.1 1 c 2 (by omega)).trans (F4.1 1 c 2 (by omega))) (fun r k z => (f5.1 r c k (by omega)).trans (F4.1 r c k (by omega))) o2, ?_, ?_, ?_⟩, ⟨?_, by omega, ?_, i4, ?_, sOK_rel s o i5⟩, kn, fun f => ?_⟩))
      · rw [f5.1 7 0 16 (by omega), F4.1 7 0 16 (by omega), f2.1 7 0 16 (by unfold RlW; omega)]; exact q4
      · rw [f5.1 7 0 17 (by omega), g17]; omega
      · rw [f5.1 7 0 18 (by omega), g18]; rfl
      · show (relF r o s).1.length + ((if sgT b n t = 15 then 0 else 1) + nO (relF r o s).2) ≤ k + 1
        rw [if_neg (by omega)]; omega
      · show (if sgT b n t = 15 then 1 else 0) + nB (relF r o s).2 = p
        rw [if_neg (by omega)]; omega
      · right
        have := rk_ge (sgT b n t).toNat (by omega) (by omega) (by omega)
        rw [show (((sgT b n t).toNat : Nat) : Int) = sgT b n t by omega] at this
        exact this
      · rw [er, if_pos y]
    · rw [if_neg y] at cn
      refine ok_be cn (ok_t rfl (ok_some (Or.inl ⟨(2, (tkP b n t : Int)), rfl, fr_sI (fr_sI (fr_sI (fr_mo f2 (by intro r i k; unfold RlW ExF; omega)) (by unfold ExF; omega)) (by unfold ExF; omega)) (by unfold ExF; omega), by rw [gI_nk (by decide), gI_eq], ?_, fun f => ?_⟩)))
      · rw [gI_eq, gI_nk (by decide), f2.1 7 0 7 (by unfold RlW; omega)]; exact d7
      · rw [er, if_neg y]
  have two : ∀ (m : Nat) (x r : Int), 2 ≤ m → x = rkF (sgT b n t) → sgT b n t ≠ 16 → (x = 4 ∧ r = 5 ∨ x ≠ 4 ∧ r = x) → ok (g_X7_takeSign m 2 [x, r] h) (fun r h' => stE b n c o s t false k p h r h') := by
    intro m x r hm ex n16 z
    have r1 : 1 ≤ r := by
      have := rk_ge (sgT b n t).toNat (by omega) (by omega) (by omega)
      rw [show (((sgT b n t).toNat : Nat) : Int) = sgT b n t by omega] at this
      omega
    refine s_X7_takeSign_2 (by omega) ?_
    unfold b_X7_takeSign_2
    refine ok_bq (p_X7_release r1 q1 q2 q3 (by omega) (by omega)) ?_
    intro _ h2 ⟨f2, s2, o2⟩
    have ri := relF_I r1 s o
    rcases z with ⟨z1, z2⟩ | ⟨z1, z2⟩
    · refine ok_t z1 (ok_be (p_X7_rankOnTop s2 (by omega)) (ok_if (fun u => ?_) (fun u => ?_)))
      · rw [f2.1 7 0 7 (by unfold RlW; omega), d7]
        refine ok_be p_X7_wrong (ok_ck (by decide) (ok_some (Or.inl ⟨(1, (tkP b n t : Int)), rfl, fr_sI (fr_sI (fr_mo f2 (by intro r i k; unfold RlW ExF; omega)) (by unfold ExF; omega)) (by unfold ExF; omega), by rw [gI_nk (by decide), gI_eq], gI_eq, fun f => ?_⟩)))
        rw [z2] at u
        rw [run_s, if_neg go, if_neg n16, if_pos (by omega), if_pos u]
      · refine three _ h2 r (by omega) r1 f2 s2 o2 (fun f => ?_) n16
        rw [z2] at u ⊢
        rw [run_s, if_neg go, if_neg n16, if_pos (by omega), if_neg u]
    · refine ok_f z1 (three _ h2 r (by omega) r1 f2 s2 o2 (fun f => ?_) n16)
      rw [z2, ex, run_s, if_neg go, if_neg n16, if_neg (by omega)]
  refine fuv_X7_takeSign (fun m hm => ?_)
  refine s_X7_takeSign_0 (by omega) ?_
  unfold b_X7_takeSign_0
  rw [d7, d10, q4]
  refine ok_if (fun u => ok_if (fun u2 => ?_) (fun u2 => ?_)) (fun u => ok_be p_X7_rankOf (ok_if (fun u2 => ok_ck (by omega) (two _ _ _ (by omega) rfl u (Or.inl ⟨u2, by omega⟩))) (fun u2 => two _ _ _ (by omega) rfl u (Or.inr ⟨u2, rfl⟩))))
  · refine ok_bq (p_X7_release (r := 1) (by decide) q1 q2 q3 (by omega) (by omega)) ?_
    intro _ h2 ⟨f2, s2, o2⟩
    have ri := relF_I (r := 1) (by decide) s o
    have so := sOK_rel (r := 1) s o i5
    have er : ∀ f, runE b n (f + 1) o s t false k p = runE b n f (relF 1 o s).1 (relF 1 o s).2.tail (t + 1) false k (p - 1) := fun f => by
      rw [run_s, if_neg go, if_pos u, if_pos (by omega)]
    rcases rel_top (r := 1) s o with y | ⟨x, s', y, yr⟩
    · rw [y] at ri
      have : nB [] = 0 := rfl
      omega
    · rw [y] at ri so s2 er
      have x15 : x = 15 := by
        rcases so.1 with z | z
        · exact z
        · omega
      have nb : nB (x :: s') = 1 + nB s' := by
        show (if x = 15 then 1 else 0) + nB s' = _
        rw [if_pos x15]
      have no : nO (x :: s') = nO s' := by
        show (if x = 15 then 0 else 1) + nO s' = _
        rw [if_pos x15]; omega
      rw [nb, no] at ri
      have tp := skC_top s2
      have sl2 := nO_B s'
      rw [tp.1]
      refine ok_f (by omega) ?_
      refine s_X7_takeSign_1 (by omega) ?_
      unfold b_X7_takeSign_1
      refine ok_ck (by omega) (ok_lt ?_)
      rw [gI_nk (show (16 : Int) ≠ 15 by decide), f2.1 7 0 16 (by unfold RlW; omega), q4, show (s'.length : Int) + 1 - 1 = (s'.length : Int) by omega]
      refine ok_ck (by omega) (ok_lt (ok_some (Or.inr ⟨(relF 1 o s).1, s', false, k, p - 1, rfl, fr_sI (fr_sI (fr_mo f2 (by intro r i k; unfold RlW ExW; omega)) (by unfold ExW; omega)) (by unfold ExW; omega), ⟨?_, skC_pop s2 ?_ (fun k => ?_), ouC_e ?_ (fun r k z => ?_) o2, ?_, ?_, ?_⟩, ⟨by omega, i2, by omega, by omega, so.2⟩, kn, er⟩)))
      · show gR h2 7 0 1 = _
        rw [fr_R f2]; exact q1
      · rw [gI_nk (by decide), gI_eq]
      · rw [gI_nr (by decide), gI_nr (by decide)]
      · rw [gI_nr (by decide), gI_nr (by decide)]
      · rw [gI_nr (by omega), gI_nr (by omega)]
      · rw [gI_eq]; omega
      · rw [gI_nk (by decide), gI_nk (by decide), f2.1 7 0 17 (by unfold RlW; omega)]; exact q5
      · rw [gI_nk (by decide), gI_nk (by decide), f2.1 7 0 18 (by unfold RlW; omega)]; exact q6
  · refine ok_be p_X7_wrong (ok_ck (by decide) (ok_some (Or.inl ⟨(1, (tkP b n t : Int)), rfl, fw_ex, by rw [gI_nk (by decide), gI_eq], gI_eq, fun f => ?_⟩)))
    rw [run_s, if_neg go, if_pos u, if_neg (by omega)]
end
def RxW (c m : Int) : Nat → Int → Int → Prop := fun r i k => (r = 7 ∧ ((3 ≤ k ∧ k ≤ 10) ∨ (15 ≤ k ∧ k ≤ 18))) ∨ r = 46 ∨ (i = c ∧ ((r = 1 ∧ k = 2) ∨ r = 25 ∨ r = 26)) ∨ (r = 4 ∧ i = m ∧ (k = 8 ∨ k = 9))
section
variable {h : Hp} {b : Int → Int} {n s0 t0 : Nat} {c m : Int} {o0 : List (Int × Int)} {k0 : Nat}
theorem sc_lt {t : Nat} (q : scA h b n s0) (z : tkK b n t ≠ 0) : t + 1 ≤ s0 - 1 := by
  by_cases y : t + 1 ≤ s0 - 1
  · exact y
  · have e := (pos_end q.2.2.2.2.1 (t - (s0 - 1))).1
    rw [show s0 - 1 + (t - (s0 - 1)) = t by omega] at e
    exact absurd e z
set_option maxHeartbeats 4000000 in
theorem p_X7_readExpression (rc : gR h 7 0 1 = some (0, c)) (q : rdC h b n s0 t0) (u : ouC h c o0) (e17 : gI h 7 0 17 = (k0 : Int)) (l : o0.length ≤ k0) (k6 : k0 ≤ 64) : ok (f_X7_readExpression m h) (fun r h' => match runE b n 801 o0 [] t0 true k0 0 with
    | .error e => r = 0 ∧ Fr (RxW c m) h h' ∧ gI h' 7 0 3 = e.1 ∧ gI h' 7 0 4 = e.2
    | .ok R => r = 1 ∧ Fr (RxW c m) h h' ∧ rdC h' b n s0 R.2.1 ∧ ouC h' c R.1 ∧ gI h' 7 0 17 = (R.2.2 : Int) ∧ gI h' 4 m 8 = (o0.length : Int) ∧ gI h' 4 m 9 = (R.1.length : Int) ∧ R.1.length ≤ R.2.2 ∧ R.2.2 ≤ 64 ∧ gI h' 7 0 3 = gI h 7 0 3 ∧ gI h' 7 0 4 = gI h 7 0 4) := by
  have key : ∀ (d g : Nat) (h1 : Hp) (x t : Nat) (o : List (Int × Int)) (s : List Int) (w : Bool) (k p : Nat), 801 - x = d → 4 * d + 10 ≤ g → (x = 0 ∨ (t0 + x ≤ s0 - 1)) → t = t0 + x → Fr (RxW c m) h h1 → gI h1 7 0 3 = gI h 7 0 3 → gI h1 7 0 4 = gI h 7 0 4 → gI h1 4 m 8 = (o0.length : Int) → rdC h1 b n s0 t → exS h1 c o s w k p → eI o s k p → runE b n 801 o0 [] t0 true k0 0 = runE b n (801 - x) o s t w k p → ok (g_X7_readExpression g 1 [m, (x : Int)] h1) (fun r h' => match runE b n 801 o0 [] t0 true k0 0 with
    | .error e => r = 0 ∧ Fr (RxW c m) h h' ∧ gI h' 7 0 3 = e.1 ∧ gI h' 7 0 4 = e.2
    | .ok R => r = 1 ∧ Fr (RxW c m) h h' ∧ rdC h' b n s0 R.2.1 ∧ ouC h' c R.1 ∧ gI h' 7 0 17 = (R.2.2 : Int) ∧ gI h' 4 m 8 = (o0.length : Int) ∧ gI h' 4 m 9 = (R.1.length : Int) ∧ R.1.length ≤ R.2.2 ∧ R.2.2 ≤ 64 ∧ gI h' 7 0 3 = gI h 7 0 3 ∧ gI h' 7 0 4 = gI h 7 0 4) := by
    intro d
    induction d with
    | zero =>
      intro g h1 x t o s w k p hd hg hx ht f f3 f4 f8 rd ex I er
      have := rd.1.2.1
      omega
    | succ d ih =>
      intro g h1 x t o s w k p hd hg hx ht f f3 f4 f8 rd ex I er
      have s8 := rd.1.2.1
      have x8 : x ≤ 800 := by omega
      have ef : 801 - x = (800 - x) + 1 := by omega
      rw [ef] at er
      have three : ∀ (g3 : Nat) (h3 : Hp) (r : Int), 4 * d + 11 ≤ g3 → stE b n c o s t w k p h1 r h3 → ok (if r = 0 then some ((0 : Int), h3) else g_X7_readExpression g3 3 [m, (x : Int)] h3) (fun r h' => match runE b n 801 o0 [] t0 true k0 0 with
    | .error e => r = 0 ∧ Fr (RxW c m) h h' ∧ gI h' 7 0 3 = e.1 ∧ gI h' 7 0 4 = e.2
    | .ok R => r = 1 ∧ Fr (RxW c m) h h' ∧ rdC h' b n s0 R.2.1 ∧ ouC h' c R.1 ∧ gI h' 7 0 17 = (R.2.2 : Int) ∧ gI h' 4 m 8 = (o0.length : Int) ∧ gI h' 4 m 9 = (R.1.length : Int) ∧ R.1.length ≤ R.2.2 ∧ R.2.2 ≤ 64 ∧ gI h' 7 0 3 = gI h 7 0 3 ∧ gI h' 7 0 4 = gI h 7 0 4) := by
        intro g3 h3 r hg3 st
        rcases st with ⟨e, r0, F, e1, e2, e3⟩ | ⟨o', s', w', k', p', r1, F, ex', I', kn, e3⟩
        · rw [er, e3]
          exact ok_t r0 (ok_some ⟨rfl, fr_tr f (fr_mo F (by intro r i k; unfold ExF RxW; omega)), e1, e2⟩)
        · refine ok_f (by omega) ?_
          refine s_X7_readExpression_3 (by omega) ?_
          unfold b_X7_readExpression_3
          have rd3 : rdC h3 b n s0 t := rdC_fr F (by intro r k; unfold ExW; omega) rd
          refine ok_bq (p_X7_advance rd3) ?_
          intro _ h4 ⟨f4', rd4⟩
          refine ok_ck (by omega) ?_
          rw [show (x : Int) + 1 = ((x + 1 : Nat) : Int) by omega]
          have G : Fr (fun r _ k => r = 7 ∧ 5 ≤ k ∧ k ≤ 10) h3 h4 := f4'
          have sl := sc_lt rd.1 kn
          refine ih _ h4 (x + 1) (t + 1) o' s' w' k' p' (by omega) (by omega) (by omega) (by omega) (fr_tr f (fr_tr (fr_mo F (by intro r i k; unfold ExW RxW; omega)) (fr_mo G (by intro r i k; unfold RxW; omega)))) ?_ ?_ ?_ rd4 ?_ I' ?_
          · rw [G.1 7 0 3 (by omega), F.1 7 0 3 (by unfold ExW; omega)]; exact f3
          · rw [G.1 7 0 4 (by omega), F.1 7 0 4 (by unfold ExW; omega)]; exact f4
          · rw [G.1 4 m 8 (by omega), F.1 4 m 8 (by unfold ExW; omega)]; exact f8
          · exact ⟨by rw [fr_R G]; exact ex'.1, skC_e (G.1 7 0 15 (by omega)) (fun k => G.1 46 0 k (by omega)) ex'.2.1, ouC_e (G.1 1 c 2 (by omega)) (fun r k z => G.1 r c k (by omega)) ex'.2.2.1, (G.1 7 0 16 (by omega)).trans ex'.2.2.2.1, (G.1 7 0 17 (by omega)).trans ex'.2.2.2.2.1, (G.1 7 0 18 (by omega)).trans ex'.2.2.2.2.2⟩
          · rw [er, e3, show 801 - (x + 1) = 800 - x by omega]
      clear ih
      refine s_X7_readExpression_1 (by omega) ?_
      unfold b_X7_readExpression_1
      rw [ex.2.2.2.2.2]
      refine ok_f (by omega) ?_
      cases w with
      | true =>
        refine ok_f (by decide) ?_
        refine s_X7_readExpression_2 (by omega) ?_
        unfold b_X7_readExpression_2
        rw [ex.2.2.2.2.2]
        refine ok_f (by decide) (ok_bq (p_X7_takePart rd.2 ex I) ?_)
        intro r h3 st
        exact three _ h3 r (by omega) st
      | false =>
        refine ok_t rfl (ok_be (p_X7_goesOn rd.2.2.2.2.2.2) (ok_if (fun v => ?_) (fun v => ?_)))
        · have st : sgT b n t = -1 ∨ sgT b n t = 4 ∨ sgT b n t = 15 ∨ sgT b n t = 17 := Classical.byContradiction (fun z => b2i_0.mp v z)
          rw [er, run_s, if_pos st]
          obtain ⟨q1, q2, q3, q4, q5, q6⟩ := ex
          obtain ⟨i1, i2, i3, i4, i5⟩ := I
          have sl := nO_B s
          refine s_X7_readExpression_4 (by omega) ?_
          unfold b_X7_readExpression_4
          rw [q4, rd.2.2.2.1]
          by_cases p0 : p = 0
          · rw [if_pos p0]
            refine ok_t (by omega) (ok_bq (p_X7_release (r := 1) (by decide) q1 q2 q3 (by omega) (by omega)) ?_)
            intro _ h2 ⟨f2, s2, o2⟩
            have ri := relF_I (r := 1) (by decide) s o
            refine ok_rf (j := c) (by rw [fr_R f2]; exact q1) ?_
            rw [o2.1]
            have G : Fr (fun r i k => r = 4 ∧ i = m ∧ k = 9) h2 (sI h2 4 m 9 ((relF 1 o s).1.length : Int)) := fr_sI fr_rf (by omega)
            refine ok_lt (ok_some ⟨rfl, fr_tr f (fr_tr (fr_mo f2 (by intro r i k; unfold RlW RxW; omega)) (fr_mo G (by intro r i k; unfold RxW; omega))), rdC_fr G (by intro r k; omega) (rdC_fr f2 (by intro r k; unfold RlW; omega) rd), ouC_e (G.1 1 c 2 (by omega)) (fun r k z => G.1 r c k (by omega)) o2, ?_, ?_, gI_eq, ?_, i2, ?_, ?_⟩)
            · rw [G.1 7 0 17 (by omega), f2.1 7 0 17 (by unfold RlW; omega)]; exact q5
            · rw [G.1 4 m 8 (by omega), f2.1 4 m 8 (by unfold RlW; omega)]; exact f8
            · show (relF 1 o s).1.length ≤ k; omega
            · rw [G.1 7 0 3 (by omega), f2.1 7 0 3 (by unfold RlW; omega)]; exact f3
            · rw [G.1 7 0 4 (by omega), f2.1 7 0 4 (by unfold RlW; omega)]; exact f4
          · rw [if_neg p0]
            exact ok_f (by omega) (ok_be p_X7_wrong (ok_ck (by decide) (ok_some ⟨rfl, fr_sI (fr_sI f (by unfold RxW; omega)) (by unfold RxW; omega), by rw [gI_nk (by decide), gI_eq], gI_eq⟩)))
        · have st := b2i_n.mp v
          refine s_X7_readExpression_2 (by omega) ?_
          unfold b_X7_readExpression_2
          rw [ex.2.2.2.2.2]
          refine ok_t rfl (ok_bq (p_X7_takeSign rd.2 ex I st) ?_)
          intro r h3 st
          exact three _ h3 r (by omega) st
  refine fuv_X7_readExpression (fun g hg => ?_)
  refine s_X7_readExpression_0 (by omega) ?_
  unfold b_X7_readExpression_0
  refine ok_rf rc ?_
  rw [u.1]
  refine ok_lt (ok_lt (ok_lt (ok_lt ?_)))
  have G : Fr (fun r i k => (r = 4 ∧ i = m ∧ k = 8) ∨ (r = 7 ∧ (k = 15 ∨ k = 16 ∨ k = 18))) h (sI (sI (sI (sI h 4 m 8 (o0.length : Int)) 7 0 15 0) 7 0 16 0) 7 0 18 1) := fr_sI (fr_sI (fr_sI (fr_sI fr_rf (by omega)) (by omega)) (by omega)) (by omega)
  have g8 : gI (sI (sI (sI (sI h 4 m 8 (o0.length : Int)) 7 0 15 0) 7 0 16 0) 7 0 18 1) 4 m 8 = (o0.length : Int) := by rw [gI_nr (by decide), gI_nr (by decide), gI_nr (by decide), gI_eq]
  have g15 : gI (sI (sI (sI (sI h 4 m 8 (o0.length : Int)) 7 0 15 0) 7 0 16 0) 7 0 18 1) 7 0 15 = 0 := by rw [gI_nk (by decide), gI_nk (by decide), gI_eq]
  have g16 : gI (sI (sI (sI (sI h 4 m 8 (o0.length : Int)) 7 0 15 0) 7 0 16 0) 7 0 18 1) 7 0 16 = 0 := by rw [gI_nk (by decide), gI_eq]
  have g18 : gI (sI (sI (sI (sI h 4 m 8 (o0.length : Int)) 7 0 15 0) 7 0 16 0) 7 0 18 1) 7 0 18 = 1 := gI_eq
  generalize sI (sI (sI (sI h 4 m 8 (o0.length : Int)) 7 0 15 0) 7 0 16 0) 7 0 18 1 = h5 at G g8 g15 g16 g18
  exact key 801 _ h5 0 t0 o0 [] true k0 0 rfl (by omega) (Or.inl rfl) rfl (fr_mo G (by intro r i k; unfold RxW; omega)) (G.1 7 0 3 (by omega)) (G.1 7 0 4 (by omega)) g8 (rdC_fr G (by intro r k; omega) q) ⟨by rw [fr_R G]; exact rc, ⟨g15, fun i hi => absurd hi (Nat.not_lt_zero i)⟩, ouC_e (G.1 1 c 2 (by omega)) (fun r k z => G.1 r c k (by omega)) u, g16, (G.1 7 0 17 (by omega)).trans e17, g18⟩ ⟨by show o0.length + 0 ≤ k0; omega, k6, rfl, by omega, trivial⟩ rfl
end
