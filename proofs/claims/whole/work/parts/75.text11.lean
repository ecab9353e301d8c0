/-! TEXT, 11: E, the reference's levels -/
section
variable {b : Int → Int} {n : Nat}
theorem sg_K {t : Nat} {v : Int} (v5 : 5 ≤ v) : sgT b n t = v ↔ (tkK b n t = 4 ∧ tkV b n t = v) := by
  unfold sgT
  by_cases y : tkK b n t = 4
  · rw [if_pos y]
    exact ⟨fun z => ⟨y, z⟩, fun z => z.2⟩
  · rw [if_neg y]
    refine ⟨fun z => ?_, fun z => absurd z.1 y⟩
    split at z <;> omega
theorem sg_W {t : Nat} {v : Int} (v2 : 2 ≤ v) (v4 : v ≤ 4) : sgT b n t = v ↔ kyT b n t = v + 15 := by
  have r := (tk_v (b := b) (n := n) t).2.2.2
  unfold sgT
  by_cases y : tkK b n t = 4
  · have e : kyT b n t = -1 := if_neg (by omega)
    have := r y
    rw [if_pos y, e]
    omega
  · rw [if_neg y]
    split <;> omega
theorem sg_0 {t : Nat} (z : sgT b n t ≠ -1) : tkK b n t ≠ 0 := by
  intro y
  have e : kyT b n t = -1 := if_neg (by omega)
  refine z ?_
  unfold sgT
  rw [if_neg (by omega), e, if_neg (by omega)]
/-- a sign of rank r, not a comparison, behind what is let out by it -/
theorem st_op {o1 : List (Int × Int)} {P s : List Int} {t k p : Nat} {v r : Int} (ev : sgT b n t = v) (er : rkF v = r) (r4 : r ≠ 4) (vv : v ≠ -1 ∧ v ≠ 4 ∧ v ≠ 15 ∧ v ≠ 17 ∧ v ≠ 16) (hP : ∀ x, x ∈ P → r ≤ rkF x) (hs : rkT s < r) (F : Nat) : runE b n (F + 1) o1 (P ++ s) t false k p = if k < 64 then runE b n F (psh P o1) (v :: s) (t + 1) true (k + 1) p else .error (2, (tkP b n t : Int)) := by
  rw [run_s, ev, er, if_neg (by omega), if_neg (by omega), if_neg r4, rel_psh P o1 s hP, rel_st hs]
theorem st_cmp {o1 : List (Int × Int)} {P s : List Int} {t k p : Nat} {v : Int} (ev : sgT b n t = v) (er : rkF v = 4) (vv : v ≠ -1 ∧ v ≠ 4 ∧ v ≠ 15 ∧ v ≠ 17 ∧ v ≠ 16) (hP : ∀ x, x ∈ P → 5 ≤ rkF x) (hs : rkT s < 4) (F : Nat) : runE b n (F + 1) o1 (P ++ s) t false k p = if k < 64 then runE b n F (psh P o1) (v :: s) (t + 1) true (k + 1) p else .error (2, (tkP b n t : Int)) := by
  have hs5 : rkT s < 5 := by omega
  rw [run_s, ev, er, if_neg (by omega), if_neg (by omega), if_pos rfl, rel_psh P o1 s hP, rel_st hs5, if_neg (by show ¬ rkT s = 4; omega)]
theorem rk_t : rkF 2 = 1 ∧ rkF 3 = 2 ∧ rkF 4 = 3 ∧ rkF 11 = 5 ∧ rkF 12 = 5 ∧ rkF 13 = 6 ∧ rkF 14 = 6 := by decide
theorem rk_c : ∀ v : Nat, v < 11 → 5 ≤ v → rkF (v : Int) = 4 := by decide
set_option maxHeartbeats 2000000 in
/-- knot, goOn, what follows, puts -/
theorem bin_S (n8 : n ≤ 800) {L2 v z : Int} {s : List Int} {oo : List (Int × Int)} {t t' k' p : Nat} {h h1 : Hp} {sub cont : Hp → Option (Int × Hp)} {Q : Int → Hp → Prop} {R0 : Nat → Er} (l2 : 1 ≤ L2) (hF : Fr EwR h h1) (st : rfE h1 b n t' oo k' p) (ev : sgT b n t' = v) (vv : 2 ≤ v ∧ v ≤ 14) (k6 : k' ≤ 64) (I5 : k' < 64 → eI oo (v :: s) (k' + 1) p)
    (hS : ∀ F, 801 ≤ F + t → ∃ F', 801 ≤ F' + (t' + 1) ∧ R0 F = if k' < 64 then runE b n F' oo (v :: s) (t' + 1) true (k' + 1) p else .error (2, (tkP b n t' : Int)))
    (ez : z = rW (v, 0))
    (hsub : ∀ h2, k' < 64 → t' + 1 ≤ 800 → rfE h2 b n (t' + 1) oo (k' + 1) p → eI oo (v :: s) (k' + 1) p → ok (sub h2) (fun _ h3 => endP b n L2 (v :: s) (k' + 1) p (fun F => runE b n F oo (v :: s) (t' + 1) true (k' + 1) p) (t' + 1) h2 h3))
    (subf : ∀ h2, gI h2 12 0 32 ≠ 0 → sub h2 = some (0, h2)) (contf : ∀ h2, gI h2 12 0 32 ≠ 0 → cont h2 = some (0, h2))
    (hQf : ∀ (e : Int × Int) (h9 : Hp), Fr EwR h h9 → gI h9 12 0 32 = e.1 → gI h9 12 0 33 = e.2 → nzv h9 e → (∀ F, 801 ≤ F + t → R0 F = .error e) → Q 0 h9)
    (hc : ∀ (h9 : Hp) (t2 k2 : Nat) (o2 : List (Int × Int)) (P2 : List Int), Fr EwR h h9 → rfE h9 b n t2 ((v, 0) :: psh P2 o2) k2 p → t' < t2 → t2 ≤ 800 → k' + 1 ≤ k2 → (∀ x, x ∈ P2 → L2 ≤ rkF x) → eI o2 (P2 ++ v :: s) k2 p → fol b n L2 o2 (P2 ++ v :: s) t2 → (∀ F, 801 ≤ F + t → ∃ F', 801 ≤ F' + t2 ∧ R0 F = runE b n F' o2 (P2 ++ v :: s) t2 false k2 p) → ok (cont h9) Q) :
    ok (bd (f_X12_knot h1) fun _ h3 => bd (f_X12_goOn h3) fun _ h5 => bd (sub h5) fun _ h7 => bd (f_X12_puts 2 z h7) fun _ h9 => cont h9) Q := by
  have t8 : t' + 1 ≤ 800 := by
    by_cases y : t' + 1 ≤ 800
    · exact y
    · exact absurd (tk_end n8 (by omega)) (sg_0 (b := b) (n := n) (t := t') (by omega))
  refine ok_bq (p_X12_knot st k6) ?_
  intro _ h3 z3
  rcases z3 with ⟨k7, f3, r3⟩ | ⟨k7, f3⟩
  · refine ok_bq (p_X12_goOn r3.1 r3.2.1) ?_
    intro _ h5 ⟨f5, r5⟩
    have G5 : Fr EwR h h5 := fr_tr hF (fr_tr f3 (fr_mo f5 to_ew))
    refine ok_bq (hsub h5 k7 t8 (rfE_go r3 f5 r5) (I5 k7)) ?_
    intro _ h7 z7
    rcases z7 with ⟨e, F7, e1, e2, e3, e4⟩ | ⟨t2, k2, o2, P2, F7, r7, a1, a2, a3, a4, a5, a6, a7⟩
    · have f0 : gI h7 12 0 32 ≠ 0 := by rw [e1]; exact e3.1
      refine ok_be (p_puts_f f0) ?_
      rw [contf h7 f0]
      refine ok_some (hQf e h7 (fr_tr G5 F7) e1 e2 e3 (fun F hF2 => ?_))
      obtain ⟨F', y1, y2⟩ := hS F hF2
      rw [y2, if_pos k7]
      exact e4 F' y1
    · have pI := psh_I (s := v :: s) P2 o2 (fun x hx => by have := a4 x hx; omega)
      have nv : nO (v :: s) = 1 + nO s := by
        show (if v = 15 then 0 else 1) + nO s = _
        rw [if_neg (by omega)]
      have a51 := a5.1
      have a52 := a5.2.1
      refine ok_bq (p_X12_puts (e := (v, 0)) r7 (by omega) ?_ ez) ?_
      · show (2 : Int) = if v = 0 then 0 else if v = 1 then 1 else 2
        rw [if_neg (by omega), if_neg (by omega)]
      · intro _ h9 ⟨f9, r9⟩
        refine hc h9 t2 k2 o2 P2 (fr_tr G5 (fr_tr F7 f9)) r9 (by omega) a2 a3 a4 a5 a6 (fun F hF2 => ?_)
        obtain ⟨F', y1, y2⟩ := hS F hF2
        obtain ⟨F2, y3, y4⟩ := a7 F' y1
        exact ⟨F2, y3, by rw [y2, if_pos k7]; exact y4⟩
  · have f0 : gI h3 12 0 32 ≠ 0 := by rw [f3.2.1]; show (2 : Int) ≠ 0; decide
    refine ok_be (p_goOn_f f0) (ok_be (subf h3 f0) (ok_be (p_puts_f f0) ?_))
    rw [contf h3 f0]
    refine ok_some (hQf (2, (tkP b n t' : Int)) h3 (fr_tr hF (fl_ew f3)) f3.2.1 f3.2.2 ⟨by show (2 : Int) ≠ 0; decide, by rw [f3.1.1 12 0 31 (by omega)]; exact st.1.2.2.1⟩ (fun F hF2 => ?_))
    obtain ⟨F', y1, y2⟩ := hS F hF2
    rw [y2, if_neg k7]
end
def Lv (b : Int → Int) (n d ent : Nat) (L top : Int) (cL : Nat) : Prop := ∀ (t : Nat) (o : List (Int × Int)) (s : List Int) (k p g : Nat) (h : Hp), 801 - t ≤ d → t ≤ 800 → rfE h b n t o k p → eI o s k p → rkT s < top → (3 < L → sgT b n t ≠ 4 ∨ 4 ≤ rkT s) → 8 * (64 - k) + 10 * (8 - p) + cL ≤ g → ok (g_grpE g ent [] h) (fun _ h' => endP b n L s k p (fun F => runE b n F o s t true k p) t h h')
theorem sgr_W {v : Int} (a : 5 ≤ v) (c : v ≤ 14) : sgr v = rW (v, 0) := by
  unfold sgr rW
  rw [if_neg (by omega), if_neg (by omega), if_neg (by omega), if_neg (show ¬ (v = 0 ∨ v = 1) by omega)]
set_option maxHeartbeats 2000000 in
theorem lo10 {b : Int → Int} {n d : Nat} (n8 : n ≤ 800) (ih : Lv b n d 12 7 7 8) : ∀ (m t' k' g : Nat) (o1 : List (Int × Int)) (P s : List Int) (t k p : Nat) (h h1 : Hp) (R0 : Nat → Er), 64 - k' = m → Fr EwR h h1 → rfE h1 b n t' (psh P o1) k' p → t < t' → t' ≤ 800 → k ≤ k' → (∀ x, x ∈ P → 6 ≤ rkF x) → eI o1 (P ++ s) k' p → fol b n 7 o1 (P ++ s) t' → rkT s < 6 → 801 - t' ≤ d → 8 * (64 - k') + 10 * (8 - p) + 8 ≤ g → (∀ F, 801 ≤ F + t → ∃ F', 801 ≤ F' + t' ∧ R0 F = runE b n F' o1 (P ++ s) t' false k' p) → ok (g_grpE g 10 [] h1) (fun _ h' => endP b n 6 s k p R0 t h h') := by
  intro m
  induction m using Nat.strongRecOn with
  | ind m ih2 =>
    intro t' k' g o1 P s t k p h h1 R0 hm hF st tt t8 kk hP I fo hs hd hg hR
    have pI := psh_I (s := s) P o1 (fun x hx => by have := hP x hx; omega)
    have I1 := I.1
    have I2 := I.2.1
    have I3 := I.2.2.1
    have I4 := I.2.2.2.1
    have I5' := pI.2.2 I.2.2.2.2
    have go : ∀ (g1 : Nat) (v : Int), 8 * (64 - k') + 10 * (8 - p) + 7 ≤ g1 → (v = 13 ∨ v = 14) → sgT b n t' = v → ok (g_grpE g1 11 [] h1) (fun _ h' => endP b n 6 s k p R0 t h h') := by
      intro g1 v hg1 vv ev
      have kv := (sg_K (by omega)).mp ev
      have er : rkF v = 6 := by rcases vv with e | e <;> rw [e] <;> decide
      have ezz : gI h1 12 0 31 = rW (v, 0) := by
        have e2 : gI h1 12 0 31 = sgr (tkV b n t') := st.1.2.2.2.2.2.2.2.1 kv.1
        rw [e2, kv.2]; exact sgr_W (by omega) (by omega)
      refine s_grpE_11 (by omega) ?_
      unfold b_grpE_11
      refine ok_lt (bin_S n8 (L2 := 7) (v := v) (by decide) hF st ev (by omega) I2 (fun y => ⟨?_, by omega, ?_, I4, Or.inr (by omega), I5'⟩) (fun F hF2 => ?_) ezz (fun h2 y1 y2 r2 e2 => ih (t' + 1) _ _ _ _ _ h2 (by omega) y2 r2 e2 (by show rkF v < 7; omega) (fun _ => Or.inr (by show 4 ≤ rkF v; omega)) (by omega)) (fun h2 f0 => gE12_f f0 (by omega)) (fun h2 f0 => gE10_f f0 (by omega)) (fun e h9 a1 a2 a3 a4 a5 => Or.inl ⟨e, a1, a2, a3, a4, a5⟩) ?_)
      · show (psh P o1).length + ((if v = 15 then 0 else 1) + nO s) ≤ k' + 1
        rw [if_neg (by omega)]; omega
      · show (if v = 15 then 1 else 0) + nB s = p
        rw [if_neg (by omega)]; omega
      · obtain ⟨F', y1, y2⟩ := hR F hF2
        cases F' with
        | zero => omega
        | succ F' => exact ⟨F', by omega, by rw [y2]; exact st_op ev er (by decide) (by omega) hP hs F'⟩
      · intro h9 t2 k2 o2 P2 a1 r9 a3 a4 a5 a6 a7 a8 a9
        have a72 := a7.2.1
        have r9' : rfE h9 b n t2 (psh (P2 ++ [v]) o2) k2 p := by rw [psh_app]; exact r9
        have as : (P2 ++ [v]) ++ s = P2 ++ v :: s := by rw [List.append_assoc]; rfl
        refine ih2 (64 - k2) (by omega) t2 k2 _ o2 (P2 ++ [v]) s t k p h h9 R0 rfl a1 r9' (by omega) a4 (by omega) (fun x hx => ?_) (by rw [as]; exact a7) (by rw [as]; exact a8) hs (by omega) (by omega) (fun F hF2 => by rw [as]; exact a9 F hF2)
        rcases List.mem_append.mp hx with y | y
        · have := a6 x y; omega
        · rw [List.mem_singleton.mp y]; omega
    refine s_grpE_10 (by omega) ?_
    unfold b_grpE_10
    refine ok_be (p_X12_isSign (v := 13) st.1 st.2.1 (by decide) (by decide) (by decide)) (ok_if (fun u => ok_be (p_X12_isSign (v := 14) st.1 st.2.1 (by decide) (by decide) (by decide)) (ok_if (fun u2 => ?_) (fun u2 => go _ 14 (by omega) (Or.inr rfl) ((sg_K (by decide)).mpr (b2i_n.mp u2))))) (fun u => go _ 13 (by omega) (Or.inl rfl) ((sg_K (by decide)).mpr (b2i_n.mp u))))
    have n1 : sgT b n t' ≠ 13 := fun z => b2i_0.mp u ((sg_K (by decide)).mp z)
    have n2 : sgT b n t' ≠ 14 := fun z => b2i_0.mp u2 ((sg_K (by decide)).mp z)
    exact ok_some (Or.inr ⟨t', k', o1, P, hF, st, tt, t8, kk, hP, I, ⟨fun _ => ⟨n1, n2⟩, fun z => absurd z (by decide), fun z => absurd z (by decide), fun z => absurd z (by decide), fun z => absurd z (by decide)⟩, hR⟩)
set_option maxHeartbeats 2000000 in
theorem lo7 {b : Int → Int} {n d : Nat} (n8 : n ≤ 800) (ih : Lv b n d 9 6 6 9) : ∀ (m t' k' g : Nat) (o1 : List (Int × Int)) (P s : List Int) (t k p : Nat) (h h1 : Hp) (R0 : Nat → Er), 64 - k' = m → Fr EwR h h1 → rfE h1 b n t' (psh P o1) k' p → t < t' → t' ≤ 800 → k ≤ k' → (∀ x, x ∈ P → 5 ≤ rkF x) → eI o1 (P ++ s) k' p → fol b n 6 o1 (P ++ s) t' → rkT s < 5 → 801 - t' ≤ d → 8 * (64 - k') + 10 * (8 - p) + 8 ≤ g → (∀ F, 801 ≤ F + t → ∃ F', 801 ≤ F' + t' ∧ R0 F = runE b n F' o1 (P ++ s) t' false k' p) → ok (g_grpE g 7 [] h1) (fun _ h' => endP b n 5 s k p R0 t h h') := by
  intro m
  induction m using Nat.strongRecOn with
  | ind m ih2 =>
    intro t' k' g o1 P s t k p h h1 R0 hm hF st tt t8 kk hP I fo hs hd hg hR
    have pI := psh_I (s := s) P o1 (fun x hx => by have := hP x hx; omega)
    have I1 := I.1
    have I2 := I.2.1
    have I3 := I.2.2.1
    have I4 := I.2.2.2.1
    have I5' := pI.2.2 I.2.2.2.2
    have go : ∀ (g1 : Nat) (v : Int), 8 * (64 - k') + 10 * (8 - p) + 7 ≤ g1 → (v = 11 ∨ v = 12) → sgT b n t' = v → ok (g_grpE g1 8 [] h1) (fun _ h' => endP b n 5 s k p R0 t h h') := by
      intro g1 v hg1 vv ev
      have kv := (sg_K (by omega)).mp ev
      have er : rkF v = 5 := by rcases vv with e | e <;> rw [e] <;> decide
      have ezz : gI h1 12 0 31 = rW (v, 0) := by
        have e2 : gI h1 12 0 31 = sgr (tkV b n t') := st.1.2.2.2.2.2.2.2.1 kv.1
        rw [e2, kv.2]; exact sgr_W (by omega) (by omega)
      refine s_grpE_8 (by omega) ?_
      unfold b_grpE_8
      refine ok_lt (bin_S n8 (L2 := 6) (v := v) (by decide) hF st ev (by omega) I2 (fun y => ⟨?_, by omega, ?_, I4, Or.inr (by omega), I5'⟩) (fun F hF2 => ?_) ezz (fun h2 y1 y2 r2 e2 => ih (t' + 1) _ _ _ _ _ h2 (by omega) y2 r2 e2 (by show rkF v < 6; omega) (fun _ => Or.inr (by show 4 ≤ rkF v; omega)) (by omega)) (fun h2 f0 => gE9_f f0 (by omega)) (fun h2 f0 => gE7_f f0 (by omega)) (fun e h9 a1 a2 a3 a4 a5 => Or.inl ⟨e, a1, a2, a3, a4, a5⟩) ?_)
      · show (psh P o1).length + ((if v = 15 then 0 else 1) + nO s) ≤ k' + 1
        rw [if_neg (by omega)]; omega
      · show (if v = 15 then 1 else 0) + nB s = p
        rw [if_neg (by omega)]; omega
      · obtain ⟨F', y1, y2⟩ := hR F hF2
        cases F' with
        | zero => omega
        | succ F' => exact ⟨F', by omega, by rw [y2]; exact st_op ev er (by decide) (by omega) hP hs F'⟩
      · intro h9 t2 k2 o2 P2 a1 r9 a3 a4 a5 a6 a7 a8 a9
        have a72 := a7.2.1
        have r9' : rfE h9 b n t2 (psh (P2 ++ [v]) o2) k2 p := by rw [psh_app]; exact r9
        have as : (P2 ++ [v]) ++ s = P2 ++ v :: s := by rw [List.append_assoc]; rfl
        refine ih2 (64 - k2) (by omega) t2 k2 _ o2 (P2 ++ [v]) s t k p h h9 R0 rfl a1 r9' (by omega) a4 (by omega) (fun x hx => ?_) (by rw [as]; exact a7) (by rw [as]; exact a8) hs (by omega) (by omega) (fun F hF2 => by rw [as]; exact a9 F hF2)
        rcases List.mem_append.mp hx with y | y
        · have := a6 x y; omega
        · rw [List.mem_singleton.mp y]; omega
    refine s_grpE_7 (by omega) ?_
    unfold b_grpE_7
    refine ok_be (p_X12_isSign (v := 11) st.1 st.2.1 (by decide) (by decide) (by decide)) (ok_if (fun u => ok_be (p_X12_isSign (v := 12) st.1 st.2.1 (by decide) (by decide) (by decide)) (ok_if (fun u2 => ?_) (fun u2 => go _ 12 (by omega) (Or.inr rfl) ((sg_K (by decide)).mpr (b2i_n.mp u2))))) (fun u => go _ 11 (by omega) (Or.inl rfl) ((sg_K (by decide)).mpr (b2i_n.mp u))))
    have n1 : sgT b n t' ≠ 11 := fun z => b2i_0.mp u ((sg_K (by decide)).mp z)
    have n2 : sgT b n t' ≠ 12 := fun z => b2i_0.mp u2 ((sg_K (by decide)).mp z)
    exact ok_some (Or.inr ⟨t', k', o1, P, hF, st, tt, t8, kk, hP, I, ⟨fun _ => fo.1 (by decide), fun _ => ⟨n1, n2⟩, fun z => absurd z (by decide), fun z => absurd z (by decide), fun z => absurd z (by decide)⟩, hR⟩)
set_option maxHeartbeats 2000000 in
theorem lo3 {b : Int → Int} {n d : Nat} (n8 : n ≤ 800) (ih : Lv b n d 4 3 4 11) : ∀ (m t' k' g : Nat) (o1 : List (Int × Int)) (P s : List Int) (t k p : Nat) (h h1 : Hp) (R0 : Nat → Er), 64 - k' = m → Fr EwR h h1 → rfE h1 b n t' (psh P o1) k' p → t < t' → t' ≤ 800 → k ≤ k' → (∀ x, x ∈ P → 2 ≤ rkF x) → eI o1 (P ++ s) k' p → fol b n 3 o1 (P ++ s) t' → rkT s < 2 → 801 - t' ≤ d → 8 * (64 - k') + 10 * (8 - p) + 8 ≤ g → (∀ F, 801 ≤ F + t → ∃ F', 801 ≤ F' + t' ∧ R0 F = runE b n F' o1 (P ++ s) t' false k' p) → ok (g_grpE g 3 [] h1) (fun _ h' => endP b n 2 s k p R0 t h h') := by
  intro m
  induction m using Nat.strongRecOn with
  | ind m ih2 =>
    intro t' k' g o1 P s t k p h h1 R0 hm hF st tt t8 kk hP I fo hs hd hg hR
    have pI := psh_I (s := s) P o1 (fun x hx => by have := hP x hx; omega)
    have I1 := I.1
    have I2 := I.2.1
    have I3 := I.2.2.1
    have I4 := I.2.2.2.1
    have I5' := pI.2.2 I.2.2.2.2
    refine s_grpE_3 (by omega) ?_
    unfold b_grpE_3
    refine ok_be (p_X12_isWord (x := 18) st.1 st.2.1 (by decide)) (ok_if (fun u => ?_) (fun u => ?_))
    · have n1 : sgT b n t' ≠ 3 := fun z => b2i_0.mp u ((sg_W (by decide) (by decide)).mp z)
      exact ok_some (Or.inr ⟨t', k', o1, P, hF, st, tt, t8, kk, hP, I, ⟨fun _ => fo.1 (by decide), fun _ => fo.2.1 (by decide), fun _ => fo.2.2.1 (by decide), fun _ => n1, fun z => absurd z (by decide)⟩, hR⟩)
    · have ev : sgT b n t' = 3 := (sg_W (by decide) (by decide)).mpr (b2i_n.mp u)
      have er : rkF (3 : Int) = 2 := by decide
      refine bin_S n8 (L2 := 3) (v := (3 : Int)) (by decide) hF st ev (by omega) I2 (fun y => ⟨?_, by omega, ?_, I4, Or.inr (by omega), I5'⟩) (fun F hF2 => ?_) (by decide) (fun h2 y1 y2 r2 e2 => ih (t' + 1) _ _ _ _ _ h2 (by omega) y2 r2 e2 (by show rkF (3 : Int) < 4; omega) (fun z => absurd z (by decide)) (by omega)) (fun h2 f0 => gE4_f f0 (by omega)) (fun h2 f0 => gE3_f f0 (by omega)) (fun e h9 a1 a2 a3 a4 a5 => Or.inl ⟨e, a1, a2, a3, a4, a5⟩) ?_
      · show (psh P o1).length + ((if (3 : Int) = 15 then 0 else 1) + nO s) ≤ k' + 1
        rw [if_neg (by omega)]; omega
      · show (if (3 : Int) = 15 then 1 else 0) + nB s = p
        rw [if_neg (by omega)]; omega
      · obtain ⟨F', y1, y2⟩ := hR F hF2
        cases F' with
        | zero => omega
        | succ F' => exact ⟨F', by omega, by rw [y2]; exact st_op ev er (by decide) (by omega) hP hs F'⟩
      · intro h9 t2 k2 o2 P2 a1 r9 a3 a4 a5 a6 a7 a8 a9
        have a72 := a7.2.1
        have r9' : rfE h9 b n t2 (psh (P2 ++ [(3 : Int)]) o2) k2 p := by rw [psh_app]; exact r9
        have as : (P2 ++ [(3 : Int)]) ++ s = P2 ++ (3 : Int) :: s := by rw [List.append_assoc]; rfl
        refine ih2 (64 - k2) (by omega) t2 k2 _ o2 (P2 ++ [(3 : Int)]) s t k p h h9 R0 rfl a1 r9' (by omega) a4 (by omega) (fun x hx => ?_) (by rw [as]; exact a7) (by rw [as]; exact a8) hs (by omega) (by omega) (fun F hF2 => by rw [as]; exact a9 F hF2)
        rcases List.mem_append.mp hx with y | y
        · have := a6 x y; omega
        · rw [List.mem_singleton.mp y]; omega
set_option maxHeartbeats 2000000 in
theorem lo1 {b : Int → Int} {n d : Nat} (n8 : n ≤ 800) (ih : Lv b n d 2 2 2 12) : ∀ (m t' k' g : Nat) (o1 : List (Int × Int)) (P s : List Int) (t k p : Nat) (h h1 : Hp) (R0 : Nat → Er), 64 - k' = m → Fr EwR h h1 → rfE h1 b n t' (psh P o1) k' p → t < t' → t' ≤ 800 → k ≤ k' → (∀ x, x ∈ P → 1 ≤ rkF x) → eI o1 (P ++ s) k' p → fol b n 2 o1 (P ++ s) t' → rkT s < 1 → 801 - t' ≤ d → 8 * (64 - k') + 10 * (8 - p) + 8 ≤ g → (∀ F, 801 ≤ F + t → ∃ F', 801 ≤ F' + t' ∧ R0 F = runE b n F' o1 (P ++ s) t' false k' p) → ok (g_grpE g 1 [] h1) (fun _ h' => endP b n 1 s k p R0 t h h') := by
  intro m
  induction m using Nat.strongRecOn with
  | ind m ih2 =>
    intro t' k' g o1 P s t k p h h1 R0 hm hF st tt t8 kk hP I fo hs hd hg hR
    have pI := psh_I (s := s) P o1 (fun x hx => by have := hP x hx; omega)
    have I1 := I.1
    have I2 := I.2.1
    have I3 := I.2.2.1
    have I4 := I.2.2.2.1
    have I5' := pI.2.2 I.2.2.2.2
    refine s_grpE_1 (by omega) ?_
    unfold b_grpE_1
    refine ok_be (p_X12_isWord (x := 17) st.1 st.2.1 (by decide)) (ok_if (fun u => ?_) (fun u => ?_))
    · have n1 : sgT b n t' ≠ 2 := fun z => b2i_0.mp u ((sg_W (by decide) (by decide)).mp z)
      exact ok_some (Or.inr ⟨t', k', o1, P, hF, st, tt, t8, kk, hP, I, ⟨fun _ => fo.1 (by decide), fun _ => fo.2.1 (by decide), fun _ => fo.2.2.1 (by decide), fun _ => fo.2.2.2.1 (by decide), fun _ => n1⟩, hR⟩)
    · have ev : sgT b n t' = 2 := (sg_W (by decide) (by decide)).mpr (b2i_n.mp u)
      have er : rkF (2 : Int) = 1 := by decide
      refine bin_S n8 (L2 := 2) (v := (2 : Int)) (by decide) hF st ev (by omega) I2 (fun y => ⟨?_, by omega, ?_, I4, Or.inr (by omega), I5'⟩) (fun F hF2 => ?_) (by decide) (fun h2 y1 y2 r2 e2 => ih (t' + 1) _ _ _ _ _ h2 (by omega) y2 r2 e2 (by show rkF (2 : Int) < 2; omega) (fun z => absurd z (by decide)) (by omega)) (fun h2 f0 => gE2_f f0 (by omega)) (fun h2 f0 => gE1_f f0 (by omega)) (fun e h9 a1 a2 a3 a4 a5 => Or.inl ⟨e, a1, a2, a3, a4, a5⟩) ?_
      · show (psh P o1).length + ((if (2 : Int) = 15 then 0 else 1) + nO s) ≤ k' + 1
        rw [if_neg (by omega)]; omega
      · show (if (2 : Int) = 15 then 1 else 0) + nB s = p
        rw [if_neg (by omega)]; omega
      · obtain ⟨F', y1, y2⟩ := hR F hF2
        cases F' with
        | zero => omega
        | succ F' => exact ⟨F', by omega, by rw [y2]; exact st_op ev er (by decide) (by omega) hP hs F'⟩
      · intro h9 t2 k2 o2 P2 a1 r9 a3 a4 a5 a6 a7 a8 a9
        have a72 := a7.2.1
        have r9' : rfE h9 b n t2 (psh (P2 ++ [(2 : Int)]) o2) k2 p := by rw [psh_app]; exact r9
        have as : (P2 ++ [(2 : Int)]) ++ s = P2 ++ (2 : Int) :: s := by rw [List.append_assoc]; rfl
        refine ih2 (64 - k2) (by omega) t2 k2 _ o2 (P2 ++ [(2 : Int)]) s t k p h h9 R0 rfl a1 r9' (by omega) a4 (by omega) (fun x hx => ?_) (by rw [as]; exact a7) (by rw [as]; exact a8) hs (by omega) (by omega) (fun F hF2 => by rw [as]; exact a9 F hF2)
        rcases List.mem_append.mp hx with y | y
        · have := a6 x y; omega
        · rw [List.mem_singleton.mp y]; omega
theorem lv9 {b : Int → Int} {n d : Nat} (n8 : n ≤ 800) (pr : Lv b n (d + 1) 12 7 7 8) (ih : Lv b n d 12 7 7 8) : Lv b n (d + 1) 9 6 6 9 := by
  intro t o s k p g h hd t8 st I hs hn hg
  refine s_grpE_9 (by omega) ?_
  unfold b_grpE_9
  refine ok_bq (pr t o s k p _ h hd t8 st I (by omega) (fun _ => hn (by decide)) (by omega)) ?_
  intro _ h2 z
  rcases z with ⟨e, F, e1, e2, e3, e4⟩ | ⟨t', k', o1, P, F, st', a1, a2, a3, a4, a5, a6, a7⟩
  · rw [gE10_f (by rw [e1]; exact e3.1) (by omega)]
    exact ok_some (Or.inl ⟨e, F, e1, e2, e3, e4⟩)
  · have a52 := a5.2.1
    exact lo10 n8 ih _ t' k' _ o1 P s t k p h h2 _ rfl F st' a1 a2 a3 (fun x hx => by have := a4 x hx; omega) a5 a6 hs (by omega) (by omega) a7
theorem lv6 {b : Int → Int} {n d : Nat} (n8 : n ≤ 800) (pr : Lv b n (d + 1) 9 6 6 9) (ih : Lv b n d 9 6 6 9) : Lv b n (d + 1) 6 5 5 10 := by
  intro t o s k p g h hd t8 st I hs hn hg
  refine s_grpE_6 (by omega) ?_
  unfold b_grpE_6
  refine ok_bq (pr t o s k p _ h hd t8 st I (by omega) (fun _ => hn (by decide)) (by omega)) ?_
  intro _ h2 z
  rcases z with ⟨e, F, e1, e2, e3, e4⟩ | ⟨t', k', o1, P, F, st', a1, a2, a3, a4, a5, a6, a7⟩
  · rw [gE7_f (by rw [e1]; exact e3.1) (by omega)]
    exact ok_some (Or.inl ⟨e, F, e1, e2, e3, e4⟩)
  · have a52 := a5.2.1
    exact lo7 n8 ih _ t' k' _ o1 P s t k p h h2 _ rfl F st' a1 a2 a3 (fun x hx => by have := a4 x hx; omega) a5 a6 hs (by omega) (by omega) a7
theorem lv2 {b : Int → Int} {n d : Nat} (n8 : n ≤ 800) (pr : Lv b n (d + 1) 4 3 4 11) (ih : Lv b n d 4 3 4 11) : Lv b n (d + 1) 2 2 2 12 := by
  intro t o s k p g h hd t8 st I hs hn hg
  refine s_grpE_2 (by omega) ?_
  unfold b_grpE_2
  refine ok_bq (pr t o s k p _ h hd t8 st I (by omega) (fun z => absurd z (by decide)) (by omega)) ?_
  intro _ h2 z
  rcases z with ⟨e, F, e1, e2, e3, e4⟩ | ⟨t', k', o1, P, F, st', a1, a2, a3, a4, a5, a6, a7⟩
  · rw [gE3_f (by rw [e1]; exact e3.1) (by omega)]
    exact ok_some (Or.inl ⟨e, F, e1, e2, e3, e4⟩)
  · have a52 := a5.2.1
    exact lo3 n8 ih _ t' k' _ o1 P s t k p h h2 _ rfl F st' a1 a2 a3 (fun x hx => by have := a4 x hx; omega) a5 a6 hs (by omega) (by omega) a7
theorem lv0 {b : Int → Int} {n d : Nat} (n8 : n ≤ 800) (pr : Lv b n (d + 1) 2 2 2 12) (ih : Lv b n d 2 2 2 12) : Lv b n (d + 1) 0 1 1 13 := by
  intro t o s k p g h hd t8 st I hs hn hg
  refine s_grpE_0 (by omega) ?_
  unfold b_grpE_0
  refine ok_bq (pr t o s k p _ h hd t8 st I (by omega) (fun z => absurd z (by decide)) (by omega)) ?_
  intro _ h2 z
  rcases z with ⟨e, F, e1, e2, e3, e4⟩ | ⟨t', k', o1, P, F, st', a1, a2, a3, a4, a5, a6, a7⟩
  · rw [gE1_f (by rw [e1]; exact e3.1) (by omega)]
    exact ok_some (Or.inl ⟨e, F, e1, e2, e3, e4⟩)
  · have a52 := a5.2.1
    exact lo1 n8 ih _ t' k' _ o1 P s t k p h h2 _ rfl F st' a1 a2 a3 (fun x hx => by have := a4 x hx; omega) a5 a6 hs (by omega) (by omega) a7
