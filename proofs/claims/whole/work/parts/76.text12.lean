/-! TEXT, 12: E, negation, primary, all levels -/
theorem sgr_c : ∀ v : Nat, v < 18 → 5 ≤ v → ((sgr (v : Int) = 60 ∨ sgr (v : Int) = 62 ∨ sgr (v : Int) = 61 ∨ 256 ≤ sgr (v : Int)) ↔ v ≤ 10) := by decide
section
variable {b : Int → Int} {n d : Nat}
set_option maxHeartbeats 2000000 in
theorem lv4 (n8 : n ≤ 800) (su : Lv b n (d + 1) 6 5 5 10) (ihn : Lv b n d 4 3 4 11) (ihs : Lv b n d 6 5 5 10) : Lv b n (d + 1) 4 3 4 11 := by
  intro t o s k p g h hd t8 st I hs _ hg
  have I1 := I.1
  have I2 := I.2.1
  have I3 := I.2.2.1
  have I4 := I.2.2.2.1
  have I5 := I.2.2.2.2
  refine s_grpE_4 (by omega) ?_
  unfold b_grpE_4
  refine ok_be (p_X12_isWord (x := 19) st.1 st.2.1 (by decide)) (ok_if (fun u => ?_) (fun u => ?_))
  · refine ok_bq (su t o s k p _ h hd t8 st I (by omega) (fun _ => Or.inl (fun z => b2i_0.mp u ((sg_W (by decide) (by decide)).mp z))) (by omega)) ?_
    intro _ h2 z
    rcases z with ⟨e, F, e1, e2, e3, e4⟩ | ⟨t', k', o1, P, F, st', a1, a2, a3, a4, a5, a6, a7⟩
    · exact ok_f (by rw [e1]; exact e3.1) (ok_some (Or.inl ⟨e, F, e1, e2, e3, e4⟩))
    · have kk := tk_k (b := b) (n := n) t'
      have rk := rK_r kk.1 kk.2
      have q30 : gI h2 12 0 30 = rK (tkK b n t') := st'.1.2.2.2.2.1
      have pI := psh_I (s := s) P o1 (fun x hx => by have := a4 x hx; omega)
      have J1 := a5.1
      have J2 := a5.2.1
      have J3 := a5.2.2.1
      have J4 := a5.2.2.2.1
      have J5 := pI.2.2 a5.2.2.2.2
      have no : ¬ (5 ≤ sgT b n t' ∧ sgT b n t' ≤ 10) → ok (some ((0 : Int), h2)) (fun _ h' => endP b n 3 s k p (fun F => runE b n F o s t true k p) t h h') := fun nz => ok_some (Or.inr ⟨t', k', o1, P, F, st', a1, a2, a3, fun x hx => by have := a4 x hx; omega, a5, ⟨fun _ => a6.1 (by decide), fun _ => a6.2.1 (by decide), fun _ z1 z2 => absurd ⟨z1, z2⟩ nz, fun z => absurd z (by decide), fun z => absurd z (by decide)⟩, a7⟩)
      have five : ∀ g1 : Nat, 8 * (64 - k') + 10 * (8 - p) + 9 ≤ g1 → 5 ≤ sgT b n t' ∧ sgT b n t' ≤ 10 → ok (g_grpE g1 5 [] h2) (fun _ h' => endP b n 3 s k p (fun F => runE b n F o s t true k p) t h h') := by
        intro g1 hg1 cz
        obtain ⟨v, ev⟩ : ∃ v, sgT b n t' = v := ⟨_, rfl⟩
        rw [ev] at cz
        have kv := (sg_K cz.1).mp ev
        have er : rkF v = 4 := by
          have := rk_c v.toNat (by omega) (by omega)
          rw [show ((v.toNat : Nat) : Int) = v by omega] at this
          exact this
        have ezz : gI h2 12 0 31 = rW (v, 0) := by
          have e2 : gI h2 12 0 31 = sgr (tkV b n t') := st'.1.2.2.2.2.2.2.2.1 kv.1
          rw [e2, kv.2]; exact sgr_W (by omega) (by omega)
        refine s_grpE_5 (by omega) ?_
        unfold b_grpE_5
        refine ok_lt (bin_S n8 (L2 := 5) (v := v) (by decide) F st' ev (by omega) J2 (fun y => ⟨?_, by omega, ?_, J4, Or.inr (by omega), J5⟩) (fun F hF2 => ?_) ezz (fun h3 y1 y2 r2 e2 => ihs (t' + 1) _ _ _ _ _ h3 (by omega) y2 r2 e2 (by show rkF v < 5; omega) (fun _ => Or.inr (by show 4 ≤ rkF v; omega)) (by omega)) (fun h3 f0 => gE6_f f0 (by omega)) (fun h3 f0 => rfl) (fun e h9 a1 a2 a3 a4 a5 => Or.inl ⟨e, a1, a2, a3, a4, a5⟩) ?_)
        · show (psh P o1).length + ((if v = 15 then 0 else 1) + nO s) ≤ k' + 1
          rw [if_neg (by omega)]; omega
        · show (if v = 15 then 1 else 0) + nB s = p
          rw [if_neg (by omega)]; omega
        · obtain ⟨F', y1, y2⟩ := a7 F hF2
          cases F' with
          | zero => omega
          | succ F' => exact ⟨F', by omega, y2.trans (st_cmp ev er (by omega) a4 (by omega) F')⟩
        · intro h9 t2 k2 o2 P2 c1 r9 c3 c4 c5 c6 c7 c8 c9
          have r9' : rfE h9 b n t2 (psh (P2 ++ [v]) o2) k2 p := by rw [psh_app]; exact r9
          have as : (P2 ++ [v]) ++ s = P2 ++ v :: s := by rw [List.append_assoc]; rfl
          refine ok_some (Or.inr ⟨t2, k2, o2, P2 ++ [v], c1, r9', by omega, c4, by omega, fun x hx => ?_, by rw [as]; exact c7, ?_, fun F hF2 => by rw [as]; exact c9 F hF2⟩)
          · rcases List.mem_append.mp hx with y | y
            · have := c6 x y; omega
            · rw [List.mem_singleton.mp y]; omega
          · rw [as]
            refine ⟨fun _ => c8.1 (by decide), fun _ => c8.2.1 (by decide), fun _ _ _ => ?_, fun z => absurd z (by decide), fun z => absurd z (by decide)⟩
            rw [rel_psh P2 o2 (v :: s) c6, rel_st (show rkT (v :: s) < 5 by show rkF v < 5; omega)]
            exact er
      refine ok_t st'.2.1 ?_
      rw [q30]
      by_cases k4 : tkK b n t' = 4
      · have e31 : gI h2 12 0 31 = sgr (tkV b n t') := st'.1.2.2.2.2.2.2.2.1 k4
        have es : sgT b n t' = tkV b n t' := if_pos k4
        have r4 := (tk_v (b := b) (n := n) t').2.2.2 k4
        have tb := sgr_c (tkV b n t').toNat (by omega) (by omega)
        rw [show (((tkV b n t').toNat : Nat) : Int) = tkV b n t' by omega] at tb
        rw [e31]
        exact ok_t (rk.2.2.2.1.mpr k4) (ok_if (fun y => five _ (by omega) (by have := tb.mp (Or.inl y); omega)) (fun y => ok_if (fun y2 => five _ (by omega) (by have := tb.mp (Or.inr (Or.inl y2)); omega)) (fun y2 => ok_if (fun y3 => five _ (by omega) (by have := tb.mp (Or.inr (Or.inr (Or.inl y3))); omega)) (fun y3 => ok_if (fun y4 => five _ (by omega) (by have := tb.mp (Or.inr (Or.inr (Or.inr y4))); omega)) (fun y4 => no (fun z => by have := tb.mpr (by omega); omega))))))
      · exact ok_f (fun z => k4 (rk.2.2.2.1.mp z)) (no (fun z => k4 ((sg_K z.1).mp rfl).1))
  · have k19 := b2i_n.mp u
    have ev : sgT b n t = 4 := (sg_W (by decide) (by decide)).mpr k19
    have k2 : tkK b n t = 2 := by
      by_cases y : tkK b n t = 2
      · exact y
      · have : kyT b n t = -1 := if_neg y
        omega
    refine bin_S n8 (L2 := 3) (v := (4 : Int)) (s := s) (oo := o) (t := t) (R0 := fun F => runE b n F o s t true k p) (by decide) fr_rf st ev (by decide) I2 (fun y => ⟨?_, by omega, ?_, I4, Or.inr (by decide), I5⟩) (fun F hF2 => ?_) (by decide) (fun h3 y1 y2 r2 e2 => ihn (t + 1) _ _ _ _ _ h3 (by omega) y2 r2 e2 (by show rkF 4 < 4; decide) (fun z => absurd z (by decide)) (by omega)) (fun h3 f0 => gE4_f f0 (by omega)) (fun h3 f0 => rfl) (fun e h9 a1 a2 a3 a4 a5 => Or.inl ⟨e, a1, a2, a3, a4, a5⟩) ?_
    · show o.length + ((if (4 : Int) = 15 then 0 else 1) + nO s) ≤ k + 1
      rw [if_neg (by decide)]; omega
    · show (if (4 : Int) = 15 then 1 else 0) + nB s = p
      rw [if_neg (by decide)]; omega
    · cases F with
      | zero => omega
      | succ F =>
        refine ⟨F, by omega, ?_⟩
        show runE b n (F + 1) o s t true k p = _
        rw [run_p, if_neg (by omega), if_neg (by omega), if_neg (by omega), if_pos ⟨ev, hs⟩]
    · intro h9 t2 k2 o2 P2 c1 r9 c3 c4 c5 c6 c7 c8 c9
      have r9' : rfE h9 b n t2 (psh (P2 ++ [(4 : Int)]) o2) k2 p := by rw [psh_app]; exact r9
      have as : (P2 ++ [(4 : Int)]) ++ s = P2 ++ (4 : Int) :: s := by rw [List.append_assoc]; rfl
      refine ok_some (Or.inr ⟨t2, k2, o2, P2 ++ [(4 : Int)], c1, r9', c3, c4, by omega, fun x hx => ?_, by rw [as]; exact c7, by rw [as]; exact c8, fun F hF2 => by rw [as]; exact c9 F hF2⟩)
      rcases List.mem_append.mp hx with y | y
      · exact c6 x y
      · rw [List.mem_singleton.mp y]; decide
end
