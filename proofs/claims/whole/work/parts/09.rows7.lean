/-! THE LAYER, 8: a contract out of a walk, and calls -/
theorem wSt_kept {w : wk} {s : State} {H H1 : Heap} (hs : wSt w s H) (hq : ∀ a : Nat, a < H.size → ¬ wA w a → H1[a]? = H[a]?) : wSt w s H1 := ⟨va_Z.kept hs.1 hq, va_T.kept hs.2.1 hq, va_Z.kept hs.2.2.1 hq, va_T.kept hs.2.2.2 hq⟩
theorem wSt_moved {w : wk} {s U : State} {H : Heap} (hv : s.vm.Alike U.vm) (hs : wSt w s H) : wSt w U H := ⟨va_Z.moved hv hs.1, va_T.moved hv hs.2.1, va_Z.moved hv hs.2.2.1, va_T.moved hv hs.2.2.2⟩
/-- what holds of the tables holds at a call -/
theorem Kx_call {w : wk} {s U : State} {H : Heap} {locs : List Loc} (hK : Kx w s s.heap) (hS : va_S (wA w) s.heap H locs) (hU : U.heap = H) (hv : s.vm.Alike U.vm) : Kx w U U.heap := by
  refine ⟨va_K.moved hv hK.1, ?_, ?_⟩
  · rw [hU]; exact Nat.le_trans hK.2.1 hS.1
  · rw [hU]
    exact wSt_moved hv (wSt_kept hK.2.2 hS.2.1)
/-- the locals at a method's entry -/
def ent (n : Nat) (as : List Av) : List (Option Av) := ((as.flatMap fun v => if one v then [some v] else [some v, none]) ++ List.replicate n none).take n
theorem cv_cat {h : Hp} {v : Av} : (cv h v).category = if one v then 1 else 2 := by
  match v with
  | .inl _ => rfl
  | .inr (.inl _) => rfl
  | .inr (.inr o) => exact cat_o
/-- where the arguments lie -/
theorem ent_has {h : Hp} : ∀ (as : List Av) (k : Nat) (i : Nat) (v : Av), (as.flatMap fun v => if one v then [some v] else [some v, none])[i]? = some (some v) → (k + i, cv h v) ∈ lv_args k (as.map (cv h))
  | [], k, i, v, hi => by simp at hi
  | a :: as, k, i, v, hi => by
    rw [List.flatMap_cons] at hi
    rw [List.map_cons, lv_args, cv_cat]
    by_cases ha : one a = true
    · rw [if_pos ha] at hi ⊢
      match i, hi with
      | 0, hi => simp at hi; subst hi; exact List.mem_cons_self
      | i + 1, hi =>
        have h2 := ent_has (h := h) as (k + 1) i v (by simpa using hi)
        refine List.mem_cons_of_mem _ ?_
        rw [show k + (i + 1) = k + 1 + i by omega]
        exact h2
    · rw [if_neg ha] at hi ⊢
      match i, hi with
      | 0, hi => simp at hi; subst hi; exact List.mem_cons_self
      | 1, hi => simp at hi
      | i + 2, hi =>
        have h2 := ent_has (h := h) as (k + 2) i v (by simpa using hi)
        refine List.mem_cons_of_mem _ ?_
        rw [show k + (i + 2) = k + 2 + i by omega]
        exact h2
