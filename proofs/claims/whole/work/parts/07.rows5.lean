/-! THE LAYER, 6: the heap's changes, fields and arrays over X -/
theorem cel_sI {y : Nat → ClassId} {h : Hp} {r r' : Nat} {i i' k v : Int} (hne : ¬ (r' = r ∧ i' = i)) : cel y (sI h r i k v) r' i' = cel y h r' i' := by
  have e1 : ∀ k', (sI h r i k v).1 r' i' k' = h.1 r' i' k' := by
    intro k'
    show (if r' = r ∧ i' = i ∧ k' = k then v else h.1 r' i' k') = _
    rw [if_neg (fun q => hne ⟨q.1, q.2.1⟩)]
  have e2 : slv (sI h r i k v) r' i' = slv h r' i' := by
    funext j
    unfold slv
    rw [e1]
    rfl
  unfold cel
  rw [e2]
  simp only [e1]
  rfl
theorem cel_sR {y : Nat → ClassId} {h : Hp} {r r' : Nat} {i i' k : Int} {v : Option (Nat × Int)} (hne : ¬ (r' = r ∧ i' = i)) : cel y (sR h r i k v) r' i' = cel y h r' i' := by
  have e1 : ∀ k', (sR h r i k v).2.1 r' i' k' = h.2.1 r' i' k' := by
    intro k'
    show (if r' = r ∧ i' = i ∧ k' = k then v else h.2.1 r' i' k') = _
    rw [if_neg (fun q => hne ⟨q.1, q.2.1⟩)]
  have e2 : slv (sR h r i k v) r' i' = slv h r' i' := by
    funext j
    unfold slv
    rw [e1]
    rfl
  unfold cel
  rw [e2]
  simp only [e1]
  rfl
theorem rep_sI {w : wk} {h : Hp} {H H1 : Heap} {r a : Nat} {i k v : Int} (hR : Rep w h H) (wf : Wf w h) (hr : r < 900) (ha : h.2.2 r i = some a) (h1 : va_at w.1 vwCl (a, cel w.2.1 (sI h r i k v) r i) H1) (oq : ∀ q : Nat, q ≠ a → H1[q]? = H[q]?) (hz : H1.size = H.size) : Rep w (sI h r i k v) H1 := by
  refine ⟨fun r' i' a' hr' ha' => ?_, (show (if 999 = r ∧ (0 : Int) = i ∧ (0 : Int) = k then v else h.1 999 0 0) = _ by rw [if_neg (fun q => by omega), hz]; exact hR.2)⟩
  have ha2 : h.2.2 r' i' = some a' := ha'
  by_cases hne : r' = r ∧ i' = i
  · obtain ⟨rfl, rfl⟩ := hne
    cases ha.symm.trans ha2
    exact ⟨(hR.1 _ _ _ hr ha).1, h1⟩
  · obtain ⟨g1, g2⟩ := hR.1 r' i' a' hr' ha2
    refine ⟨g1, ?_⟩
    rw [cel_sI hne]
    exact g2.kept (oq a' (fun q => hne (by subst q; exact wf.1 _ _ _ _ _ hr' hr ha2 ha)))
theorem rep_sR {w : wk} {h : Hp} {H H1 : Heap} {r a : Nat} {i k : Int} {v : Option (Nat × Int)} (hR : Rep w h H) (wf : Wf w h) (hr : r < 900) (ha : h.2.2 r i = some a) (h1 : va_at w.1 vwCl (a, cel w.2.1 (sR h r i k v) r i) H1) (oq : ∀ q : Nat, q ≠ a → H1[q]? = H[q]?) (hz : H1.size = H.size) : Rep w (sR h r i k v) H1 := by
  refine ⟨fun r' i' a' hr' ha' => ?_, (show h.1 999 0 0 = _ by rw [hz]; exact hR.2)⟩
  have ha2 : h.2.2 r' i' = some a' := ha'
  by_cases hne : r' = r ∧ i' = i
  · obtain ⟨rfl, rfl⟩ := hne
    cases ha.symm.trans ha2
    exact ⟨(hR.1 _ _ _ hr ha).1, h1⟩
  · obtain ⟨g1, g2⟩ := hR.1 r' i' a' hr' ha2
    refine ⟨g1, ?_⟩
    rw [cel_sR hne]
    exact g2.kept (oq a' (fun q => hne (by subst q; exact wf.1 _ _ _ _ _ hr' hr ha2 ha)))
theorem wf_sI {w : wk} {h : Hp} {r : Nat} {i k v : Int} (wf : Wf w h) (hv : xrg (xkd r k) v) : Wf w (sI h r i k v) := by
  refine ⟨wf.1, fun r' i' k' hr' => ?_, wf.2.2⟩
  show xrg (xkd r' k') (if r' = r ∧ i' = i ∧ k' = k then v else h.1 r' i' k')
  by_cases q : r' = r ∧ i' = i ∧ k' = k
  · rw [if_pos q, q.1, q.2.2]; exact hv
  · rw [if_neg q]; exact wf.2.1 r' i' k' hr'
theorem wf_sR {w : wk} {h : Hp} {r : Nat} {i k : Int} {v : Option (Nat × Int)} (wf : Wf w h) (hv : ∀ q, v = some q → ∃ a, h.2.2 q.1 q.2 = some a) : Wf w (sR h r i k v) := by
  refine ⟨wf.1, wf.2.1, fun r' i' k' q hq => ?_, wf.2.2.2⟩
  have hq2 : (if r' = r ∧ i' = i ∧ k' = k then v else h.2.1 r' i' k') = some q := hq
  by_cases z : r' = r ∧ i' = i ∧ k' = k
  · rw [if_pos z] at hq2; exact hv q hq2
  · rw [if_neg z] at hq2; exact wf.2.2.1 r' i' k' q hq2
/-- a field as a class file names it: class number r, its place k, its type, final or not -/
def Fk (own : String) (idx r k : Nat) (ft : FieldType) (fin : Bool) : Prop := ∃ (C : String) (T : u_T) (N : Nat) (ty0 : Nat → FieldType), vwCl[r]? = some (C, T, N) ∧ r < 13 ∧ k < N ∧ xnf r = N ∧ (∀ w ∈ u_ws C T N, w ∈ Gw) ∧ Cond.fieldLink own idx (T k).1 (T k).2.1 (T k).2.2.1 ∈ Gw ∧ (∀ k, k < N → parseFieldDescriptor (T k).2.2.1 = some (ty0 k)) ∧ (∀ a, a < N → ∀ b, b < N → a ≠ b → (T a).2.1 ≠ (T b).2.1) ∧ ty0 k = ft ∧ (T k).2.2.2 = fin ∧ (T k).1 = C
theorem slv_get {h : Hp} {r N k : Nat} {i : Int} (hN : xnf r = N) (hk : k < N) : ((List.range (xnf r)).map (slv h r i))[k]? = some (slv h r i k) := by
  rw [List.getElem?_map, List.getElem?_range (by omega)]
  rfl
theorem cel_o {y : Nat → ClassId} {h : Hp} {r : Nat} {i : Int} (hr : r < 13) : cel y h r i = .inr (r, (List.range (xnf r)).map (slv h r i)) := by
  unfold cel
  rw [if_pos hr]
