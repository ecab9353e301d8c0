/-! TEXT, 35: the reference's end of the reading -/
section
variable {h : Hp}
theorem hf_61 : ok (f_X12_half_r61 h) (fun _ h' => Fr (fun q _ k => q = 61 ∧ 0 ≤ k ∧ k < 15) h h' ∧ ∀ k, 0 ≤ k → k < 15 → gI h' 61 0 k = gI h 61 0 (15 + k)) := by
  have key : ∀ (d g : Nat) (x : Int) (h1 : Hp), (15 - x).toNat = d → 0 ≤ x → x ≤ 15 → d + 1 ≤ g → Fr (fun q _ k => q = 61 ∧ 0 ≤ k ∧ k < 15) h h1 → (∀ k, 0 ≤ k → k < x → gI h1 61 0 k = gI h 61 0 (15 + k)) → ok (g_X12_half_r61 g 1 [15, x] h1) (fun _ h' => Fr (fun q _ k => q = 61 ∧ 0 ≤ k ∧ k < 15) h h' ∧ ∀ k, 0 ≤ k → k < 15 → gI h' 61 0 k = gI h 61 0 (15 + k)) := by
    intro d
    induction d with
    | zero =>
      intro g x h1 hd x1 x2 hg f1 q1
      refine s_X12_half_r61_1 (by omega) ?_
      unfold b_X12_half_r61_1
      exact ok_t (by omega) (ok_some ⟨f1, fun k k1 k2 => q1 k k1 (by omega)⟩)
    | succ d ih =>
      intro g x h1 hd x1 x2 hg f1 q1
      refine s_X12_half_r61_1 (by omega) ?_
      unfold b_X12_half_r61_1
      refine ok_f (by omega) (ok_ck (by omega) (ok_ck (by omega) (ok_ck (by omega) (ok_lt (ok_ck (by omega) (ih _ (x + 1) _ (by omega) (by omega) (by omega) (by omega) (fr_sI f1 (by omega)) (fun k k1 k2 => ?_)))))))
      by_cases y : k = x
      · rw [y, gI_eq]; exact f1.1 61 0 (15 + x) (by omega)
      · rw [gI_nk y]; exact q1 k k1 (by omega)
  refine fuv_X12_half_r61 (fun g hg => ?_)
  refine s_X12_half_r61_0 (by omega) ?_
  unfold b_X12_half_r61_0
  refine ok_ck (by decide) (ok_lt ?_)
  rw [show (30 / 2 : Int) = 15 by decide]
  exact key 15 _ 0 h rfl (by omega) (by omega) (by omega) fr_rf (fun k k1 k2 => absurd k2 (by omega))
theorem hf_63 : ok (f_X12_half_r63 h) (fun _ h' => Fr (fun q _ k => q = 63 ∧ 0 ≤ k ∧ k < 3) h h' ∧ ∀ k, 0 ≤ k → k < 3 → gI h' 63 0 k = gI h 63 0 (3 + k)) := by
  have key : ∀ (d g : Nat) (x : Int) (h1 : Hp), (3 - x).toNat = d → 0 ≤ x → x ≤ 3 → d + 1 ≤ g → Fr (fun q _ k => q = 63 ∧ 0 ≤ k ∧ k < 3) h h1 → (∀ k, 0 ≤ k → k < x → gI h1 63 0 k = gI h 63 0 (3 + k)) → ok (g_X12_half_r63 g 1 [3, x] h1) (fun _ h' => Fr (fun q _ k => q = 63 ∧ 0 ≤ k ∧ k < 3) h h' ∧ ∀ k, 0 ≤ k → k < 3 → gI h' 63 0 k = gI h 63 0 (3 + k)) := by
    intro d
    induction d with
    | zero =>
      intro g x h1 hd x1 x2 hg f1 q1
      refine s_X12_half_r63_1 (by omega) ?_
      unfold b_X12_half_r63_1
      exact ok_t (by omega) (ok_some ⟨f1, fun k k1 k2 => q1 k k1 (by omega)⟩)
    | succ d ih =>
      intro g x h1 hd x1 x2 hg f1 q1
      refine s_X12_half_r63_1 (by omega) ?_
      unfold b_X12_half_r63_1
      refine ok_f (by omega) (ok_ck (by omega) (ok_ck (by omega) (ok_ck (by omega) (ok_lt (ok_ck (by omega) (ih _ (x + 1) _ (by omega) (by omega) (by omega) (by omega) (fr_sI f1 (by omega)) (fun k k1 k2 => ?_)))))))
      by_cases y : k = x
      · rw [y, gI_eq]; exact f1.1 63 0 (3 + x) (by omega)
      · rw [gI_nk y]; exact q1 k k1 (by omega)
  refine fuv_X12_half_r63 (fun g hg => ?_)
  refine s_X12_half_r63_0 (by omega) ?_
  unfold b_X12_half_r63_0
  refine ok_ck (by decide) (ok_lt ?_)
  rw [show (6 / 2 : Int) = 3 by decide]
  exact key 3 _ 0 h rfl (by omega) (by omega) (by omega) fr_rf (fun k k1 k2 => absurd k2 (by omega))
theorem hf_64 : ok (f_X12_half_r64 h) (fun _ h' => Fr (fun q _ k => q = 64 ∧ 0 ≤ k ∧ k < 3) h h' ∧ ∀ k, 0 ≤ k → k < 3 → gI h' 64 0 k = gI h 64 0 (3 + k)) := by
  have key : ∀ (d g : Nat) (x : Int) (h1 : Hp), (3 - x).toNat = d → 0 ≤ x → x ≤ 3 → d + 1 ≤ g → Fr (fun q _ k => q = 64 ∧ 0 ≤ k ∧ k < 3) h h1 → (∀ k, 0 ≤ k → k < x → gI h1 64 0 k = gI h 64 0 (3 + k)) → ok (g_X12_half_r64 g 1 [3, x] h1) (fun _ h' => Fr (fun q _ k => q = 64 ∧ 0 ≤ k ∧ k < 3) h h' ∧ ∀ k, 0 ≤ k → k < 3 → gI h' 64 0 k = gI h 64 0 (3 + k)) := by
    intro d
    induction d with
    | zero =>
      intro g x h1 hd x1 x2 hg f1 q1
      refine s_X12_half_r64_1 (by omega) ?_
      unfold b_X12_half_r64_1
      exact ok_t (by omega) (ok_some ⟨f1, fun k k1 k2 => q1 k k1 (by omega)⟩)
    | succ d ih =>
      intro g x h1 hd x1 x2 hg f1 q1
      refine s_X12_half_r64_1 (by omega) ?_
      unfold b_X12_half_r64_1
      refine ok_f (by omega) (ok_ck (by omega) (ok_ck (by omega) (ok_ck (by omega) (ok_lt (ok_ck (by omega) (ih _ (x + 1) _ (by omega) (by omega) (by omega) (by omega) (fr_sI f1 (by omega)) (fun k k1 k2 => ?_)))))))
      by_cases y : k = x
      · rw [y, gI_eq]; exact f1.1 64 0 (3 + x) (by omega)
      · rw [gI_nk y]; exact q1 k k1 (by omega)
  refine fuv_X12_half_r64 (fun g hg => ?_)
  refine s_X12_half_r64_0 (by omega) ?_
  unfold b_X12_half_r64_0
  refine ok_ck (by decide) (ok_lt ?_)
  rw [show (6 / 2 : Int) = 3 by decide]
  exact key 3 _ 0 h rfl (by omega) (by omega) (by omega) fr_rf (fun k k1 k2 => absurd k2 (by omega))
theorem hf_65 : ok (f_X12_half_r65 h) (fun _ h' => Fr (fun q _ k => q = 65 ∧ 0 ≤ k ∧ k < 3) h h' ∧ ∀ k, 0 ≤ k → k < 3 → gI h' 65 0 k = gI h 65 0 (3 + k)) := by
  have key : ∀ (d g : Nat) (x : Int) (h1 : Hp), (3 - x).toNat = d → 0 ≤ x → x ≤ 3 → d + 1 ≤ g → Fr (fun q _ k => q = 65 ∧ 0 ≤ k ∧ k < 3) h h1 → (∀ k, 0 ≤ k → k < x → gI h1 65 0 k = gI h 65 0 (3 + k)) → ok (g_X12_half_r65 g 1 [3, x] h1) (fun _ h' => Fr (fun q _ k => q = 65 ∧ 0 ≤ k ∧ k < 3) h h' ∧ ∀ k, 0 ≤ k → k < 3 → gI h' 65 0 k = gI h 65 0 (3 + k)) := by
    intro d
    induction d with
    | zero =>
      intro g x h1 hd x1 x2 hg f1 q1
      refine s_X12_half_r65_1 (by omega) ?_
      unfold b_X12_half_r65_1
      exact ok_t (by omega) (ok_some ⟨f1, fun k k1 k2 => q1 k k1 (by omega)⟩)
    | succ d ih =>
      intro g x h1 hd x1 x2 hg f1 q1
      refine s_X12_half_r65_1 (by omega) ?_
      unfold b_X12_half_r65_1
      refine ok_f (by omega) (ok_ck (by omega) (ok_ck (by omega) (ok_ck (by omega) (ok_lt (ok_ck (by omega) (ih _ (x + 1) _ (by omega) (by omega) (by omega) (by omega) (fr_sI f1 (by omega)) (fun k k1 k2 => ?_)))))))
      by_cases y : k = x
      · rw [y, gI_eq]; exact f1.1 65 0 (3 + x) (by omega)
      · rw [gI_nk y]; exact q1 k k1 (by omega)
  refine fuv_X12_half_r65 (fun g hg => ?_)
  refine s_X12_half_r65_0 (by omega) ?_
  unfold b_X12_half_r65_0
  refine ok_ck (by decide) (ok_lt ?_)
  rw [show (6 / 2 : Int) = 3 by decide]
  exact key 3 _ 0 h rfl (by omega) (by omega) (by omega) fr_rf (fun k k1 k2 => absurd k2 (by omega))
theorem hf_66 : ok (f_X12_half_r66 h) (fun _ h' => Fr (fun q _ k => q = 66 ∧ 0 ≤ k ∧ k < 3) h h' ∧ ∀ k, 0 ≤ k → k < 3 → gI h' 66 0 k = gI h 66 0 (3 + k)) := by
  have key : ∀ (d g : Nat) (x : Int) (h1 : Hp), (3 - x).toNat = d → 0 ≤ x → x ≤ 3 → d + 1 ≤ g → Fr (fun q _ k => q = 66 ∧ 0 ≤ k ∧ k < 3) h h1 → (∀ k, 0 ≤ k → k < x → gI h1 66 0 k = gI h 66 0 (3 + k)) → ok (g_X12_half_r66 g 1 [3, x] h1) (fun _ h' => Fr (fun q _ k => q = 66 ∧ 0 ≤ k ∧ k < 3) h h' ∧ ∀ k, 0 ≤ k → k < 3 → gI h' 66 0 k = gI h 66 0 (3 + k)) := by
    intro d
    induction d with
    | zero =>
      intro g x h1 hd x1 x2 hg f1 q1
      refine s_X12_half_r66_1 (by omega) ?_
      unfold b_X12_half_r66_1
      exact ok_t (by omega) (ok_some ⟨f1, fun k k1 k2 => q1 k k1 (by omega)⟩)
    | succ d ih =>
      intro g x h1 hd x1 x2 hg f1 q1
      refine s_X12_half_r66_1 (by omega) ?_
      unfold b_X12_half_r66_1
      refine ok_f (by omega) (ok_ck (by omega) (ok_ck (by omega) (ok_ck (by omega) (ok_lt (ok_ck (by omega) (ih _ (x + 1) _ (by omega) (by omega) (by omega) (by omega) (fr_sI f1 (by omega)) (fun k k1 k2 => ?_)))))))
      by_cases y : k = x
      · rw [y, gI_eq]; exact f1.1 66 0 (3 + x) (by omega)
      · rw [gI_nk y]; exact q1 k k1 (by omega)
  refine fuv_X12_half_r66 (fun g hg => ?_)
  refine s_X12_half_r66_0 (by omega) ?_
  unfold b_X12_half_r66_0
  refine ok_ck (by decide) (ok_lt ?_)
  rw [show (6 / 2 : Int) = 3 by decide]
  exact key 3 _ 0 h rfl (by omega) (by omega) (by omega) fr_rf (fun k k1 k2 => absurd k2 (by omega))
theorem hf_67 : ok (f_X12_half_r67 h) (fun _ h' => Fr (fun q _ k => q = 67 ∧ 0 ≤ k ∧ k < 8) h h' ∧ ∀ k, 0 ≤ k → k < 8 → gI h' 67 0 k = gI h 67 0 (8 + k)) := by
  have key : ∀ (d g : Nat) (x : Int) (h1 : Hp), (8 - x).toNat = d → 0 ≤ x → x ≤ 8 → d + 1 ≤ g → Fr (fun q _ k => q = 67 ∧ 0 ≤ k ∧ k < 8) h h1 → (∀ k, 0 ≤ k → k < x → gI h1 67 0 k = gI h 67 0 (8 + k)) → ok (g_X12_half_r67 g 1 [8, x] h1) (fun _ h' => Fr (fun q _ k => q = 67 ∧ 0 ≤ k ∧ k < 8) h h' ∧ ∀ k, 0 ≤ k → k < 8 → gI h' 67 0 k = gI h 67 0 (8 + k)) := by
    intro d
    induction d with
    | zero =>
      intro g x h1 hd x1 x2 hg f1 q1
      refine s_X12_half_r67_1 (by omega) ?_
      unfold b_X12_half_r67_1
      exact ok_t (by omega) (ok_some ⟨f1, fun k k1 k2 => q1 k k1 (by omega)⟩)
    | succ d ih =>
      intro g x h1 hd x1 x2 hg f1 q1
      refine s_X12_half_r67_1 (by omega) ?_
      unfold b_X12_half_r67_1
      refine ok_f (by omega) (ok_ck (by omega) (ok_ck (by omega) (ok_ck (by omega) (ok_lt (ok_ck (by omega) (ih _ (x + 1) _ (by omega) (by omega) (by omega) (by omega) (fr_sI f1 (by omega)) (fun k k1 k2 => ?_)))))))
      by_cases y : k = x
      · rw [y, gI_eq]; exact f1.1 67 0 (8 + x) (by omega)
      · rw [gI_nk y]; exact q1 k k1 (by omega)
  refine fuv_X12_half_r67 (fun g hg => ?_)
  refine s_X12_half_r67_0 (by omega) ?_
  unfold b_X12_half_r67_0
  refine ok_ck (by decide) (ok_lt ?_)
  rw [show (16 / 2 : Int) = 8 by decide]
  exact key 8 _ 0 h rfl (by omega) (by omega) (by omega) fr_rf (fun k k1 k2 => absurd k2 (by omega))
theorem hf_68 : ok (f_X12_half_r68 h) (fun _ h' => Fr (fun q _ k => q = 68 ∧ 0 ≤ k ∧ k < 4) h h' ∧ ∀ k, 0 ≤ k → k < 4 → gI h' 68 0 k = gI h 68 0 (4 + k)) := by
  have key : ∀ (d g : Nat) (x : Int) (h1 : Hp), (4 - x).toNat = d → 0 ≤ x → x ≤ 4 → d + 1 ≤ g → Fr (fun q _ k => q = 68 ∧ 0 ≤ k ∧ k < 4) h h1 → (∀ k, 0 ≤ k → k < x → gI h1 68 0 k = gI h 68 0 (4 + k)) → ok (g_X12_half_r68 g 1 [4, x] h1) (fun _ h' => Fr (fun q _ k => q = 68 ∧ 0 ≤ k ∧ k < 4) h h' ∧ ∀ k, 0 ≤ k → k < 4 → gI h' 68 0 k = gI h 68 0 (4 + k)) := by
    intro d
    induction d with
    | zero =>
      intro g x h1 hd x1 x2 hg f1 q1
      refine s_X12_half_r68_1 (by omega) ?_
      unfold b_X12_half_r68_1
      exact ok_t (by omega) (ok_some ⟨f1, fun k k1 k2 => q1 k k1 (by omega)⟩)
    | succ d ih =>
      intro g x h1 hd x1 x2 hg f1 q1
      refine s_X12_half_r68_1 (by omega) ?_
      unfold b_X12_half_r68_1
      refine ok_f (by omega) (ok_ck (by omega) (ok_ck (by omega) (ok_ck (by omega) (ok_lt (ok_ck (by omega) (ih _ (x + 1) _ (by omega) (by omega) (by omega) (by omega) (fr_sI f1 (by omega)) (fun k k1 k2 => ?_)))))))
      by_cases y : k = x
      · rw [y, gI_eq]; exact f1.1 68 0 (4 + x) (by omega)
      · rw [gI_nk y]; exact q1 k k1 (by omega)
  refine fuv_X12_half_r68 (fun g hg => ?_)
  refine s_X12_half_r68_0 (by omega) ?_
  unfold b_X12_half_r68_0
  refine ok_ck (by decide) (ok_lt ?_)
  rw [show (8 / 2 : Int) = 4 by decide]
  exact key 4 _ 0 h rfl (by omega) (by omega) (by omega) fr_rf (fun k k1 k2 => absurd k2 (by omega))
theorem hf_69 : ok (f_X12_half_r69 h) (fun _ h' => Fr (fun q _ k => q = 69 ∧ 0 ≤ k ∧ k < 4) h h' ∧ ∀ k, 0 ≤ k → k < 4 → gI h' 69 0 k = gI h 69 0 (4 + k)) := by
  have key : ∀ (d g : Nat) (x : Int) (h1 : Hp), (4 - x).toNat = d → 0 ≤ x → x ≤ 4 → d + 1 ≤ g → Fr (fun q _ k => q = 69 ∧ 0 ≤ k ∧ k < 4) h h1 → (∀ k, 0 ≤ k → k < x → gI h1 69 0 k = gI h 69 0 (4 + k)) → ok (g_X12_half_r69 g 1 [4, x] h1) (fun _ h' => Fr (fun q _ k => q = 69 ∧ 0 ≤ k ∧ k < 4) h h' ∧ ∀ k, 0 ≤ k → k < 4 → gI h' 69 0 k = gI h 69 0 (4 + k)) := by
    intro d
    induction d with
    | zero =>
      intro g x h1 hd x1 x2 hg f1 q1
      refine s_X12_half_r69_1 (by omega) ?_
      unfold b_X12_half_r69_1
      exact ok_t (by omega) (ok_some ⟨f1, fun k k1 k2 => q1 k k1 (by omega)⟩)
    | succ d ih =>
      intro g x h1 hd x1 x2 hg f1 q1
      refine s_X12_half_r69_1 (by omega) ?_
      unfold b_X12_half_r69_1
      refine ok_f (by omega) (ok_ck (by omega) (ok_ck (by omega) (ok_ck (by omega) (ok_lt (ok_ck (by omega) (ih _ (x + 1) _ (by omega) (by omega) (by omega) (by omega) (fr_sI f1 (by omega)) (fun k k1 k2 => ?_)))))))
      by_cases y : k = x
      · rw [y, gI_eq]; exact f1.1 69 0 (4 + x) (by omega)
      · rw [gI_nk y]; exact q1 k k1 (by omega)
  refine fuv_X12_half_r69 (fun g hg => ?_)
  refine s_X12_half_r69_0 (by omega) ?_
  unfold b_X12_half_r69_0
  refine ok_ck (by decide) (ok_lt ?_)
  rw [show (8 / 2 : Int) = 4 by decide]
  exact key 4 _ 0 h rfl (by omega) (by omega) (by omega) fr_rf (fun k k1 k2 => absurd k2 (by omega))
theorem hf_70 : ok (f_X12_half_r70 h) (fun _ h' => Fr (fun q _ k => q = 70 ∧ 0 ≤ k ∧ k < 4) h h' ∧ ∀ k, 0 ≤ k → k < 4 → gI h' 70 0 k = gI h 70 0 (4 + k)) := by
  have key : ∀ (d g : Nat) (x : Int) (h1 : Hp), (4 - x).toNat = d → 0 ≤ x → x ≤ 4 → d + 1 ≤ g → Fr (fun q _ k => q = 70 ∧ 0 ≤ k ∧ k < 4) h h1 → (∀ k, 0 ≤ k → k < x → gI h1 70 0 k = gI h 70 0 (4 + k)) → ok (g_X12_half_r70 g 1 [4, x] h1) (fun _ h' => Fr (fun q _ k => q = 70 ∧ 0 ≤ k ∧ k < 4) h h' ∧ ∀ k, 0 ≤ k → k < 4 → gI h' 70 0 k = gI h 70 0 (4 + k)) := by
    intro d
    induction d with
    | zero =>
      intro g x h1 hd x1 x2 hg f1 q1
      refine s_X12_half_r70_1 (by omega) ?_
      unfold b_X12_half_r70_1
      exact ok_t (by omega) (ok_some ⟨f1, fun k k1 k2 => q1 k k1 (by omega)⟩)
    | succ d ih =>
      intro g x h1 hd x1 x2 hg f1 q1
      refine s_X12_half_r70_1 (by omega) ?_
      unfold b_X12_half_r70_1
      refine ok_f (by omega) (ok_ck (by omega) (ok_ck (by omega) (ok_ck (by omega) (ok_lt (ok_ck (by omega) (ih _ (x + 1) _ (by omega) (by omega) (by omega) (by omega) (fr_sI f1 (by omega)) (fun k k1 k2 => ?_)))))))
      by_cases y : k = x
      · rw [y, gI_eq]; exact f1.1 70 0 (4 + x) (by omega)
      · rw [gI_nk y]; exact q1 k k1 (by omega)
  refine fuv_X12_half_r70 (fun g hg => ?_)
  refine s_X12_half_r70_0 (by omega) ?_
  unfold b_X12_half_r70_0
  refine ok_ck (by decide) (ok_lt ?_)
  rw [show (8 / 2 : Int) = 4 by decide]
  exact key 4 _ 0 h rfl (by omega) (by omega) (by omega) fr_rf (fun k k1 k2 => absurd k2 (by omega))
theorem hf_71 : ok (f_X12_half_r71 h) (fun _ h' => Fr (fun q _ k => q = 71 ∧ 0 ≤ k ∧ k < 9) h h' ∧ ∀ k, 0 ≤ k → k < 9 → gI h' 71 0 k = gI h 71 0 (9 + k)) := by
  have key : ∀ (d g : Nat) (x : Int) (h1 : Hp), (9 - x).toNat = d → 0 ≤ x → x ≤ 9 → d + 1 ≤ g → Fr (fun q _ k => q = 71 ∧ 0 ≤ k ∧ k < 9) h h1 → (∀ k, 0 ≤ k → k < x → gI h1 71 0 k = gI h 71 0 (9 + k)) → ok (g_X12_half_r71 g 1 [9, x] h1) (fun _ h' => Fr (fun q _ k => q = 71 ∧ 0 ≤ k ∧ k < 9) h h' ∧ ∀ k, 0 ≤ k → k < 9 → gI h' 71 0 k = gI h 71 0 (9 + k)) := by
    intro d
    induction d with
    | zero =>
      intro g x h1 hd x1 x2 hg f1 q1
      refine s_X12_half_r71_1 (by omega) ?_
      unfold b_X12_half_r71_1
      exact ok_t (by omega) (ok_some ⟨f1, fun k k1 k2 => q1 k k1 (by omega)⟩)
    | succ d ih =>
      intro g x h1 hd x1 x2 hg f1 q1
      refine s_X12_half_r71_1 (by omega) ?_
      unfold b_X12_half_r71_1
      refine ok_f (by omega) (ok_ck (by omega) (ok_ck (by omega) (ok_ck (by omega) (ok_lt (ok_ck (by omega) (ih _ (x + 1) _ (by omega) (by omega) (by omega) (by omega) (fr_sI f1 (by omega)) (fun k k1 k2 => ?_)))))))
      by_cases y : k = x
      · rw [y, gI_eq]; exact f1.1 71 0 (9 + x) (by omega)
      · rw [gI_nk y]; exact q1 k k1 (by omega)
  refine fuv_X12_half_r71 (fun g hg => ?_)
  refine s_X12_half_r71_0 (by omega) ?_
  unfold b_X12_half_r71_0
  refine ok_ck (by decide) (ok_lt ?_)
  rw [show (18 / 2 : Int) = 9 by decide]
  exact key 9 _ 0 h rfl (by omega) (by omega) (by omega) fr_rf (fun k k1 k2 => absurd k2 (by omega))
theorem hf_72 : ok (f_X12_half_r72 h) (fun _ h' => Fr (fun q _ k => q = 72 ∧ 0 ≤ k ∧ k < 9) h h' ∧ ∀ k, 0 ≤ k → k < 9 → gI h' 72 0 k = gI h 72 0 (9 + k)) := by
  have key : ∀ (d g : Nat) (x : Int) (h1 : Hp), (9 - x).toNat = d → 0 ≤ x → x ≤ 9 → d + 1 ≤ g → Fr (fun q _ k => q = 72 ∧ 0 ≤ k ∧ k < 9) h h1 → (∀ k, 0 ≤ k → k < x → gI h1 72 0 k = gI h 72 0 (9 + k)) → ok (g_X12_half_r72 g 1 [9, x] h1) (fun _ h' => Fr (fun q _ k => q = 72 ∧ 0 ≤ k ∧ k < 9) h h' ∧ ∀ k, 0 ≤ k → k < 9 → gI h' 72 0 k = gI h 72 0 (9 + k)) := by
    intro d
    induction d with
    | zero =>
      intro g x h1 hd x1 x2 hg f1 q1
      refine s_X12_half_r72_1 (by omega) ?_
      unfold b_X12_half_r72_1
      exact ok_t (by omega) (ok_some ⟨f1, fun k k1 k2 => q1 k k1 (by omega)⟩)
    | succ d ih =>
      intro g x h1 hd x1 x2 hg f1 q1
      refine s_X12_half_r72_1 (by omega) ?_
      unfold b_X12_half_r72_1
      refine ok_f (by omega) (ok_ck (by omega) (ok_ck (by omega) (ok_ck (by omega) (ok_lt (ok_ck (by omega) (ih _ (x + 1) _ (by omega) (by omega) (by omega) (by omega) (fr_sI f1 (by omega)) (fun k k1 k2 => ?_)))))))
      by_cases y : k = x
      · rw [y, gI_eq]; exact f1.1 72 0 (9 + x) (by omega)
      · rw [gI_nk y]; exact q1 k k1 (by omega)
  refine fuv_X12_half_r72 (fun g hg => ?_)
  refine s_X12_half_r72_0 (by omega) ?_
  unfold b_X12_half_r72_0
  refine ok_ck (by decide) (ok_lt ?_)
  rw [show (18 / 2 : Int) = 9 by decide]
  exact key 9 _ 0 h rfl (by omega) (by omega) (by omega) fr_rf (fun k k1 k2 => absurd k2 (by omega))
theorem hf_73 : ok (f_X12_half_r73 h) (fun _ h' => Fr (fun q _ k => q = 73 ∧ 0 ≤ k ∧ k < 9) h h' ∧ ∀ k, 0 ≤ k → k < 9 → gI h' 73 0 k = gI h 73 0 (9 + k)) := by
  have key : ∀ (d g : Nat) (x : Int) (h1 : Hp), (9 - x).toNat = d → 0 ≤ x → x ≤ 9 → d + 1 ≤ g → Fr (fun q _ k => q = 73 ∧ 0 ≤ k ∧ k < 9) h h1 → (∀ k, 0 ≤ k → k < x → gI h1 73 0 k = gI h 73 0 (9 + k)) → ok (g_X12_half_r73 g 1 [9, x] h1) (fun _ h' => Fr (fun q _ k => q = 73 ∧ 0 ≤ k ∧ k < 9) h h' ∧ ∀ k, 0 ≤ k → k < 9 → gI h' 73 0 k = gI h 73 0 (9 + k)) := by
    intro d
    induction d with
    | zero =>
      intro g x h1 hd x1 x2 hg f1 q1
      refine s_X12_half_r73_1 (by omega) ?_
      unfold b_X12_half_r73_1
      exact ok_t (by omega) (ok_some ⟨f1, fun k k1 k2 => q1 k k1 (by omega)⟩)
    | succ d ih =>
      intro g x h1 hd x1 x2 hg f1 q1
      refine s_X12_half_r73_1 (by omega) ?_
      unfold b_X12_half_r73_1
      refine ok_f (by omega) (ok_ck (by omega) (ok_ck (by omega) (ok_ck (by omega) (ok_lt (ok_ck (by omega) (ih _ (x + 1) _ (by omega) (by omega) (by omega) (by omega) (fr_sI f1 (by omega)) (fun k k1 k2 => ?_)))))))
      by_cases y : k = x
      · rw [y, gI_eq]; exact f1.1 73 0 (9 + x) (by omega)
      · rw [gI_nk y]; exact q1 k k1 (by omega)
  refine fuv_X12_half_r73 (fun g hg => ?_)
  refine s_X12_half_r73_0 (by omega) ?_
  unfold b_X12_half_r73_0
  refine ok_ck (by decide) (ok_lt ?_)
  rw [show (18 / 2 : Int) = 9 by decide]
  exact key 9 _ 0 h rfl (by omega) (by omega) (by omega) fr_rf (fun k k1 k2 => absurd k2 (by omega))
theorem hf_74 : ok (f_X12_half_r74 h) (fun _ h' => Fr (fun q _ k => q = 74 ∧ 0 ≤ k ∧ k < 9) h h' ∧ ∀ k, 0 ≤ k → k < 9 → gI h' 74 0 k = gI h 74 0 (9 + k)) := by
  have key : ∀ (d g : Nat) (x : Int) (h1 : Hp), (9 - x).toNat = d → 0 ≤ x → x ≤ 9 → d + 1 ≤ g → Fr (fun q _ k => q = 74 ∧ 0 ≤ k ∧ k < 9) h h1 → (∀ k, 0 ≤ k → k < x → gI h1 74 0 k = gI h 74 0 (9 + k)) → ok (g_X12_half_r74 g 1 [9, x] h1) (fun _ h' => Fr (fun q _ k => q = 74 ∧ 0 ≤ k ∧ k < 9) h h' ∧ ∀ k, 0 ≤ k → k < 9 → gI h' 74 0 k = gI h 74 0 (9 + k)) := by
    intro d
    induction d with
    | zero =>
      intro g x h1 hd x1 x2 hg f1 q1
      refine s_X12_half_r74_1 (by omega) ?_
      unfold b_X12_half_r74_1
      exact ok_t (by omega) (ok_some ⟨f1, fun k k1 k2 => q1 k k1 (by omega)⟩)
    | succ d ih =>
      intro g x h1 hd x1 x2 hg f1 q1
      refine s_X12_half_r74_1 (by omega) ?_
      unfold b_X12_half_r74_1
      refine ok_f (by omega) (ok_ck (by omega) (ok_ck (by omega) (ok_ck (by omega) (ok_lt (ok_ck (by omega) (ih _ (x + 1) _ (by omega) (by omega) (by omega) (by omega) (fr_sI f1 (by omega)) (fun k k1 k2 => ?_)))))))
      by_cases y : k = x
      · rw [y, gI_eq]; exact f1.1 74 0 (9 + x) (by omega)
      · rw [gI_nk y]; exact q1 k k1 (by omega)
  refine fuv_X12_half_r74 (fun g hg => ?_)
  refine s_X12_half_r74_0 (by omega) ?_
  unfold b_X12_half_r74_0
  refine ok_ck (by decide) (ok_lt ?_)
  rw [show (18 / 2 : Int) = 9 by decide]
  exact key 9 _ 0 h rfl (by omega) (by omega) (by omega) fr_rf (fun k k1 k2 => absurd k2 (by omega))
theorem hf_75 : ok (f_X12_half_r75 h) (fun _ h' => Fr (fun q _ k => q = 75 ∧ 0 ≤ k ∧ k < 9) h h' ∧ ∀ k, 0 ≤ k → k < 9 → gI h' 75 0 k = gI h 75 0 (9 + k)) := by
  have key : ∀ (d g : Nat) (x : Int) (h1 : Hp), (9 - x).toNat = d → 0 ≤ x → x ≤ 9 → d + 1 ≤ g → Fr (fun q _ k => q = 75 ∧ 0 ≤ k ∧ k < 9) h h1 → (∀ k, 0 ≤ k → k < x → gI h1 75 0 k = gI h 75 0 (9 + k)) → ok (g_X12_half_r75 g 1 [9, x] h1) (fun _ h' => Fr (fun q _ k => q = 75 ∧ 0 ≤ k ∧ k < 9) h h' ∧ ∀ k, 0 ≤ k → k < 9 → gI h' 75 0 k = gI h 75 0 (9 + k)) := by
    intro d
    induction d with
    | zero =>
      intro g x h1 hd x1 x2 hg f1 q1
      refine s_X12_half_r75_1 (by omega) ?_
      unfold b_X12_half_r75_1
      exact ok_t (by omega) (ok_some ⟨f1, fun k k1 k2 => q1 k k1 (by omega)⟩)
    | succ d ih =>
      intro g x h1 hd x1 x2 hg f1 q1
      refine s_X12_half_r75_1 (by omega) ?_
      unfold b_X12_half_r75_1
      refine ok_f (by omega) (ok_ck (by omega) (ok_ck (by omega) (ok_ck (by omega) (ok_lt (ok_ck (by omega) (ih _ (x + 1) _ (by omega) (by omega) (by omega) (by omega) (fr_sI f1 (by omega)) (fun k k1 k2 => ?_)))))))
      by_cases y : k = x
      · rw [y, gI_eq]; exact f1.1 75 0 (9 + x) (by omega)
      · rw [gI_nk y]; exact q1 k k1 (by omega)
  refine fuv_X12_half_r75 (fun g hg => ?_)
  refine s_X12_half_r75_0 (by omega) ?_
  unfold b_X12_half_r75_0
  refine ok_ck (by decide) (ok_lt ?_)
  rw [show (18 / 2 : Int) = 9 by decide]
  exact key 9 _ 0 h rfl (by omega) (by omega) (by omega) fr_rf (fun k k1 k2 => absurd k2 (by omega))
theorem hf_76 : ok (f_X12_half_r76 h) (fun _ h' => Fr (fun q _ k => q = 76 ∧ 0 ≤ k ∧ k < 9) h h' ∧ ∀ k, 0 ≤ k → k < 9 → gI h' 76 0 k = gI h 76 0 (9 + k)) := by
  have key : ∀ (d g : Nat) (x : Int) (h1 : Hp), (9 - x).toNat = d → 0 ≤ x → x ≤ 9 → d + 1 ≤ g → Fr (fun q _ k => q = 76 ∧ 0 ≤ k ∧ k < 9) h h1 → (∀ k, 0 ≤ k → k < x → gI h1 76 0 k = gI h 76 0 (9 + k)) → ok (g_X12_half_r76 g 1 [9, x] h1) (fun _ h' => Fr (fun q _ k => q = 76 ∧ 0 ≤ k ∧ k < 9) h h' ∧ ∀ k, 0 ≤ k → k < 9 → gI h' 76 0 k = gI h 76 0 (9 + k)) := by
    intro d
    induction d with
    | zero =>
      intro g x h1 hd x1 x2 hg f1 q1
      refine s_X12_half_r76_1 (by omega) ?_
      unfold b_X12_half_r76_1
      exact ok_t (by omega) (ok_some ⟨f1, fun k k1 k2 => q1 k k1 (by omega)⟩)
    | succ d ih =>
      intro g x h1 hd x1 x2 hg f1 q1
      refine s_X12_half_r76_1 (by omega) ?_
      unfold b_X12_half_r76_1
      refine ok_f (by omega) (ok_ck (by omega) (ok_ck (by omega) (ok_ck (by omega) (ok_lt (ok_ck (by omega) (ih _ (x + 1) _ (by omega) (by omega) (by omega) (by omega) (fr_sI f1 (by omega)) (fun k k1 k2 => ?_)))))))
      by_cases y : k = x
      · rw [y, gI_eq]; exact f1.1 76 0 (9 + x) (by omega)
      · rw [gI_nk y]; exact q1 k k1 (by omega)
  refine fuv_X12_half_r76 (fun g hg => ?_)
  refine s_X12_half_r76_0 (by omega) ?_
  unfold b_X12_half_r76_0
  refine ok_ck (by decide) (ok_lt ?_)
  rw [show (18 / 2 : Int) = 9 by decide]
  exact key 9 _ 0 h rfl (by omega) (by omega) (by omega) fr_rf (fun k k1 k2 => absurd k2 (by omega))
theorem hf_77 : ok (f_X12_half_r77 h) (fun _ h' => Fr (fun q _ k => q = 77 ∧ 0 ≤ k ∧ k < 9) h h' ∧ ∀ k, 0 ≤ k → k < 9 → gI h' 77 0 k = gI h 77 0 (9 + k)) := by
  have key : ∀ (d g : Nat) (x : Int) (h1 : Hp), (9 - x).toNat = d → 0 ≤ x → x ≤ 9 → d + 1 ≤ g → Fr (fun q _ k => q = 77 ∧ 0 ≤ k ∧ k < 9) h h1 → (∀ k, 0 ≤ k → k < x → gI h1 77 0 k = gI h 77 0 (9 + k)) → ok (g_X12_half_r77 g 1 [9, x] h1) (fun _ h' => Fr (fun q _ k => q = 77 ∧ 0 ≤ k ∧ k < 9) h h' ∧ ∀ k, 0 ≤ k → k < 9 → gI h' 77 0 k = gI h 77 0 (9 + k)) := by
    intro d
    induction d with
    | zero =>
      intro g x h1 hd x1 x2 hg f1 q1
      refine s_X12_half_r77_1 (by omega) ?_
      unfold b_X12_half_r77_1
      exact ok_t (by omega) (ok_some ⟨f1, fun k k1 k2 => q1 k k1 (by omega)⟩)
    | succ d ih =>
      intro g x h1 hd x1 x2 hg f1 q1
      refine s_X12_half_r77_1 (by omega) ?_
      unfold b_X12_half_r77_1
      refine ok_f (by omega) (ok_ck (by omega) (ok_ck (by omega) (ok_ck (by omega) (ok_lt (ok_ck (by omega) (ih _ (x + 1) _ (by omega) (by omega) (by omega) (by omega) (fr_sI f1 (by omega)) (fun k k1 k2 => ?_)))))))
      by_cases y : k = x
      · rw [y, gI_eq]; exact f1.1 77 0 (9 + x) (by omega)
      · rw [gI_nk y]; exact q1 k k1 (by omega)
  refine fuv_X12_half_r77 (fun g hg => ?_)
  refine s_X12_half_r77_0 (by omega) ?_
  unfold b_X12_half_r77_0
  refine ok_ck (by decide) (ok_lt ?_)
  rw [show (18 / 2 : Int) = 9 by decide]
  exact key 9 _ 0 h rfl (by omega) (by omega) (by omega) fr_rf (fun k k1 k2 => absurd k2 (by omega))
theorem hf_78 : ok (f_X12_half_r78 h) (fun _ h' => Fr (fun q _ k => q = 78 ∧ 0 ≤ k ∧ k < 9) h h' ∧ ∀ k, 0 ≤ k → k < 9 → gI h' 78 0 k = gI h 78 0 (9 + k)) := by
  have key : ∀ (d g : Nat) (x : Int) (h1 : Hp), (9 - x).toNat = d → 0 ≤ x → x ≤ 9 → d + 1 ≤ g → Fr (fun q _ k => q = 78 ∧ 0 ≤ k ∧ k < 9) h h1 → (∀ k, 0 ≤ k → k < x → gI h1 78 0 k = gI h 78 0 (9 + k)) → ok (g_X12_half_r78 g 1 [9, x] h1) (fun _ h' => Fr (fun q _ k => q = 78 ∧ 0 ≤ k ∧ k < 9) h h' ∧ ∀ k, 0 ≤ k → k < 9 → gI h' 78 0 k = gI h 78 0 (9 + k)) := by
    intro d
    induction d with
    | zero =>
      intro g x h1 hd x1 x2 hg f1 q1
      refine s_X12_half_r78_1 (by omega) ?_
      unfold b_X12_half_r78_1
      exact ok_t (by omega) (ok_some ⟨f1, fun k k1 k2 => q1 k k1 (by omega)⟩)
    | succ d ih =>
      intro g x h1 hd x1 x2 hg f1 q1
      refine s_X12_half_r78_1 (by omega) ?_
      unfold b_X12_half_r78_1
      refine ok_f (by omega) (ok_ck (by omega) (ok_ck (by omega) (ok_ck (by omega) (ok_lt (ok_ck (by omega) (ih _ (x + 1) _ (by omega) (by omega) (by omega) (by omega) (fr_sI f1 (by omega)) (fun k k1 k2 => ?_)))))))
      by_cases y : k = x
      · rw [y, gI_eq]; exact f1.1 78 0 (9 + x) (by omega)
      · rw [gI_nk y]; exact q1 k k1 (by omega)
  refine fuv_X12_half_r78 (fun g hg => ?_)
  refine s_X12_half_r78_0 (by omega) ?_
  unfold b_X12_half_r78_0
  refine ok_ck (by decide) (ok_lt ?_)
  rw [show (18 / 2 : Int) = 9 by decide]
  exact key 9 _ 0 h rfl (by omega) (by omega) (by omega) fr_rf (fun k k1 k2 => absurd k2 (by omega))
theorem hf_79 : ok (f_X12_half_r79 h) (fun _ h' => Fr (fun q _ k => q = 79 ∧ 0 ≤ k ∧ k < 9) h h' ∧ ∀ k, 0 ≤ k → k < 9 → gI h' 79 0 k = gI h 79 0 (9 + k)) := by
  have key : ∀ (d g : Nat) (x : Int) (h1 : Hp), (9 - x).toNat = d → 0 ≤ x → x ≤ 9 → d + 1 ≤ g → Fr (fun q _ k => q = 79 ∧ 0 ≤ k ∧ k < 9) h h1 → (∀ k, 0 ≤ k → k < x → gI h1 79 0 k = gI h 79 0 (9 + k)) → ok (g_X12_half_r79 g 1 [9, x] h1) (fun _ h' => Fr (fun q _ k => q = 79 ∧ 0 ≤ k ∧ k < 9) h h' ∧ ∀ k, 0 ≤ k → k < 9 → gI h' 79 0 k = gI h 79 0 (9 + k)) := by
    intro d
    induction d with
    | zero =>
      intro g x h1 hd x1 x2 hg f1 q1
      refine s_X12_half_r79_1 (by omega) ?_
      unfold b_X12_half_r79_1
      exact ok_t (by omega) (ok_some ⟨f1, fun k k1 k2 => q1 k k1 (by omega)⟩)
    | succ d ih =>
      intro g x h1 hd x1 x2 hg f1 q1
      refine s_X12_half_r79_1 (by omega) ?_
      unfold b_X12_half_r79_1
      refine ok_f (by omega) (ok_ck (by omega) (ok_ck (by omega) (ok_ck (by omega) (ok_lt (ok_ck (by omega) (ih _ (x + 1) _ (by omega) (by omega) (by omega) (by omega) (fr_sI f1 (by omega)) (fun k k1 k2 => ?_)))))))
      by_cases y : k = x
      · rw [y, gI_eq]; exact f1.1 79 0 (9 + x) (by omega)
      · rw [gI_nk y]; exact q1 k k1 (by omega)
  refine fuv_X12_half_r79 (fun g hg => ?_)
  refine s_X12_half_r79_0 (by omega) ?_
  unfold b_X12_half_r79_0
  refine ok_ck (by decide) (ok_lt ?_)
  rw [show (18 / 2 : Int) = 9 by decide]
  exact key 9 _ 0 h rfl (by omega) (by omega) (by omega) fr_rf (fun k k1 k2 => absurd k2 (by omega))
theorem hf_80 : ok (f_X12_half_r80 h) (fun _ h' => Fr (fun q _ k => q = 80 ∧ 0 ≤ k ∧ k < 9) h h' ∧ ∀ k, 0 ≤ k → k < 9 → gI h' 80 0 k = gI h 80 0 (9 + k)) := by
  have key : ∀ (d g : Nat) (x : Int) (h1 : Hp), (9 - x).toNat = d → 0 ≤ x → x ≤ 9 → d + 1 ≤ g → Fr (fun q _ k => q = 80 ∧ 0 ≤ k ∧ k < 9) h h1 → (∀ k, 0 ≤ k → k < x → gI h1 80 0 k = gI h 80 0 (9 + k)) → ok (g_X12_half_r80 g 1 [9, x] h1) (fun _ h' => Fr (fun q _ k => q = 80 ∧ 0 ≤ k ∧ k < 9) h h' ∧ ∀ k, 0 ≤ k → k < 9 → gI h' 80 0 k = gI h 80 0 (9 + k)) := by
    intro d
    induction d with
    | zero =>
      intro g x h1 hd x1 x2 hg f1 q1
      refine s_X12_half_r80_1 (by omega) ?_
      unfold b_X12_half_r80_1
      exact ok_t (by omega) (ok_some ⟨f1, fun k k1 k2 => q1 k k1 (by omega)⟩)
    | succ d ih =>
      intro g x h1 hd x1 x2 hg f1 q1
      refine s_X12_half_r80_1 (by omega) ?_
      unfold b_X12_half_r80_1
      refine ok_f (by omega) (ok_ck (by omega) (ok_ck (by omega) (ok_ck (by omega) (ok_lt (ok_ck (by omega) (ih _ (x + 1) _ (by omega) (by omega) (by omega) (by omega) (fr_sI f1 (by omega)) (fun k k1 k2 => ?_)))))))
      by_cases y : k = x
      · rw [y, gI_eq]; exact f1.1 80 0 (9 + x) (by omega)
      · rw [gI_nk y]; exact q1 k k1 (by omega)
  refine fuv_X12_half_r80 (fun g hg => ?_)
  refine s_X12_half_r80_0 (by omega) ?_
  unfold b_X12_half_r80_0
  refine ok_ck (by decide) (ok_lt ?_)
  rw [show (18 / 2 : Int) = 9 by decide]
  exact key 9 _ 0 h rfl (by omega) (by omega) (by omega) fr_rf (fun k k1 k2 => absurd k2 (by omega))
theorem hf_81 : ok (f_X12_half_r81 h) (fun _ h' => Fr (fun q _ k => q = 81 ∧ 0 ≤ k ∧ k < 64) h h' ∧ ∀ k, 0 ≤ k → k < 64 → gI h' 81 0 k = gI h 81 0 (64 + k)) := by
  have key : ∀ (d g : Nat) (x : Int) (h1 : Hp), (64 - x).toNat = d → 0 ≤ x → x ≤ 64 → d + 1 ≤ g → Fr (fun q _ k => q = 81 ∧ 0 ≤ k ∧ k < 64) h h1 → (∀ k, 0 ≤ k → k < x → gI h1 81 0 k = gI h 81 0 (64 + k)) → ok (g_X12_half_r81 g 1 [64, x] h1) (fun _ h' => Fr (fun q _ k => q = 81 ∧ 0 ≤ k ∧ k < 64) h h' ∧ ∀ k, 0 ≤ k → k < 64 → gI h' 81 0 k = gI h 81 0 (64 + k)) := by
    intro d
    induction d with
    | zero =>
      intro g x h1 hd x1 x2 hg f1 q1
      refine s_X12_half_r81_1 (by omega) ?_
      unfold b_X12_half_r81_1
      exact ok_t (by omega) (ok_some ⟨f1, fun k k1 k2 => q1 k k1 (by omega)⟩)
    | succ d ih =>
      intro g x h1 hd x1 x2 hg f1 q1
      refine s_X12_half_r81_1 (by omega) ?_
      unfold b_X12_half_r81_1
      refine ok_f (by omega) (ok_ck (by omega) (ok_ck (by omega) (ok_ck (by omega) (ok_lt (ok_ck (by omega) (ih _ (x + 1) _ (by omega) (by omega) (by omega) (by omega) (fr_sI f1 (by omega)) (fun k k1 k2 => ?_)))))))
      by_cases y : k = x
      · rw [y, gI_eq]; exact f1.1 81 0 (64 + x) (by omega)
      · rw [gI_nk y]; exact q1 k k1 (by omega)
  refine fuv_X12_half_r81 (fun g hg => ?_)
  refine s_X12_half_r81_0 (by omega) ?_
  unfold b_X12_half_r81_0
  refine ok_ck (by decide) (ok_lt ?_)
  rw [show (128 / 2 : Int) = 64 by decide]
  exact key 64 _ 0 h rfl (by omega) (by omega) (by omega) fr_rf (fun k k1 k2 => absurd k2 (by omega))
theorem hf_82 : ok (f_X12_half_r82 h) (fun _ h' => Fr (fun q _ k => q = 82 ∧ 0 ≤ k ∧ k < 64) h h' ∧ ∀ k, 0 ≤ k → k < 64 → gI h' 82 0 k = gI h 82 0 (64 + k)) := by
  have key : ∀ (d g : Nat) (x : Int) (h1 : Hp), (64 - x).toNat = d → 0 ≤ x → x ≤ 64 → d + 1 ≤ g → Fr (fun q _ k => q = 82 ∧ 0 ≤ k ∧ k < 64) h h1 → (∀ k, 0 ≤ k → k < x → gI h1 82 0 k = gI h 82 0 (64 + k)) → ok (g_X12_half_r82 g 1 [64, x] h1) (fun _ h' => Fr (fun q _ k => q = 82 ∧ 0 ≤ k ∧ k < 64) h h' ∧ ∀ k, 0 ≤ k → k < 64 → gI h' 82 0 k = gI h 82 0 (64 + k)) := by
    intro d
    induction d with
    | zero =>
      intro g x h1 hd x1 x2 hg f1 q1
      refine s_X12_half_r82_1 (by omega) ?_
      unfold b_X12_half_r82_1
      exact ok_t (by omega) (ok_some ⟨f1, fun k k1 k2 => q1 k k1 (by omega)⟩)
    | succ d ih =>
      intro g x h1 hd x1 x2 hg f1 q1
      refine s_X12_half_r82_1 (by omega) ?_
      unfold b_X12_half_r82_1
      refine ok_f (by omega) (ok_ck (by omega) (ok_ck (by omega) (ok_ck (by omega) (ok_lt (ok_ck (by omega) (ih _ (x + 1) _ (by omega) (by omega) (by omega) (by omega) (fr_sI f1 (by omega)) (fun k k1 k2 => ?_)))))))
      by_cases y : k = x
      · rw [y, gI_eq]; exact f1.1 82 0 (64 + x) (by omega)
      · rw [gI_nk y]; exact q1 k k1 (by omega)
  refine fuv_X12_half_r82 (fun g hg => ?_)
  refine s_X12_half_r82_0 (by omega) ?_
  unfold b_X12_half_r82_0
  refine ok_ck (by decide) (ok_lt ?_)
  rw [show (128 / 2 : Int) = 64 by decide]
  exact key 64 _ 0 h rfl (by omega) (by omega) (by omega) fr_rf (fun k k1 k2 => absurd k2 (by omega))
end
/-- the lower halves of the reference's rows, out of the upper ones -/
def hlP (h h' : Hp) : Prop := (∀ k, 0 ≤ k → k < 15 → gI h' 61 0 k = gI h 61 0 (15 + k)) ∧ (∀ k, 0 ≤ k → k < 64 → gI h' 62 0 k = gI h 62 0 (64 + k)) ∧ (∀ k, 0 ≤ k → k < 3 → gI h' 63 0 k = gI h 63 0 (3 + k)) ∧ (∀ k, 0 ≤ k → k < 3 → gI h' 64 0 k = gI h 64 0 (3 + k)) ∧ (∀ k, 0 ≤ k → k < 3 → gI h' 65 0 k = gI h 65 0 (3 + k)) ∧ (∀ k, 0 ≤ k → k < 3 → gI h' 66 0 k = gI h 66 0 (3 + k)) ∧ (∀ k, 0 ≤ k → k < 8 → gI h' 67 0 k = gI h 67 0 (8 + k)) ∧ (∀ k, 0 ≤ k → k < 4 → gI h' 68 0 k = gI h 68 0 (4 + k)) ∧ (∀ k, 0 ≤ k → k < 4 → gI h' 69 0 k = gI h 69 0 (4 + k)) ∧ (∀ k, 0 ≤ k → k < 4 → gI h' 70 0 k = gI h 70 0 (4 + k)) ∧ (∀ k, 0 ≤ k → k < 9 → gI h' 71 0 k = gI h 71 0 (9 + k)) ∧ (∀ k, 0 ≤ k → k < 9 → gI h' 72 0 k = gI h 72 0 (9 + k)) ∧ (∀ k, 0 ≤ k → k < 9 → gI h' 73 0 k = gI h 73 0 (9 + k)) ∧ (∀ k, 0 ≤ k → k < 9 → gI h' 74 0 k = gI h 74 0 (9 + k)) ∧ (∀ k, 0 ≤ k → k < 9 → gI h' 75 0 k = gI h 75 0 (9 + k)) ∧ (∀ k, 0 ≤ k → k < 9 → gI h' 76 0 k = gI h 76 0 (9 + k)) ∧ (∀ k, 0 ≤ k → k < 9 → gI h' 77 0 k = gI h 77 0 (9 + k)) ∧ (∀ k, 0 ≤ k → k < 9 → gI h' 78 0 k = gI h 78 0 (9 + k)) ∧ (∀ k, 0 ≤ k → k < 9 → gI h' 79 0 k = gI h 79 0 (9 + k)) ∧ (∀ k, 0 ≤ k → k < 9 → gI h' 80 0 k = gI h 80 0 (9 + k)) ∧ (∀ k, 0 ≤ k → k < 64 → gI h' 81 0 k = gI h 81 0 (64 + k)) ∧ (∀ k, 0 ≤ k → k < 64 → gI h' 82 0 k = gI h 82 0 (64 + k))
def HlW : Nat → Int → Int → Prop := fun r _ k => (r = 61 ∧ 0 ≤ k ∧ k < 15) ∨ (r = 62 ∧ 0 ≤ k ∧ k < 64) ∨ (63 ≤ r ∧ r ≤ 66 ∧ 0 ≤ k ∧ k < 3) ∨ (r = 67 ∧ 0 ≤ k ∧ k < 8) ∨ (68 ≤ r ∧ r ≤ 70 ∧ 0 ≤ k ∧ k < 4) ∨ (71 ≤ r ∧ r ≤ 80 ∧ 0 ≤ k ∧ k < 9) ∨ ((r = 81 ∨ r = 82) ∧ 0 ≤ k ∧ k < 64)
section
variable {h hB : Hp} {Q : Int → Hp → Prop}
set_option maxHeartbeats 4000000 in
theorem t_half (b6 : ∀ k, 0 ≤ k → k < 64 → 0 ≤ gI h 62 0 (64 + k) ∧ gI h 62 0 (64 + k) < 2)
    (k : ∀ h40 : Hp, Fr HlW h h40 → hlP h h40 → ok (lt (sI h40 12 0 74 0) fun h41 => lt (sI h41 12 0 75 (-1)) fun h42 => lt (sI h42 12 0 53 0) fun h43 => lt (sI h43 12 0 54 0) fun h44 => bd (f_X12_layFar h44) fun v45 h46 => bd (f_X12_begins 0 h46) fun v47 h48 => some (gI h48 12 0 26, h48)) Q) : ∀ (g : Nat), 1000 ≤ g → ok (bd (f_X12_half_r61 h) fun v3 h4 => g_X12_text g 7 [0] h4) Q := by
  intro g hg
  refine ok_bq hf_61 ?_
  intro _ h1 ⟨f1, p1⟩
  have F1 : Fr HlW h h1 := fr_mo f1 (by intro r i k; unfold HlW; omega)
  have key : ∀ (d g : Nat) (x : Int) (h2 : Hp), (64 - x).toNat = d → 0 ≤ x → x ≤ 64 → d + 10 ≤ g → Fr HlW h h2 → (∀ (r : Nat) (i k : Int), r ≠ 62 → gI h2 r i k = gI h1 r i k) → (∀ j, 64 ≤ j → gI h2 62 0 j = gI h 62 0 j) → (∀ j, 0 ≤ j → j < x → gI h2 62 0 j = gI h 62 0 (64 + j)) → ok (g_X12_text g 7 [x] h2) Q := by
    intro d
    induction d with
    | zero =>
      intro g x h2 hd x1 x2 hg f2 e2 u2 q2
      refine s_X12_text_7 (by omega) ?_
      unfold b_X12_text_7
      refine ok_t (by omega) ?_
      have c61 : ∀ k, 0 ≤ k → k < 15 → gI h2 61 0 k = gI h 61 0 (15 + k) := fun k k1 k2 => (e2 61 0 k (by decide)).trans (p1 k k1 k2)
      have up : ∀ (r : Nat) (k : Int), 63 ≤ r → r ≤ 82 → gI h2 r 0 k = gI h r 0 k := fun r k r1 r2 => (e2 r 0 k (by omega)).trans (f1.1 r 0 k (by omega))
      refine ok_bq hf_63 ?_
      intro _ x63 ⟨f63, p63⟩
      refine ok_bq hf_64 ?_
      intro _ x64 ⟨f64, p64⟩
      refine ok_bq hf_65 ?_
      intro _ x65 ⟨f65, p65⟩
      refine ok_bq hf_66 ?_
      intro _ x66 ⟨f66, p66⟩
      refine ok_bq hf_67 ?_
      intro _ x67 ⟨f67, p67⟩
      refine ok_bq hf_68 ?_
      intro _ x68 ⟨f68, p68⟩
      refine ok_bq hf_69 ?_
      intro _ x69 ⟨f69, p69⟩
      refine ok_bq hf_70 ?_
      intro _ x70 ⟨f70, p70⟩
      refine ok_bq hf_71 ?_
      intro _ x71 ⟨f71, p71⟩
      refine ok_bq hf_72 ?_
      intro _ x72 ⟨f72, p72⟩
      refine ok_bq hf_73 ?_
      intro _ x73 ⟨f73, p73⟩
      refine ok_bq hf_74 ?_
      intro _ x74 ⟨f74, p74⟩
      refine ok_bq hf_75 ?_
      intro _ x75 ⟨f75, p75⟩
      refine ok_bq hf_76 ?_
      intro _ x76 ⟨f76, p76⟩
      refine ok_bq hf_77 ?_
      intro _ x77 ⟨f77, p77⟩
      refine ok_bq hf_78 ?_
      intro _ x78 ⟨f78, p78⟩
      refine ok_bq hf_79 ?_
      intro _ x79 ⟨f79, p79⟩
      refine ok_bq hf_80 ?_
      intro _ x80 ⟨f80, p80⟩
      refine ok_bq hf_81 ?_
      intro _ x81 ⟨f81, p81⟩
      refine ok_bq hf_82 ?_
      intro _ x82 ⟨f82, p82⟩
      refine k x82 (fr_tr (fr_tr (fr_tr (fr_tr (fr_tr (fr_tr (fr_tr (fr_tr (fr_tr (fr_tr (fr_tr (fr_tr (fr_tr (fr_tr (fr_tr (fr_tr (fr_tr (fr_tr (fr_tr (fr_tr (f2) (fr_mo f63 (by intro r i k; unfold HlW; omega))) (fr_mo f64 (by intro r i k; unfold HlW; omega))) (fr_mo f65 (by intro r i k; unfold HlW; omega))) (fr_mo f66 (by intro r i k; unfold HlW; omega))) (fr_mo f67 (by intro r i k; unfold HlW; omega))) (fr_mo f68 (by intro r i k; unfold HlW; omega))) (fr_mo f69 (by intro r i k; unfold HlW; omega))) (fr_mo f70 (by intro r i k; unfold HlW; omega))) (fr_mo f71 (by intro r i k; unfold HlW; omega))) (fr_mo f72 (by intro r i k; unfold HlW; omega))) (fr_mo f73 (by intro r i k; unfold HlW; omega))) (fr_mo f74 (by intro r i k; unfold HlW; omega))) (fr_mo f75 (by intro r i k; unfold HlW; omega))) (fr_mo f76 (by intro r i k; unfold HlW; omega))) (fr_mo f77 (by intro r i k; unfold HlW; omega))) (fr_mo f78 (by intro r i k; unfold HlW; omega))) (fr_mo f79 (by intro r i k; unfold HlW; omega))) (fr_mo f80 (by intro r i k; unfold HlW; omega))) (fr_mo f81 (by intro r i k; unfold HlW; omega))) (fr_mo f82 (by intro r i k; unfold HlW; omega))) ⟨fun k k1 k2 => ?_, fun k k1 k2 => ?_, fun k k1 k2 => ?_, fun k k1 k2 => ?_, fun k k1 k2 => ?_, fun k k1 k2 => ?_, fun k k1 k2 => ?_, fun k k1 k2 => ?_, fun k k1 k2 => ?_, fun k k1 k2 => ?_, fun k k1 k2 => ?_, fun k k1 k2 => ?_, fun k k1 k2 => ?_, fun k k1 k2 => ?_, fun k k1 k2 => ?_, fun k k1 k2 => ?_, fun k k1 k2 => ?_, fun k k1 k2 => ?_, fun k k1 k2 => ?_, fun k k1 k2 => ?_, fun k k1 k2 => ?_, fun k k1 k2 => ?_⟩
      · rw [f82.1 61 0 k (by omega), f81.1 61 0 k (by omega), f80.1 61 0 k (by omega), f79.1 61 0 k (by omega), f78.1 61 0 k (by omega), f77.1 61 0 k (by omega), f76.1 61 0 k (by omega), f75.1 61 0 k (by omega), f74.1 61 0 k (by omega), f73.1 61 0 k (by omega), f72.1 61 0 k (by omega), f71.1 61 0 k (by omega), f70.1 61 0 k (by omega), f69.1 61 0 k (by omega), f68.1 61 0 k (by omega), f67.1 61 0 k (by omega), f66.1 61 0 k (by omega), f65.1 61 0 k (by omega), f64.1 61 0 k (by omega), f63.1 61 0 k (by omega)]; exact c61 k k1 k2
      · rw [f82.1 62 0 k (by omega), f81.1 62 0 k (by omega), f80.1 62 0 k (by omega), f79.1 62 0 k (by omega), f78.1 62 0 k (by omega), f77.1 62 0 k (by omega), f76.1 62 0 k (by omega), f75.1 62 0 k (by omega), f74.1 62 0 k (by omega), f73.1 62 0 k (by omega), f72.1 62 0 k (by omega), f71.1 62 0 k (by omega), f70.1 62 0 k (by omega), f69.1 62 0 k (by omega), f68.1 62 0 k (by omega), f67.1 62 0 k (by omega), f66.1 62 0 k (by omega), f65.1 62 0 k (by omega), f64.1 62 0 k (by omega), f63.1 62 0 k (by omega)]; exact q2 k k1 (by omega)
      · rw [f82.1 63 0 k (by omega), f81.1 63 0 k (by omega), f80.1 63 0 k (by omega), f79.1 63 0 k (by omega), f78.1 63 0 k (by omega), f77.1 63 0 k (by omega), f76.1 63 0 k (by omega), f75.1 63 0 k (by omega), f74.1 63 0 k (by omega), f73.1 63 0 k (by omega), f72.1 63 0 k (by omega), f71.1 63 0 k (by omega), f70.1 63 0 k (by omega), f69.1 63 0 k (by omega), f68.1 63 0 k (by omega), f67.1 63 0 k (by omega), f66.1 63 0 k (by omega), f65.1 63 0 k (by omega), f64.1 63 0 k (by omega), p63 k k1 k2]; exact up 63 _ (by decide) (by decide)
      · rw [f82.1 64 0 k (by omega), f81.1 64 0 k (by omega), f80.1 64 0 k (by omega), f79.1 64 0 k (by omega), f78.1 64 0 k (by omega), f77.1 64 0 k (by omega), f76.1 64 0 k (by omega), f75.1 64 0 k (by omega), f74.1 64 0 k (by omega), f73.1 64 0 k (by omega), f72.1 64 0 k (by omega), f71.1 64 0 k (by omega), f70.1 64 0 k (by omega), f69.1 64 0 k (by omega), f68.1 64 0 k (by omega), f67.1 64 0 k (by omega), f66.1 64 0 k (by omega), f65.1 64 0 k (by omega), p64 k k1 k2, f63.1 64 0 (3 + k) (by omega)]; exact up 64 _ (by decide) (by decide)
      · rw [f82.1 65 0 k (by omega), f81.1 65 0 k (by omega), f80.1 65 0 k (by omega), f79.1 65 0 k (by omega), f78.1 65 0 k (by omega), f77.1 65 0 k (by omega), f76.1 65 0 k (by omega), f75.1 65 0 k (by omega), f74.1 65 0 k (by omega), f73.1 65 0 k (by omega), f72.1 65 0 k (by omega), f71.1 65 0 k (by omega), f70.1 65 0 k (by omega), f69.1 65 0 k (by omega), f68.1 65 0 k (by omega), f67.1 65 0 k (by omega), f66.1 65 0 k (by omega), p65 k k1 k2, f64.1 65 0 (3 + k) (by omega), f63.1 65 0 (3 + k) (by omega)]; exact up 65 _ (by decide) (by decide)
      · rw [f82.1 66 0 k (by omega), f81.1 66 0 k (by omega), f80.1 66 0 k (by omega), f79.1 66 0 k (by omega), f78.1 66 0 k (by omega), f77.1 66 0 k (by omega), f76.1 66 0 k (by omega), f75.1 66 0 k (by omega), f74.1 66 0 k (by omega), f73.1 66 0 k (by omega), f72.1 66 0 k (by omega), f71.1 66 0 k (by omega), f70.1 66 0 k (by omega), f69.1 66 0 k (by omega), f68.1 66 0 k (by omega), f67.1 66 0 k (by omega), p66 k k1 k2, f65.1 66 0 (3 + k) (by omega), f64.1 66 0 (3 + k) (by omega), f63.1 66 0 (3 + k) (by omega)]; exact up 66 _ (by decide) (by decide)
      · rw [f82.1 67 0 k (by omega), f81.1 67 0 k (by omega), f80.1 67 0 k (by omega), f79.1 67 0 k (by omega), f78.1 67 0 k (by omega), f77.1 67 0 k (by omega), f76.1 67 0 k (by omega), f75.1 67 0 k (by omega), f74.1 67 0 k (by omega), f73.1 67 0 k (by omega), f72.1 67 0 k (by omega), f71.1 67 0 k (by omega), f70.1 67 0 k (by omega), f69.1 67 0 k (by omega), f68.1 67 0 k (by omega), p67 k k1 k2, f66.1 67 0 (8 + k) (by omega), f65.1 67 0 (8 + k) (by omega), f64.1 67 0 (8 + k) (by omega), f63.1 67 0 (8 + k) (by omega)]; exact up 67 _ (by decide) (by decide)
      · rw [f82.1 68 0 k (by omega), f81.1 68 0 k (by omega), f80.1 68 0 k (by omega), f79.1 68 0 k (by omega), f78.1 68 0 k (by omega), f77.1 68 0 k (by omega), f76.1 68 0 k (by omega), f75.1 68 0 k (by omega), f74.1 68 0 k (by omega), f73.1 68 0 k (by omega), f72.1 68 0 k (by omega), f71.1 68 0 k (by omega), f70.1 68 0 k (by omega), f69.1 68 0 k (by omega), p68 k k1 k2, f67.1 68 0 (4 + k) (by omega), f66.1 68 0 (4 + k) (by omega), f65.1 68 0 (4 + k) (by omega), f64.1 68 0 (4 + k) (by omega), f63.1 68 0 (4 + k) (by omega)]; exact up 68 _ (by decide) (by decide)
      · rw [f82.1 69 0 k (by omega), f81.1 69 0 k (by omega), f80.1 69 0 k (by omega), f79.1 69 0 k (by omega), f78.1 69 0 k (by omega), f77.1 69 0 k (by omega), f76.1 69 0 k (by omega), f75.1 69 0 k (by omega), f74.1 69 0 k (by omega), f73.1 69 0 k (by omega), f72.1 69 0 k (by omega), f71.1 69 0 k (by omega), f70.1 69 0 k (by omega), p69 k k1 k2, f68.1 69 0 (4 + k) (by omega), f67.1 69 0 (4 + k) (by omega), f66.1 69 0 (4 + k) (by omega), f65.1 69 0 (4 + k) (by omega), f64.1 69 0 (4 + k) (by omega), f63.1 69 0 (4 + k) (by omega)]; exact up 69 _ (by decide) (by decide)
      · rw [f82.1 70 0 k (by omega), f81.1 70 0 k (by omega), f80.1 70 0 k (by omega), f79.1 70 0 k (by omega), f78.1 70 0 k (by omega), f77.1 70 0 k (by omega), f76.1 70 0 k (by omega), f75.1 70 0 k (by omega), f74.1 70 0 k (by omega), f73.1 70 0 k (by omega), f72.1 70 0 k (by omega), f71.1 70 0 k (by omega), p70 k k1 k2, f69.1 70 0 (4 + k) (by omega), f68.1 70 0 (4 + k) (by omega), f67.1 70 0 (4 + k) (by omega), f66.1 70 0 (4 + k) (by omega), f65.1 70 0 (4 + k) (by omega), f64.1 70 0 (4 + k) (by omega), f63.1 70 0 (4 + k) (by omega)]; exact up 70 _ (by decide) (by decide)
      · rw [f82.1 71 0 k (by omega), f81.1 71 0 k (by omega), f80.1 71 0 k (by omega), f79.1 71 0 k (by omega), f78.1 71 0 k (by omega), f77.1 71 0 k (by omega), f76.1 71 0 k (by omega), f75.1 71 0 k (by omega), f74.1 71 0 k (by omega), f73.1 71 0 k (by omega), f72.1 71 0 k (by omega), p71 k k1 k2, f70.1 71 0 (9 + k) (by omega), f69.1 71 0 (9 + k) (by omega), f68.1 71 0 (9 + k) (by omega), f67.1 71 0 (9 + k) (by omega), f66.1 71 0 (9 + k) (by omega), f65.1 71 0 (9 + k) (by omega), f64.1 71 0 (9 + k) (by omega), f63.1 71 0 (9 + k) (by omega)]; exact up 71 _ (by decide) (by decide)
      · rw [f82.1 72 0 k (by omega), f81.1 72 0 k (by omega), f80.1 72 0 k (by omega), f79.1 72 0 k (by omega), f78.1 72 0 k (by omega), f77.1 72 0 k (by omega), f76.1 72 0 k (by omega), f75.1 72 0 k (by omega), f74.1 72 0 k (by omega), f73.1 72 0 k (by omega), p72 k k1 k2, f71.1 72 0 (9 + k) (by omega), f70.1 72 0 (9 + k) (by omega), f69.1 72 0 (9 + k) (by omega), f68.1 72 0 (9 + k) (by omega), f67.1 72 0 (9 + k) (by omega), f66.1 72 0 (9 + k) (by omega), f65.1 72 0 (9 + k) (by omega), f64.1 72 0 (9 + k) (by omega), f63.1 72 0 (9 + k) (by omega)]; exact up 72 _ (by decide) (by decide)
      · rw [f82.1 73 0 k (by omega), f81.1 73 0 k (by omega), f80.1 73 0 k (by omega), f79.1 73 0 k (by omega), f78.1 73 0 k (by omega), f77.1 73 0 k (by omega), f76.1 73 0 k (by omega), f75.1 73 0 k (by omega), f74.1 73 0 k (by omega), p73 k k1 k2, f72.1 73 0 (9 + k) (by omega), f71.1 73 0 (9 + k) (by omega), f70.1 73 0 (9 + k) (by omega), f69.1 73 0 (9 + k) (by omega), f68.1 73 0 (9 + k) (by omega), f67.1 73 0 (9 + k) (by omega), f66.1 73 0 (9 + k) (by omega), f65.1 73 0 (9 + k) (by omega), f64.1 73 0 (9 + k) (by omega), f63.1 73 0 (9 + k) (by omega)]; exact up 73 _ (by decide) (by decide)
      · rw [f82.1 74 0 k (by omega), f81.1 74 0 k (by omega), f80.1 74 0 k (by omega), f79.1 74 0 k (by omega), f78.1 74 0 k (by omega), f77.1 74 0 k (by omega), f76.1 74 0 k (by omega), f75.1 74 0 k (by omega), p74 k k1 k2, f73.1 74 0 (9 + k) (by omega), f72.1 74 0 (9 + k) (by omega), f71.1 74 0 (9 + k) (by omega), f70.1 74 0 (9 + k) (by omega), f69.1 74 0 (9 + k) (by omega), f68.1 74 0 (9 + k) (by omega), f67.1 74 0 (9 + k) (by omega), f66.1 74 0 (9 + k) (by omega), f65.1 74 0 (9 + k) (by omega), f64.1 74 0 (9 + k) (by omega), f63.1 74 0 (9 + k) (by omega)]; exact up 74 _ (by decide) (by decide)
      · rw [f82.1 75 0 k (by omega), f81.1 75 0 k (by omega), f80.1 75 0 k (by omega), f79.1 75 0 k (by omega), f78.1 75 0 k (by omega), f77.1 75 0 k (by omega), f76.1 75 0 k (by omega), p75 k k1 k2, f74.1 75 0 (9 + k) (by omega), f73.1 75 0 (9 + k) (by omega), f72.1 75 0 (9 + k) (by omega), f71.1 75 0 (9 + k) (by omega), f70.1 75 0 (9 + k) (by omega), f69.1 75 0 (9 + k) (by omega), f68.1 75 0 (9 + k) (by omega), f67.1 75 0 (9 + k) (by omega), f66.1 75 0 (9 + k) (by omega), f65.1 75 0 (9 + k) (by omega), f64.1 75 0 (9 + k) (by omega), f63.1 75 0 (9 + k) (by omega)]; exact up 75 _ (by decide) (by decide)
      · rw [f82.1 76 0 k (by omega), f81.1 76 0 k (by omega), f80.1 76 0 k (by omega), f79.1 76 0 k (by omega), f78.1 76 0 k (by omega), f77.1 76 0 k (by omega), p76 k k1 k2, f75.1 76 0 (9 + k) (by omega), f74.1 76 0 (9 + k) (by omega), f73.1 76 0 (9 + k) (by omega), f72.1 76 0 (9 + k) (by omega), f71.1 76 0 (9 + k) (by omega), f70.1 76 0 (9 + k) (by omega), f69.1 76 0 (9 + k) (by omega), f68.1 76 0 (9 + k) (by omega), f67.1 76 0 (9 + k) (by omega), f66.1 76 0 (9 + k) (by omega), f65.1 76 0 (9 + k) (by omega), f64.1 76 0 (9 + k) (by omega), f63.1 76 0 (9 + k) (by omega)]; exact up 76 _ (by decide) (by decide)
      · rw [f82.1 77 0 k (by omega), f81.1 77 0 k (by omega), f80.1 77 0 k (by omega), f79.1 77 0 k (by omega), f78.1 77 0 k (by omega), p77 k k1 k2, f76.1 77 0 (9 + k) (by omega), f75.1 77 0 (9 + k) (by omega), f74.1 77 0 (9 + k) (by omega), f73.1 77 0 (9 + k) (by omega), f72.1 77 0 (9 + k) (by omega), f71.1 77 0 (9 + k) (by omega), f70.1 77 0 (9 + k) (by omega), f69.1 77 0 (9 + k) (by omega), f68.1 77 0 (9 + k) (by omega), f67.1 77 0 (9 + k) (by omega), f66.1 77 0 (9 + k) (by omega), f65.1 77 0 (9 + k) (by omega), f64.1 77 0 (9 + k) (by omega), f63.1 77 0 (9 + k) (by omega)]; exact up 77 _ (by decide) (by decide)
      · rw [f82.1 78 0 k (by omega), f81.1 78 0 k (by omega), f80.1 78 0 k (by omega), f79.1 78 0 k (by omega), p78 k k1 k2, f77.1 78 0 (9 + k) (by omega), f76.1 78 0 (9 + k) (by omega), f75.1 78 0 (9 + k) (by omega), f74.1 78 0 (9 + k) (by omega), f73.1 78 0 (9 + k) (by omega), f72.1 78 0 (9 + k) (by omega), f71.1 78 0 (9 + k) (by omega), f70.1 78 0 (9 + k) (by omega), f69.1 78 0 (9 + k) (by omega), f68.1 78 0 (9 + k) (by omega), f67.1 78 0 (9 + k) (by omega), f66.1 78 0 (9 + k) (by omega), f65.1 78 0 (9 + k) (by omega), f64.1 78 0 (9 + k) (by omega), f63.1 78 0 (9 + k) (by omega)]; exact up 78 _ (by decide) (by decide)
      · rw [f82.1 79 0 k (by omega), f81.1 79 0 k (by omega), f80.1 79 0 k (by omega), p79 k k1 k2, f78.1 79 0 (9 + k) (by omega), f77.1 79 0 (9 + k) (by omega), f76.1 79 0 (9 + k) (by omega), f75.1 79 0 (9 + k) (by omega), f74.1 79 0 (9 + k) (by omega), f73.1 79 0 (9 + k) (by omega), f72.1 79 0 (9 + k) (by omega), f71.1 79 0 (9 + k) (by omega), f70.1 79 0 (9 + k) (by omega), f69.1 79 0 (9 + k) (by omega), f68.1 79 0 (9 + k) (by omega), f67.1 79 0 (9 + k) (by omega), f66.1 79 0 (9 + k) (by omega), f65.1 79 0 (9 + k) (by omega), f64.1 79 0 (9 + k) (by omega), f63.1 79 0 (9 + k) (by omega)]; exact up 79 _ (by decide) (by decide)
      · rw [f82.1 80 0 k (by omega), f81.1 80 0 k (by omega), p80 k k1 k2, f79.1 80 0 (9 + k) (by omega), f78.1 80 0 (9 + k) (by omega), f77.1 80 0 (9 + k) (by omega), f76.1 80 0 (9 + k) (by omega), f75.1 80 0 (9 + k) (by omega), f74.1 80 0 (9 + k) (by omega), f73.1 80 0 (9 + k) (by omega), f72.1 80 0 (9 + k) (by omega), f71.1 80 0 (9 + k) (by omega), f70.1 80 0 (9 + k) (by omega), f69.1 80 0 (9 + k) (by omega), f68.1 80 0 (9 + k) (by omega), f67.1 80 0 (9 + k) (by omega), f66.1 80 0 (9 + k) (by omega), f65.1 80 0 (9 + k) (by omega), f64.1 80 0 (9 + k) (by omega), f63.1 80 0 (9 + k) (by omega)]; exact up 80 _ (by decide) (by decide)
      · rw [f82.1 81 0 k (by omega), p81 k k1 k2, f80.1 81 0 (64 + k) (by omega), f79.1 81 0 (64 + k) (by omega), f78.1 81 0 (64 + k) (by omega), f77.1 81 0 (64 + k) (by omega), f76.1 81 0 (64 + k) (by omega), f75.1 81 0 (64 + k) (by omega), f74.1 81 0 (64 + k) (by omega), f73.1 81 0 (64 + k) (by omega), f72.1 81 0 (64 + k) (by omega), f71.1 81 0 (64 + k) (by omega), f70.1 81 0 (64 + k) (by omega), f69.1 81 0 (64 + k) (by omega), f68.1 81 0 (64 + k) (by omega), f67.1 81 0 (64 + k) (by omega), f66.1 81 0 (64 + k) (by omega), f65.1 81 0 (64 + k) (by omega), f64.1 81 0 (64 + k) (by omega), f63.1 81 0 (64 + k) (by omega)]; exact up 81 _ (by decide) (by decide)
      · rw [p82 k k1 k2, f81.1 82 0 (64 + k) (by omega), f80.1 82 0 (64 + k) (by omega), f79.1 82 0 (64 + k) (by omega), f78.1 82 0 (64 + k) (by omega), f77.1 82 0 (64 + k) (by omega), f76.1 82 0 (64 + k) (by omega), f75.1 82 0 (64 + k) (by omega), f74.1 82 0 (64 + k) (by omega), f73.1 82 0 (64 + k) (by omega), f72.1 82 0 (64 + k) (by omega), f71.1 82 0 (64 + k) (by omega), f70.1 82 0 (64 + k) (by omega), f69.1 82 0 (64 + k) (by omega), f68.1 82 0 (64 + k) (by omega), f67.1 82 0 (64 + k) (by omega), f66.1 82 0 (64 + k) (by omega), f65.1 82 0 (64 + k) (by omega), f64.1 82 0 (64 + k) (by omega), f63.1 82 0 (64 + k) (by omega)]; exact up 82 _ (by decide) (by decide)
    | succ d ih =>
      intro g x h2 hd x1 x2 hg f2 e2 u2 q2
      have bx := b6 x x1 (by omega)
      refine s_X12_text_7 (by omega) ?_
      unfold b_X12_text_7
      rw [u2 (64 + x) (by omega)]
      refine ok_f (by omega) (ok_ck (by omega) (ok_ck (by omega) (ok_ck (by omega) (ok_ck bx (ok_lt (ok_ck (by omega) (ih _ (x + 1) _ (by omega) (by omega) (by omega) (by omega) (fr_sI f2 (by unfold HlW; omega)) (fun r i k hr => (gI_nr hr).trans (e2 r i k hr)) (fun j j1 => (gI_nk (by omega)).trans (u2 j j1)) (fun j j1 j2 => ?_))))))))
      by_cases y : j = x
      · rw [y, gI_eq]
      · rw [gI_nk y]; exact q2 j j1 (by omega)
  exact key 64 g 0 h1 rfl (by omega) (by omega) (by omega) F1 (fun r i k _ => rfl) (fun j j1 => f1.1 62 0 j (by omega)) (fun j j1 j2 => absurd j2 (by omega))
end
