/-! PLAN, 1: without the machine -/
abbrev Pc := Int × Int × (Int → Int)
def leQ (B : Option Pc) (s k : Int) : Prop := match B with
  | none => False
  | some b => b.1 < s ∨ (s = b.1 ∧ b.2.1 ≤ k)
def upQ (B : Option Pc) (c : Pc) : Option Pc := match B with
  | none => some c
  | some b => if b.1 < c.1 ∨ (c.1 = b.1 ∧ b.2.1 ≤ c.2.1) then some b else some c
def foQ (B : Option Pc) : List Pc → Option Pc
  | [] => B
  | c :: L => foQ (upQ B c) L
theorem foQ_app : ∀ (L M : List Pc) (B : Option Pc), foQ B (L ++ M) = foQ (foQ B L) M
  | [], _, _ => rfl
  | c :: L, M, B => foQ_app L M (upQ B c)
theorem upQ_le {B : Option Pc} {c : Pc} (q : leQ B c.1 c.2.1) : upQ B c = B := by
  cases B with
  | none => exact q.elim
  | some b => exact if_pos q
theorem upQ_nle {B : Option Pc} {c : Pc} (q : ¬ leQ B c.1 c.2.1) : upQ B c = some c := by
  cases B with
  | none => rfl
  | some b => exact if_neg q
theorem leQ_up {B : Option Pc} {c : Pc} {s k : Int} (q : leQ B s k) : leQ (upQ B c) s k := by
  by_cases y : leQ B c.1 c.2.1
  · rw [upQ_le y]; exact q
  · rw [upQ_nle y]
    cases B with
    | none => exact q.elim
    | some b =>
      have y2 : ¬ (b.1 < c.1 ∨ (c.1 = b.1 ∧ b.2.1 ≤ c.2.1)) := y
      have q2 : b.1 < s ∨ (s = b.1 ∧ b.2.1 ≤ k) := q
      show c.1 < s ∨ (s = c.1 ∧ c.2.1 ≤ k)
      omega
theorem leQ_self {B : Option Pc} {c : Pc} : leQ (upQ B c) c.1 c.2.1 := by
  by_cases y : leQ B c.1 c.2.1
  · rw [upQ_le y]; exact y
  · rw [upQ_nle y]; exact Or.inr ⟨rfl, Int.le_refl _⟩
theorem leQ_fo {s k : Int} : ∀ (L : List Pc) (B : Option Pc), leQ B s k → leQ (foQ B L) s k
  | [], _, q => q
  | _ :: L, _, q => leQ_fo L _ (leQ_up q)
theorem leQ_mem {c : Pc} : ∀ (L : List Pc) (B : Option Pc), c ∈ L → leQ (foQ B L) c.1 c.2.1
  | [], _, q => by cases q
  | d :: L, B, q => by
    cases q with
    | head => exact leQ_fo L _ leQ_self
    | tail _ q => exact leQ_mem L _ q
theorem foQ_id : ∀ (L : List Pc) (B : Option Pc), (∀ c, c ∈ L → leQ B c.1 c.2.1) → foQ B L = B
  | [], _, _ => rfl
  | c :: L, B, q => by
    show foQ (upQ B c) L = B
    rw [upQ_le (q c (List.Mem.head _))]
    exact foQ_id L B (fun d hd => q d (List.Mem.tail _ hd))
def caQ (f : Nat → List Pc) : Nat → List Pc
  | 0 => []
  | n + 1 => caQ f n ++ f n
theorem foQ_ca {B : Option Pc} {f : Nat → List Pc} {n : Nat} : foQ B (caQ f (n + 1)) = foQ (foQ B (caQ f n)) (f n) := foQ_app _ _ _
theorem caQ_mem {f : Nat → List Pc} {c : Pc} : ∀ {n : Nat}, c ∈ caQ f n → ∃ s, s < n ∧ c ∈ f s
  | 0, q => by cases q
  | n + 1, q => by
    rcases List.mem_append.mp q with y | y
    · obtain ⟨s, a, b⟩ := caQ_mem y
      exact ⟨s, Nat.lt_succ_of_lt a, b⟩
    · exact ⟨n, Nat.lt_succ_self n, y⟩
theorem caQ_in {f : Nat → List Pc} {c : Pc} {s : Nat} (q : c ∈ f s) : ∀ {n : Nat}, s < n → c ∈ caQ f n
  | 0, y => by omega
  | n + 1, y => by
    by_cases e : s = n
    · subst e; exact List.mem_append.mpr (Or.inr q)
    · exact List.mem_append.mpr (Or.inl (caQ_in q (by omega)))
theorem caQ_nil {f : Nat → List Pc} : ∀ {n : Nat}, (∀ s, s < n → f s = []) → caQ f n = []
  | 0, _ => rfl
  | n + 1, y => by
    show caQ f n ++ f n = []
    rw [caQ_nil (fun s hs => y s (by omega)), y n (by omega)]; rfl
section
variable {S : Type} (ha : S → Bool) (go : S → Nat → S) (ea : S → Nat → Int) (N : Nat)
def soQ : Nat → Int → Int → S → (Int → Int) → List Pc
  | 0, k, sm, V, p => if ha V then [(sm, k, p)] else []
  | m + 1, k, sm, V, p => if ha V then [(sm, k, p)] else caQ (fun s => soQ m (k + 1) (sm + ea V s) (go V s) (fun i => if i = k then (s : Int) else p i)) N
variable {ha go ea N}
theorem soQ_ha {m : Nat} {k sm : Int} {V : S} {p : Int → Int} (y : ha V = true) : soQ ha go ea N m k sm V p = [(sm, k, p)] := by
  cases m with
  | zero => show (if ha V then _ else _) = _; rw [if_pos y]
  | succ m => show (if ha V then _ else _) = _; rw [if_pos y]
theorem soQ_0 {k sm : Int} {V : S} {p : Int → Int} (y : ¬ ha V = true) : soQ ha go ea N 0 k sm V p = [] := by
  show (if ha V then _ else _) = _; rw [if_neg y]
theorem soQ_s {m : Nat} {k sm : Int} {V : S} {p : Int → Int} (y : ¬ ha V = true) : soQ ha go ea N (m + 1) k sm V p = caQ (fun s => soQ ha go ea N m (k + 1) (sm + ea V s) (go V s) (fun i => if i = k then (s : Int) else p i)) N := by
  show (if ha V then _ else _) = _; rw [if_neg y]
variable {I : Nat → S → Prop}
theorem soQ_ge (h1 : ∀ m V s, I (m + 1) V → ¬ ha V = true → s < N → I m (go V s)) (h2 : ∀ m V s, I (m + 1) V → ¬ ha V = true → s < N → 0 ≤ ea V s) {c : Pc} : ∀ (m : Nat) (k sm : Int) (V : S) (p : Int → Int), I m V → c ∈ soQ ha go ea N m k sm V p → sm ≤ c.1 ∧ k ≤ c.2.1 := by
  intro m
  induction m with
  | zero =>
    intro k sm V p hi hc
    by_cases y : ha V = true
    · rw [soQ_ha y] at hc
      have := List.mem_singleton.mp hc
      subst this; exact ⟨Int.le_refl _, Int.le_refl _⟩
    · rw [soQ_0 y] at hc; cases hc
  | succ m ih =>
    intro k sm V p hi hc
    by_cases y : ha V = true
    · rw [soQ_ha y] at hc
      have := List.mem_singleton.mp hc
      subst this; exact ⟨Int.le_refl _, Int.le_refl _⟩
    · rw [soQ_s y] at hc
      obtain ⟨s, s1, s2⟩ := caQ_mem hc
      have a := ih _ _ _ _ (h1 m V s hi y s1) s2
      have b := h2 m V s hi y s1
      exact ⟨by omega, by omega⟩
theorem soQ_key {c : Pc} : ∀ (m : Nat) (k sm : Int) (V : S) (p p2 : Int → Int), c ∈ soQ ha go ea N m k sm V p → ∃ p3, (c.1, c.2.1, p3) ∈ soQ ha go ea N m k sm V p2 := by
  intro m
  induction m with
  | zero =>
    intro k sm V p p2 hc
    by_cases y : ha V = true
    · rw [soQ_ha y] at hc ⊢
      have := List.mem_singleton.mp hc
      subst this; exact ⟨p2, List.mem_singleton.mpr rfl⟩
    · rw [soQ_0 y] at hc; cases hc
  | succ m ih =>
    intro k sm V p p2 hc
    by_cases y : ha V = true
    · rw [soQ_ha y] at hc ⊢
      have := List.mem_singleton.mp hc
      subst this; exact ⟨p2, List.mem_singleton.mpr rfl⟩
    · rw [soQ_s y] at hc ⊢
      obtain ⟨s, s1, s2⟩ := caQ_mem hc
      obtain ⟨p3, a⟩ := ih _ _ _ _ (fun i => if i = k then (s : Int) else p2 i) s2
      exact ⟨p3, caQ_in (f := fun s => soQ ha go ea N m (k + 1) (sm + ea V s) (go V s) (fun i => if i = k then (s : Int) else p2 i)) a s1⟩
/-- A set that feeds as an earlier one does brings nothing new. -/
theorem soQ_skip {B : Option Pc} {m : Nat} {k sm : Int} {V : S} {p : Int → Int} {s t : Nat} (hts : t < s) (e1 : go V s = go V t) (e2 : ea V s = ea V t) : foQ (foQ B (caQ (fun s => soQ ha go ea N m (k + 1) (sm + ea V s) (go V s) (fun i => if i = k then (s : Int) else p i)) s)) (soQ ha go ea N m (k + 1) (sm + ea V s) (go V s) (fun i => if i = k then (s : Int) else p i)) = foQ B (caQ (fun s => soQ ha go ea N m (k + 1) (sm + ea V s) (go V s) (fun i => if i = k then (s : Int) else p i)) s) := by
  refine foQ_id _ _ (fun c hc => ?_)
  rw [e1, e2] at hc
  obtain ⟨p3, a⟩ := soQ_key _ _ _ _ _ (fun i => if i = k then (t : Int) else p i) hc
  exact leQ_mem (c := (c.1, c.2.1, p3)) _ _ (caQ_in (f := fun s => soQ ha go ea N m (k + 1) (sm + ea V s) (go V s) (fun i => if i = k then (s : Int) else p i)) a hts)
/-- What costs more than the best, or as much in no fewer meals, brings nothing. -/
theorem soQ_worse (h1 : ∀ m V s, I (m + 1) V → ¬ ha V = true → s < N → I m (go V s)) (h2 : ∀ m V s, I (m + 1) V → ¬ ha V = true → s < N → 0 ≤ ea V s) {B : Option Pc} {m : Nat} {k sm : Int} {V : S} {p : Int → Int} (hi : I m V) (q : leQ B sm k) : foQ B (soQ ha go ea N m k sm V p) = B := by
  refine foQ_id _ _ (fun c hc => ?_)
  obtain ⟨a, b⟩ := soQ_ge h1 h2 _ _ _ _ _ hi hc
  cases B with
  | none => exact q.elim
  | some e =>
    have q2 : e.1 < sm ∨ (sm = e.1 ∧ e.2.1 ≤ k) := q
    show e.1 < c.1 ∨ (c.1 = e.1 ∧ e.2.1 ≤ c.2.1)
    omega
/-- From too far away no plan leads. -/
theorem soQ_far (h1 : ∀ m V s, I (m + 1) V → ¬ ha V = true → s < N → I m (go V s)) (d : S → Int) (h3 : ∀ m V, I m V → ha V = true → d V ≤ 0) (h4 : ∀ m V s, I (m + 1) V → ¬ ha V = true → s < N → d V ≤ d (go V s) + 1) : ∀ (m : Nat) (k sm : Int) (V : S) (p : Int → Int), I m V → (m : Int) < d V → soQ ha go ea N m k sm V p = [] := by
  intro m
  induction m with
  | zero =>
    intro k sm V p hi hd
    by_cases y : ha V = true
    · have := h3 _ V hi y; omega
    · exact soQ_0 y
  | succ m ih =>
    intro k sm V p hi hd
    by_cases y : ha V = true
    · have := h3 _ V hi y; omega
    · rw [soQ_s y]
      refine caQ_nil (fun s hs => ih _ _ _ _ (h1 m V s hi y hs) ?_)
      have := h4 m V s hi y hs
      omega
end
