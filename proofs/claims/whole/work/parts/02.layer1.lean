/-! THE LAYER, 1: an abstract heap of regions, and what it stands for. A cell is a region (0 .. 12: objects of the classes X0 .. X12; 20 up: the arrays that a field owns) and a number. -/
abbrev Av : Type := Int ⊕ (Int ⊕ Option (Nat × Int))
abbrev xi (x : Int) : Av := .inl x
abbrev xl (x : Int) : Av := .inr (.inl x)
abbrev xo (o : Option (Nat × Int)) : Av := .inr (.inr o)
abbrev xr (r : Nat) (i : Int) : Av := .inr (.inr (some (r, i)))
/-- numbers, references, where each cell lies -/
abbrev Hp : Type := (Nat → Int → Int → Int) × (Nat → Int → Int → Option (Nat × Int)) × (Nat → Int → Option Nat)
def gI (h : Hp) (r : Nat) (i k : Int) : Int := h.1 r i k
def gR (h : Hp) (r : Nat) (i k : Int) : Option (Nat × Int) := h.2.1 r i k
def gA (h : Hp) (r : Nat) (i : Int) : Option Nat := h.2.2 r i
def sI (h : Hp) (r : Nat) (i k : Int) (v : Int) : Hp := (fun r' i' k' => if r' = r ∧ i' = i ∧ k' = k then v else h.1 r' i' k', h.2)
def sR (h : Hp) (r : Nat) (i k : Int) (v : Option (Nat × Int)) : Hp := (h.1, fun r' i' k' => if r' = r ∧ i' = i ∧ k' = k then v else h.2.1 r' i' k', h.2.2)
theorem gI_eq {h : Hp} {r : Nat} {i k v : Int} : gI (sI h r i k v) r i k = v := by simp [gI, sI]
theorem gI_nr {h : Hp} {r r' : Nat} {i k i' k' v : Int} (e : r' ≠ r) : gI (sI h r i k v) r' i' k' = gI h r' i' k' := by simp [gI, sI, e]
theorem gI_ni {h : Hp} {r r' : Nat} {i k i' k' v : Int} (e : i' ≠ i) : gI (sI h r i k v) r' i' k' = gI h r' i' k' := by simp [gI, sI, e]
theorem gI_nk {h : Hp} {r r' : Nat} {i k i' k' v : Int} (e : k' ≠ k) : gI (sI h r i k v) r' i' k' = gI h r' i' k' := by simp [gI, sI, e]
theorem gI_sI {h : Hp} {r r' : Nat} {i k i' k' v : Int} : gI (sI h r i k v) r' i' k' = if r' = r ∧ i' = i ∧ k' = k then v else gI h r' i' k' := rfl
theorem gI_sR {h : Hp} {r r' : Nat} {i k i' k' : Int} {v : Option (Nat × Int)} : gI (sR h r i k v) r' i' k' = gI h r' i' k' := rfl
theorem gR_sI {h : Hp} {r r' : Nat} {i k i' k' v : Int} : gR (sI h r i k v) r' i' k' = gR h r' i' k' := rfl
theorem gR_sR {h : Hp} {r r' : Nat} {i k i' k' : Int} {v : Option (Nat × Int)} : gR (sR h r i k v) r' i' k' = if r' = r ∧ i' = i ∧ k' = k then v else gR h r' i' k' := rfl
theorem gR_eq {h : Hp} {r : Nat} {i k : Int} {v : Option (Nat × Int)} : gR (sR h r i k v) r i k = v := by simp [gR, sR]
theorem gR_nr {h : Hp} {r r' : Nat} {i k i' k' : Int} {v : Option (Nat × Int)} (e : r' ≠ r) : gR (sR h r i k v) r' i' k' = gR h r' i' k' := by simp [gR, sR, e]
theorem gR_nk {h : Hp} {r r' : Nat} {i k i' k' : Int} {v : Option (Nat × Int)} (e : k' ≠ k) : gR (sR h r i k v) r' i' k' = gR h r' i' k' := by simp [gR, sR, e]
theorem gA_sI {h : Hp} {r r' : Nat} {i k i' v : Int} : gA (sI h r i k v) r' i' = gA h r' i' := rfl
theorem gA_sR {h : Hp} {r r' : Nat} {i k i' : Int} {v : Option (Nat × Int)} : gA (sR h r i k v) r' i' = gA h r' i' := rfl
/-- kinds: 0 int, 1 byte, 2 boolean, 3 long, 4 reference -/
def kfl : List (List Nat) := [[4, 4, 4, 0, 0, 4, 0, 4, 4, 4, 0, 0, 0, 0, 0], [4, 4, 0, 4, 4], [4, 0, 0, 4, 4, 4, 4, 0, 0, 4, 0], [4, 4, 4, 4, 4], [0, 0, 0, 0, 0, 0, 0, 0, 0, 0], [4, 4, 4, 4, 0, 0], [4, 4, 4, 4, 0, 0], [4, 4, 0, 0, 0, 0, 0, 0, 0, 0, 0, 0, 0, 0, 4, 0, 0, 0, 2], [4, 4, 0, 0, 0, 0, 4, 4, 4, 0], [0, 0, 3, 0, 0, 0, 0, 4, 4, 4, 4, 4, 4], [0, 0, 0, 3, 0, 0, 0, 0, 4], [4, 0, 4, 4, 4, 4, 4, 4, 4, 4, 0, 4, 4, 2, 4, 4, 0], [0, 4, 0, 4, 4, 4, 4, 4, 4, 4, 4, 4, 4, 4, 4, 4, 4, 4, 4, 4, 4, 4, 4, 4, 4, 0, 0, 0, 0, 0, 0, 0, 0, 0, 0, 0, 0, 0, 4, 4, 4, 4, 4, 4, 4, 4, 4, 4, 4, 4, 4, 4, 4, 2, 0, 0, 0, 2, 4, 4, 0, 4, 4, 4, 0, 4, 4, 0, 0, 4, 4, 4, 4, 4, 0, 0, 4, 4, 4, 4]]
def ark : List (Nat × Nat × Nat) := [(4, 9, 4), (0, 8, 0), (0, 4, 0), (0, 4, 0), (0, 4, 0), (0, 64, 0), (0, 64, 0), (3, 7, 3), (3, 64, 3), (0, 9, 0), (0, 9, 0), (0, 4, 0), (0, 9, 0), (0, 270, 0), (0, 60, 0), (0, 60, 0), (0, 60, 0), (0, 60, 0), (0, 60, 0), (0, 32, 0), (0, 32, 0), (0, 32, 0), (2, 32, 2), (4, 4, 5), (0, 3, 0), (0, 3, 0), (0, 72, 0), (0, 27, 0), (0, 801, 0), (0, 801, 0), (0, 801, 0), (0, 3, 0), (0, 3, 0), (0, 3, 0), (0, 3, 0), (0, 320, 0), (0, 64, 0), (0, 9, 0), (1, 800, 1), (4, 20, 5), (0, 800, 0), (0, 30, 0), (2, 128, 2), (0, 6, 0), (0, 6, 0), (0, 6, 0), (0, 6, 0), (0, 16, 0), (0, 8, 0), (0, 8, 0), (0, 8, 0), (0, 18, 0), (0, 18, 0), (0, 18, 0), (0, 18, 0), (0, 18, 0), (0, 18, 0), (0, 18, 0), (0, 18, 0), (0, 18, 0), (0, 18, 0), (0, 128, 0), (0, 128, 0), (0, 4096, 0), (0, 23, 0), (0, 23, 0), (0, 23, 0), (0, 23, 0), (0, 23, 0), (0, 23, 0), (0, 23, 0), (0, 207, 0), (2, 207, 2), (0, 180, 0), (0, 180, 0), (0, 180, 0), (0, 180, 0), (0, 180, 0), (3, 7, 3), (3, 64, 3), (0, 9, 0), (0, 9, 0), (0, 4, 0), (0, 3, 0), (0, 3, 0), (0, 3, 0), (0, 3, 0), (0, 3, 0), (0, 27, 0), (2, 27, 2), (0, 32, 0), (0, 32, 0), (0, 32, 0), (2, 32, 2), (3, 1, 3)]
def xkd (r : Nat) (k : Int) : Nat := if r < 13 then (kfl.getD r []).getD k.toNat 0 else (ark.getD (r - 20) (0, 0, 0)).1
def xln (r : Nat) : Nat := (ark.getD (r - 20) (0, 0, 0)).2.1
def xct (r : Nat) : Nat := (ark.getD (r - 20) (0, 0, 0)).2.2
def xnf (r : Nat) : Nat := (kfl.getD r []).length
def xrg (k : Nat) (z : Int) : Prop := if k = 3 then -9223372036854775808 ≤ z ∧ z < 9223372036854775808 else if k = 1 then -128 ≤ z ∧ z < 128 else if k = 2 then 0 ≤ z ∧ z < 2 else -2147483648 ≤ z ∧ z < 2147483648
/-- the address of a reference, and a value of the machine -/
def xoa (h : Hp) (o : Option (Nat × Int)) : Option Nat := o.bind fun q => h.2.2 q.1 q.2
def cv (h : Hp) (v : Av) : Value := match v with
  | .inl x => .int (Int32.ofInt x)
  | .inr (.inl x) => .long (Int64.ofInt x)
  | .inr (.inr o) => va_rf (xoa h o)
def slv (h : Hp) (r : Nat) (i : Int) (k : Nat) : Value := if xkd r k = 4 then va_rf (xoa h (h.2.1 r i k)) else if xkd r k = 3 then .long (Int64.ofInt (h.1 r i k)) else .int (Int32.ofInt (h.1 r i k))
def cel (y : Nat → ClassId) (h : Hp) (r : Nat) (i : Int) : va_E :=
  if r < 13 then .inr (r, (List.range (xnf r)).map (slv h r i))
  else .inl (y (xct r), xln r, if xkd r 0 = 4 then .inr (.inr (.inr (.inr fun j => xoa h (h.2.1 r i (j : Int))))) else if xkd r 0 = 3 then .inr (.inl fun j => Int64.ofInt (h.1 r i (j : Int))) else .inl fun j => Int32.ofInt (h.1 r i (j : Int)))
/-- the world: class numbers and slots, array classes, where its cells begin, where the constants lie -/
abbrev wk : Type := va_G × (Nat → ClassId) × Nat × (Nat → Nat)
abbrev wn0 (w : wk) : Nat := w.2.2.1
def wA (w : wk) : Nat → Prop := fun q => wn0 w ≤ q
def wty (w : wk) : List (ClassId × FieldType) := [(w.2.1 0, .int), (w.2.1 1, .byte), (w.2.1 2, .boolean), (w.2.1 3, .long), (w.2.1 4, .object RX4), (w.2.1 5, .object RX10)]
/-- what the abstract heap stands for; its number 999, 0, 0 is how many cells the machine has -/
def Rep (w : wk) (h : Hp) (H : Heap) : Prop := (∀ (r : Nat) (i : Int) (a : Nat), r < 900 → h.2.2 r i = some a → wn0 w ≤ a ∧ va_at w.1 vwCl (a, cel w.2.1 h r i) H) ∧ h.1 999 0 0 = (H.size : Int)
def Wf (w : wk) (h : Hp) : Prop := (∀ (r r' : Nat) (i i' : Int) (a : Nat), r < 900 → r' < 900 → h.2.2 r i = some a → h.2.2 r' i' = some a → r = r' ∧ i = i') ∧ (∀ (r : Nat) (i k : Int), r < 900 → xrg (xkd r k) (h.1 r i k)) ∧ (∀ (r : Nat) (i k : Int) (q : Nat × Int), h.2.1 r i k = some q → ∃ a, h.2.2 q.1 q.2 = some a) ∧ h.2.2 900 0 = some (w.2.2.2 0) ∧ h.2.2 901 0 = some (w.2.2.2 1) ∧ h.2.2 910 0 = some (w.2.2.2 2) ∧ h.2.2 911 0 = some (w.2.2.2 3) ∧ h.2.2 912 0 = some (w.2.2.2 4) ∧ h.2.2 913 0 = some (w.2.2.2 5)
def vok (h : Hp) (v : Av) : Prop := match v with
  | .inl x => -2147483648 ≤ x ∧ x < 2147483648
  | .inr (.inl x) => -9223372036854775808 ≤ x ∧ x < 9223372036854775808
  | .inr (.inr o) => ∀ q, o = some q → ∃ a, h.2.2 q.1 q.2 = some a
def xOrd : List Int := [1, 1, 2, 6, 24, 120, 720, 5040, 40320, 362880]
def xRnk : List Int := [0, 0, 1, 2, 3, 4, 4, 4, 4, 4, 4, 5, 5, 6, 6, 0]
/-- the words of the language, as a text and as numbers -/
def xTx : String := "sea land ship bahia isle wind gale storm soup seed mouth may odds from till sick loses or and not course far windy meal plates lost stock "
def xTb : List Int := [115, 101, 97, 32, 108, 97, 110, 100, 32, 115, 104, 105, 112, 32, 98, 97, 104, 105, 97, 32, 105, 115, 108, 101, 32, 119, 105, 110, 100, 32, 103, 97, 108, 101, 32, 115, 116, 111, 114, 109, 32, 115, 111, 117, 112, 32, 115, 101, 101, 100, 32, 109, 111, 117, 116, 104, 32, 109, 97, 121, 32, 111, 100, 100, 115, 32, 102, 114, 111, 109, 32, 116, 105, 108, 108, 32, 115, 105, 99, 107, 32, 108, 111, 115, 101, 115, 32, 111, 114, 32, 97, 110, 100, 32, 110, 111, 116, 32, 99, 111, 117, 114, 115, 101, 32, 102, 97, 114, 32, 119, 105, 110, 100, 121, 32, 109, 101, 97, 108, 32, 112, 108, 97, 116, 101, 115, 32, 108, 111, 115, 116, 32, 115, 116, 111, 99, 107, 32]
/-- the script's number j -/
def wsc (w : wk) (j : Nat) : Int := ((w.2.2.2 (7 + j) % 4294967296 : Nat) : Int) - 2147483648
/-- what is known for throws, and the script -/
def wThr (w : wk) (s : State) (H : Heap) : Prop :=
  vx_Zq Bundle.tN "UNASSIGNED_STACK" Bundle.steD (wA w) s H ∧ vx_Zq Bundle.tN "SUPPRESSED_SENTINEL" Bundle.listD (wA w) s H ∧ (∃ sa : Nat, vk_R "PlateVote" 141 "no such mouth" sa s) ∧ (∃ sa : Nat, vk_R "PlateVote" 170 "no such what" sa s) ∧
  va_Nc "java/util/NoSuchElementException" "java/lang/IndexOutOfBoundsException" s ∧ va_T .int (w.2.2.2 5) (w.2.2.2 6) (fun j => .int (Int32.ofInt (wsc w j))) (wA w) s H ∧ w.2.2.2 6 ≤ 3072
/-- what is known of the constant text, and of what the JDK's own methods read -/
def wStr (w : wk) (s : State) (H : Heap) : Prop :=
  vk_R "PlateVoteModel" 236 xTx (w.2.2.2 2) s ∧ vk_R "PlateVote$Scanner" 44 xTx (w.2.2.2 2) s ∧ va_O "java/lang/String" (w.2.2.2 2) (wA w) s H ∧ va_OF "java/lang/String" "coder" "B" (.int 0) (w.2.2.2 2) (wA w) s H ∧
  va_OF "java/lang/String" "value" "[B" (.ref (w.2.2.2 3)) (w.2.2.2 2) (wA w) s H ∧ va_T .byte (w.2.2.2 3) 138 (fun j => .int (Int32.ofInt (xTb.getD j 0))) (wA w) s H ∧ va_Z "java/lang/String" "COMPACT_STRINGS" "Z" (.int 1) (wA w) s H ∧
  (va_Z "jdk/internal/util/Preconditions" "SIOOBE_FORMATTER" "Ljava/util/function/BiFunction;" .null (wA w) s H ∨ va_Z "jdk/internal/util/Preconditions" "SIOOBE_FORMATTER" "Ljava/util/function/BiFunction;" (.ref (w.2.2.2 4)) (wA w) s H) ∧ va_AO "PlateVote$Mouth" s ∧ va_AO "PlateVote$Voyage" s ∧ wThr w s H
def wSt (w : wk) (s : State) (H : Heap) : Prop :=
  va_Z "PlateVote" "ORDERS" "[I" (.ref (w.2.2.2 0)) (wA w) s H ∧ va_T .int (w.2.2.2 0) 10 (fun j => .int (Int32.ofInt (xOrd.getD j 0))) (wA w) s H ∧
  va_Z "PlateVote$Reader" "RANK" "[I" (.ref (w.2.2.2 1)) (wA w) s H ∧ va_T .int (w.2.2.2 1) 16 (fun j => .int (Int32.ofInt (xRnk.getD j 0))) (wA w) s H ∧
  va_Nw (.fieldLinkNest "PlateVote$Galley" 252 "PlateVote" "ORDERS" "[I" "PlateVote") s ∧ va_Nw (.methodLinkNest "PlateVote$Galley" 205 yX11_isCourse "PlateVote") s ∧ wStr w s H
def Kx (w : wk) (s : State) (H : Heap) : Prop := va_K w.1 vwCl (wty w) s ∧ wn0 w ≤ s.heap.size ∧ wSt w s H
/-- the words that all methods have -/
def Gw : List Cond := lw_tbl.filter goodWord
theorem Gw_in {i : Nat} {w : Cond} (h : lw_tbl[i]? = some w) (g : goodWord w = true) : w ∈ Gw := List.mem_filter.mpr ⟨List.mem_of_getElem? h, g⟩
theorem Gw_good : ∀ w ∈ Gw, goodWord w = true := fun _ h => (List.mem_filter.mp h).2
/-- a method: its class, code, locals, answer, name -/
abbrev Mth : Type := String × ByteArray × Nat × Option FieldType × MethodName
abbrev mOwn (M : Mth) : String := M.1
abbrev mCC (M : Mth) : ByteArray := M.2.1
abbrev mNL (M : Mth) : Nat := M.2.2.1
abbrev mRet (M : Mth) : Option FieldType := M.2.2.2.1
abbrev mY (M : Mth) : MethodName := M.2.2.2.2
def rmo (d : Nat) (B : Nat × Nat) : Room := { frames := d, cells := B.1, slots := B.2, locals := 64 * d }
def mWs (M : Mth) : List Cond := Cond.code (mY M) (mCC M) (mNL M) (mRet M) :: Gw
def Lh (h : Hp) (L : Array Slot) (n : Nat) (ls : List (Option Av)) : Prop := L.size = n ∧ lv_wf L ∧ ∀ (i : Nat) (v : Av), ls[i]? = some (some v) → L[i]? = some (.val (cv h v))
def Cx (w : wk) (M : Mth) (p : Program) (s : State) (m : MethodId) (args : Array Value) (meth : Method) (c : Code) : Prop :=
  p.tables.exec = Jvm.exec ∧ c.code = mCC M ∧ meth.sig.returnType = mRet M ∧ c.maxLocals = mNL M ∧ s.vm.findClass (mOwn M) = some m.cls ∧ meth.locks = false ∧ (∀ wd ∈ Gw, wd.before args s = true) ∧ Kx w s s.heap ∧ (meth.name = (mY M).name)
abbrev xE : Type := wk × Launch × (Nat → Int → Option Nat)
def Qm (w : wk) (a0 : Nat → Int → Option Nat) (Q : Option Av → Hp → Prop) : Array Value → State → Outcome → State → Prop := fun _ st o t =>
  (∃ (r : Option Av) (h : Hp), o = .returned (r.map (cv h)) ∧ Q r h ∧ (∀ (r : Nat) (i : Int) (a : Nat), a0 r i = some a → h.2.2 r i = some a) ∧ Wf w h ∧ (∀ v, r = some v → vok h v) ∧ Rep w h t.heap) ∧ va_F (wA w) st t
/-- THE JUDGEMENT: from here, with these locals, this stack and this heap, the method comes to its end with Q -/
def X (E : xE) (M : Mth) (d : Nat) (B u : Nat × Nat) (pc : Nat) (ls : List (Option Av)) (st : List Av) (h : Hp) (Q : Option Av → Hp → Prop) : Prop :=
  Wf E.1 h → (∀ v ∈ st, vok h v) → (∀ v, some v ∈ ls → vok h v) → (∀ (r : Nat) (i : Int) (a : Nat), E.2.2 r i = some a → h.2.2 r i = some a) →
  ∀ (p : Program) (e : Env) (s : State) (m : MethodId) (args : Array Value) (below : List Frame) (meth : Method) (c : Code) (H : Heap) (locs : List Loc) (L : Array Slot),
    Cx E.1 M p s m args meth c → Rep E.1 h H → va_S (wA E.1) s.heap H locs → Lh h L (mNL M) ls →
    W p E.2.1 e (rmo d B) s m args below meth c H locs u.1 u.2 (MQ below (Qm E.1 E.2.2 Q) args s B.1 B.2 (wA E.1)) (F0 m pc L (st.map (cv h)))
/-- A CONTRACT: called with these arguments in this heap the method returns, with Q -/
def Sp (M : Mth) (d : Nat) (B : Nat × Nat) (as : List Av) (h : Hp) (Q : Option Av → Hp → Prop) : Prop :=
  ∀ (w : wk) (l : Launch), Wf w h → (∀ v ∈ as, vok h v) → Met l (mY M) (mWs M) (rmo d B) (va_Pc (as.map (cv h)) fun U => Rep w h U.heap ∧ Kx w U U.heap) (Qm w h.2.2 Q) B.1 B.2 (wA w)
