/-! THE WORLD: cells in groups. A cell has a name (g, i): the group g (what it is), the number i in it. The state holds the ints and longs of every cell by name. -/
/-- E: class ids and slots; addresses; array classes; how many of each group are there; what cells that stay point to; base; the static tables' addresses; the texts' addresses and their bytes' -/
abbrev kE : Type := va_G × (Nat → Nat → Nat) × (Nat → ClassId) × (Nat → Nat) × (Nat → Nat → Nat → Value) × Nat × (Nat → Nat) × (Nat → Nat) × (Nat → Nat)
def kad (E : kE) : Nat → Nat → Nat := E.2.1
def kcA (E : kE) : Nat → ClassId := E.2.2.1
def kcnt (E : kE) : Nat → Nat := E.2.2.2.1
def krf (E : kE) : Nat → Nat → Nat → Value := E.2.2.2.2.1
def kbase (E : kE) : Nat := E.2.2.2.2.2.1
def kz (E : kE) : Nat → Nat := E.2.2.2.2.2.2.1
def ktx (E : kE) : Nat → Nat := E.2.2.2.2.2.2.2.1
def ktv (E : kE) : Nat → Nat := E.2.2.2.2.2.2.2.2
def kA (E : kE) : Nat → Prop := fun q => kbase E ≤ q
abbrev kS : Type := (Nat → Nat → Nat → Int32) × (Nat → Nat → Nat → Int64)
def kU (σ : kS) (g i k : Nat) (v : Int32) : kS := (fun g' i' k' => if g' = g ∧ i' = i ∧ k' = k then v else σ.1 g' i' k', σ.2)
def kUL (σ : kS) (g i k : Nat) (v : Int64) : kS := (σ.1, fun g' i' k' => if g' = g ∧ i' = i ∧ k' = k then v else σ.2 g' i' k')
def kKd (g k : Nat) : Nat := match kSh g with
  | .inl ci => (kFkL.getD ci []).getD k 0
  | .inr (.int, _) => 0
  | .inr (.byte, _) => 0
  | .inr (.long, _) => 1
  | .inr _ => 2
def kV (E : kE) (σ : kS) (g i k : Nat) : Value := if kKd g k = 0 then .int (σ.1 g i k) else if kKd g k = 1 then .long (σ.2 g i k) else if kKd g k = 2 then krf E g i k else .ref (kad E 10 (σ.1 g i k).toNatClampNeg)
def kTg (g k : Nat) : Nat × Nat × Nat := match kSh g with
  | .inl ci => (kFtL.getD ci []).getD k (0, 0, 0)
  | .inr _ => kAtL.getD g (0, 0, 0)
def kRi (t : Nat × Nat × Nat) (i k : Nat) : Nat := if t.2.1 = 0 then t.2.2 else if t.2.1 = 1 then i + t.2.2 else k + t.2.2
def kRv (E : kE) (g i k : Nat) : Value := .ref (kad E (kTg g k).1 (kRi (kTg g k) i k))
def kNf (ci : Nat) : Nat := (kFkL.getD ci []).length
def kCell (E : kE) (σ : kS) (H : Heap) (g i : Nat) : Prop := match kSh g with
  | .inl ci => t_OB (kad E g i) (E.1.1 ci) (kNf ci) (E.1.2 ci) H (kV E σ g i)
  | .inr (_, len) => H[kad E g i]? = some (arrV (kcA E g) len (kV E σ g i))
def kWd (E : kE) (σ : kS) (H : Heap) : Prop := ∀ g i, i < kcnt E g → kCell E σ H g i
def kEs (E : kE) (U : State) : Prop := (∀ (ci : Nat) (q : vw_C), vwCl[ci]? = some q → u_Kn U q.1 q.2.1 q.2.2 (E.1.1 ci) (E.1.2 ci)) ∧ ∀ (g : Nat) (ty : FieldType) (len : Nat), kSh g = .inr (ty, len) → 0 < kcnt E g → ArrOfT U (kcA E g) ty
def kEj (E : kE) : Prop := (∀ g i g' i', i < kcnt E g → i' < kcnt E g' → kad E g i = kad E g' i' → g = g' ∧ i = i') ∧ ∀ g i, i < kcnt E g → kbase E ≤ kad E g i
def kNorm (E : kE) : Prop := (∀ g, kCnt g ≤ kcnt E g) ∧ ∀ g i k, krf E g i k = kRv E g i k
/-! what stays of the heap below the base: tables, texts -/
def kZn : Nat → String := fun j => ["FIRST_NUMBERS", "LEAST_NUMBERS", "MOST_NUMBERS"].getD j ""
def kZv : Nat → List Int32 := fun j => [[2, 20, 200, 15, 3, 2, 20, 600, 6, 90], [0, 0, 0, 0, 0, 1, 0, 0, 0, 0], [99, 999, 999, 99, 99, 20, 99, 9999, 99, 999]].getD j []
def kTxL : List (String × Nat × String) := [("MastSparks", 75, "so many bytes are not on the TAPE"), ("MastSparks", 149, "no such what"), ("MastSparks", 301, "no such WHY"), ("MastSparks", 306, "no such ROW"), ("MastSparks", 309, "no such CELL"), ("MastSparks", 311, "not within its bounds"), ("MastSparks", 316, "no such number of the LANDING"), ("MastSparks", 318, "bits of what is not there"), ("MastSparks$Reader", 80, "leak"), ("MastSparks$Reader", 86, "spark"), ("MastSparks$Reader", 88, "set"), ("MastSparks$Reader", 90, "from"), ("MastSparks$Reader", 92, "if"), ("MastSparks$Reader", 94, "or"), ("MastSparks$Reader", 96, "and"), ("MastSparks$Reader", 98, "not"), ("MastSparks$Reader", 100, "second"), ("MastSparks$Reader", 102, "gap"), ("MastSparks$Reader", 104, "wet"), ("MastSparks$Reader", 106, "height"), ("MastSparks$Reader", 108, "mixed"), ("MastSparks$Reader", 110, "gas"), ("MastSparks$Reader", 112, "fire")]
def kTx (i : Nat) : String × Nat × String := kTxL.getD i ("", 0, "")
def kTb (tx : String) : List Int32 := tx.toList.map (fun c => Int32.ofNat c.toNat)
def kTbs : List (List Int32) := kTxL.map (fun q => kTb q.2.2)
def kTls : List Nat := kTxL.map (fun q => q.2.2.length)
def kExL : List String := ["java/util/NoSuchElementException", "java/lang/IllegalArgumentException", "java/lang/IndexOutOfBoundsException"]
def kFnL : List (String × Nat × String) := [("MastSparks$Papers", 64, "FIRST_NUMBERS"), ("MastSparks$Reader", 161, "LEAST_NUMBERS"), ("MastSparks$Reader", 164, "MOST_NUMBERS")]
def kNcL : List (String × String) := [("java/lang/IllegalArgumentException", "java/util/NoSuchElementException"), ("java/lang/IllegalArgumentException", "java/lang/IndexOutOfBoundsException"), ("java/lang/IndexOutOfBoundsException", "java/util/NoSuchElementException")]
def kDcL : List MethodName := [⟨"java/lang/RuntimeException", "<init>", "(Ljava/lang/String;)V"⟩, ⟨"java/lang/Exception", "<init>", "(Ljava/lang/String;)V"⟩, ⟨"java/lang/Throwable", "<init>", "(Ljava/lang/String;)V"⟩]
def kZ (E : kE) (U : State) (H : Heap) : Prop :=
  (∀ j, j < 3 → va_Z "MastSparks" (kZn j) "[I" (.ref (kz E j)) (kA E) U H ∧ va_T .int (kz E j) 10 (fun k => .int ((kZv j).getD k 0)) (kA E) U H) ∧
  vk_S 23 kTls kTbs (ktx E) (ktv E) (kA E) U H ∧ (∀ i, i < 23 → vk_R (kTx i).1 (kTx i).2.1 (kTx i).2.2 (ktx E i) U) ∧
  va_Z "java/lang/String" "COMPACT_STRINGS" "Z" (.int 1) (kA E) U H ∧ vx_Zq Bundle.tN "UNASSIGNED_STACK" Bundle.steD (kA E) U H ∧ vx_Zq Bundle.tN "SUPPRESSED_SENTINEL" Bundle.listD (kA E) U H ∧ va_Zq "jdk/internal/util/Preconditions" "SIOOBE_FORMATTER" "Ljava/util/function/BiFunction;" (kA E) U H ∧ (∀ x ∈ kExL, va_Nw (.castable x x) U) ∧ (∀ q ∈ kFnL, va_Nw (.fieldLinkNest q.1 q.2.1 "MastSparks" q.2.2 "[I" "MastSparks") U) ∧ (∀ q ∈ kNcL, va_Nc q.1 q.2 U) ∧ ∀ y ∈ kDcL, va_Nw (.declares y) U
theorem kZ.go {E : kE} {s U : State} {H : Heap} {locs : List Loc} (h : kZ E s s.heap) (hW : s.WarmedH U.vm) (hS : va_S (kA E) s.heap H locs) : kZ E U H := by
  have hq := hS.2.1
  obtain ⟨h1, h2, h3, h4, h5, h6, h7, h8, h9, h10, h11⟩ := h
  exact ⟨fun j hj => ⟨((h1 j hj).1.kept hq).moved hW.alike, ((h1 j hj).2.kept hq).moved hW.alike⟩, (h2.kept hq).moved hW.alike, fun i hi => (h3 i hi).warm hW, (h4.kept hq).moved hW.alike, (h5.kept hq).moved hW.alike, (h6.kept hq).moved hW.alike, (h7.kept hq).moved hW.alike, fun x hx => va_Nw.warmC hW (h8 x hx), fun q hq => va_Nw.warmF hW (h9 q hq), fun q hq => (h10 q hq).moved hW.alike, fun y hy => va_Nw.warmD hW (h11 y hy)⟩
theorem kZ.same {E : kE} {u U : State} {H : Heap} (h : kZ E u H) (hv : U.vm = u.vm) : kZ E U H := by
  have ha : u.vm.Alike U.vm := by rw [hv]; exact Vm.Alike.refl _
  obtain ⟨h1, h2, h3, h4, h5, h6, h7, h8, h9, h10, h11⟩ := h
  exact ⟨fun j hj => ⟨(h1 j hj).1.moved ha, (h1 j hj).2.moved ha⟩, h2.moved ha, fun i hi => (h3 i hi).same hv, h4.moved ha, h5.moved ha, h6.moved ha, h7.moved ha, fun x hx => va_Nw.same rfl hv.symm (h8 x hx), fun q hq => va_Nw.same rfl hv.symm (h9 q hq), fun q hq => (h10 q hq).moved ha, fun y hy => va_Nw.same rfl hv.symm (h11 y hy)⟩
theorem kEs.moved {E : kE} {u U : State} (hvm : u.vm.Alike U.vm) (h : kEs E u) : kEs E U := ⟨fun ci q hq => u_Kn_moved hvm (h.1 ci q hq), fun g ty len hg hc => arrOfT_moved hvm (h.2 g ty len hg hc)⟩
/-! words: all the tables' that keep -/
def kTB : List Cond := lw_tbl.filter goodWord
theorem kTB_good {w : Cond} (h : w ∈ kTB) : (w.onTables && w.keeps) = true ∨ ∃ ty, w = .arrayClass ty := good_of_word (List.mem_filter.mp h).2
theorem kTB_in {w : Cond} (h : w ∈ kTB) : w ∈ lw_tbl := (List.mem_filter.mp h).1
/-! the answer of a method: what it gives back or the name of what it throws; the state behind it -/
abbrev kR : Type := (Option Value ⊕ String) × kS
def kQ (E : kE) (rv : Value → Value) (u : kR) : Array Value → State → Outcome → State → Prop := fun _ st o t => (∃ v : Option Value, u.1 = .inl v ∧ o = .returned (v.map rv)) ∧ kWd E u.2 t.heap ∧ va_F (kA E) st t
def kXC (E : kE) (u : kR) : String → State → State → Prop := fun ex st t => u.1 = .inr ex ∧ kWd E u.2 t.heap ∧ va_F (kA E) st t
def kPc (E : kE) (σ : kS) (av : List Value) : Array Value → State → Prop := fun a U => a = av.toArray ∧ kEs E U ∧ kZ E U U.heap ∧ kbase E ≤ U.heap.size ∧ kWd E σ U.heap
abbrev kRm (fr lo n : Nat) : Room := { frames := fr, cells := n, slots := 8 * n, locals := lo }
/-- a method's contract, in the world E: if the function o of the state says u, then so does the method -/
def kMet (l : Launch) (E : kE) (y : MethodName) (cc : ByteArray) (maxL : Nat) (ret : Option FieldType) (fr lo n : Nat) (rv : Value → Value) (av : List Value) (σ : kS) (o : Option kR) : Prop :=
  ∀ u, o = some u → vx_Met l y (.code y cc maxL ret :: kTB) (kRm fr lo n) (kPc E σ av) (kQ E rv u) (kXC E u) n (8 * n) (kA E)
/-! a body: X holds the machine, the world, and what is owed at the end -/
abbrev kC : Type := Program × Launch × Env × Room × State × MethodId × Array Value × List Frame × Method × Code
abbrev kX : Type := kC × kE × (kR → State → Prop)
def kW (X : kX) (nL n pc : Nat) (lv : List (Nat × Value)) (st : List Value) (σ : kS) (Q : State → Prop) : Prop := match X with
  | ((p, l, e, R, s, m, args, below, meth, c), E, _) => ∀ (H : Heap) (locs : List Loc) (ls : Array Slot), kWd E σ H → va_S (kA E) s.heap H locs → lv_has ls nL lv → W p l e R s m args below meth c H locs n (8 * n) Q (F0 m pc ls st)
/-- from pc on, in the state σ, the body does what o says -/
def Sm (X : kX) (nL n pc : Nat) (lv : List (Nat × Value)) (st : List Value) (σ : kS) (o : Option kR) : Prop := ∀ u, o = some u → kW X nL n pc lv st σ (X.2.2 u)
def kOk (X : kX) (cc : ByteArray) (own : String) (nL : Nat) : Prop := match X with
  | ((p, l, e, R, s, m, args, below, meth, c), E, _) => p.tables.exec = Jvm.exec ∧ c.code = cc ∧ c.maxLocals = nL ∧ s.vm.findClass own = some m.cls ∧ (∀ w ∈ kTB, w.before args s = true) ∧ kEs E s ∧ kZ E s s.heap ∧ kbase E ≤ s.heap.size ∧ kEj E ∧ kNorm E ∧ l.stackTraces = false ∧ meth.locks = false
/-- what is owed at the end of a method's body -/
def kEnd (X : kX) (ret : Option FieldType) (rv : Value → Value) (N : Nat) : Prop := match X with
  | ((p, l, e, R, s, m, args, below, meth, c), E, Q) => meth.sig.returnType = ret ∧ (∀ x ∈ c.exceptionTable.toList, False) ∧ ∀ u, Q u = vx_MQ below (kQ E rv u) (kXC E u) args s N (8 * N) (kA E)
