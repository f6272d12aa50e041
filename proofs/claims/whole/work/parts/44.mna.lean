/-! new int[n][k]: rows of ints below a row of references, one step of the machine. -/
def bG (T : State) (cA cI : ClassId) (N M : Nat) : Nat → State
  | 0 => T.pushCell (arrV cA N (fun _ => .null))
  | i + 1 => ((bG T cA cI N M i).pushCell (arrV cI M (fun _ => .int 0))).setCell T.heap.size (arrV cA N (fun j => if j < i + 1 then .ref (T.heap.size + 1 + j) else .null))
theorem bG_up (cA : ClassId) (N i q : Nat) : arrV cA N (updV (fun j => if j < i then Value.ref (q + 1 + j) else .null) i (.ref (q + 1 + i))) = arrV cA N (fun j => if j < i + 1 then .ref (q + 1 + j) else .null) := by
  refine arrV_congr (fun j hj => ?_)
  show (if j = i then Value.ref (q + 1 + i) else if j < i then Value.ref (q + 1 + j) else .null) = _
  by_cases z : j = i
  · subst z
    rw [if_pos rfl, if_pos (Nat.lt_succ_self j)]
  · rw [if_neg z]
    by_cases q2 : j < i
    · rw [if_pos q2, if_pos (by omega)]
    · rw [if_neg q2, if_neg (by omega)]
theorem bG_f (T : State) (cA cI : ClassId) (N M : Nat) : ∀ i, (bG T cA cI N M i).heap.size = T.heap.size + 1 + i ∧ (bG T cA cI N M i).heap[T.heap.size]? = some (arrV cA N (fun j => if j < i then .ref (T.heap.size + 1 + j) else .null)) ∧ (bG T cA cI N M i).vm = T.vm ∧ (bG T cA cI N M i).slotsUsed = T.slotsUsed + N + i * M ∧ (∀ a, a < T.heap.size → (bG T cA cI N M i).heap[a]? = T.heap[a]?) ∧ ∀ j, j < i → (bG T cA cI N M i).heap[T.heap.size + 1 + j]? = some (arrV cI M (fun _ => .int 0)) := by
  intro i
  induction i with
  | zero =>
    refine ⟨by simp [bG], ?_, rfl, by simp [bG, arrV], fun a ha => State.heap_pushCell_of_lt _ _ ha, fun j hj => absurd hj (Nat.not_lt_zero j)⟩
    show (T.pushCell _).heap[T.heap.size]? = _
    rw [State.heap_pushCell_size]
    exact congrArg some (arrV_congr (fun j _ => by rw [if_neg (Nat.not_lt_zero j)]))
  | succ i ih =>
    obtain ⟨i1, i2, i3, i4, i5, i6⟩ := ih
    have hlt : T.heap.size < (bG T cA cI N M i).heap.size := by rw [i1]; omega
    have hb : ((bG T cA cI N M i).pushCell (arrV cI M (fun _ => .int 0))).heap[T.heap.size]? = some (arrV cA N (fun j => if j < i then .ref (T.heap.size + 1 + j) else .null)) := by rw [State.heap_pushCell_of_lt (h := hlt)]; exact i2
    refine ⟨?_, State.heap_setCell_self hb, by simp [bG, i3], ?_, fun a ha => ?_, fun j hj => ?_⟩
    · simp [bG, State.setCell, i1]; omega
    · have e1 : (arrV cI M (fun _ => Value.int 0)).slots.size = M := arrV_size _ _ _
      simp [bG, i4, e1, Nat.succ_mul]; omega
    · show (((bG T cA cI N M i).pushCell _).setCell T.heap.size _).heap[a]? = _
      rw [State.heap_setCell_other (Nat.ne_of_gt ha), State.heap_pushCell_of_lt (h := Nat.lt_trans ha hlt)]
      exact i5 a ha
    · show (((bG T cA cI N M i).pushCell _).setCell T.heap.size _).heap[T.heap.size + 1 + j]? = _
      rw [State.heap_setCell_other (show T.heap.size ≠ T.heap.size + 1 + j by omega)]
      by_cases hji : j < i
      · have hl6 : T.heap.size + 1 + j < (bG T cA cI N M i).heap.size := by rw [i1]; omega
        rw [State.heap_pushCell_of_lt (h := hl6)]
        exact i6 j hji
      · have e : j = i := by omega
        subst e
        rw [← i1]
        exact State.heap_pushCell_size _ _
theorem bG_top (T : State) (g : JFrame) (cA cI : ClassId) (N M : Nat) : ∀ i, bG (T.setTop g) cA cI N M i = (bG T cA cI N M i).setTop g := by
  intro i
  induction i with
  | zero => rfl
  | succ i ih => simp only [bG, ih, State.heap_setTop, State.pushCell_setTop, State.setCell_setTop]
section BG
variable {p : Program} {l : Launch} {e : Env} {R : Room} {s : State} {m : MethodId} {args : Array Value} {below : List Frame} {meth : Method} {c : Code} {T : State} {H : Heap} {locs : List Loc} {cells slots : Nat} {Q : State → Prop}
theorem bG_stand (X : Stand p l e R s m args below meth c T locs cells slots) (cA cI : ClassId) (N M : Nat) : ∀ i, Stand p l e R s m args below meth c (bG T cA cI N M i) (locs ++ (List.range i).map fun j => ⟨T.heap.size, j⟩) (cells + 1 + i) (slots + N + i * M) := by
  intro i
  induction i with
  | zero =>
    have h := X.pushed (arrV cA N (fun _ => .null))
    rw [arrV_size] at h
    simpa [bG] using h
  | succ i ih =>
    obtain ⟨i1, i2, i3, i4, i5, i6⟩ := bG_f T cA cI N M i
    have hl6 : T.heap.size < (bG T cA cI N M i).heap.size := by rw [i1]; omega
    have hcell : ((bG T cA cI N M i).pushCell (arrV cI M (fun _ => .int 0))).heap[T.heap.size]? = some (arrV cA N (fun j => if j < i then .ref (T.heap.size + 1 + j) else .null)) := by rw [State.heap_pushCell_of_lt (h := hl6)]; exact i2
    have h := (ih.pushed (arrV cI M (fun _ => .int 0))).stored hcell i (.ref (T.heap.size + 1 + i))
    rw [arrV_size, arrV_store] at h
    have e1 := bG_up cA N i T.heap.size
    rw [e1] at h
    have e2 : (locs ++ (List.range (i + 1)).map fun j => (⟨T.heap.size, j⟩ : Loc)) = (locs ++ (List.range i).map fun j => (⟨T.heap.size, j⟩ : Loc)) ++ [⟨T.heap.size, i⟩] := by simp [List.range_succ, List.append_assoc]
    rw [e2, show slots + N + (i + 1) * M = slots + N + i * M + M by rw [Nat.succ_mul]; omega]
    exact h
end BG
section BG2
variable {E : CtlPost} {e : Env} {d : Bool} {acts : List Action} {s : State}
theorem bG_arr {c comp : ClassId} {k : Class} {type : FieldType} {len : Nat} {init : Value} (hk : s.vm.classes[c]? = some k) (hkind : k.kind = .array comp type) (h3 : len ≤ e.platform.arrayLengthLimit) (h4 : len * componentBytes type ≤ e.platform.maxHeapBytes) (hfit : fits type init = true) (hdef : init.isDefault = true) {Q : Addr → Pre} (h1 : s.heap.size < e.platform.maxCells) (h2 : s.slotsUsed + len ≤ e.platform.maxSlots) (hq : Q s.heap.size d acts (s.pushCell (arrV c len (fun _ => init)))) : wp (Jvm.newArray c len init) Q E e d acts s := by
  rw [← arrV_new] at hq
  have hf : ∀ i v, (Array.replicate len init)[i]? = some v → s.fitsSlot c .none i v = true := by
    intro i v hv
    rw [Array.getElem?_replicate] at hv
    split at hv
    · cases hv
      simp [State.fitsSlot, State.slotType?, hk, hkind, hfit]
    · cases hv
  have ha : allocActs (Array.replicate len init) s.heap.size acts = acts := by
    have hall : ((Array.replicate len init).all (·.isDefault)) = true := by
      rw [Array.all_replicate]; split <;> simp [hdef]
    unfold allocActs
    rw [if_pos hall]
  simp only [Jvm.newArray, Jvm.arrayFits, wp_bind', W.ask, W.ite, Nat.not_lt.mpr h3, gt_iff_lt, if_false, wp_pure', W.theClass, hk, hkind, Nat.not_lt.mpr h4, W.alloc, W.stop, Option.some.injEq, exists_eq_left', Array.size_replicate, ha]
  rw [if_neg (by omega)]
  exact ⟨h1, h2, hf, hq⟩
/-- the model's making of n rows of k ints -/
theorem bG_make {cA cI cc : ClassId} {kA kI : Class} {n k : Int32} (hkA : s.vm.classes[cA]? = some kA) (hA : kA.kind = .array cI (.array .int)) (hkI : s.vm.classes[cI]? = some kI) (hI : kI.kind = .array cc .int) (hn : ¬ n < 0) (hk : ¬ k < 0) (hl1 : n.toNatClampNeg ≤ e.platform.arrayLengthLimit) (hh1 : n.toNatClampNeg * 4 ≤ e.platform.maxHeapBytes) (hl2 : k.toNatClampNeg ≤ e.platform.arrayLengthLimit) (hh2 : k.toNatClampNeg * componentBytes .int ≤ e.platform.maxHeapBytes) (hc : s.heap.size + 1 + n.toNatClampNeg ≤ e.platform.maxCells) (hs : s.slotsUsed + n.toNatClampNeg + n.toNatClampNeg * k.toNatClampNeg ≤ e.platform.maxSlots) {Q : Addr → Pre} (hq : ∀ d' acts', Q s.heap.size d' acts' (bG s cA cI n.toNatClampNeg k.toNatClampNeg n.toNatClampNeg)) : wp (multianewarray.make cA [n, k]) Q E e d acts s := by
  have hfind : ([k].find? (· < 0)) = none := by simp [hk]
  rw [multianewarray.make]
  simp only [wp_bind', W.ite, hn, if_false, wp_pure', W.theClass, hkA, hA, Option.some.injEq, exists_eq_left']
  refine bG_arr hkA hA hl1 hh1 rfl rfl (by omega) (by have := Nat.zero_le (n.toNatClampNeg * k.toNatClampNeg); omega) ?_
  simp only [hfind]
  rw [ite_self, wp_bind', Std.Legacy.Range.forIn_eq_forIn_range']
  have hsz : ([:n.toNatClampNeg] : Std.Legacy.Range).size = n.toNatClampNeg := by simp [Std.Legacy.Range.size]
  rw [hsz]
  show wp (forIn (List.range' 0 n.toNatClampNeg 1) PUnit.unit _) _ E e d acts _
  refine wp_forIn_inv (fun rest t => ∃ i, i ≤ n.toNatClampNeg ∧ rest = List.range' i (n.toNatClampNeg - i) ∧ t = bG s cA cI n.toNatClampNeg k.toNatClampNeg i) _ _ ⟨0, Nat.zero_le _, rfl, rfl⟩ ?_ ?_
  · rintro x rest t d' acts' Q' ⟨i, hi, hl, rfl⟩ hnext
    by_cases hlt : i < n.toNatClampNeg
    · rw [show n.toNatClampNeg - i = (n.toNatClampNeg - (i + 1)) + 1 by omega, List.range'_succ] at hl
      obtain ⟨rfl, hrest⟩ := List.cons.inj hl
      obtain ⟨i1, i2, i3, i4, i5, i6⟩ := bG_f s cA cI n.toNatClampNeg k.toNatClampNeg x
      have hmul : x * k.toNatClampNeg + k.toNatClampNeg ≤ n.toNatClampNeg * k.toNatClampNeg := by
        have := Nat.mul_le_mul_right k.toNatClampNeg (show x + 1 ≤ n.toNatClampNeg from hlt)
        rw [Nat.succ_mul] at this
        exact this
      simp only [wp_bind']
      rw [multianewarray.make]
      simp only [wp_bind', W.ite, hk, if_false, wp_pure', W.theClass, i3, hkI, hI, Option.some.injEq, exists_eq_left']
      refine bG_arr (by rw [i3]; exact hkI) hI hl2 hh2 rfl rfl (by rw [i1]; omega) (by rw [i4]; omega) ?_
      have hlt0 : s.heap.size < (bG s cA cI n.toNatClampNeg k.toNatClampNeg x).heap.size := by rw [i1]; omega
      simp only [wp_bind', W.writeLoc, wp_pure']
      refine ⟨_, (by rw [State.heap_pushCell_of_lt (h := hlt0)]; exact i2), fun h => (by cases h), by rw [arrV_size]; exact hlt, ?_, hnext _ _ _ ⟨x + 1, hlt, hrest, ?_⟩⟩
      · show State.fitsSlot _ cA .none x _ = true
        simp [State.fitsSlot, State.slotType?, i3, hkA, hA, fits]
      · rw [arrV_store, i1, bG_up]
        rfl
    · rw [show n.toNatClampNeg - i = 0 by omega] at hl
      simp at hl
  · rintro t d' acts' ⟨i, hi, hl, rfl⟩
    have hiN : i = n.toNatClampNeg := by
      by_cases h : i < n.toNatClampNeg
      · rw [show n.toNatClampNeg - i = (n.toNatClampNeg - (i + 1)) + 1 by omega, List.range'_succ] at hl
        cases hl
      · omega
    subst hiN
    simp only [wp_pure']
    exact hq _ _
end BG2
section BG3
variable {p : Program} {l : Launch} {e : Env} {R : Room} {s : State} {m : MethodId} {args : Array Value} {below : List Frame} {meth : Method} {c : Code} {T : State} {H : Heap} {locs : List Loc} {cells slots : Nat} {Q : State → Prop} {cc : ByteArray} {pc : Nat} {ls : Array Slot} {rest : List Value}
theorem bw_mna (hexec : p.tables.exec = Jvm.exec) (hb : c.code = cc) {own : String} {index : Nat} (hown : s.vm.findClass own = some m.cls) (hclink : (Cond.classLink own index "[[I").before args s = true) {cA cI c9 : ClassId} {kA kI : Class} (hfA : s.vm.findClass "[[I" = some cA) (hkA : s.vm.classes[cA]? = some kA) (hA : kA.kind = .array cI (.array .int)) (hkI : s.vm.classes[cI]? = some kI) (hI : kI.kind = .array c9 .int)
    (hdg : decode cc pc = .ok (.multianewarray index 2, 4)) {n k : Int32} {N M : Nat} (hn : ¬ n < 0) (hk : ¬ k < 0) (hN : n.toNatClampNeg = N) (hM : k.toNatClampNeg = M) (hb1 : N ≤ 100000) (hb2 : M ≤ 100000) (hcells : cells + (1 + N) ≤ R.cells) (hslots : slots + (N + N * M) ≤ R.slots)
    (kk : ∀ H1 : Heap, H1.size = H.size + 1 + N → H1[H.size]? = some (arrV cA N (fun j => .ref (H.size + 1 + j))) → (∀ a, a < H.size → H1[a]? = H[a]?) → (∀ j, j < N → H1[H.size + 1 + j]? = some (arrV cI M (fun _ => .int 0))) → W p l e R s m args below meth c H1 (locs ++ (List.range N).map fun j => ⟨H.size, j⟩) (cells + 1 + N) (slots + N + N * M) Q (F0 m (pc + 4) ls (.ref H.size :: rest))) : W p l e R s m args below meth c H locs cells slots Q (F0 m pc ls (.int k :: .int n :: rest)) := by
  subst hN
  subst hM
  subst hb
  intro T hT X
  subst hT
  have hpl : e.platform.magicAccessors = ({} : Platform).magicAccessors := by rw [X.admits.platform]
  obtain ⟨c0, hfc0, hcl⟩ := Cond.classLink_spec hown hclink e.platform hpl
  cases hfA.symm.trans hfc0
  obtain ⟨hg₁, hwarm₁, hready₁⟩ := State.classEntry (e := e) X.warmed hcl
  generalize T.vm.noted m.cls index (.cls cA) = vm₁ at hg₁ hwarm₁ hready₁
  obtain ⟨kA₁, hkA₁, heA⟩ := hwarm₁.alike.2.2 _ _ hkA
  obtain ⟨kI₁, hkI₁, heI⟩ := hwarm₁.alike.2.2 _ _ hkI
  have hA₁ : kA₁.kind = .array cI (.array .int) := by rw [heA]; exact hA
  have hI₁ : kI₁.kind = .array c9 .int := by rw [heI]; exact hI
  have X₁ := X.noted hwarm₁
  obtain ⟨hr1, hr2⟩ := X.roomAbove hcells hslots
  have XF := bG_stand X₁ cA cI n.toNatClampNeg k.toNatClampNeg n.toNatClampNeg
  obtain ⟨i1, i2, i3, i4, i5, i6⟩ := bG_f (T.setVm vm₁) cA cI n.toNatClampNeg k.toNatClampNeg n.toNatClampNeg
  have w := kk (bG (T.setVm vm₁) cA cI n.toNatClampNeg k.toNatClampNeg n.toNatClampNeg).heap i1 (by rw [show T.heap.size = (T.setVm vm₁).heap.size from rfl, i2]; exact congrArg some (arrV_congr (fun j hj => if_pos hj))) i5 i6 _ rfl XF
  obtain ⟨t, a1, b1⟩ := w
  refine ⟨t, ?_, b1⟩
  have h1 : n.toNatClampNeg ≤ e.platform.arrayLengthLimit := by rw [Launch.admits_arrayLengthLimit X.admits]; omega
  have h2 : n.toNatClampNeg * 4 ≤ e.platform.maxHeapBytes := by rw [Launch.admits_maxHeapBytes X.admits]; omega
  have h3 : k.toNatClampNeg ≤ e.platform.arrayLengthLimit := by rw [Launch.admits_arrayLengthLimit X.admits]; omega
  have h4 : k.toNatClampNeg * componentBytes .int ≤ e.platform.maxHeapBytes := by rw [Launch.admits_maxHeapBytes X.admits]; show k.toNatClampNeg * 4 ≤ 536870912; omega
  have hdg' : decode c.code (F0 m pc ls (.int k :: .int n :: rest)).pc = .ok (.multianewarray index 2, 4) := hdg
  generalize hgf : F0 m pc ls (.int k :: .int n :: rest) = g at hdg' ⊢
  have hgm : g.method = m := by rw [← hgf]
  have hgs : g.stack = .int k :: .int n :: rest := by rw [← hgf]
  have hge : F0 m (pc + 4) ls (.ref T.heap.size :: rest) = { g with pc := g.pc + 4, stack := .ref T.heap.size :: rest } := by rw [← hgf]
  rw [hge] at a1
  subst hgm
  jvm_step X.here [hexec, hdg']
  simp only [multianewarray.sem, wp_bind', W.resolveClassAt_links (State.method?_setTop g X.here.top) hg₁]
  rw [W.popN, if_neg (by decide)]
  refine ⟨g, State.topJava?_setTop' (s := T.setVm vm₁) g X.here.top, [.int n, .int k], rest, rfl, hgs, ?_⟩
  simp only [List.mapM_cons, List.mapM_nil, wp_bind', wp_pure']
  refine bG_make (cc := c9) hkA₁ hA₁ hkI₁ hI₁ hn hk h1 h2 h3 h4 (by show T.heap.size + 1 + _ ≤ _; omega) (by show T.slotsUsed + _ + _ ≤ _; omega) (fun d' acts' => ?_)
  have eS : ((T.setTop g).setVm vm₁).setTop { g with stack := rest } = (T.setVm vm₁).setTop { g with stack := rest } := by
    show ((T.setVm vm₁).setTop g).setTop _ = _
    rw [State.setTop_setTop]
  rw [eS, bG_top]
  simp only [wp_bind', W.mark, W.pushRef, State.topJava?_setTop' _ XF.here.top, Option.some.injEq, exists_eq_left', State.setTop_setTop, State.heap_setTop]
  intro acts
  simp [jvm, XF.here.top]
  exact a1
end BG3
def bM (E : kE) (q N M : Nat) : Nat → bC := fun j => if j = 0 then .inr (kcA E 51, N, fun i => .ref (q + 1 + i)) else .inr (kcA E 8, M, fun _ => .int 0)
section BG4
variable {C : kC} {E : kE} {Q : State → Prop} {cc : ByteArray} {own : String} {nL nc ns pc : Nat} {lv : List (Nat × Value)} {rest : List Value} {a ci : Nat} {V : Nat → Value} {h : Nat} {f : Nat → bC} {K : Nat}
theorem b_mna {fr lo mc ms N M idx : Nat} {n k : Int32} (hk : bOk C E cc own nL) (hro : bRo C fr lo mc ms) (d : decode cc pc = .ok (.multianewarray idx 2, 4)) (hcl : Cond.classLink own idx "[[I" ∈ kTB) (h8 : 0 < kcnt E 8) (hn : ¬ n < 0) (hk0 : ¬ k < 0) (hN : n.toNatClampNeg = N) (hM : k.toNatClampNeg = M) (b1 : N ≤ 100000) (b2 : M ≤ 100000) (hR : nc + (1 + N) ≤ mc ∧ ns + (N + N * M) ≤ ms)
    (kk : bS C E nL (nc + 1 + N) (ns + N + N * M) (pc + 4) lv (.ref (h + K) :: rest) a ci V h (bA f K (bM E (h + K) N M)) (K + (1 + N)) Q) : bS C E nL nc ns pc lv (.int k :: .int n :: rest) a ci V h f K Q := by
  obtain ⟨p, l, e, R, s, m, args, below, meth, c⟩ := C
  obtain ⟨hx, hb, hml, hown, hts, hEs, hZ, hF, hNw, hlk⟩ := hk
  have hro : R = bRm fr lo mc ms := hro
  subst hro
  intro H locs ls hT hh hL hS hl
  obtain ⟨kA, hkA, hA⟩ := hF.2
  obtain ⟨-, kI, hkI, c9, hI⟩ := hEs.2 8 .int 6 rfl h8 0 (fun _ => .null)
  have hkI : s.vm.classes[kcA E 8]? = some kI := hkI
  have hfA : s.vm.findClass "[[I" = some (kcA E 51) := hF.1 6 (by decide)
  refine bw_mna hx hb hown (hts _ hcl) hfA hkA hA hkI hI d hn hk0 hN hM b1 b2 hR.1 hR.2 (fun H1 e1 e2 e3 e4 => ?_)
  rw [hL.1] at e1 e2 e3 e4 ⊢
  refine kk H1 _ ls (hT.kept (e3 a (Nat.lt_of_lt_of_le hh.1 (Nat.le_add_right h K)))) hh (bL.app (by rw [e1]; omega) (fun j hj => (hL.2 j hj).kept (e3 _ (Nat.add_lt_add_left hj h))) (fun j hj => ?_)) ⟨?_, fun q z1 z2 => ?_, fun q hq => ?_⟩ hl
  · show bAt E (h + K + j) (if j = 0 then _ else _) H1
    by_cases z : j = 0
    · subst z
      rw [if_pos rfl]
      exact e2
    · rw [if_neg z]
      have e5 := e4 (j - 1) (by omega)
      rw [show h + K + 1 + (j - 1) = h + K + j by omega] at e5
      exact e5
  · have := hS.1
    have := hL.1
    omega
  · have z3 : q < h + K := by
      have := hS.1
      have := hL.1
      omega
    exact (e3 q z3).trans (hS.2.1 q z1 z2)
  · rcases List.mem_append.mp hq with z | z
    · exact hS.2.2 q z
    · obtain ⟨j, -, rfl⟩ := List.mem_map.mp z
      exact Or.inr (Nat.le_add_right h K)
end BG4
