/-! THE MAKING: calls of constructors; the copy of the first numbers; a row filled. -/
theorem arrV_congr {c : ClassId} {N : Nat} {f g : Nat → Value} (h : ∀ j, j < N → f j = g j) : arrV c N f = arrV c N g := by
  unfold arrV
  congr 1
  congr 1
  funext j
  exact h j.val j.isLt
def bCw (own : String) (idx : Nat) (y : MethodName) (bytes : ByteArray) (maxL : Nat) : Prop := Cond.code y bytes maxL none ∈ kTB ∧ Cond.initialized y.cls ∈ kTB ∧ Cond.instanceMethod y ∈ kTB ∧ (y.cls ≠ "java/lang/invoke/MethodHandle" ∧ y.cls ≠ "java/lang/invoke/VarHandle") ∧ y = ⟨y.cls, "<init>", "()V"⟩ ∧ (Cond.methodLink own idx y ∈ kTB ∨ (own, idx, y.cls) ∈ bNl)
section BQ
variable {p : Program} {l : Launch} {e : Env} {R : Room} {s : State} {m : MethodId} {args : Array Value} {below : List Frame} {meth : Method} {c : Code} {H : Heap} {locs : List Loc} {cells slots : Nat} {Q : State → Prop} {E : kE} {cc : ByteArray} {own : String} {nL nc ns pc : Nat} {ls : Array Slot} {rest : List Value}
theorem bq_np {y : MethodName} (h : y = ⟨y.cls, "<init>", "()V"⟩) : ∀ sig, parseMethodDescriptor y.desc = some sig → 0 = sig.parameters.length := by
  intro sig hs
  have e1 : y.desc = "()V" := by rw [h]
  rw [e1] at hs
  have e2 : (parseMethodDescriptor "()V").map (fun d => d.parameters.length) = some 0 := by decide +kernel
  rw [hs] at e2
  exact (Option.some.inj e2).symm
/-- the run of a constructor, from the words of the tables -/
theorem bq_run {fr0 lo0 mc ms fr lo mc2 ms2 idx maxL x h2 ci2 kk : Nat} {y : MethodName} {bytes : ByteArray} {V2 : Nat → Value} {Vf : Nat → Nat → Value} {g : Nat → Nat → bC} (hk : bOk (p, l, e, bRm fr0 lo0 mc ms, s, m, args, below, meth, c) E cc own nL) (hM : bMet l E y bytes maxL fr lo mc2 ms2 ci2 V2 Vf g kk) (d : decode cc pc = .ok (.invokespecial idx, 3)) (hcw : bCw own idx y bytes maxL) (hR : fr + 1 ≤ fr0 ∧ 8 + (maxL + 11) + lo ≤ lo0) (hN : nc + mc2 ≤ mc ∧ ns + ms2 ≤ ms) (hcat : (rest.map fun v => v.category).sum ≤ 8) (hls : ls.size = nL)
    (hx : bAt E x (.inl (ci2, V2)) H) (hxh : x < h2 ∧ kbase E ≤ x) (hsz : H.size = h2) (hS : va_S (kA E) s.heap H locs) : va_Run p l e (bRm fr0 lo0 mc ms) s m args below meth c H locs nc ns mc2 ms2 (F0 m pc ls (.ref x :: rest)) rest (bQc E x h2 ci2 (Vf h2) (g h2) kk #[.ref x]) (fun q => q = x ∨ h2 ≤ q) := by
  obtain ⟨hx9, hb, hml, hown, hts, hEs, hZ, hF, hNw, hlk⟩ := hk
  obtain ⟨w1, w2, w3, w4, w5, w6⟩ := hcw
  have hp : PreS s H (bPc E x h2 ci2 V2) (.ref x :: []) := ⟨bPc.blind, fun U hU hW => ⟨rfl, hEs.moved hW.alike, by rw [hU]; exact hZ.go hW hS, hF.moved hW.alike, hNw.warm hW, hxh, by rw [hU]; exact hsz, by rw [hU]; exact hx⟩⟩
  have hyn : y.name = "<init>" := by rw [w5]
  rcases w6 with w6 | w6
  · exact va_runI (Ts := kTB) (As := []) (b := x) (bytes := bytes) (maxL := maxL) ⟨hx9, hb, hml, hown, hts⟩ (hM x h2) ⟨⟨rfl, rfl, hR.1, hR.2, kWs hts w1, List.mem_cons_self, hts _ w1, hts _ w2, w4, bq_np w5, hts _ w6⟩, hyn, hts _ w3⟩ hp rfl rfl hls rfl (lv_room hcat) d hN
  · have hnw := hNw.1 _ w6
    have ey : (⟨y.cls, "<init>", "()V"⟩ : MethodName) = y := w5.symm
    have hnw : va_Nw (.methodLinkNest own idx y "MastSparks") s := by rw [← ey]; exact hnw
    exact va_runIN (Ts := kTB) (As := []) (b := x) (bytes := bytes) (maxL := maxL) (host := "MastSparks") ⟨hx9, hb, hml, hown, hts⟩ (hM x h2) ⟨⟨⟨rfl, rfl, hR.1, hR.2, kWs hts w1, List.mem_cons_self⟩, hts _ w1, hts _ w2, w4, bq_np w5, va_Nw.use rfl hnw⟩, hyn, hts _ w3⟩ hp rfl rfl hls rfl (lv_room hcat) d hN
end BQ
section BR2
variable {C : kC} {E : kE} {Q : State → Prop} {cc : ByteArray} {own : String} {nL nc ns pc : Nat} {lv : List (Nat × Value)} {rest : List Value} {a ci : Nat} {V : Nat → Value} {h : Nat} {f : Nat → bC} {K : Nat}
/-- a constructor runs on the cell i -/
theorem b_init {l0 : Launch} {fr0 lo0 mc ms fr lo mc2 ms2 idx maxL i ci2 kk : Nat} {y : MethodName} {bytes : ByteArray} {V2 : Nat → Value} {Vf : Nat → Nat → Value} {g : Nat → Nat → bC} (hk : bOk C E cc own nL) (hl0 : C.2.1 = l0) (hro : bRo C fr0 lo0 mc ms) (hM : bMet l0 E y bytes maxL fr lo mc2 ms2 ci2 V2 Vf g kk) (d : decode cc pc = .ok (.invokespecial idx, 3)) (hi : i < K) (hf : f i = .inl (ci2, V2)) (hcw : bCw own idx y bytes maxL) (hR : fr + 1 ≤ fr0 ∧ 8 + (maxL + 11) + lo ≤ lo0) (hN : nc + mc2 ≤ mc ∧ ns + ms2 ≤ ms) (hcat : (rest.map fun v => v.category).sum ≤ 8)
    (k : bS C E nL (nc + mc2) (ns + ms2) (pc + 3) lv rest a ci V h (bA (bU f i (.inl (ci2, Vf (h + K)))) K (g (h + K))) (K + kk) Q) : bS C E nL nc ns pc lv (.ref (h + i) :: rest) a ci V h f K Q := by
  obtain ⟨p, l, e, R, s, m, args, below, meth, c⟩ := C
  have hro : R = bRm fr0 lo0 mc ms := hro
  subst hro
  have hl0 : l = l0 := hl0
  subst hl0
  intro H locs ls hT hh hL hS hl
  have h1 := hL.2 i hi
  rw [hf] at h1
  have run := bq_run (ls := ls) (rest := rest) (x := h + i) (h2 := h + K) hk hM d hcw hR hN hcat hl.1 h1 ⟨by omega, by omega⟩ hL.1 (hS.mono (fun q hq => by show kbase E ≤ q; omega))
  intro T hTT X
  obtain ⟨v, st₀, t, T', L, h0, X', hLf, e1, e2, ⟨hv, q1, q2, q3⟩, st⟩ := run T hTT X
  have hv : v = none := Outcome.returned.inj hv
  subst hv
  rw [← e1] at q1 q2
  have q4 : ∀ q, q < h + K → q ≠ h + i → T'.heap[q]? = H[q]? := fun q z1 z2 => by
    have := q3.2 q (by rw [h0, hL.1]; exact z1) (fun z => by rcases z with z | z <;> omega)
    rw [e1, this, h0]
  have hz : T'.heap.size = h + K + kk := q2.1
  have w := k T'.heap (locs ++ L) ls (hT.kept (q4 a (by omega) (by omega))) hh (bL.app hz (fun j hj => ?_) (fun j hj => q2.2 j hj)) ⟨?_, fun q z1 z2 => ?_, ?_⟩ hl T' rfl X'
  · obtain ⟨t2, a1, b1⟩ := w
    exact ⟨t2, st t2 a1, b1⟩
  · by_cases q : j = i
    · subst q
      show bAt E (h + j) (if j = j then _ else f j) T'.heap
      rw [if_pos rfl]
      exact q1
    · show bAt E (h + j) (if j = i then _ else f j) T'.heap
      rw [if_neg q]
      exact (hL.2 j hj).kept (q4 _ (by omega) (by omega))
  · have := hS.1
    have := hL.1
    omega
  · have z3 : q < H.size := Nat.lt_of_lt_of_le z1 hS.1
    have z4 := hS.2.1 q z1 z2
    rw [q4 q (by rw [← hL.1]; exact z3) (fun z => z2 (Or.inr (by omega))), z4]
  · intro q hq
    rcases List.mem_append.mp hq with z | z
    · exact hS.2.2 q z
    · rcases hLf q z with z | z
      · exact Or.inr (by rw [z]; exact Nat.le_add_right h i)
      · exact Or.inr (Nat.le_trans (Nat.le_add_right h K) z)
/-- a constructor runs on the object at a -/
theorem b_initT {l0 : Launch} {fr0 lo0 mc ms fr lo mc2 ms2 idx maxL kk : Nat} {y : MethodName} {bytes : ByteArray} {V2 : Nat → Value} {Vf : Nat → Nat → Value} {g : Nat → Nat → bC} (hk : bOk C E cc own nL) (hl0 : C.2.1 = l0) (hro : bRo C fr0 lo0 mc ms) (hM : bMet l0 E y bytes maxL fr lo mc2 ms2 ci V2 Vf g kk) (d : decode cc pc = .ok (.invokespecial idx, 3)) (hV : V = V2) (hcw : bCw own idx y bytes maxL) (hR : fr + 1 ≤ fr0 ∧ 8 + (maxL + 11) + lo ≤ lo0) (hN : nc + mc2 ≤ mc ∧ ns + ms2 ≤ ms) (hcat : (rest.map fun v => v.category).sum ≤ 8)
    (k : bS C E nL (nc + mc2) (ns + ms2) (pc + 3) lv rest a ci (Vf (h + K)) h (bA f K (g (h + K))) (K + kk) Q) : bS C E nL nc ns pc lv (.ref a :: rest) a ci V h f K Q := by
  obtain ⟨p, l, e, R, s, m, args, below, meth, c⟩ := C
  have hro : R = bRm fr0 lo0 mc ms := hro
  subst hro
  have hl0 : l = l0 := hl0
  subst hl0
  subst hV
  intro H locs ls hT hh hL hS hl
  have run := bq_run (ls := ls) (rest := rest) (x := a) (h2 := h + K) hk hM d hcw hR hN hcat hl.1 hT ⟨by omega, by omega⟩ hL.1 (hS.mono (fun q hq => by show kbase E ≤ q; omega))
  intro T hTT X
  obtain ⟨v, st₀, t, T', L, h0, X', hLf, e1, e2, ⟨hv, q1, q2, q3⟩, st⟩ := run T hTT X
  have hv : v = none := Outcome.returned.inj hv
  subst hv
  rw [← e1] at q1 q2
  have q4 : ∀ q, q < h + K → q ≠ a → T'.heap[q]? = H[q]? := fun q z1 z2 => by
    have := q3.2 q (by rw [h0, hL.1]; exact z1) (fun z => by rcases z with z | z <;> omega)
    rw [e1, this, h0]
  have hz : T'.heap.size = h + K + kk := q2.1
  have w := k T'.heap (locs ++ L) ls q1 hh (bL.app hz (fun j hj => (hL.2 j hj).kept (q4 _ (by omega) (by omega))) (fun j hj => q2.2 j hj)) ⟨?_, fun q z1 z2 => ?_, ?_⟩ hl T' rfl X'
  · obtain ⟨t2, a1, b1⟩ := w
    exact ⟨t2, st t2 a1, b1⟩
  · have := hS.1
    have := hL.1
    omega
  · have z3 : q < H.size := Nat.lt_of_lt_of_le z1 hS.1
    have z4 := hS.2.1 q z1 z2
    rw [q4 q (by rw [← hL.1]; exact z3) (fun z => z2 (Or.inl z)), z4]
  · intro q hq
    rcases List.mem_append.mp hq with z | z
    · exact hS.2.2 q z
    · rcases hLf q z with z | z
      · exact Or.inl z
      · exact Or.inr (Nat.le_trans (Nat.le_add_right h K) z)
def bNil : Nat → bC := fun _ => .inl (0, fun _ => .null)
/-- a constructor's contract, from the walk of its body -/
theorem b_met {l : Launch} {y : MethodName} {maxL fr lo mc ms kk : Nat} {V0 : Nat → Value} {Vf : Nat → Nat → Value} {g : Nat → Nat → bC} (hy : plainName y.cls = true) (hyn : y.name = "<init>") (hlen : 1 ≤ maxL)
    (body : ∀ (C : kC) (Q : State → Prop) (a h : Nat), bOk C E cc y.cls maxL → C.2.1 = l → C.2.2.2.2.2.2.2.2.1.name = "<init>" → C.2.2.2.2.2.2.2.2.1.sig.returnType = none → bRo C fr lo mc ms → (match C with | (p, l, e, R, s, m, args, below, meth, c) => Q = MQ below (bQc E a h ci (Vf h) (g h) kk) args s mc ms (fun q => q = a ∨ h ≤ q)) → bS C E maxL 0 0 0 [(0, .ref a)] [] a ci V0 h bNil 0 Q) : bMet l E y cc maxL fr lo mc ms ci V0 Vf g kk := by
  intro a h
  refine Met.ofW (cc := cc) (maxL := maxL) (ret := none) hy rfl ?_
  intro p e s m args below meth c s₁ B hml hv
  obtain ⟨rfl, hEs, hZ, hF, hNw, hah, hsz, hT⟩ := hv
  have hts0 := atoms_spec (ws := .code y cc maxL none :: kTB) B.pre
  have hw := body (p, l, e, bRm fr lo mc ms, s, m, ([Value.ref a] : List Value).toArray, below, meth, c) _ a h ⟨B.exec, B.bytes, hml, findClass_of_methodNamed B.named, fun w hw => hts0 w (List.mem_cons_of_mem _ hw), hEs, hZ, hF, hNw, B.notSynchronized⟩ rfl ((name_of_methodNamed B.named B.method).1.trans hyn) B.returns rfl rfl s.heap [] ((lg_sl [Value.ref a] ++ List.replicate (maxL - (lg_sl [Value.ref a]).length) Slot.unset).toArray) hT hah ⟨by omega, fun j hj => absurd hj (Nat.not_lt_zero j)⟩ va_S.rf (lv_entry [Value.ref a] hlen)
  rw [show (#[Value.ref a] : Array Value) = ([Value.ref a] : List Value).toArray from rfl, lg_entry_eq]
  exact hw
theorem b_getz {t idx : Nat} (hk : bOk C E cc own nL) (d : decode cc pc = .ok (.getstatic idx, 3)) (ht : t < 3) (hq : (own, idx, kZn t) ∈ kFnL) (k : bS C E nL nc ns (pc + 3) lv (.ref (kz E t) :: rest) a ci V h f K Q) : bS C E nL nc ns pc lv rest a ci V h f K Q := by
  obtain ⟨p, l, e, R, s, m, args, below, meth, c⟩ := C
  obtain ⟨hx, hb, hml, hown, hts, hEs, hZ, hF, hNw, hlk⟩ := hk
  intro H locs ls hT hh hL hS hl
  exact va_getsN hx hb (hZ.1 t ht).1 (hS.mono (fun q hq => by show kbase E ≤ q; omega)) hown (va_Nw.use rfl (hZ.2.2.2.2.2.2.2.2.1 _ hq)) (fun x h => h) d (k H locs ls hT hh hL hS hl)
end BR2
section BW
variable {p : Program} {l : Launch} {e : Env} {R : Room} {s : State} {m : MethodId} {args : Array Value} {below : List Frame} {meth : Method} {c : Code} {H : Heap} {locs : List Loc} {cells slots : Nat} {Q : State → Prop}
variable {cc : ByteArray} {pc : Nat} {ls : Array Slot} {rest : List Value}
/-- a table's first n ints into a row -/
theorem bw_copy (hexec : p.tables.exec = Jvm.exec) (hb : c.code = cc) (hml : c.maxLocals = ls.size) {own : String} {index : Nat} (hown : s.vm.findClass own = some m.cls) (hlink : (Cond.methodLink own index arraycopyName).before args s = true) (hnat : (Cond.native arraycopyName).before args s = true) (hstat : (Cond.static arraycopyName).before args s = true) (hini : (Cond.initialized "java/lang/System").before args s = true)
    {a0 a : Nat} {c1 : ClassId} {cs : Cell} {n0 n1 : Nat} {f g : Nat → Int32} (hc0 : H[a0]? = some cs) (hA0 : s.isArrayOf cs .int) (hkn : cs.vm ≠ .unknown) (hsz : n0 ≤ cs.slots.size) (hcs : ∀ j, j < n0 → cs.slots[j]? = some (.int (f j))) (hc1 : H[a]? = some (arrV c1 n1 (fun j => .int (g j)))) (hA1 : ArrOfT s c1 .int)
    {n : Int32} (h3 : ¬ n < 0) (h4 : n.toNatClampNeg ≤ n0) (h5 : n.toNatClampNeg ≤ n1)
    (hframes : 1 ≤ R.frames) (hlocals : (rest.map fun v => v.category).sum + (nativeFrameWords "java/lang/System" "arraycopy" 5 + 11) ≤ R.locals) (hdg : decode cc pc = .ok (.invokestatic index, 3))
    (kk : ∀ (H1 : Heap) (locs1 : List Loc), H1[a]? = some (arrV c1 n1 (fun j => .int (va_cpy f g 0 0 n.toNatClampNeg j))) → H1.size = H.size → (∀ q : Nat, q ≠ a → H1[q]? = H[q]?) → (∀ z ∈ locs1, z ∈ locs ∨ z.base = a) → W p l e R s m args below meth c H1 locs1 cells slots Q (F0 m (pc + 3) ls rest)) : W p l e R s m args below meth c H locs cells slots Q (F0 m pc ls (.int n :: .int 0 :: .ref a :: .int 0 :: .ref a0 :: rest)) := by
  have nn : ∀ z : Int32, ¬ z < 0 → z.toInt = (z.toNatClampNeg : Int) := by
    intro z hz
    have hz0 : (0 : Int) ≤ z.toInt := by
      have := Int32.not_lt.mp hz
      simpa using Int32.le_iff_toInt_le.mp this
    show z.toInt = ((z.toInt.toNat : Nat) : Int)
    omega
  intro T hT X
  obtain ⟨hobj, k0, hk0, cm0, hkk0⟩ := hA0
  obtain ⟨-, k1, hk1, cm1, hkk1⟩ := hA1 n1 (fun j => .int (g j))
  obtain ⟨vm', X', step⟩ := X.arraycopy hexec hown hlink hnat hstat hini (src := a0) (dst := a) (cs := cs) (cd := arrV c1 n1 (fun j => .int (g j))) (srcPos := 0) (destPos := 0) (n := n) (by rw [hT]; exact hc0) (by rw [hT]; exact hc1)
    hobj (fun _ h => by cases h) hkn (fun h => by cases h) hk0 hk1 hkk0 hkk1 (by simp [refKind]) (by decide) (by decide) h3
    (by rw [nn n h3]; show ¬ (0 : Int) + _ > _; omega)
    (by rw [nn n h3, arrV_size]; show ¬ (0 : Int) + _ > _; omega)
    (fun vm₁ _ i hi => by
      have e9 : cs.slots.getD ((0 : Int32).toNatClampNeg + i) .null = .int (f i) := by
        rw [show (0 : Int32).toNatClampNeg = 0 from rfl, Nat.zero_add, Array.getD_eq_getD_getElem?, hcs i (by omega)]
        rfl
      refine ⟨?_, ?_⟩
      · rw [e9]
        rfl
      · rw [e9]
        exact trivial)
    (g := F0 m pc ls (.int n :: .int 0 :: .ref a :: .int 0 :: .ref a0 :: rest)) rfl (by rw [hml]) (rest := rest) rfl (by rw [hb]; exact hdg) hframes (by show 2 * 0 + _ + _ ≤ _; omega)
  have e1 : copied cs (arrV c1 n1 (fun j => .int (g j))) 0 0 n = arrV c1 n1 (fun j => .int (va_cpy f g 0 0 n.toNatClampNeg j)) := va_copiedX (fun z => .int z) cs c1 f g hcs (by show 0 + n.toNatClampNeg ≤ n0; omega)
  rw [e1] at X' step
  have hl : a < H.size := (Array.getElem?_eq_some_iff.mp hc1).1
  obtain ⟨t, a1, b1⟩ := kk (H.setIfInBounds a (arrV c1 n1 (fun j => .int (va_cpy f g 0 0 n.toNatClampNeg j)))) _ (by simp [Array.getElem?_setIfInBounds, hl]) (by simp) (fun q hq => by simp [Array.getElem?_setIfInBounds, Ne.symm hq]) (fun z hz => by
      rcases List.mem_append.mp hz with h | h
      · exact Or.inl h
      · obtain ⟨y, -, hy⟩ := List.mem_map.mp h
        rw [← hy]
        exact Or.inr rfl) _ (by rw [← hT]; rfl) X'
  exact ⟨t, step t a1, b1⟩
/-- Arrays.fill of a row of ints, from its loop's head -/
theorem bw_fill {x : Int32} {q len : Nat} {cI : ClassId} {W0 : Nat → Value} (hx : p.tables.exec = Jvm.exec) (hb : c.code = cJ7_fill_53178) (hr : meth.sig.returnType = none) (hlk : meth.locks = false) (hA : ArrOfT s cI .int) (hlen : len < 1000) {Qc : Array Value → State → Outcome → State → Prop} (hQ : ∀ (H' : Heap), H'[q]? = some (arrV cI len (fun _ => .int x)) → H'.size = H.size → (∀ z, z ≠ q → H'[z]? = H[z]?) → ∀ t : State, t.heap = H' → Qc args s (.returned none) t) : ∀ (n i : Nat), i + n = len → ∀ (H' : Heap) (locs' : List Loc) (ls' : Array Slot), H'[q]? = some (arrV cI len (fun k => if k < i then .int x else W0 k)) → H'.size = H.size → (∀ z, z ≠ q → H'[z]? = H[z]?) → (∀ z ∈ locs', z.base = q) → lv_has ls' 4 [(0, .ref q), (1, .int x), (2, .int (nI i)), (3, .int (nI len))] → W p l e R s m args below meth c H' locs' 0 0 (MQ below Qc args s 0 0 (fun z => z = q)) (F0 m 5 ls' []) := by
  intro n
  induction n with
  | zero =>
    intro i hi H' locs' ls' h1 h2 h3 h4 hl
    refine lv_iload_n hx hb dJ7_fill_53178_5 rfl (lv_at hl 2 rfl) ?_
    refine lv_iload_n hx hb dJ7_fill_53178_6 rfl (lv_at hl 3 rfl) ?_
    have ei : i = len := by omega
    subst ei
    refine lv_icmp_ge hx hb dJ7_fill_53178_7 (tgt := 20) (by decide) (fun _ => ?_) (fun z => absurd (Int32.le_refl _) z)
    refine W.vret hx hb hr (fun t ht _ => hQ H' ?_ h2 h3 t ht) h4 dJ7_fill_53178_20 hlk
    rw [h1]
    exact congrArg some (arrV_congr (fun j hj => if_pos hj))
  | succ n ih =>
    intro i hi H' locs' ls' h1 h2 h3 h4 hl
    refine lv_iload_n hx hb dJ7_fill_53178_5 rfl (lv_at hl 2 rfl) ?_
    refine lv_iload_n hx hb dJ7_fill_53178_6 rfl (lv_at hl 3 rfl) ?_
    refine lv_icmp_ge hx hb dJ7_fill_53178_7 (tgt := 20) (by decide) (fun z => ?_) (fun _ => ?_)
    · exfalso
      have z2 := Int32.le_iff_toInt_le.mp z
      rw [nI_toInt (by omega), nI_toInt (by omega)] at z2
      omega
    · refine lv_aload_n hx hb dJ7_fill_53178_10 rfl (lv_at hl 0 rfl) ?_
      refine lv_iload_n hx hb dJ7_fill_53178_11 rfl (lv_at hl 2 rfl) ?_
      refine lv_iload_n hx hb dJ7_fill_53178_12 rfl (lv_at hl 1 rfl) ?_
      have hin : kin (nI i) len := by
        show 0 ≤ (nI i).toInt ∧ (nI i).toInt < (len : Int)
        rw [nI_toInt (by omega)]
        omega
      refine W.iast hx hb h1 (hA len _) (fun q => by cases q) (by rw [arrV_size]; exact kin_vp hin) rfl rfl dJ7_fill_53178_13 (fun H2 e1 e2 e3 => ?_)
      rw [arrV_store, nI_clamp (by omega)] at e1
      refine lv_iinc (lv' := [(2, .int (nI (i + 1))), (0, .ref q), (1, .int x), (3, .int (nI len))]) hx hb dJ7_fill_53178_14 hl (show ([(0, .ref q), (1, .int x), (2, .int (nI i)), (3, .int (nI len))] : List (Nat × Value))[2]? = some (2, .int (nI i)) from rfl) (nI_succ i).symm (by decide) rfl (fun ls2 hl2 => ?_)
      refine lv_goto hx hb dJ7_fill_53178_17 (tgt := 5) rfl ?_
      refine ih (i + 1) (by omega) H2 _ ls2 ?_ (e2.trans h2) (fun z hz => (e3 z hz).trans (h3 z hz)) (fun z hz => ?_) (lv_sub hl2 [1, 2, 0, 3] rfl)
      · rw [e1]
        refine congrArg some (arrV_congr (fun j hj => ?_))
        show (if j = i then _ else if j < i then _ else _) = _
        by_cases hji : j = i
        · subst hji
          rw [if_pos rfl, if_pos (Nat.lt_succ_self _)]
        · rw [if_neg hji]
          by_cases hlt : j < i
          · rw [if_pos hlt, if_pos (by omega)]
          · rw [if_neg hlt, if_neg (by omega)]
      · rcases List.mem_append.mp hz with z1 | z1
        · exact h4 z z1
        · rw [List.mem_singleton] at z1
          subst z1
          rfl
end BW
