/-! THE MAKING: what is made lies from the address h on, cell j of it at h + j; the object under construction at a. -/
abbrev bC : Type := (Nat × (Nat → Value)) ⊕ (ClassId × Nat × (Nat → Value))
def bAt (E : kE) (a : Nat) (x : bC) (H : Heap) : Prop := match x with
  | .inl (ci, V) => t_OB a (E.1.1 ci) (kNf ci) (E.1.2 ci) H V
  | .inr (cA, len, V) => H[a]? = some (arrV cA len V)
def bU {α : Type} (f : Nat → α) (j : Nat) (x : α) : Nat → α := fun i => if i = j then x else f i
def bA (f : Nat → bC) (K : Nat) (g : Nat → bC) : Nat → bC := fun i => if i < K then f i else g (i - K)
def bL (E : kE) (h : Nat) (f : Nat → bC) (K : Nat) (H : Heap) : Prop := H.size = h + K ∧ ∀ j, j < K → bAt E (h + j) (f j) H
theorem bAt.kept {E : kE} {a : Nat} {x : bC} {H H' : Heap} (h : bAt E a x H) (e : H'[a]? = H[a]?) : bAt E a x H' := by
  unfold bAt at h ⊢
  match x, h with
  | .inl (ci, V), h => exact t_OB.kept h e
  | .inr (cA, len, V), h => exact e.trans h
theorem bAt.lt {E : kE} {a : Nat} {x : bC} {H : Heap} (h : bAt E a x H) : a < H.size := by
  unfold bAt at h
  match x, h with
  | .inl (ci, V), h =>
    obtain ⟨cell, q, -⟩ := h
    exact (Array.getElem?_eq_some_iff.mp q).1
  | .inr (cA, len, V), h => exact (Array.getElem?_eq_some_iff.mp h).1
theorem bL.kept {E : kE} {h K : Nat} {f : Nat → bC} {H H' : Heap} (hL : bL E h f K H) (z : H'.size = H.size) (e : ∀ j, j < K → H'[h + j]? = H[h + j]?) : bL E h f K H' := ⟨z.trans hL.1, fun j hj => (hL.2 j hj).kept (e j hj)⟩
theorem bL.push {E : kE} {h K : Nat} {f : Nat → bC} {x : bC} {H H' : Heap} (hL : bL E h f K H) (z : H'.size = h + K + 1) (e : ∀ q, q < h + K → H'[q]? = H[q]?) (hx : bAt E (h + K) x H') : bL E h (bU f K x) (K + 1) H' := by
  refine ⟨by omega, fun j hj => ?_⟩
  by_cases q : j = K
  · subst q
    show bAt E (h + j) (if j = j then x else f j) H'
    rw [if_pos rfl]
    exact hx
  · show bAt E (h + j) (if j = K then x else f j) H'
    rw [if_neg q]
    exact (hL.2 j (by omega)).kept (e _ (by omega))
theorem bL.set {E : kE} {h K i : Nat} {f : Nat → bC} {x : bC} {H H' : Heap} (hL : bL E h f K H) (hi : i < K) (z : H'.size = H.size) (e : ∀ q, q ≠ h + i → H'[q]? = H[q]?) (hx : bAt E (h + i) x H') : bL E h (bU f i x) K H' := by
  refine ⟨z.trans hL.1, fun j hj => ?_⟩
  by_cases q : j = i
  · subst q
    show bAt E (h + j) (if j = j then x else f j) H'
    rw [if_pos rfl]
    exact hx
  · show bAt E (h + j) (if j = i then x else f j) H'
    rw [if_neg q]
    exact (hL.2 j hj).kept (e _ (by omega))
theorem bL.app {E : kE} {h K k2 : Nat} {f g : Nat → bC} {H : Heap} (z : H.size = h + K + k2) (h1 : ∀ j, j < K → bAt E (h + j) (f j) H) (h2 : ∀ j, j < k2 → bAt E (h + K + j) (g j) H) : bL E h (bA f K g) (K + k2) H := by
  refine ⟨by omega, fun j hj => ?_⟩
  by_cases q : j < K
  · show bAt E (h + j) (if j < K then f j else g (j - K)) H
    rw [if_pos q]
    exact h1 j q
  · show bAt E (h + j) (if j < K then f j else g (j - K)) H
    rw [if_neg q]
    have e := h2 (j - K) (by omega)
    rw [show h + K + (j - K) = h + j by omega] at e
    exact e
def bg (t : Nat) : Nat := [8, 9, 1, 3, 5, 7, 51].getD t 8
def bty (t : Nat) : FieldType := [.int, .long, .byte, .object "MastSparks$Why", .object "MastSparks$Papers", .object "MastSparks$Film", .array .int].getD t .int
def bF (E : kE) (U : State) : Prop := (∀ t, t < 7 → va_RA U (kcA E (bg t)) (bty t)) ∧ ∃ kA : Class, U.vm.classes[kcA E 51]? = some kA ∧ kA.kind = .array (kcA E 8) (.array .int)
theorem bF.moved {E : kE} {u U : State} (hvm : u.vm.Alike U.vm) (h : bF E u) : bF E U := by
  obtain ⟨h1, kA, h2, h3⟩ := h
  obtain ⟨k', hk', he⟩ := hvm.2.2 _ _ h2
  exact ⟨fun t ht => (h1 t ht).moved hvm, k', hk', by rw [he]; exact h3⟩
def bNl : List (String × Nat × String) := [("MastSparks", 19, "MastSparks$Reader"), ("MastSparks", 52, "MastSparks$Flight"), ("MastSparks", 71, "MastSparks$Why"), ("MastSparks", 72, "MastSparks$Film"), ("MastSparks$Flight", 29, "MastSparks$Why"), ("MastSparks$Reader", 11, "MastSparks$Why")]
def bOl : List String := ["MastSparks$Why", "MastSparks$Papers", "MastSparks$Film"]
def bNw (U : State) : Prop := (∀ q ∈ bNl, va_Nw (.methodLinkNest q.1 q.2.1 ⟨q.2.2, "<init>", "()V"⟩ "MastSparks") U) ∧ ∀ C ∈ bOl, va_AO C U
theorem bNw.warm {s U : State} (hW : s.WarmedH U.vm) (h : bNw s) : bNw U := ⟨fun q hq => va_Nw.warmM hW (h.1 q hq), fun C hC => (h.2 C hC).moved hW.alike⟩
def bOk (C : kC) (E : kE) (cc : ByteArray) (own : String) (nL : Nat) : Prop := match C with
  | (p, l, e, R, s, m, args, below, meth, c) => p.tables.exec = Jvm.exec ∧ c.code = cc ∧ c.maxLocals = nL ∧ s.vm.findClass own = some m.cls ∧ (∀ w ∈ kTB, w.before args s = true) ∧ kEs E s ∧ kZ E s s.heap ∧ bF E s ∧ bNw s ∧ meth.locks = false
abbrev bRm (fr lo mc ms : Nat) : Room := { frames := fr, cells := mc, slots := ms, locals := lo }
def bRo (C : kC) (fr lo mc ms : Nat) : Prop := C.2.2.2.1 = bRm fr lo mc ms
def bS (C : kC) (E : kE) (nL nc ns pc : Nat) (lv : List (Nat × Value)) (st : List Value) (a ci : Nat) (V : Nat → Value) (h : Nat) (f : Nat → bC) (K : Nat) (Q : State → Prop) : Prop := match C with
  | (p, l, e, R, s, m, args, below, meth, c) => ∀ (H : Heap) (locs : List Loc) (ls : Array Slot), bAt E a (.inl (ci, V)) H → a < h ∧ kbase E ≤ a → bL E h f K H → va_S (fun q => q = a ∨ h ≤ q) s.heap H locs → lv_has ls nL lv → W p l e R s m args below meth c H locs nc ns Q (F0 m pc ls st)
theorem va_S.mono {A B : Nat → Prop} {H0 H : Heap} {locs : List Loc} (h : va_S A H0 H locs) (k : ∀ q, A q → B q) : va_S B H0 H locs := ⟨h.1, fun q h1 h2 => h.2.1 q h1 (fun x => h2 (k q x)), fun q hq => k _ (h.2.2 q hq)⟩
theorem va_S.grow {A : Nat → Prop} {H0 H H1 : Heap} {locs : List Loc} (h : va_S A H0 H locs) (z : H.size ≤ H1.size) (e : ∀ q, q < H.size → H1[q]? = H[q]?) : va_S A H0 H1 locs := ⟨Nat.le_trans h.1 z, fun q h1 h2 => (e q (Nat.lt_of_lt_of_le h1 h.1)).trans (h.2.1 q h1 h2), h.2.2⟩
section BR
variable {C : kC} {E : kE} {Q : State → Prop} {cc : ByteArray} {own : String} {nL nc ns pc : Nat} {lv : List (Nat × Value)} {rest : List Value} {a ci : Nat} {V : Nat → Value} {h : Nat} {f : Nat → bC} {K : Nat}
theorem b_iconst {z : Int} {v : Int32} (hk : bOk C E cc own nL) (d : decode cc pc = .ok (.iconst z, 1)) (hv : Int32.ofInt z = v) (k : bS C E nL nc ns (pc + 1) lv (.int v :: rest) a ci V h f K Q) : bS C E nL nc ns pc lv (rest) a ci V h f K Q := by
  obtain ⟨p, l, e, R, s, m, args, below, meth, c⟩ := C
  intro H locs ls hT hh hL hS hl
  exact lv_iconst hk.1 hk.2.1 d hv (k H locs ls hT hh hL hS hl)
theorem b_bipush {z : Int} {v : Int32} (hk : bOk C E cc own nL) (d : decode cc pc = .ok (.bipush z, 2)) (hv : (Int8.ofInt z).toInt32 = v) (k : bS C E nL nc ns (pc + 2) lv (.int v :: rest) a ci V h f K Q) : bS C E nL nc ns pc lv (rest) a ci V h f K Q := by
  obtain ⟨p, l, e, R, s, m, args, below, meth, c⟩ := C
  intro H locs ls hT hh hL hS hl
  exact lv_bipush hk.1 hk.2.1 d hv (k H locs ls hT hh hL hS hl)
theorem b_sipush {z : Int} {v : Int32} (hk : bOk C E cc own nL) (d : decode cc pc = .ok (.sipush z, 3)) (hv : (Int16.ofInt z).toInt32 = v) (k : bS C E nL nc ns (pc + 3) lv (.int v :: rest) a ci V h f K Q) : bS C E nL nc ns pc lv (rest) a ci V h f K Q := by
  obtain ⟨p, l, e, R, s, m, args, below, meth, c⟩ := C
  intro H locs ls hT hh hL hS hl
  exact lv_sipush hk.1 hk.2.1 d hv (k H locs ls hT hh hL hS hl)
theorem b_iload_n {z : Fin 4} {x : Int32} (hk : bOk C E cc own nL) (d : decode cc pc = .ok (.iload_n z, 1)) (j : Nat) (hj : lv[j]? = some ((z : Nat), .int x)) (k : bS C E nL nc ns (pc + 1) lv (.int x :: rest) a ci V h f K Q) : bS C E nL nc ns pc lv (rest) a ci V h f K Q := by
  obtain ⟨p, l, e, R, s, m, args, below, meth, c⟩ := C
  intro H locs ls hT hh hL hS hl
  exact lv_iload_n hk.1 hk.2.1 d rfl (lv_at hl j hj) (k H locs ls hT hh hL hS hl)
theorem b_aload_n {z : Fin 4} {x : Nat} (hk : bOk C E cc own nL) (d : decode cc pc = .ok (.aload_n z, 1)) (j : Nat) (hj : lv[j]? = some ((z : Nat), .ref x)) (k : bS C E nL nc ns (pc + 1) lv (.ref x :: rest) a ci V h f K Q) : bS C E nL nc ns pc lv (rest) a ci V h f K Q := by
  obtain ⟨p, l, e, R, s, m, args, below, meth, c⟩ := C
  intro H locs ls hT hh hL hS hl
  exact lv_aload_n hk.1 hk.2.1 d rfl (lv_at hl j hj) (k H locs ls hT hh hL hS hl)
theorem b_istore_n {z : Fin 4} {x : Int32} {lv' : List (Nat × Value)} (hk : bOk C E cc own nL) (d : decode cc pc = .ok (.istore_n z, 1)) (hn : (z : Nat) < nL) (hl2 : ((z : Nat), Value.int x) :: lv.filter (fun q => !(q.1 == (z : Nat)) && !(q.1 + 1 == (z : Nat) && q.2.category == 2)) = lv') (k : bS C E nL nc ns (pc + 1) lv' rest a ci V h f K Q) : bS C E nL nc ns pc lv (.int x :: rest) a ci V h f K Q := by
  obtain ⟨p, l, e, R, s, m, args, below, meth, c⟩ := C
  intro H locs ls hT hh hL hS hl
  exact lv_istore_n hk.1 hk.2.1 d rfl hl hn hl2 (fun ls' hl' => k H locs ls' hT hh hL hS hl')
theorem b_istore {z : Nat} {x : Int32} {lv' : List (Nat × Value)} (hk : bOk C E cc own nL) (d : decode cc pc = .ok (.istore z, 2)) (hn : z < nL) (hl2 : (z, Value.int x) :: lv.filter (fun q => !(q.1 == z) && !(q.1 + 1 == z && q.2.category == 2)) = lv') (k : bS C E nL nc ns (pc + 2) lv' rest a ci V h f K Q) : bS C E nL nc ns pc lv (.int x :: rest) a ci V h f K Q := by
  obtain ⟨p, l, e, R, s, m, args, below, meth, c⟩ := C
  intro H locs ls hT hh hL hS hl
  exact lv_istore hk.1 hk.2.1 d hl hn hl2 (fun ls' hl' => k H locs ls' hT hh hL hS hl')
theorem b_astore_n {z : Fin 4} {x : Nat} {lv' : List (Nat × Value)} (hk : bOk C E cc own nL) (d : decode cc pc = .ok (.astore_n z, 1)) (hn : (z : Nat) < nL) (hl2 : ((z : Nat), Value.ref x) :: lv.filter (fun q => !(q.1 == (z : Nat)) && !(q.1 + 1 == (z : Nat) && q.2.category == 2)) = lv') (k : bS C E nL nc ns (pc + 1) lv' rest a ci V h f K Q) : bS C E nL nc ns pc lv (.ref x :: rest) a ci V h f K Q := by
  obtain ⟨p, l, e, R, s, m, args, below, meth, c⟩ := C
  intro H locs ls hT hh hL hS hl
  exact lv_astore_n hk.1 hk.2.1 d rfl hl hn hl2 (fun ls' hl' => k H locs ls' hT hh hL hS hl')
theorem b_iinc {z j : Nat} {v : Int} {x y : Int32} {lv' : List (Nat × Value)} (hk : bOk C E cc own nL) (d : decode cc pc = .ok (.iinc z v, 3)) (hj : lv[j]? = some (z, .int x)) (hv : x + Int32.ofInt v = y) (hn : z < nL) (hl2 : (z, Value.int y) :: lv.filter (fun q => !(q.1 == z) && !(q.1 + 1 == z && q.2.category == 2)) = lv') (k : bS C E nL nc ns (pc + 3) lv' rest a ci V h f K Q) : bS C E nL nc ns pc lv rest a ci V h f K Q := by
  obtain ⟨p, l, e, R, s, m, args, below, meth, c⟩ := C
  intro H locs ls hT hh hL hS hl
  exact lv_iinc hk.1 hk.2.1 d hl hj hv hn hl2 (fun ls' hl' => k H locs ls' hT hh hL hS hl')
theorem b_dup {v : Value} (hk : bOk C E cc own nL) (d : decode cc pc = .ok (.dup, 1)) (hv : v.category = 1) (k : bS C E nL nc ns (pc + 1) lv (v :: v :: rest) a ci V h f K Q) : bS C E nL nc ns pc lv (v :: rest) a ci V h f K Q := by
  obtain ⟨p, l, e, R, s, m, args, below, meth, c⟩ := C
  intro H locs ls hT hh hL hS hl
  exact lv_dup hk.1 hk.2.1 d hv (k H locs ls hT hh hL hS hl)
theorem b_goto {off : Int} (hk : bOk C E cc own nL) (d : decode cc pc = .ok (.goto off, 3)) (tgt : Nat) (ht : (pc : Int) + off = (tgt : Int)) (k : bS C E nL nc ns tgt lv rest a ci V h f K Q) : bS C E nL nc ns pc lv rest a ci V h f K Q := by
  obtain ⟨p, l, e, R, s, m, args, below, meth, c⟩ := C
  intro H locs ls hT hh hL hS hl
  exact lv_goto hk.1 hk.2.1 d ht (k H locs ls hT hh hL hS hl)
theorem b_wide {nc' ns' : Nat} {st : List Value} (h1 : nc ≤ nc') (h2 : ns ≤ ns') (k : bS C E nL nc' ns' pc lv st a ci V h f K Q) : bS C E nL nc ns pc lv st a ci V h f K Q := by
  obtain ⟨p, l, e, R, s, m, args, below, meth, c⟩ := C
  intro H locs ls hT hh hL hS hl
  exact W.widen h1 h2 (k H locs ls hT hh hL hS hl)
theorem b_ge_t {x y : Int32} {off : Int} (hk : bOk C E cc own nL) (d : decode cc pc = .ok (.if_icmp .ge off, 3)) (tgt : Nat) (ht : (pc : Int) + off = (tgt : Int)) (hg : y ≤ x) (k : bS C E nL nc ns tgt lv rest a ci V h f K Q) : bS C E nL nc ns pc lv (.int y :: .int x :: rest) a ci V h f K Q := by
  obtain ⟨p, l, e, R, s, m, args, below, meth, c⟩ := C
  intro H locs ls hT hh hL hS hl
  exact lv_icmp_ge hk.1 hk.2.1 d ht (fun _ => k H locs ls hT hh hL hS hl) (fun q => absurd hg q)
theorem b_ge_f {x y : Int32} {off : Int} (hk : bOk C E cc own nL) (d : decode cc pc = .ok (.if_icmp .ge off, 3)) (tgt : Nat) (ht : (pc : Int) + off = (tgt : Int)) (hg : ¬ y ≤ x) (k : bS C E nL nc ns (pc + 3) lv rest a ci V h f K Q) : bS C E nL nc ns pc lv (.int y :: .int x :: rest) a ci V h f K Q := by
  obtain ⟨p, l, e, R, s, m, args, below, meth, c⟩ := C
  intro H locs ls hT hh hL hS hl
  exact lv_icmp_ge hk.1 hk.2.1 d ht (fun q => absurd q hg) (fun _ => k H locs ls hT hh hL hS hl)
theorem b_newa {fr lo mc ms t N : Nat} {n : Int32} {aty : ArrayType} {z : Value} (hk : bOk C E cc own nL) (hro : bRo C fr lo mc ms) (d : decode cc pc = .ok (.newarray aty, 2)) (ht : t < 7) (harr : Cond.arrayClass (newarray.typeOf aty) ∈ kTB) (hra : ∀ U cA, va_RA U cA (bty t) → U.vm.findClass ("[" ++ (newarray.typeOf aty).toString) = some cA) (hz : defaultValue (newarray.typeOf aty) = z) (hn : ¬ n < 0) (hN : n.toNatClampNeg = N) (hby : N * componentBytes (newarray.typeOf aty) ≤ 536870912) (hR : nc + 1 ≤ mc ∧ ns + N ≤ ms)
    (k : bS C E nL (nc + 1) (ns + N) (pc + 2) lv (.ref (h + K) :: rest) a ci V h (bU f K (.inr (kcA E (bg t), N, fun _ => z))) (K + 1) Q) : bS C E nL nc ns pc lv (.int n :: rest) a ci V h f K Q := by
  obtain ⟨p, l, e, R, s, m, args, below, meth, c⟩ := C
  obtain ⟨hx, hb, hml, hown, hts, hEs, hZ, hF, hNw, hlk⟩ := hk
  have hro : R = bRm fr lo mc ms := hro
  subst hro
  subst hz
  intro H locs ls hT hh hL hS hl
  refine va_newaK hx hb (hts _ harr) rfl d rfl hn hN hby hR.1 hR.2 hL.1 (fun H' cA e1 e2 e3 hAr hfc => ?_)
  have e9 : cA = kcA E (bg t) := Option.some.inj (hfc.symm.trans (hra _ _ (hF.1 t ht)))
  subst e9
  exact k H' locs ls (hT.kept (e3 _ (by omega))) hh (hL.push e2 e3 e1) (hS.grow (by rw [hL.1, e2]; omega) (fun q hq => e3 q (by rw [← hL.1]; exact hq))) hl
theorem b_anew {fr lo mc ms t N idx : Nat} {n : Int32} {Cn : String} (hk : bOk C E cc own nL) (hro : bRo C fr lo mc ms) (d : decode cc pc = .ok (.anewarray idx, 3)) (hcl : Cond.classLink own idx Cn ∈ kTB) (hao : Cn ∈ bOl) (ht : t < 7) (hty : bty t = .object Cn) (hn : ¬ n < 0) (hN : n.toNatClampNeg = N) (hby : N * 4 ≤ 536870912) (hR : nc + 1 ≤ mc ∧ ns + N ≤ ms)
    (k : bS C E nL (nc + 1) (ns + N) (pc + 3) lv (.ref (h + K) :: rest) a ci V h (bU f K (.inr (kcA E (bg t), N, fun _ => .null))) (K + 1) Q) : bS C E nL nc ns pc lv (.int n :: rest) a ci V h f K Q := by
  obtain ⟨p, l, e, R, s, m, args, below, meth, c⟩ := C
  obtain ⟨hx, hb, hml, hown, hts, hEs, hZ, hF, hNw, hlk⟩ := hk
  have hro : R = bRm fr lo mc ms := hro
  subst hro
  subst hN
  intro H locs ls hT hh hL hS hl
  refine W.anew hx hb hown (hts _ hcl) (va_AO.use (hNw.2 Cn hao)) rfl d rfl hn hby hR.1 hR.2 fun cA kA comp f1 f2 f3 f4 => ?_
  have hra := hF.1 t ht
  rw [hty] at hra
  obtain ⟨kA', comp', g1, g2, g3, g4⟩ := hra
  have e9 : cA = kcA E (bg t) := Option.some.inj (f1.symm.trans g4)
  subst e9
  generalize hH1 : H.push ({ cls := kcA E (bg t), slots := Array.replicate n.toNatClampNeg .null, vm := .none } : Cell) = H1
  have z1 : H1.size = H.size + 1 := by rw [← hH1, Array.size_push]
  have e1 : H1[H.size]? = some (arrV (kcA E (bg t)) n.toNatClampNeg (fun _ => .null)) := by rw [← hH1, Array.getElem?_push_size, ← arrV_new]
  have o1 : ∀ q : Nat, q < H.size → H1[q]? = H[q]? := fun q hq => by rw [← hH1, Array.getElem?_push, if_neg (Nat.ne_of_lt hq)]
  rw [hL.1] at e1 z1 o1
  have k9 := k H1 locs ls (hT.kept (o1 _ (by omega))) hh (hL.push z1 o1 e1) (hS.grow (by rw [hL.1, z1]; omega) (fun q hq => o1 q (by rw [← hL.1]; exact hq))) hl
  rw [hL.1]
  exact k9
theorem b_new {fr lo mc ms ci2 N idx : Nat} {Cn : String} {T : u_T} {ty : Nat → FieldType} {V2 : Nat → Value} (hk : bOk C E cc own nL) (hro : bRo C fr lo mc ms) (d : decode cc pc = .ok (.new idx, 3)) (hc : kCls ci2 Cn T N ty) (hcl : Cond.classLink own idx Cn ∈ kTB) (hins : Cond.instantiable Cn N ∈ kTB) (hini : Cond.initialized Cn ∈ kTB) (hV : ∀ j, j < N → defaultValue (ty j) = V2 j) (hR : nc + 1 ≤ mc ∧ ns + N ≤ ms)
    (k : bS C E nL (nc + 1) (ns + N) (pc + 3) lv (.ref (h + K) :: rest) a ci V h (bU f K (.inl (ci2, V2))) (K + 1) Q) : bS C E nL nc ns pc lv rest a ci V h f K Q := by
  obtain ⟨p, l, e, R, s, m, args, below, meth, c⟩ := C
  obtain ⟨hx, hb, hml, hown, hts, hEs, hZ, hF, hNw, hlk⟩ := hk
  have hro : R = bRm fr lo mc ms := hro
  subst hro
  intro H locs ls hT hh hL hS hl
  obtain ⟨hq, hnf, hin, hty, hnm⟩ := hc
  have hKn := hEs.1 ci2 _ hq
  refine W.newcK hx hb hown (hts _ hcl) (hts _ hins) (hts _ hini) rfl d hR.1 hR.2 hKn.2.1 hL.1 fun H1 kC hkC e1 e2 e3 => ?_
  refine k H1 locs ls (hT.kept (e3 _ (by omega))) hh (hL.push e2 e3 ?_) (hS.grow (by rw [hL.1, e2]; omega) (fun q hq => e3 q (by rw [← hL.1]; exact hq))) hl
  show t_OB (h + K) (E.1.1 ci2) (kNf ci2) (E.1.2 ci2) H1 V2
  rw [hnf]
  exact (u_born ty hts hin hKn hkC e1 hty).to hV
theorem b_gett {k N idx : Nat} {Cn : String} {T : u_T} {ty : Nat → FieldType} {v : Value} (hk : bOk C E cc own nL) (d : decode cc pc = .ok (.getfield idx, 3)) (hc : kCls ci Cn T N ty) (hkN : k < N) (hlink : Cond.fieldLink own idx (T k).1 (T k).2.1 (T k).2.2.1 ∈ kTB) (hv : V k = v) (kk : bS C E nL nc ns (pc + 3) lv (v :: rest) a ci V h f K Q) : bS C E nL nc ns pc lv (.ref a :: rest) a ci V h f K Q := by
  obtain ⟨p, l, e, R, s, m, args, below, meth, c⟩ := C
  obtain ⟨hx, hb, hml, hown, hts, hEs, hZ, hF, hNw, hlk⟩ := hk
  intro H locs ls hT hh hL hS hl
  obtain ⟨hq, hnf, hin, -, -⟩ := hc
  obtain ⟨cell, q1, q2, q3, q4⟩ := id (show t_OB a (E.1.1 ci) (kNf ci) (E.1.2 ci) H V from hT)
  obtain ⟨hSl, hfc, kC9, hkC, hkind⟩ := hEs.1 ci _ hq
  obtain ⟨cf, kf, fi, fd, hi9, hsl⟩ := hSl k hkN
  refine W.getf hx hb hown (hts _ hlink) hi9 (u_facts hfc hkC (u_lays hts hin hkN) hi9).1 q1 (by rw [q3]; exact fun h => by cases h) (v := v) ?_ rfl rfl d (kk H locs ls hT hh hL hS hl)
  rw [hsl, q4 k (by rw [hnf]; exact hkN), hv]
theorem b_putt {k N idx : Nat} {Cn : String} {T : u_T} {ty : Nat → FieldType} {v : Value} (hk : bOk C E cc own nL) (hin0 : (T k).2.2.2 = true → C.2.2.2.2.2.2.2.2.1.name = "<init>" ∧ (T k).1 = own) (d : decode cc pc = .ok (.putfield idx, 3)) (hc : kCls ci Cn T N ty) (hkN : k < N) (hlink : Cond.fieldLink own idx (T k).1 (T k).2.1 (T k).2.2.1 ∈ kTB) (hn : narrow (ty k) v = v) (hfit : fits (ty k) v = true) (kk : bS C E nL nc ns (pc + 3) lv rest a ci (bU V k v) h f K Q) : bS C E nL nc ns pc lv (v :: .ref a :: rest) a ci V h f K Q := by
  obtain ⟨p, l, e, R, s, m, args, below, meth, c⟩ := C
  obtain ⟨hx, hb, hml, hown, hts, hEs, hZ, hF, hNw, hlk⟩ := hk
  intro H locs ls hT hh hL hS hl
  obtain ⟨hq, hnf, hin, hty, hnm⟩ := hc
  obtain ⟨cell, q1, q2, q3, q4⟩ := id (show t_OB a (E.1.1 ci) (kNf ci) (E.1.2 ci) H V from hT)
  rw [hnf] at q4
  have hap := va_apart (D := E.1) (cl := vwCl) (tys := []) (own := own) hts hin ty hty hnm ⟨hEs.1, fun k q h => by simp at h⟩ hq
  obtain ⟨hSl, hfc, kC9, hkC, hkind⟩ := hEs.1 ci _ hq
  obtain ⟨cf, kf, fi, fd, hi9, hsl⟩ := hSl k hkN
  have hlay := hts _ (hin _ (u_in_lay hkN))
  unfold u_lay at hlay
  have hst := (u_facts hfc hkC (u_lays hts hin hkN) hi9).1
  have goes : ∀ H' : Heap, H'[a]? = some (cell.setSlot (E.1.2 ci k) v) → H'.size = H.size → (∀ q, q ≠ a → H'[q]? = H[q]?) → W p l e R s m args below meth c H' (locs ++ [⟨a, E.1.2 ci k⟩]) nc ns Q (F0 m (pc + 3) ls rest) := by
    intro H' e1 e2 e3
    refine kk H' _ ls ?_ hh (hL.kept e2 (fun j hj => e3 _ (by omega))) (hS.put e2 e3 (Or.inl rfl)) hl
    show t_OB a (E.1.1 ci) (kNf ci) (E.1.2 ci) H' (updV V k v)
    rw [hnf]
    exact ⟨_, e1, q2, q3, t_set q4 hap hkN v⟩
  by_cases hfin : (T k).2.2.2 = true
  · rw [if_pos hfin] at hlay
    obtain ⟨hin2, hdecl⟩ := hin0 hfin
    have hcf : m.cls = cf := by
      obtain ⟨_, _, c', _, _, _, -, -, hf', -, -, -, hown2, -⟩ := Cond.laysFinal_spec hlay
      have e1 : c' = cf := by have := hi9.symm.trans hf'; simp at this; exact this.1.symm
      rw [hdecl] at hown2
      rw [← e1]; exact Option.some.inj (hown.symm.trans hown2)
    have h6 := u_fits hfc hkC hkind (Or.inr hlay) hi9 (hty k hkN) hn hfit
    refine W.putFinK hx hb hown (hts _ hlink) hi9 hst hcf hin2 (by rw [q2]; exact h6) q1 q3 (by rw [hsl]; exact k2_hasslot (q4 k hkN)) rfl rfl d fun H' e1 e2 e3 => ?_
    rw [hsl] at e1 ⊢
    exact goes H' e1 e2 e3
  · rw [if_neg hfin] at hlay
    have h6 := u_store hfc hkC hkind hlay hi9 (hty k hkN) hn hfit
    refine W.putK hx hb (f := fd) ⟨hown, hts _ hlink, ⟨_, _, _, hi9⟩, hst⟩ (by rw [q2]; exact h6) q1 q3 (by rw [hsl]; exact k2_hasslot (q4 k hkN)) rfl rfl d fun H' e1 e2 e3 => ?_
    rw [hsl] at e1 ⊢
    exact goes H' e1 e2 e3
theorem b_iast {i len jn : Nat} {j x : Int32} {W0 : Nat → Value} (hk : bOk C E cc own nL) (d : decode cc pc = .ok (.iastore, 1)) (hi : i < K) (hf : f i = .inr (kcA E 8, len, W0)) (hin : kin j len) (hjn : j.toNatClampNeg = jn) (h8 : 0 < kcnt E 8) (k : bS C E nL nc ns (pc + 1) lv rest a ci V h (bU f i (.inr (kcA E 8, len, bU W0 jn (.int x)))) K Q) : bS C E nL nc ns pc lv (.int x :: .int j :: .ref (h + i) :: rest) a ci V h f K Q := by
  obtain ⟨p, l, e, R, s, m, args, below, meth, c⟩ := C
  obtain ⟨hx, hb, hml, hown, hts, hEs, hZ, hF, hNw, hlk⟩ := hk
  subst hjn
  intro H locs ls hT hh hL hS hl
  have h1 := hL.2 i hi
  rw [hf] at h1
  have h1 : H[h + i]? = some (arrV (kcA E 8) len W0) := h1
  refine W.iast hx hb h1 (hEs.2 8 .int 6 rfl h8 len _) (fun q => by cases q) (by rw [arrV_size]; exact kin_vp hin) rfl rfl d (fun H' e1 e2 e3 => ?_)
  rw [arrV_store] at e1
  exact k H' _ ls (hT.kept (e3 a (Nat.ne_of_lt (Nat.lt_of_lt_of_le hh.1 (Nat.le_add_right h i))))) hh (hL.set hi e2 e3 e1) (hS.put e2 e3 (Or.inr (Nat.le_add_right h i))) hl
theorem b_aast {i i2 ci2 len jn t : Nat} {j : Int32} {W0 V2 : Nat → Value} {Cn : String} {T : u_T} {N : Nat} {ty : Nat → FieldType} (hk : bOk C E cc own nL) (d : decode cc pc = .ok (.aastore, 1)) (hi : i < K) (hi2 : i2 < K) (hf : f i = .inr (kcA E (bg t), len, W0)) (hf2 : f i2 = .inl (ci2, V2)) (hc : kCls ci2 Cn T N ty) (ht : t < 7) (hty : bty t = .object Cn) (hin : kin j len) (hjn : j.toNatClampNeg = jn) (k : bS C E nL nc ns (pc + 1) lv rest a ci V h (bU f i (.inr (kcA E (bg t), len, bU W0 jn (.ref (h + i2))))) K Q) : bS C E nL nc ns pc lv (.ref (h + i2) :: .int j :: .ref (h + i) :: rest) a ci V h f K Q := by
  obtain ⟨p, l, e, R, s, m, args, below, meth, c⟩ := C
  obtain ⟨hx, hb, hml, hown, hts, hEs, hZ, hF, hNw, hlk⟩ := hk
  subst hjn
  intro H locs ls hT hh hL hS hl
  have h1 := hL.2 i hi
  rw [hf] at h1
  have h1 : H[h + i]? = some (arrV (kcA E (bg t)) len W0) := h1
  have h2 := hL.2 i2 hi2
  rw [hf2] at h2
  obtain ⟨cellV, g1, g2, g3, -⟩ := id (show t_OB (h + i2) (E.1.1 ci2) (kNf ci2) (E.1.2 ci2) H V2 from h2)
  have hcls := (hEs.1 ci2 _ hc.1).2
  have hra := hF.1 t ht
  rw [hty] at hra
  obtain ⟨kA, comp, k1, k2, k3, -⟩ := hra
  have hcomp : comp = E.1.1 ci2 := Option.some.inj (k3.symm.trans hcls.1)
  subst hcomp
  obtain ⟨kC, hkC, -⟩ := hcls.2
  have hlt := kin_lt hin
  refine W.aast hx hb h1 (fun q h => by cases h) (fun h => by cases h) k1 k2 rfl hkC ⟨fun q => kin_vp hin (Or.inl q), by rw [arrV_size]; exact hlt⟩ g1 (fun q h => by rw [g3] at h; cases h) (by rw [g2]; exact hkC) (by rw [g2]; exact va_assign hcls) rfl rfl d fun H' e1 e2 e3 => ?_
  rw [arrV_store] at e1
  exact k H' _ ls (hT.kept (e3 a (Nat.ne_of_lt (Nat.lt_of_lt_of_le hh.1 (Nat.le_add_right h i))))) hh (hL.set hi e2 e3 e1) (hS.put e2 e3 (Or.inr (Nat.le_add_right h i))) hl
theorem b_obj {fr lo mc ms idx : Nat} (hk : bOk C E cc own nL) (hro : bRo C fr lo mc ms) (d : decode cc pc = .ok (.invokespecial idx, 3)) (hlink : Cond.methodLink own idx Lib.objectInit ∈ kTB) (hins : Cond.instanceMethod Lib.objectInit ∈ kTB) (hco : Cond.code Lib.objectInit ⟨#[0xb1]⟩ 1 none ∈ kTB) (hR : 1 ≤ fr ∧ (rest.map fun v => v.category).sum + 12 ≤ lo) (k : bS C E nL nc ns (pc + 3) lv rest a ci V h f K Q) : bS C E nL nc ns pc lv (.ref a :: rest) a ci V h f K Q := by
  obtain ⟨p, l, e, R, s, m, args, below, meth, c⟩ := C
  obtain ⟨hx, hb, hml, hown, hts, hEs, hZ, hF, hNw, hlk⟩ := hk
  have hro : R = bRm fr lo mc ms := hro
  subst hro
  intro H locs ls hT hh hL hS hl
  exact W.objInit hx hb hown (hts _ hlink) (hts _ hins) (hts _ hco) rfl (by rw [hml]; exact hl.1) rfl d hR.1 (by show 2 * 0 + _ + 12 ≤ lo; omega) (k H locs ls hT hh hL hS hl)
/-! a constructor's contract -/
def bPc (E : kE) (a h ci : Nat) (V0 : Nat → Value) : Array Value → State → Prop := fun v U => v = #[.ref a] ∧ kEs E U ∧ kZ E U U.heap ∧ bF E U ∧ bNw U ∧ (a < h ∧ kbase E ≤ a) ∧ U.heap.size = h ∧ bAt E a (.inl (ci, V0)) U.heap
def bQc (E : kE) (a h ci : Nat) (Vf : Nat → Value) (g : Nat → bC) (kk : Nat) : Array Value → State → Outcome → State → Prop := fun _ st o t => o = .returned none ∧ bAt E a (.inl (ci, Vf)) t.heap ∧ bL E h g kk t.heap ∧ va_F (fun q => q = a ∨ h ≤ q) st t
def bMet (l : Launch) (E : kE) (y : MethodName) (cc : ByteArray) (maxL fr lo mc ms ci : Nat) (V0 : Nat → Value) (Vf : Nat → Nat → Value) (g : Nat → Nat → bC) (kk : Nat) : Prop := ∀ a h, Met l y (.code y cc maxL none :: kTB) (bRm fr lo mc ms) (bPc E a h ci V0) (bQc E a h ci (Vf h) (g h) kk) mc ms (fun q => q = a ∨ h ≤ q)
theorem b_ret {kk mc ms : Nat} {g : Nat → bC} {Vf : Nat → Value} (hk : bOk C E cc own nL) (hr : C.2.2.2.2.2.2.2.2.1.sig.returnType = none) (hQ : match C with | (p, l, e, R, s, m, args, below, meth, c) => Q = MQ below (bQc E a h ci Vf g kk) args s mc ms (fun q => q = a ∨ h ≤ q)) (d : decode cc pc = .ok (.return_, 1)) (hN : nc ≤ mc ∧ ns ≤ ms) (hV : V = Vf) (hK : K = kk) (hf : f = g) : bS C E nL nc ns pc lv [] a ci V h f K Q := by
  obtain ⟨p, l, e, R, s, m, args, below, meth, c⟩ := C
  obtain ⟨hx, hb, hml, hown, hts, hEs, hZ, hF, hNw, hlk⟩ := hk
  subst hV; subst hK; subst hf
  have hQ : Q = MQ below (bQc E a h ci V f K) args s mc ms (fun q => q = a ∨ h ≤ q) := hQ
  subst hQ
  intro H locs ls hT hh hL hS hl
  exact W.widen hN.1 hN.2 (W.vret hx hb hr (fun t ht hW => ⟨rfl, by rw [ht]; exact hT, by rw [ht]; exact hL, hS.F ht⟩) hS.2.2 d hlk)
theorem bPc.blind {a h ci : Nat} {V0 : Nat → Value} : FrameBlind (bPc E a h ci V0) := fun b U g mk q => ⟨q.1, q.2.1.moved (u := U) (U := U.calling g mk b) (Vm.Alike.refl U.vm), q.2.2.1.same rfl, q.2.2.2.1.moved (u := U) (U := U.calling g mk b) (Vm.Alike.refl U.vm), ⟨fun x hx => va_Nw.same rfl rfl (q.2.2.2.2.1.1 x hx), fun x hx => va_AO.moved (u := U) (U := U.calling g mk b) (Vm.Alike.refl U.vm) (q.2.2.2.2.1.2 x hx)⟩, q.2.2.2.2.2⟩
end BR
