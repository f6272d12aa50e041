/-! THE LAW: its body's rules. -/
def R_law : String := "MastSparksLaw"
def lw_P (b : Addr) (xs : List Int32) (args : Array Value) (s : State) : Prop := args = #[.ref b] ∧ s.IntsAt b xs ∧ xs.length ≤ 3072 ∧ (Jvm.Cond.and given_1 narrow_1).before args s = true
def lw_Q (_ : Array Value) (s : State) (o : Outcome) (t : State) : Prop := o = .returned (some (.int 1)) ∧ Framed s o t [] 601024 7293034
def lw_Z (below : List Frame) (a : Array Value) (s : State) : State → Prop := fun t => ∃ o, t.status = .running ∧ Ended t below o ∧ lw_Q a s o t
theorem kl_ret {p : Program} {l : Launch} {e : Env} {R : Room} {s : State} {m : MethodId} {below : List Frame} {meth : Method} {c : Code} {b : Nat} (hx : p.tables.exec = Jvm.exec) (hb : c.code = code) (hr : meth.sig.returnType = ret) (hlocks : meth.locks = false) {pc : Nat} {H : Heap} {ls : Array Slot} (hdg : decode code pc = .ok (.ireturn, 1)) : W p l e R s m #[Value.ref b] below meth c H [] 601024 7293034 (lw_Z below #[Value.ref b] s) (F0 m pc ls [.int 1]) := by
  intro T hT X
  obtain ⟨fs, hret, hrun, hended, hW, hframe⟩ := X.leave (v := some (.int 1)) (hlocks := hlocks) (fun h => by rw [hr] at h; cases h)
  have hmeth' : T.vm.method? m = some meth := X.method'
  refine ⟨T.setFrames fs, ?_, .returned (some (.int 1)), hrun, hended, rfl, ⟨_, rfl⟩, hW, hframe⟩
  jvm_step X.here [X.here.top, hx, hb, hdg, hmeth', hr, ret, narrow_b1]
  (try refine ⟨rfl, ?_⟩); (try refine ⟨rfl, ?_⟩)
  first | (intro acts; rw [hret _ acts rfl rfl rfl]) | rw [hret _ _ rfl rfl rfl]
  exact Steps.refl _
def kLw (X : kX) (b L : Nat) (xs : Nat → Int32) : Prop := match X with
  | ((p, l, e, R, s, m, args, below, meth, c), E, Q) => args = #[Value.ref b] ∧ va_X b L xs s s.heap ∧ b < s.heap.size ∧ kbase E = s.heap.size ∧ meth.sig.returnType = ret ∧ ∀ u, Q u = lw_Z below args s
def kCsw (own : String) (idx : Nat) (y : MethodName) (bytes : ByteArray) (maxL np : Nat) (ret : Option FieldType) (hh : List (Nat × Nat × Nat × Nat)) : Prop := Cond.codeWith y bytes maxL ret hh ∈ kTB ∧ Cond.methodLink own idx y ∈ kTB ∧ Cond.initialized y.cls ∈ kTB ∧ Cond.static y ∈ kTB ∧ y.cls ≠ "java/lang/invoke/MethodHandle" ∧ y.cls ≠ "java/lang/invoke/VarHandle" ∧ (parseMethodDescriptor y.desc).map (fun d => d.parameters.length) = some np
def kNo : String → kS → Option kR := fun _ _ => none
section KL
variable {C : kC} {E : kE} {Q : kR → State → Prop} {cc : ByteArray} {own : String} {nL n pc : Nat} {lv : List (Nat × Value)} {rest : List Value} {σ : kS} {o : Option kR}
theorem k_lawret {b L : Nat} {xs : Nat → Int32} (hk : kOk (C, E, Q) cL_law own nL) (hw : kLw (C, E, Q) b L xs) (d : decode cL_law pc = .ok (.ireturn, 1)) (hN : n ≤ 601024) : Sm (C, E, Q) nL n pc lv [.int 1] σ (some (.inl (some (.int 1)), σ)) := by
  obtain ⟨p, l, e, R, s, m, args, below, meth, c⟩ := C
  obtain ⟨ha, hX, hb, hbs, hr, hQ⟩ := hw
  intro u' hu H locs ls hW hS hl
  cases hu
  show W p l e R s m args below meth c H locs n (8 * n) (Q _) (F0 m pc ls [.int 1])
  rw [hQ]
  refine va_forget (fun q hq => ?_) ?_
  · have h1 : kbase E ≤ q.base := hS.2.2 q hq
    rw [← hbs]; exact h1
  · subst ha
    exact W.widen hN (by omega) (kl_ret hk.1 hk.2.1 hr hk.2.2.2.2.2.2.2.2.2.2.2 d)
theorem k_scld {b L : Nat} {xs : Nat → Int32} {i : Int32} (hk : kOk (C, E, Q) cc own nL) (hw : kLw (C, E, Q) b L xs) (hin : kin i L) (d : decode cc pc = .ok (.iaload, 1)) (k : Sm (C, E, Q) nL n (pc + 1) lv (.int (xs i.toNatClampNeg) :: rest) σ o) : Sm (C, E, Q) nL n pc lv (.int i :: .ref b :: rest) σ o := by
  obtain ⟨p, l, e, R, s, m, args, below, meth, c⟩ := C
  obtain ⟨ha, hX, hb, hbs, hr, hQ⟩ := hw
  intro u hu H locs ls hW hS hl
  exact va_sld hk.1 hk.2.1 hX hb (fun q => by have h1 : kbase E ≤ b := q; omega) hS (kin_vp hin) d (k u hu H locs ls hW hS hl)
theorem k_sclen {b L : Nat} {xs : Nat → Int32} (hk : kOk (C, E, Q) cc own nL) (hw : kLw (C, E, Q) b L xs) (d : decode cc pc = .ok (.arraylength, 1)) (k : Sm (C, E, Q) nL n (pc + 1) lv (.int (Int32.ofNat L) :: rest) σ o) : Sm (C, E, Q) nL n pc lv (.ref b :: rest) σ o := by
  obtain ⟨p, l, e, R, s, m, args, below, meth, c⟩ := C
  obtain ⟨ha, hX, hb, hbs, hr, hQ⟩ := hw
  intro u hu H locs ls hW hS hl
  exact va_slen hk.1 hk.2.1 hX hb (fun q => by have h1 : kbase E ≤ b := q; omega) hS d (k u hu H locs ls hW hS hl)
theorem k_callSH {l0 : Launch} {ret : Option FieldType} {hh : List (Nat × Nat × Nat × Nat)} {fr0 lo0 N fr lo n2 maxL idx : Nat} {y : MethodName} {bytes : ByteArray} {As st0 : List Value} {mo : Option kR} {f : Option Value → kS → Option kR} {g : String → kS → Option kR}
    (hk : kOk (C, E, Q) cc own nL) (hro : kRo C l0 fr0 lo0 N) (hM : kMetH l0 E y bytes maxL ret hh fr lo n2 As σ mo) (d : decode cc pc = .ok (.invokestatic idx, 3)) (hcw : kCsw own idx y bytes maxL As.length ret hh) (hR : fr + 1 ≤ fr0 ∧ 8 + (maxL + 11) + lo ≤ lo0) (hN : n + n2 ≤ N) (hst : st0 = As.reverse ++ rest) (hcat : (rest.map fun v => v.category).sum ≤ 8)
    (K : ∀ v σ2, Sm (C, E, Q) nL (n + n2) (pc + 3) lv ((v.map id).toList ++ rest) σ2 (f v σ2)) (KX : ∀ ex σ2, kThr C E Q nL (n + n2) pc lv rest ex σ2 (g ex σ2)) : Sm (C, E, Q) nL n pc lv st0 σ (kBh mo f g) := by
  refine k_runH (rv2 := id) (n2 := n2) (a := As.toArray) ?_ K KX
  obtain ⟨p, l, e, R, s, m, args, below, meth, c⟩ := C
  obtain ⟨hx, hb, hml, hown, hts, hEs, hZ, hbs, hEj, hNm, hl9, hlk⟩ := hk
  obtain ⟨rfl, hRm⟩ := hro
  obtain ⟨w1, w2, w3, w4, w5, w6, w7⟩ := hcw
  intro u2 hu2 H locs ls hW hS hl
  have hRm : R = kRm fr0 lo0 N := hRm
  subst hRm
  refine vx_runSX (Ts := kTB) (As := As) (hh := hh) (bytes := bytes) (maxL := maxL) (ret := ret) (rm := kRm fr lo n2) (n := As.length) ⟨hx, hb, hml, hown, hts⟩ (hM u2 hu2) ⟨⟨rfl, rfl, hR.1, hR.2, ?_, List.mem_cons_self⟩, hts _ w1, hts _ w3, ⟨w5, w6⟩, fun sig hs => ?_, hts _ w2, hts _ w4⟩ ⟨kPc.blind, fun U hU hWm => ⟨rfl, hEs.moved hWm.alike, by rw [hU]; exact hZ.go hWm hS, by rw [hU]; exact Nat.le_trans hbs hS.1, by rw [hU]; exact hW⟩⟩ rfl rfl hl.1 hst (lv_room hcat) d ?_
  · intro w hw a' U hWU
    have h : w ∈ kTB := by
      rcases List.mem_cons.mp hw with e | h
      · rw [e]; exact w1
      · exact h
    exact word_at hWU (kTB_good h) (hts w h)
  · rw [hs] at w7
    exact (Option.some.inj w7).symm
  · exact ⟨hN, by show 8 * n + 8 * n2 ≤ 8 * N; omega⟩
theorem k_callSHi {l0 : Launch} {ret : Option FieldType} {hh : List (Nat × Nat × Nat × Nat)} {fr0 lo0 N fr lo n2 maxL idx : Nat} {y : MethodName} {bytes : ByteArray} {As st0 : List Value} {mo : Option kR} {f : Int32 → kS → Option kR}
    (hk : kOk (C, E, Q) cc own nL) (hro : kRo C l0 fr0 lo0 N) (hM : kMetH l0 E y bytes maxL ret hh fr lo n2 As σ mo) (d : decode cc pc = .ok (.invokestatic idx, 3)) (hcw : kCsw own idx y bytes maxL As.length ret hh) (hR : fr + 1 ≤ fr0 ∧ 8 + (maxL + 11) + lo ≤ lo0) (hN : n + n2 ≤ N) (hst : st0 = As.reverse ++ rest) (hcat : (rest.map fun v => v.category).sum ≤ 8)
    (K : ∀ r σ2, Sm (C, E, Q) nL (n + n2) (pc + 3) lv (.int r :: rest) σ2 (f r σ2)) : Sm (C, E, Q) nL n pc lv st0 σ (kBhi mo f kNo) :=
  k_callSH hk hro hM d hcw hR hN hst hcat (fun v σ2 => by
    cases v with
    | none => exact k_no
    | some v => cases v <;> first | exact k_no | exact K _ σ2) (fun _ _ => kThr_no)
theorem k_guard {c : Prop} [Decidable c] {st : List Value} (k : c → Sm (C, E, Q) nL n pc lv st σ o) : Sm (C, E, Q) nL n pc lv st σ (kg c o) := by
  intro u hu
  obtain ⟨h1, h2⟩ := kg_some hu
  exact k h1 u h2
end KL
