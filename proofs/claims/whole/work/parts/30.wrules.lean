/-! METHODS WITH A TABLE OF THEIR OWN: the law's wrappers. -/
def kEndH (X : kX) (ret : Option FieldType) (N : Nat) (hh : List (Nat × Nat × Nat × Nat)) : Prop := match X with
  | ((p, l, e, R, s, m, args, below, meth, c), E, Q) => meth.sig.returnType = ret ∧ c.exceptionTable.toList = tableOf hh ∧ ∀ u, Q u = vx_MQ below (kQ E id u) (kXC E u) args s N (8 * N) (kA E)
def kMetH (l : Launch) (E : kE) (y : MethodName) (cc : ByteArray) (maxL : Nat) (ret : Option FieldType) (hh : List (Nat × Nat × Nat × Nat)) (fr lo n : Nat) (av : List Value) (σ : kS) (o : Option kR) : Prop :=
  ∀ u, o = some u → vx_Met l y (.codeWith y cc maxL ret hh :: kTB) (kRm fr lo n) (kPc E σ av) (kQ E id u) (kXC E u) n (8 * n) (kA E)
def kBh (o : Option kR) (f : Option Value → kS → Option kR) (g : String → kS → Option kR) : Option kR := match o with
  | none => none
  | some (.inl v, σ) => f v σ
  | some (.inr x, σ) => g x σ
def kBhi (o : Option kR) (f : Int32 → kS → Option kR) (g : String → kS → Option kR) : Option kR := kBh o (fun v σ => match v with
  | some (.int r) => f r σ
  | _ => none) g
def kBhl (o : Option kR) (f : Int64 → kS → Option kR) (g : String → kS → Option kR) : Option kR := kBh o (fun v σ => match v with
  | some (.long r) => f r σ
  | _ => none) g
section KH
variable {C : kC} {E : kE} {Q : kR → State → Prop} {cc : ByteArray} {own : String} {nL n pc : Nat} {lv : List (Nat × Value)} {rest : List Value} {σ : kS} {o : Option kR}
def kThr (C : kC) (E : kE) (Q : kR → State → Prop) (nL n pc : Nat) (lv : List (Nat × Value)) (rest : List Value) (ex : String) (σ : kS) (o : Option kR) : Prop := match C with
  | (p, l, e, R, s, m, args, below, meth, c) => ∀ u, o = some u → ∀ (H : Heap) (locs : List Loc) (ls : Array Slot) (q : Addr) (ce : Cell), kWd E σ H → va_S (kA E) s.heap H locs → lv_has ls nL lv → H[q]? = some ce → ce.vm = .none → s.vm.findClass ex = some ce.cls → vx_W p l e R s m args below meth c H locs n (8 * n) (Q u) (F0 m pc ls rest) q
theorem k_runH {rv2 : Value → Value} {n2 : Nat} {st0 : List Value} {a : Array Value} {mo : Option kR} {f : Option Value → kS → Option kR} {g : String → kS → Option kR}
    (run : ∀ u2, mo = some u2 → match C with | (p, l, e, R, s, m, args, below, meth, c) => ∀ (H : Heap) (locs : List Loc) (ls : Array Slot), kWd E σ H → va_S (kA E) s.heap H locs → lv_has ls nL lv → vx_Run p l e R s m args below meth c H locs n (8 * n) n2 (8 * n2) (F0 m pc ls st0) rest (kQ E rv2 u2 a) (kXC E u2) (kA E))
    (K : ∀ v σ2, Sm (C, E, Q) nL (n + n2) (pc + 3) lv ((v.map rv2).toList ++ rest) σ2 (f v σ2)) (KX : ∀ ex σ2, kThr C E Q nL (n + n2) pc lv rest ex σ2 (g ex σ2)) : Sm (C, E, Q) nL n pc lv st0 σ (kBh mo f g) := by
  obtain ⟨p, l, e, R, s, m, args, below, meth, c⟩ := C
  intro u hu H locs ls hW hS hl
  cases mo with
  | none => cases hu
  | some u2 =>
    have hr := run u2 rfl H locs ls hW hS hl
    intro T hT X
    rcases hr T hT X with ⟨v, st₀, t, T', L, h0, X', hL, e1, e2, ⟨⟨v', hv1, hv2⟩, hw, hF⟩, st⟩ | ⟨q, st₀, t, T', L, ex, ce, h0, X', hL, e1, e2, ⟨hx1, hw, hF⟩, hce, hcv, hcl, st⟩
    · obtain ⟨k1, k2, k3⟩ := vx_keep h0 e1 hS (fun q _ h => h) (fun q h => h) hL hF
      obtain ⟨r2, σ2⟩ := u2
      dsimp only at hv1 hw
      subst hv1
      cases hv2
      have hu' : f v' σ2 = some u := hu
      have X2 : Stand p l e R s m args below meth c T' (locs ++ L) (n + n2) (8 * (n + n2)) := by rw [Nat.mul_add]; exact X'
      obtain ⟨t2, a1, b1⟩ := K v' σ2 u hu' T'.heap (locs ++ L) ls (by rw [e1]; exact hw) k3 hl T' rfl X2
      exact ⟨t2, st t2 a1, b1⟩
    · obtain ⟨k1, k2, k3⟩ := vx_keep h0 e1 hS (fun q _ h => h) (fun q h => h) hL hF
      obtain ⟨r2, σ2⟩ := u2
      dsimp only at hx1 hw
      subst hx1
      have hu' : g ex σ2 = some u := hu
      have X2 : Stand p l e R s m args below meth c T' (locs ++ L) (n + n2) (8 * (n + n2)) := by rw [Nat.mul_add]; exact X'
      obtain ⟨t2, a1, b1⟩ := KX ex σ2 u hu' T'.heap (locs ++ L) ls q ce (by rw [e1]; exact hw) k3 hl (by rw [e1]; exact hce) hcv hcl T' rfl X2
      exact ⟨t2, st.trans a1, b1⟩
theorem k_callVH {l0 : Launch} {ret : Option FieldType} {fr0 lo0 N fr lo n2 maxL g0 i ci N9 idx : Nat} {y : MethodName} {bytes : ByteArray} {As st0 : List Value} {mo : Option kR} {Cn : String} {T : u_T} {ty : Nat → FieldType} {f : Option Value → kS → Option kR} {g : String → kS → Option kR}
    (hk : kOk (C, E, Q) cc own nL) (hro : kRo C l0 fr0 lo0 N) (hM : kMet l0 E y bytes maxL ret fr lo n2 id (.ref (kad E g0 i) :: As) σ mo) (d : decode cc pc = .ok (.invokevirtual idx, 3)) (hcw : kCv own idx y bytes maxL As.length ret) (hg : kSh g0 = .inl ci) (hi : i < kCnt g0) (hc : kCls ci Cn T N9 ty) (hcn : Cn = y.cls) (hR : fr + 1 ≤ fr0 ∧ 8 + (maxL + 11) + lo ≤ lo0) (hN : n + n2 ≤ N) (hst : st0 = As.reverse ++ .ref (kad E g0 i) :: rest) (hcat : (rest.map fun v => v.category).sum ≤ 8)
    (K : ∀ v σ2, Sm (C, E, Q) nL (n + n2) (pc + 3) lv ((v.map id).toList ++ rest) σ2 (f v σ2)) (KX : ∀ ex σ2, kThr C E Q nL (n + n2) pc lv rest ex σ2 (g ex σ2)) : Sm (C, E, Q) nL n pc lv st0 σ (kBh mo f g) := by
  refine k_runH (rv2 := id) (n2 := n2) (a := (Value.ref (kad E g0 i) :: As).toArray) ?_ K KX
  obtain ⟨p, l, e, R, s, m, args, below, meth, c⟩ := C
  obtain ⟨hx, hb, hml, hown, hts, hEs, hZ, hbs, hEj, hNm, hl9, hlk⟩ := hk
  obtain ⟨rfl, hRm⟩ := hro
  intro u2 hu2 H locs ls hW hS hl
  have hi' := kcnt_of hNm hi
  obtain ⟨cell, q1, q2, q3, q4⟩ := hW.obj hi' hg
  obtain ⟨hSl, hfc, kC9, hkC, hkind⟩ := hEs.1 ci _ hc.1
  have hRm : R = kRm fr0 lo0 N := hRm
  refine vx_runV (Ts := kTB) (C := y.cls) (As := As) ⟨hx, hb, hml, hown, hts⟩ (hM u2 hu2) ⟨kCb hRm hts hcw.1 hR, hts _ hcw.2.1, hts _ hcw.2.2⟩ ⟨kPc.blind, ⟨cell, q1, by rw [q3]; rfl, by rw [← hcn, q2]; exact hfc⟩, fun U hU hWm => ⟨rfl, hEs.moved hWm.alike, by rw [hU]; exact hZ.go hWm hS, by rw [hU]; exact Nat.le_trans hbs hS.1, by rw [hU]; exact hW⟩⟩ rfl rfl hl.1 hst (lv_room hcat) d ?_
  subst hRm
  exact ⟨hN, by show 8 * n + 8 * n2 ≤ 8 * N; omega⟩
theorem k_callVHi {l0 : Launch} {ret : Option FieldType} {fr0 lo0 N fr lo n2 maxL g0 i ci N9 idx : Nat} {y : MethodName} {bytes : ByteArray} {As st0 : List Value} {mo : Option kR} {Cn : String} {T : u_T} {ty : Nat → FieldType} {f : Int32 → kS → Option kR} {g : String → kS → Option kR}
    (hk : kOk (C, E, Q) cc own nL) (hro : kRo C l0 fr0 lo0 N) (hM : kMet l0 E y bytes maxL ret fr lo n2 id (.ref (kad E g0 i) :: As) σ mo) (d : decode cc pc = .ok (.invokevirtual idx, 3)) (hcw : kCv own idx y bytes maxL As.length ret) (hg : kSh g0 = .inl ci) (hi : i < kCnt g0) (hc : kCls ci Cn T N9 ty) (hcn : Cn = y.cls) (hR : fr + 1 ≤ fr0 ∧ 8 + (maxL + 11) + lo ≤ lo0) (hN : n + n2 ≤ N) (hst : st0 = As.reverse ++ .ref (kad E g0 i) :: rest) (hcat : (rest.map fun v => v.category).sum ≤ 8)
    (K : ∀ r σ2, Sm (C, E, Q) nL (n + n2) (pc + 3) lv (.int r :: rest) σ2 (f r σ2)) (KX : ∀ ex σ2, kThr C E Q nL (n + n2) pc lv rest ex σ2 (g ex σ2)) : Sm (C, E, Q) nL n pc lv st0 σ (kBhi mo f g) :=
  k_callVH hk hro hM d hcw hg hi hc hcn hR hN hst hcat (fun v σ2 => by
    cases v with
    | none => exact k_no
    | some v => cases v <;> first | exact k_no | exact K _ σ2) KX
theorem k_callVHl {l0 : Launch} {ret : Option FieldType} {fr0 lo0 N fr lo n2 maxL g0 i ci N9 idx : Nat} {y : MethodName} {bytes : ByteArray} {As st0 : List Value} {mo : Option kR} {Cn : String} {T : u_T} {ty : Nat → FieldType} {f : Int64 → kS → Option kR} {g : String → kS → Option kR}
    (hk : kOk (C, E, Q) cc own nL) (hro : kRo C l0 fr0 lo0 N) (hM : kMet l0 E y bytes maxL ret fr lo n2 id (.ref (kad E g0 i) :: As) σ mo) (d : decode cc pc = .ok (.invokevirtual idx, 3)) (hcw : kCv own idx y bytes maxL As.length ret) (hg : kSh g0 = .inl ci) (hi : i < kCnt g0) (hc : kCls ci Cn T N9 ty) (hcn : Cn = y.cls) (hR : fr + 1 ≤ fr0 ∧ 8 + (maxL + 11) + lo ≤ lo0) (hN : n + n2 ≤ N) (hst : st0 = As.reverse ++ .ref (kad E g0 i) :: rest) (hcat : (rest.map fun v => v.category).sum ≤ 8)
    (K : ∀ r σ2, Sm (C, E, Q) nL (n + n2) (pc + 3) lv (.long r :: rest) σ2 (f r σ2)) (KX : ∀ ex σ2, kThr C E Q nL (n + n2) pc lv rest ex σ2 (g ex σ2)) : Sm (C, E, Q) nL n pc lv st0 σ (kBhl mo f g) :=
  k_callVH hk hro hM d hcw hg hi hc hcn hR hN hst hcat (fun v σ2 => by
    cases v with
    | none => exact k_no
    | some v => cases v <;> first | exact k_no | exact K _ σ2) KX
theorem kThr_no {ex : String} : kThr C E Q nL n pc lv rest ex σ none := by
  obtain ⟨p, l, e, R, s, m, args, below, meth, c⟩ := C
  intro u h
  cases h
theorem kThr_ite {ex x : String} {o1 o2 : Option kR} (k1 : ex = x → kThr C E Q nL n pc lv rest ex σ o1) (k2 : kThr C E Q nL n pc lv rest ex σ o2) : kThr C E Q nL n pc lv rest ex σ (if ex = x then o1 else o2) := by
  by_cases h : ex = x
  · rw [if_pos h]; exact k1 h
  · rw [if_neg h]; exact k2
/-- the row j of the table takes it -/
theorem kThr_c {N : Nat} {ret : Option FieldType} {hh : List (Nat × Nat × Nat × Nat)} {ex x : String} (hk : kOk (C, E, Q) cc own nL) (he : kEndH (C, E, Q) ret N hh) (hex : ex = x) (pre : List ExceptionTableEntry) (r : ExceptionTableEntry) (suf : List ExceptionTableEntry) (hsplit : tableOf hh = pre ++ r :: suf)
    (hpass : ∀ z ∈ pre, covers z pc = true ∧ z.catchType ≠ 0 ∧ ∃ nm : String, Cond.classLink own z.catchType nm ∈ kTB ∧ (x, nm) ∈ kNcL) (hx : covers r pc = true) (h0 : r.catchType ≠ 0) (hlink : Cond.classLink own r.catchType x ∈ kTB) (hin : x ∈ kExL)
    (K : ∀ q, Sm (C, E, Q) nL n r.handlerPc lv [.ref q] σ o) : kThr C E Q nL n pc lv rest ex σ o := by
  subst hex
  obtain ⟨p, l, e, R, s, m, args, below, meth, c⟩ := C
  obtain ⟨hx9, hb, hml, hown, hts, hEs, hZ, hbs, hEj, hNm, hl9, hlk⟩ := hk
  intro u hu H locs ls q ce hW hS hl h1 h2 h3
  exact kx_catch hown pre r suf (he.2.1.trans hsplit) (fun z hz => by
    obtain ⟨g1, g2, nm, g3, g4⟩ := hpass z hz
    exact ⟨g1, g2, nm, hts _ g3, hZ.2.2.2.2.2.2.2.2.2.1 _ g4⟩) hx h0 (hts _ hlink) (va_Nw.use rfl (hZ.2.2.2.2.2.2.2.1 _ hin)) h1 h2 h3 (K q u hu H locs ls hW hS hl)
theorem kh_ireturn {N : Nat} {hh : List (Nat × Nat × Nat × Nat)} {x : Int32} (hk : kOk (C, E, Q) cc own nL) (he : kEndH (C, E, Q) (some .int) N hh) (d : decode cc pc = .ok (.ireturn, 1)) (hN : n ≤ N) : Sm (C, E, Q) nL n pc lv [.int x] σ (some (.inl (some (.int x)), σ)) := by
  obtain ⟨p, l, e, R, s, m, args, below, meth, c⟩ := C
  obtain ⟨hret, htab, hQ⟩ := he
  intro u' hu H locs ls hW hS hl
  cases hu
  show W p l e R s m args below meth c H locs n (8 * n) (Q _) (F0 m pc ls [.int x])
  rw [hQ]
  exact W.widen hN (Nat.mul_le_mul_left 8 hN) (vx_ret (W.iret hk.1 hk.2.1 hret (fun t ht hWm => ⟨⟨some (.int x), rfl, rfl⟩, by rw [ht]; exact hW, hS.F ht⟩) hS.2.2 d hk.2.2.2.2.2.2.2.2.2.2.2))
theorem k_metH {l : Launch} {y : MethodName} {maxL fr lo N : Nat} {ret : Option FieldType} {hh : List (Nat × Nat × Nat × Nat)} {av : List Value} (hj : kEj E) (hNm : kNorm E) (hl : l.stackTraces = false) (hy : plainName y.cls = true) (hlen : (lg_sl av).length ≤ maxL)
    (body : ∀ (C : kC) (Q : kR → State → Prop), kOk (C, E, Q) cc y.cls maxL → kEndH (C, E, Q) ret N hh → kRo C l fr lo N → Sm (C, E, Q) maxL 0 0 (lv_args 0 av) [] σ o) : kMetH l E y cc maxL ret hh fr lo N av σ o := by
  intro u hu
  refine vx_ofWH (cc := cc) (maxL := maxL) (ret := ret) hy rfl ?_
  intro p e s m args below meth c s₁ B hml hv
  obtain ⟨rfl, hEs, hZ, hbs, hW⟩ := hv
  have hts0 := atoms_spec (ws := .codeWith y cc maxL ret hh :: kTB) B.pre
  have h := body (p, l, e, kRm fr lo N, s, m, av.toArray, below, meth, c) (fun u => vx_MQ below (kQ E id u) (kXC E u) av.toArray s N (8 * N) (kA E)) ⟨B.exec, B.bytes, hml, findClass_of_methodNamed B.named, fun w hw => hts0 w (List.mem_cons_of_mem _ hw), hEs, hZ, hbs, hj, hNm, hl, B.notSynchronized⟩ ⟨B.returns, vx_table (x := y) B (hts0 _ List.mem_cons_self), fun u => rfl⟩ ⟨rfl, rfl⟩ u hu s.heap [] ((lg_sl av ++ List.replicate (maxL - (lg_sl av).length) Slot.unset).toArray) hW va_S.rf (lv_entry av hlen)
  rw [lg_entry_eq]
  exact h
end KH
