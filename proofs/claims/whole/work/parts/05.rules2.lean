/-! FIELDS, CALLS, ENDS. -/
section KR2
variable {C : kC} {E : kE} {Q : kR → State → Prop} {cc : ByteArray} {own : String} {nL n pc : Nat} {lv : List (Nat × Value)} {rest : List Value} {σ : kS} {o : Option kR}
def kCls (ci : Nat) (Cn : String) (T : u_T) (N : Nat) (ty : Nat → FieldType) : Prop := vwCl[ci]? = some (Cn, T, N) ∧ kNf ci = N ∧ (∀ w ∈ u_ws Cn T N, w ∈ kTB) ∧ (∀ k, k < N → parseFieldDescriptor (T k).2.2.1 = some (ty k)) ∧ ∀ a, a < N → ∀ b, b < N → a ≠ b → (T a).2.1 ≠ (T b).2.1
theorem kTB_mk {w : Cond} (h : w ∈ lw_tbl) (g : goodWord w = true) : w ∈ kTB := List.mem_filter.mpr ⟨h, g⟩
theorem k_get {g i k ci N idx : Nat} {Cn : String} {T : u_T} {ty : Nat → FieldType} {v : Value} (hk : kOk (C, E, Q) cc own nL) (d : decode cc pc = .ok (.getfield idx, 3)) (hg : kSh g = .inl ci) (hi : i < kCnt g) (hc : kCls ci Cn T N ty) (hkN : k < N) (hlink : Cond.fieldLink own idx (T k).1 (T k).2.1 (T k).2.2.1 ∈ kTB) (hv : kV E σ g i k = v) (K : Sm (C, E, Q) nL n (pc + 3) lv (v :: rest) σ o) : Sm (C, E, Q) nL n pc lv (.ref (kad E g i) :: rest) σ o := by
  obtain ⟨p, l, e, R, s, m, args, below, meth, c⟩ := C
  obtain ⟨hx, hb, hml, hown, hts, hEs, hZ, hbs, hEj, hNm, hl9, hlk⟩ := hk
  intro u hu H locs ls hW hS hl
  obtain ⟨hq, hnf, hin, -, -⟩ := hc
  have hi' := kcnt_of hNm hi
  obtain ⟨cell, q1, q2, q3, q4⟩ := hW.obj hi' hg
  obtain ⟨hSl, hfc, kC9, hkC, hkind⟩ := hEs.1 ci _ hq
  obtain ⟨cf, kf, fi, f, hi9, hsl⟩ := hSl k hkN
  refine W.getf hx hb hown (hts _ hlink) hi9 (u_facts hfc hkC (u_lays hts hin hkN) hi9).1 q1 (by rw [q3]; exact fun h => by cases h) (v := v) ?_ rfl rfl d (K u hu H locs ls hW hS hl)
  rw [hsl, q4 k (by rw [hnf]; exact hkN), hv]
theorem k_getf {g i k ci N idx : Nat} {Cn : String} {T : u_T} {ty : Nat → FieldType} (hk : kOk (C, E, Q) cc own nL) (d : decode cc pc = .ok (.getfield idx, 3)) (hg : kSh g = .inl ci) (hi : i < kCnt g) (hc : kCls ci Cn T N ty) (hkN : k < N) (hlink : Cond.fieldLink own idx (T k).1 (T k).2.1 (T k).2.2.1 ∈ kTB) (hkd : kKd g k = 0) (K : Sm (C, E, Q) nL n (pc + 3) lv (.int (σ.1 g i k) :: rest) σ o) : Sm (C, E, Q) nL n pc lv (.ref (kad E g i) :: rest) σ o := k_get hk d hg hi hc hkN hlink (kV_int hkd) K
theorem k_getr {g i k ci N idx : Nat} {Cn : String} {T : u_T} {ty : Nat → FieldType} (g' i' : Nat) (hk : kOk (C, E, Q) cc own nL) (d : decode cc pc = .ok (.getfield idx, 3)) (hg : kSh g = .inl ci) (hi : i < kCnt g) (hc : kCls ci Cn T N ty) (hkN : k < N) (hlink : Cond.fieldLink own idx (T k).1 (T k).2.1 (T k).2.2.1 ∈ kTB) (hkd : kKd g k = 2) (hr : kRv E g i k = .ref (kad E g' i')) (K : Sm (C, E, Q) nL n (pc + 3) lv (.ref (kad E g' i') :: rest) σ o) : Sm (C, E, Q) nL n pc lv (.ref (kad E g i) :: rest) σ o := by
  have hNm : kNorm E := by
    obtain ⟨p, l, e, R, s, m, args, below, meth, c⟩ := C
    exact hk.2.2.2.2.2.2.2.2.2.1
  exact k_get hk d hg hi hc hkN hlink ((kV_ref hkd).trans ((hNm.2 _ _ _).trans hr)) K
/-- the field that points by the state -/
theorem k_gets {g i k ci N idx : Nat} {Cn : String} {T : u_T} {ty : Nat → FieldType} (hk : kOk (C, E, Q) cc own nL) (d : decode cc pc = .ok (.getfield idx, 3)) (hg : kSh g = .inl ci) (hi : i < kCnt g) (hc : kCls ci Cn T N ty) (hkN : k < N) (hlink : Cond.fieldLink own idx (T k).1 (T k).2.1 (T k).2.2.1 ∈ kTB) (hkd : kKd g k = 3) {f : Nat → Option kR} (K : ∀ j, j < kCnt 10 → Sm (C, E, Q) nL n (pc + 3) lv (.ref (kad E 10 j) :: rest) σ (f j)) : Sm (C, E, Q) nL n pc lv (.ref (kad E g i) :: rest) σ (kg ((σ.1 g i k).toNatClampNeg < kCnt 10) (kb (σ.1 g i k).toNatClampNeg f)) := by
  intro u hu
  obtain ⟨h1, h2⟩ := kg_some hu
  exact k_get hk d hg hi hc hkN hlink (kV_sref hkd) (K _ h1) u h2
theorem k_put {g i k ci N idx : Nat} {Cn : String} {T : u_T} {ty : Nat → FieldType} {v : Value} {x : Int32} {f : kS → Option kR} (hk : kOk (C, E, Q) cc own nL) (d : decode cc pc = .ok (.putfield idx, 3)) (hg : kSh g = .inl ci) (hi : i < kCnt g) (hc : kCls ci Cn T N ty) (hkN : k < N) (hlink : Cond.fieldLink own idx (T k).1 (T k).2.1 (T k).2.2.1 ∈ kTB) (hfin : (T k).2.2.2 = false) (hn : narrow (ty k) v = v) (hfit : fits (ty k) v = true) (hv : kV E (kU σ g i k x) g i k = v) (K : ∀ σ', Sm (C, E, Q) nL n (pc + 3) lv rest σ' (f σ')) : Sm (C, E, Q) nL n pc lv (v :: .ref (kad E g i) :: rest) σ (kb (kU σ g i k x) f) := by
  obtain ⟨p, l, e, R, s, m, args, below, meth, c⟩ := C
  obtain ⟨hx, hb, hml, hown, hts, hEs, hZ, hbs, hEj, hNm, hl9, hlk⟩ := hk
  intro u hu H locs ls hW hS hl
  obtain ⟨hq, hnf, hin, hty, hnm⟩ := hc
  have hi' := kcnt_of hNm hi
  obtain ⟨cell, q1, q2, q3, q4⟩ := hW.obj hi' hg
  rw [hnf] at q4
  have hap := va_apart (D := E.1) (cl := vwCl) (tys := []) (own := own) hts hin ty hty hnm ⟨hEs.1, fun k q h => by simp at h⟩ hq
  obtain ⟨hSl, hfc, kC9, hkC, hkind⟩ := hEs.1 ci _ hq
  obtain ⟨cf, kf, fi, fd, hi9, hsl⟩ := hSl k hkN
  have hlay := hts _ (hin _ (u_in_lay hkN))
  unfold u_lay at hlay
  rw [if_neg (by rw [hfin]; decide)] at hlay
  have hst := (u_facts hfc hkC (u_lays hts hin hkN) hi9).1
  have h6 := u_store hfc hkC hkind hlay hi9 (hty k hkN) hn hfit
  refine W.putK hx hb (f := fd) ⟨hown, hts _ hlink, ⟨_, _, _, hi9⟩, hst⟩ (by rw [q2]; exact h6) q1 q3 (by rw [hsl]; exact k2_hasslot (q4 k hkN)) rfl rfl d fun H' e1 e2 e3 => ?_
  rw [hsl] at e1 ⊢
  refine K (kU σ g i k x) u hu H' _ ls (hW.put hEj hi' ?_ e3 kV_o) (hS.put e2 e3 (hEj.2 g i hi')) hl
  unfold kCell
  rw [hg]
  show t_OB (kad E g i) (E.1.1 ci) (kNf ci) (E.1.2 ci) H' (kV E (kU σ g i k x) g i)
  rw [kV_u hv, hnf]
  exact ⟨_, e1, q2, q3, t_set q4 hap hkN v⟩
theorem k_putf {g i k ci N idx : Nat} {Cn : String} {T : u_T} {ty : Nat → FieldType} {x : Int32} {f : kS → Option kR} (hk : kOk (C, E, Q) cc own nL) (d : decode cc pc = .ok (.putfield idx, 3)) (hg : kSh g = .inl ci) (hi : i < kCnt g) (hc : kCls ci Cn T N ty) (hkN : k < N) (hlink : Cond.fieldLink own idx (T k).1 (T k).2.1 (T k).2.2.1 ∈ kTB) (hfin : (T k).2.2.2 = false) (hn : narrow (ty k) (.int x) = .int x) (hfit : fits (ty k) (.int x) = true) (hkd : kKd g k = 0) (K : ∀ σ', Sm (C, E, Q) nL n (pc + 3) lv rest σ' (f σ')) : Sm (C, E, Q) nL n pc lv (.int x :: .ref (kad E g i) :: rest) σ (kb (kU σ g i k x) f) :=
  k_put hk d hg hi hc hkN hlink hfin hn hfit (by rw [kV_int hkd, kU_s]) K
theorem k_puts {g i k ci N idx j : Nat} {Cn : String} {T : u_T} {ty : Nat → FieldType} {f : kS → Option kR} (hk : kOk (C, E, Q) cc own nL) (d : decode cc pc = .ok (.putfield idx, 3)) (hg : kSh g = .inl ci) (hi : i < kCnt g) (hc : kCls ci Cn T N ty) (hkN : k < N) (hlink : Cond.fieldLink own idx (T k).1 (T k).2.1 (T k).2.2.1 ∈ kTB) (hfin : (T k).2.2.2 = false) (hn : ∀ a, narrow (ty k) (.ref a) = .ref a) (hfit : ∀ a, fits (ty k) (.ref a) = true) (hkd : kKd g k = 3) (hj : j < 100) (K : ∀ σ', Sm (C, E, Q) nL n (pc + 3) lv rest σ' (f σ')) : Sm (C, E, Q) nL n pc lv (.ref (kad E 10 j) :: .ref (kad E g i) :: rest) σ (kb (kU σ g i k (nI j)) f) :=
  k_put hk d hg hi hc hkN hlink hfin (hn _) (hfit _) (by rw [kV_sref hkd, kU_s, nI_clamp (by omega)]) K
/-! calls -/
def kB (o : Option kR) (f : Option Value → kS → Option kR) : Option kR := match o with
  | none => none
  | some (.inl v, σ) => f v σ
  | some (.inr x, σ) => some (.inr x, σ)
def kBi (o : Option kR) (f : Int32 → kS → Option kR) : Option kR := kB o (fun v σ => match v with
  | some (.int r) => f r σ
  | _ => none)
def kBl (o : Option kR) (f : Int64 → kS → Option kR) : Option kR := kB o (fun v σ => match v with
  | some (.long r) => f r σ
  | _ => none)
def kBv (o : Option kR) (f : kS → Option kR) : Option kR := kB o (fun v σ => match v with
  | none => f σ
  | _ => none)
def kRo (C : kC) (l : Launch) (fr lo N : Nat) : Prop := C.2.1 = l ∧ C.2.2.2.1 = kRm fr lo N
theorem k_run {ret : Option FieldType} {rv rv2 : Value → Value} {N n2 : Nat} {st0 : List Value} {a : Array Value} {mo : Option kR} {f : Option Value → kS → Option kR} (he : kEnd (C, E, Q) ret rv N)
    (run : ∀ u2, mo = some u2 → match C with | (p, l, e, R, s, m, args, below, meth, c) => ∀ (H : Heap) (locs : List Loc) (ls : Array Slot), kWd E σ H → va_S (kA E) s.heap H locs → lv_has ls nL lv → vx_Run p l e R s m args below meth c H locs n (8 * n) n2 (8 * n2) (F0 m pc ls st0) rest (kQ E rv2 u2 a) (kXC E u2) (kA E))
    (hlk : C.2.2.2.2.2.2.2.2.1.locks = false) (hN : n + n2 ≤ N) (K : ∀ v σ2, Sm (C, E, Q) nL (n + n2) (pc + 3) lv ((v.map rv2).toList ++ rest) σ2 (f v σ2)) : Sm (C, E, Q) nL n pc lv st0 σ (kB mo f) := by
  obtain ⟨p, l, e, R, s, m, args, below, meth, c⟩ := C
  obtain ⟨hret, htab, hQ⟩ := he
  intro u hu H locs ls hW hS hl
  cases mo with
  | none => cases hu
  | some u2 =>
    have hr := run u2 rfl H locs ls hW hS hl
    intro T hT X
    rcases hr T hT X with ⟨v, st₀, t, T', L, h0, X', hL, e1, e2, ⟨⟨v', hv1, hv2⟩, hw, hF⟩, st⟩ | ⟨q, st₀, t, T', L, ex, ce, h0, X', hL, e1, e2, ⟨hx1, hw, hF⟩, hce, hcv, hcl, st⟩
    · obtain ⟨k1, k2, k3⟩ := vx_keep h0 e1 hS (fun q _ h => h) (fun q h => h) hL hF
      obtain ⟨r2, σ2⟩ := u2
      dsimp only at hv1 hw
      subst hv1
      cases hv2
      have hu' : f v' σ2 = some u := hu
      have X2 : Stand p l e R s m args below meth c T' (locs ++ L) (n + n2) (8 * (n + n2)) := by rw [Nat.mul_add]; exact X'
      obtain ⟨t2, a1, b1⟩ := K v' σ2 u hu' T'.heap (locs ++ L) ls (by rw [e1]; exact hw) k3 hl T' rfl X2
      exact ⟨t2, st t2 a1, b1⟩
    · obtain ⟨k1, k2, k3⟩ := vx_keep h0 e1 hS (fun q _ h => h) (fun q h => h) hL hF
      obtain ⟨r2, σ2⟩ := u2
      dsimp only at hx1 hw
      subst hx1
      have hu' : some ((.inr ex, σ2) : kR) = some u := hu
      cases hu'
      show ∃ t, _ ∧ Q _ t
      rw [hQ]
      have X2 : Stand p l e R s m args below meth c T' (locs ++ L) (n + n2) (8 * (n + n2)) := by rw [Nat.mul_add]; exact X'
      obtain ⟨t2, a1, b1⟩ := vx_out (l := l) (rest := rest) (ls := ls) (pc := pc) (Qc := kQ E rv (Sum.inr ex, σ2)) (XC := kXC E (Sum.inr ex, σ2)) (mc := N) (ms := 8 * N) (free := kA E) (H := T'.heap) (fun x hx => (htab x hx).elim) hlk (by rw [e1]; exact hce) hcv hcl (fun t9 ht9 hv9 => ⟨rfl, by rw [ht9, e1]; exact hw, k3.F ht9⟩) k3.2.2 hN (Nat.mul_le_mul_left 8 hN) T' rfl X2
      exact ⟨t2, st.trans a1, b1⟩
/-- the words of a callee -/
theorem kWs {s : State} {args : Array Value} {y : MethodName} {bytes : ByteArray} {maxL : Nat} {ret : Option FieldType} (hts : ∀ w ∈ kTB, w.before args s = true) (hcode : Cond.code y bytes maxL ret ∈ kTB) : ∀ w ∈ Cond.code y bytes maxL ret :: kTB, ∀ (a' : Array Value) (U : State), s.WarmedH U.vm → w.before a' U = true := by
  intro w hw a' U hW
  have h : w ∈ kTB := by
    rcases List.mem_cons.mp hw with e | h
    · rw [e]; exact hcode
    · exact h
  exact word_at hW (kTB_good h) (hts w h)
theorem kPc.blind {E : kE} {σ : kS} {av : List Value} : FrameBlind (kPc E σ av) := fun a U g mk h => ⟨h.1, h.2.1.moved (u := U) (U := U.calling g mk a) (Vm.Alike.refl U.vm), h.2.2.1.same rfl, h.2.2.2⟩
def kCw (own : String) (idx : Nat) (y : MethodName) (bytes : ByteArray) (maxL np : Nat) (ret : Option FieldType) : Prop := Cond.code y bytes maxL ret ∈ kTB ∧ Cond.methodLink own idx y ∈ kTB ∧ Cond.initialized y.cls ∈ kTB ∧ y.cls ≠ "java/lang/invoke/MethodHandle" ∧ y.cls ≠ "java/lang/invoke/VarHandle" ∧ (parseMethodDescriptor y.desc).map (fun d => d.parameters.length) = some np
def kCv (own : String) (idx : Nat) (y : MethodName) (bytes : ByteArray) (maxL np : Nat) (ret : Option FieldType) : Prop := kCw own idx y bytes maxL np ret ∧ Cond.instanceMethod y ∈ kTB ∧ Cond.selects y.cls y y ∈ kTB
def kCs (own : String) (idx : Nat) (y : MethodName) (bytes : ByteArray) (maxL np : Nat) (ret : Option FieldType) : Prop := kCw own idx y bytes maxL np ret ∧ Cond.static y ∈ kTB
theorem kCb {R : Room} {s : State} {args : Array Value} {idx : Nat} {y : MethodName} {bytes : ByteArray} {maxL np fr lo fr0 lo0 N n2 : Nat} {ret : Option FieldType} (hR : R = kRm fr0 lo0 N) (hts : ∀ w ∈ kTB, w.before args s = true) (h : kCw own idx y bytes maxL np ret) (hro : fr + 1 ≤ fr0 ∧ 8 + (maxL + 11) + lo ≤ lo0) : CallB R s args own idx y bytes maxL ret (.code y bytes maxL ret :: kTB) (kRm fr lo n2) n2 (8 * n2) np := by
  subst hR
  obtain ⟨h1, h2, h3, h4, h5, h6⟩ := h
  refine ⟨rfl, rfl, hro.1, hro.2, kWs hts h1, List.mem_cons_self, hts _ h1, hts _ h3, ⟨h4, h5⟩, fun sig hs => ?_, hts _ h2⟩
  rw [hs] at h6
  exact (Option.some.inj h6).symm
theorem k_callV {l0 : Launch} {ret0 ret : Option FieldType} {rv rv2 : Value → Value} {fr0 lo0 N fr lo n2 maxL g i ci N9 idx : Nat} {y : MethodName} {bytes : ByteArray} {As st0 : List Value} {mo : Option kR} {Cn : String} {T : u_T} {ty : Nat → FieldType} {f : Option Value → kS → Option kR}
    (hk : kOk (C, E, Q) cc own nL) (he : kEnd (C, E, Q) ret0 rv N) (hro : kRo C l0 fr0 lo0 N) (hM : kMet l0 E y bytes maxL ret fr lo n2 rv2 (.ref (kad E g i) :: As) σ mo) (d : decode cc pc = .ok (.invokevirtual idx, 3)) (hcw : kCv own idx y bytes maxL As.length ret) (hg : kSh g = .inl ci) (hi : i < kCnt g) (hc : kCls ci Cn T N9 ty) (hcn : Cn = y.cls) (hR : fr + 1 ≤ fr0 ∧ 8 + (maxL + 11) + lo ≤ lo0) (hN : n + n2 ≤ N) (hst : st0 = As.reverse ++ .ref (kad E g i) :: rest) (hcat : (rest.map fun v => v.category).sum ≤ 8)
    (K : ∀ v σ2, Sm (C, E, Q) nL (n + n2) (pc + 3) lv ((v.map rv2).toList ++ rest) σ2 (f v σ2)) : Sm (C, E, Q) nL n pc lv st0 σ (kB mo f) := by
  refine k_run (rv2 := rv2) (n2 := n2) (a := (Value.ref (kad E g i) :: As).toArray) he ?_ (by obtain ⟨p, l, e, R, s, m, args, below, meth, c⟩ := C; exact hk.2.2.2.2.2.2.2.2.2.2.2) hN K
  obtain ⟨p, l, e, R, s, m, args, below, meth, c⟩ := C
  obtain ⟨hx, hb, hml, hown, hts, hEs, hZ, hbs, hEj, hNm, hl9, hlk⟩ := hk
  obtain ⟨rfl, hRm⟩ := hro
  intro u2 hu2 H locs ls hW hS hl
  have hi' := kcnt_of hNm hi
  obtain ⟨cell, q1, q2, q3, q4⟩ := hW.obj hi' hg
  obtain ⟨hSl, hfc, kC9, hkC, hkind⟩ := hEs.1 ci _ hc.1
  have hRm : R = kRm fr0 lo0 N := hRm
  refine vx_runV (Ts := kTB) (C := y.cls) (As := As) ⟨hx, hb, hml, hown, hts⟩ (hM u2 hu2) ⟨kCb hRm hts hcw.1 hR, hts _ hcw.2.1, hts _ hcw.2.2⟩ ⟨kPc.blind, ⟨cell, q1, by rw [q3]; rfl, by rw [← hcn, q2]; exact hfc⟩, fun U hU hWm => ⟨rfl, hEs.moved hWm.alike, by rw [hU]; exact hZ.go hWm hS, by rw [hU]; exact Nat.le_trans hbs hS.1, by rw [hU]; exact hW⟩⟩ rfl rfl hl.1 hst (lv_room hcat) d ?_
  subst hRm
  exact ⟨hN, by show 8 * n + 8 * n2 ≤ 8 * N; omega⟩
theorem k_callS {l0 : Launch} {ret0 ret : Option FieldType} {rv rv2 : Value → Value} {fr0 lo0 N fr lo n2 maxL idx : Nat} {y : MethodName} {bytes : ByteArray} {As st0 : List Value} {mo : Option kR} {f : Option Value → kS → Option kR}
    (hk : kOk (C, E, Q) cc own nL) (he : kEnd (C, E, Q) ret0 rv N) (hro : kRo C l0 fr0 lo0 N) (hM : kMet l0 E y bytes maxL ret fr lo n2 rv2 As σ mo) (d : decode cc pc = .ok (.invokestatic idx, 3)) (hcw : kCs own idx y bytes maxL As.length ret) (hR : fr + 1 ≤ fr0 ∧ 8 + (maxL + 11) + lo ≤ lo0) (hN : n + n2 ≤ N) (hst : st0 = As.reverse ++ rest) (hcat : (rest.map fun v => v.category).sum ≤ 8)
    (K : ∀ v σ2, Sm (C, E, Q) nL (n + n2) (pc + 3) lv ((v.map rv2).toList ++ rest) σ2 (f v σ2)) : Sm (C, E, Q) nL n pc lv st0 σ (kB mo f) := by
  refine k_run (rv2 := rv2) (n2 := n2) (a := As.toArray) he ?_ (by obtain ⟨p, l, e, R, s, m, args, below, meth, c⟩ := C; exact hk.2.2.2.2.2.2.2.2.2.2.2) hN K
  obtain ⟨p, l, e, R, s, m, args, below, meth, c⟩ := C
  obtain ⟨hx, hb, hml, hown, hts, hEs, hZ, hbs, hEj, hNm, hl9, hlk⟩ := hk
  obtain ⟨rfl, hRm⟩ := hro
  intro u2 hu2 H locs ls hW hS hl
  have hRm : R = kRm fr0 lo0 N := hRm
  refine vx_runS (Ts := kTB) (As := As) ⟨hx, hb, hml, hown, hts⟩ (hM u2 hu2) ⟨kCb hRm hts hcw.1 hR, hts _ hcw.2⟩ ⟨kPc.blind, fun U hU hWm => ⟨rfl, hEs.moved hWm.alike, by rw [hU]; exact hZ.go hWm hS, by rw [hU]; exact Nat.le_trans hbs hS.1, by rw [hU]; exact hW⟩⟩ rfl rfl hl.1 hst (lv_room hcat) d ?_
  subst hRm
  exact ⟨hN, by show 8 * n + 8 * n2 ≤ 8 * N; omega⟩
theorem k_callVi {l0 : Launch} {ret0 ret : Option FieldType} {rv : Value → Value} {fr0 lo0 N fr lo n2 maxL g i ci N9 idx : Nat} {y : MethodName} {bytes : ByteArray} {As st0 : List Value} {mo : Option kR} {Cn : String} {T : u_T} {ty : Nat → FieldType} {f : Int32 → kS → Option kR}
    (hk : kOk (C, E, Q) cc own nL) (he : kEnd (C, E, Q) ret0 rv N) (hro : kRo C l0 fr0 lo0 N) (hM : kMet l0 E y bytes maxL ret fr lo n2 id (.ref (kad E g i) :: As) σ mo) (d : decode cc pc = .ok (.invokevirtual idx, 3)) (hcw : kCv own idx y bytes maxL As.length ret) (hg : kSh g = .inl ci) (hi : i < kCnt g) (hc : kCls ci Cn T N9 ty) (hcn : Cn = y.cls) (hR : fr + 1 ≤ fr0 ∧ 8 + (maxL + 11) + lo ≤ lo0) (hN : n + n2 ≤ N) (hst : st0 = As.reverse ++ .ref (kad E g i) :: rest) (hcat : (rest.map fun v => v.category).sum ≤ 8)
    (K : ∀ r σ2, Sm (C, E, Q) nL (n + n2) (pc + 3) lv (.int r :: rest) σ2 (f r σ2)) : Sm (C, E, Q) nL n pc lv st0 σ (kBi mo f) :=
  k_callV hk he hro hM d hcw hg hi hc hcn hR hN hst hcat (fun v σ2 => by
    cases v with
    | none => exact k_no
    | some v => cases v <;> first | exact k_no | exact K _ σ2)
theorem k_callVl {l0 : Launch} {ret0 ret : Option FieldType} {rv : Value → Value} {fr0 lo0 N fr lo n2 maxL g i ci N9 idx : Nat} {y : MethodName} {bytes : ByteArray} {As st0 : List Value} {mo : Option kR} {Cn : String} {T : u_T} {ty : Nat → FieldType} {f : Int64 → kS → Option kR}
    (hk : kOk (C, E, Q) cc own nL) (he : kEnd (C, E, Q) ret0 rv N) (hro : kRo C l0 fr0 lo0 N) (hM : kMet l0 E y bytes maxL ret fr lo n2 id (.ref (kad E g i) :: As) σ mo) (d : decode cc pc = .ok (.invokevirtual idx, 3)) (hcw : kCv own idx y bytes maxL As.length ret) (hg : kSh g = .inl ci) (hi : i < kCnt g) (hc : kCls ci Cn T N9 ty) (hcn : Cn = y.cls) (hR : fr + 1 ≤ fr0 ∧ 8 + (maxL + 11) + lo ≤ lo0) (hN : n + n2 ≤ N) (hst : st0 = As.reverse ++ .ref (kad E g i) :: rest) (hcat : (rest.map fun v => v.category).sum ≤ 8)
    (K : ∀ r σ2, Sm (C, E, Q) nL (n + n2) (pc + 3) lv (.long r :: rest) σ2 (f r σ2)) : Sm (C, E, Q) nL n pc lv st0 σ (kBl mo f) :=
  k_callV hk he hro hM d hcw hg hi hc hcn hR hN hst hcat (fun v σ2 => by
    cases v with
    | none => exact k_no
    | some v => cases v <;> first | exact k_no | exact K _ σ2)
theorem k_callVv {l0 : Launch} {ret0 ret : Option FieldType} {rv : Value → Value} {fr0 lo0 N fr lo n2 maxL g i ci N9 idx : Nat} {y : MethodName} {bytes : ByteArray} {As st0 : List Value} {mo : Option kR} {Cn : String} {T : u_T} {ty : Nat → FieldType} {f : kS → Option kR}
    (hk : kOk (C, E, Q) cc own nL) (he : kEnd (C, E, Q) ret0 rv N) (hro : kRo C l0 fr0 lo0 N) (hM : kMet l0 E y bytes maxL ret fr lo n2 id (.ref (kad E g i) :: As) σ mo) (d : decode cc pc = .ok (.invokevirtual idx, 3)) (hcw : kCv own idx y bytes maxL As.length ret) (hg : kSh g = .inl ci) (hi : i < kCnt g) (hc : kCls ci Cn T N9 ty) (hcn : Cn = y.cls) (hR : fr + 1 ≤ fr0 ∧ 8 + (maxL + 11) + lo ≤ lo0) (hN : n + n2 ≤ N) (hst : st0 = As.reverse ++ .ref (kad E g i) :: rest) (hcat : (rest.map fun v => v.category).sum ≤ 8)
    (K : ∀ σ2, Sm (C, E, Q) nL (n + n2) (pc + 3) lv rest σ2 (f σ2)) : Sm (C, E, Q) nL n pc lv st0 σ (kBv mo f) :=
  k_callV hk he hro hM d hcw hg hi hc hcn hR hN hst hcat (fun v σ2 => by
    cases v with
    | none => exact K σ2
    | some v => exact k_no)
theorem k_callSi {l0 : Launch} {ret0 ret : Option FieldType} {rv : Value → Value} {fr0 lo0 N fr lo n2 maxL idx : Nat} {y : MethodName} {bytes : ByteArray} {As st0 : List Value} {mo : Option kR} {f : Int32 → kS → Option kR}
    (hk : kOk (C, E, Q) cc own nL) (he : kEnd (C, E, Q) ret0 rv N) (hro : kRo C l0 fr0 lo0 N) (hM : kMet l0 E y bytes maxL ret fr lo n2 id As σ mo) (d : decode cc pc = .ok (.invokestatic idx, 3)) (hcw : kCs own idx y bytes maxL As.length ret) (hR : fr + 1 ≤ fr0 ∧ 8 + (maxL + 11) + lo ≤ lo0) (hN : n + n2 ≤ N) (hst : st0 = As.reverse ++ rest) (hcat : (rest.map fun v => v.category).sum ≤ 8)
    (K : ∀ r σ2, Sm (C, E, Q) nL (n + n2) (pc + 3) lv (.int r :: rest) σ2 (f r σ2)) : Sm (C, E, Q) nL n pc lv st0 σ (kBi mo f) :=
  k_callS hk he hro hM d hcw hR hN hst hcat (fun v σ2 => by
    cases v with
    | none => exact k_no
    | some v => cases v <;> first | exact k_no | exact K _ σ2)
theorem k_callSv {l0 : Launch} {ret0 ret : Option FieldType} {rv : Value → Value} {fr0 lo0 N fr lo n2 maxL idx : Nat} {y : MethodName} {bytes : ByteArray} {As st0 : List Value} {mo : Option kR} {f : kS → Option kR}
    (hk : kOk (C, E, Q) cc own nL) (he : kEnd (C, E, Q) ret0 rv N) (hro : kRo C l0 fr0 lo0 N) (hM : kMet l0 E y bytes maxL ret fr lo n2 id As σ mo) (d : decode cc pc = .ok (.invokestatic idx, 3)) (hcw : kCs own idx y bytes maxL As.length ret) (hR : fr + 1 ≤ fr0 ∧ 8 + (maxL + 11) + lo ≤ lo0) (hN : n + n2 ≤ N) (hst : st0 = As.reverse ++ rest) (hcat : (rest.map fun v => v.category).sum ≤ 8)
    (K : ∀ σ2, Sm (C, E, Q) nL (n + n2) (pc + 3) lv rest σ2 (f σ2)) : Sm (C, E, Q) nL n pc lv st0 σ (kBv mo f) :=
  k_callS hk he hro hM d hcw hR hN hst hcat (fun v σ2 => by
    cases v with
    | none => exact K σ2
    | some v => exact k_no)
/-! ends -/
theorem k_ret {ret : Option FieldType} {rv : Value → Value} {N : Nat} {st : List Value} {u : kR} {v : Option Value} (he : kEnd (C, E, Q) ret rv N) (hN : n ≤ N) (hv : u.1 = .inl v)
    (w : match C with | (p, l, e, R, s, m, args, below, meth, c) => ∀ (H : Heap) (locs : List Loc) (ls : Array Slot) (Qc : Array Value → State → Outcome → State → Prop), (∀ t : State, t.heap = H → s.WarmedH t.vm → Qc args s (.returned (v.map rv)) t) → (∀ q ∈ locs, kA E q.base) → W p l e R s m args below meth c H locs N (8 * N) (MQ below Qc args s N (8 * N) (kA E)) (F0 m pc ls st))
    (hσ : u.2 = σ) : Sm (C, E, Q) nL n pc lv st σ (some u) := by
  obtain ⟨p, l, e, R, s, m, args, below, meth, c⟩ := C
  obtain ⟨hret, htab, hQ⟩ := he
  intro u' hu H locs ls hW hS hl
  cases hu
  show W p l e R s m args below meth c H locs n (8 * n) (Q u) (F0 m pc ls st)
  rw [hQ]
  refine W.widen hN (Nat.mul_le_mul_left 8 hN) (vx_ret (w H locs ls (kQ E rv u) (fun t ht hWm => ⟨⟨v, hv, rfl⟩, by rw [ht, hσ]; exact hW, hS.F ht⟩) hS.2.2))
theorem k_ireturn {N : Nat} {x : Int32} (hk : kOk (C, E, Q) cc own nL) (he : kEnd (C, E, Q) (some .int) id N) (d : decode cc pc = .ok (.ireturn, 1)) (hN : n ≤ N) : Sm (C, E, Q) nL n pc lv [.int x] σ (some (.inl (some (.int x)), σ)) := by
  refine k_ret (v := some (.int x)) he hN rfl ?_ rfl
  obtain ⟨p, l, e, R, s, m, args, below, meth, c⟩ := C
  exact fun H locs ls Qc hq hf => W.iret hk.1 hk.2.1 he.1 hq hf d hk.2.2.2.2.2.2.2.2.2.2.2
theorem k_zreturn {N : Nat} {x : Int32} (hk : kOk (C, E, Q) cc own nL) (he : kEnd (C, E, Q) (some .boolean) id N) (d : decode cc pc = .ok (.ireturn, 1)) (hN : n ≤ N) : Sm (C, E, Q) nL n pc lv [.int x] σ (kg (narrow .boolean (.int x) = .int x) (some (.inl (some (.int x)), σ))) := by
  intro u hu
  obtain ⟨h1, h2⟩ := kg_some hu
  refine k_ret (v := some (.int x)) he hN rfl ?_ rfl u h2
  obtain ⟨p, l, e, R, s, m, args, below, meth, c⟩ := C
  exact fun H locs ls Qc hq hf => W.zret hk.1 hk.2.1 he.1 h1 hq hf d hk.2.2.2.2.2.2.2.2.2.2.2
theorem k_zreturn_c {N : Nat} {x : Int32} (hk : kOk (C, E, Q) cc own nL) (he : kEnd (C, E, Q) (some .boolean) id N) (d : decode cc pc = .ok (.ireturn, 1)) (hN : n ≤ N) (h1 : narrow .boolean (.int x) = .int x) : Sm (C, E, Q) nL n pc lv [.int x] σ (some (.inl (some (.int x)), σ)) := by
  refine k_ret (v := some (.int x)) he hN rfl ?_ rfl
  obtain ⟨p, l, e, R, s, m, args, below, meth, c⟩ := C
  exact fun H locs ls Qc hq hf => W.zret hk.1 hk.2.1 he.1 h1 hq hf d hk.2.2.2.2.2.2.2.2.2.2.2
theorem k_lreturn {N : Nat} {x : Int64} (hk : kOk (C, E, Q) cc own nL) (he : kEnd (C, E, Q) (some .long) id N) (d : decode cc pc = .ok (.lreturn, 1)) (hN : n ≤ N) : Sm (C, E, Q) nL n pc lv [.long x] σ (some (.inl (some (.long x)), σ)) := by
  refine k_ret (v := some (.long x)) he hN rfl ?_ rfl
  obtain ⟨p, l, e, R, s, m, args, below, meth, c⟩ := C
  exact fun H locs ls Qc hq hf => W.lret hk.1 hk.2.1 he.1 hq hf d hk.2.2.2.2.2.2.2.2.2.2.2
theorem k_return {N : Nat} (hk : kOk (C, E, Q) cc own nL) (he : kEnd (C, E, Q) none id N) (d : decode cc pc = .ok (.return_, 1)) (hN : n ≤ N) : Sm (C, E, Q) nL n pc lv [] σ (some (.inl none, σ)) := by
  refine k_ret (v := none) he hN rfl ?_ rfl
  obtain ⟨p, l, e, R, s, m, args, below, meth, c⟩ := C
  exact fun H locs ls Qc hq hf => W.vret hk.1 hk.2.1 he.1 hq hf d hk.2.2.2.2.2.2.2.2.2.2.2
/-- a contract out of the walk of its body -/
theorem k_met {l : Launch} {y : MethodName} {maxL fr lo N : Nat} {ret : Option FieldType} {rv : Value → Value} {av : List Value} (hj : kEj E) (hNm : kNorm E) (hl : l.stackTraces = false) (hy : plainName y.cls = true) (hlen : (lg_sl av).length ≤ maxL)
    (body : ∀ (C : kC) (Q : kR → State → Prop), kOk (C, E, Q) cc y.cls maxL → kEnd (C, E, Q) ret rv N → kRo C l fr lo N → Sm (C, E, Q) maxL 0 0 (lv_args 0 av) [] σ o) : kMet l E y cc maxL ret fr lo N rv av σ o := by
  intro u hu
  refine vx_ofW (cc := cc) (maxL := maxL) (ret := ret) hy rfl ?_
  intro p e s m args below meth c s₁ B hml htab hv
  obtain ⟨rfl, hEs, hZ, hbs, hW⟩ := hv
  have hts0 := atoms_spec (ws := .code y cc maxL ret :: kTB) B.pre
  have h := body (p, l, e, kRm fr lo N, s, m, av.toArray, below, meth, c) (fun u => vx_MQ below (kQ E rv u) (kXC E u) av.toArray s N (8 * N) (kA E)) ⟨B.exec, B.bytes, hml, findClass_of_methodNamed B.named, fun w hw => hts0 w (List.mem_cons_of_mem _ hw), hEs, hZ, hbs, hj, hNm, hl, B.notSynchronized⟩ ⟨B.returns, htab, fun u => rfl⟩ ⟨rfl, rfl⟩ u hu s.heap [] ((lg_sl av ++ List.replicate (maxL - (lg_sl av).length) Slot.unset).toArray) hW va_S.rf (lv_entry av hlen)
  rw [lg_entry_eq]
  exact h
end KR2
