/-! MORE RULES: constant places, tables, switches, what is thrown. -/
section KR3
variable {C : kC} {E : kE} {Q : kR → State → Prop} {cc : ByteArray} {own : String} {nL n pc : Nat} {lv : List (Nat × Value)} {rest : List Value} {σ : kS} {o : Option kR}
theorem k_iald_k {g i len kk : Nat} {j : Int32} (hk : kOk (C, E, Q) cc own nL) (d : decode cc pc = .ok (.iaload, 1)) (hg : kSh g = .inr (.int, len)) (hi : i < kCnt g) (hin : kin j len) (hkk : j.toNatClampNeg = kk) (k : Sm (C, E, Q) nL n (pc + 1) lv (.int (σ.1 g i kk) :: rest) σ o) : Sm (C, E, Q) nL n pc lv (.int j :: .ref (kad E g i) :: rest) σ o := by
  subst hkk
  exact k_iald_c hk d hg hi hin k
theorem k_lald_k {g i len kk : Nat} {j : Int32} (hk : kOk (C, E, Q) cc own nL) (d : decode cc pc = .ok (.laload, 1)) (hg : kSh g = .inr (.long, len)) (hi : i < kCnt g) (hin : kin j len) (hkk : j.toNatClampNeg = kk) (k : Sm (C, E, Q) nL n (pc + 1) lv (.long (σ.2 g i kk) :: rest) σ o) : Sm (C, E, Q) nL n pc lv (.int j :: .ref (kad E g i) :: rest) σ o := by
  subst hkk
  exact k_lald_c hk d hg hi hin k
theorem k_iast_k {g i len kk : Nat} {j x : Int32} {f : kS → Option kR} (hk : kOk (C, E, Q) cc own nL) (d : decode cc pc = .ok (.iastore, 1)) (hg : kSh g = .inr (.int, len)) (hi : i < kCnt g) (hin : kin j len) (hkk : j.toNatClampNeg = kk) (k : ∀ σ' : kS, Sm (C, E, Q) nL n (pc + 1) lv rest σ' (f σ')) : Sm (C, E, Q) nL n pc lv (.int x :: .int j :: .ref (kad E g i) :: rest) σ (kb (kU σ g i kk x) f) := by
  subst hkk
  exact k_iast_c hk d hg hi hin k
theorem k_last_k {g i len kk : Nat} {j : Int32} {x : Int64} {f : kS → Option kR} (hk : kOk (C, E, Q) cc own nL) (d : decode cc pc = .ok (.lastore, 1)) (hg : kSh g = .inr (.long, len)) (hi : i < kCnt g) (hin : kin j len) (hkk : j.toNatClampNeg = kk) (k : ∀ σ' : kS, Sm (C, E, Q) nL n (pc + 1) lv rest σ' (f σ')) : Sm (C, E, Q) nL n pc lv (.long x :: .int j :: .ref (kad E g i) :: rest) σ (kb (kUL σ g i kk x) f) := by
  subst hkk
  exact k_last_c hk d hg hi hin k
theorem k_aaldj {g i len g' : Nat} (ff : Nat → Nat) {ty : FieldType} {j : Int32} {f : Nat → Option kR} (hk : kOk (C, E, Q) cc own nL) (d : decode cc pc = .ok (.aaload, 1)) (hg : kSh g = .inr (ty, len)) (hty : ty.isReference = true) (hkd : kKd g 0 = 2) (hi : i < kCnt g) (hv : ∀ z, kRv E g i z = .ref (kad E g' (ff z))) (hb : ∀ z, z < len → ff z < kCnt g') (k : ∀ j', j' < kCnt g' → Sm (C, E, Q) nL n (pc + 1) lv (.ref (kad E g' j') :: rest) σ (f j')) : Sm (C, E, Q) nL n pc lv (.int j :: .ref (kad E g i) :: rest) σ (kg (kin j len) (kb (ff j.toNatClampNeg) f)) := by
  intro u hu
  obtain ⟨h1, h2⟩ := kg_some hu
  exact k_aald_c hk d hg hty hkd hi h1 (hv _) (k _ (hb _ (kin_lt h1))) u h2
/-- the static tables -/
theorem k_tget {idx t : Nat} (hk : kOk (C, E, Q) cc own nL) (d : decode cc pc = .ok (.getstatic idx, 3)) (ht : t < 3) (hlink : Cond.fieldLink own idx "MastSparks" (kZn t) "[I" ∈ kTB) (k : Sm (C, E, Q) nL n (pc + 3) lv (.ref (kz E t) :: rest) σ o) : Sm (C, E, Q) nL n pc lv rest σ o := by
  obtain ⟨p, l, e, R, s, m, args, below, meth, c⟩ := C
  obtain ⟨hx, hb, hml, hown, hts, hEs, hZ, hbs, hEj, hNm, hl9, hlk⟩ := hk
  intro u hu H locs ls hW hS hl
  exact va_gets hx hb (hZ.1 t ht).1 hS hown (hts _ hlink) (fun x h => h) d (k u hu H locs ls hW hS hl)
theorem k_tald {t : Nat} {j : Int32} (hk : kOk (C, E, Q) cc own nL) (d : decode cc pc = .ok (.iaload, 1)) (ht : t < 3) (k : kin j 10 → Sm (C, E, Q) nL n (pc + 1) lv (.int ((kZv t).getD j.toNatClampNeg 0) :: rest) σ o) : Sm (C, E, Q) nL n pc lv (.int j :: .ref (kz E t) :: rest) σ (kg (kin j 10) o) := by
  obtain ⟨p, l, e, R, s, m, args, below, meth, c⟩ := C
  obtain ⟨hx, hb, hml, hown, hts, hEs, hZ, hbs, hEj, hNm, hl9, hlk⟩ := hk
  intro u hu H locs ls hW hS hl
  obtain ⟨h1, h2⟩ := kg_some hu
  exact va_ti hx hb (hZ.1 t ht).2 hS (kin_vp h1) rfl d (k h1 u h2 H locs ls hW hS hl)
theorem k_tald_k {t kk : Nat} {j v : Int32} (hk : kOk (C, E, Q) cc own nL) (d : decode cc pc = .ok (.iaload, 1)) (ht : t < 3) (h1 : kin j 10) (hkk : j.toNatClampNeg = kk) (hv : (kZv t).getD kk 0 = v) (k : Sm (C, E, Q) nL n (pc + 1) lv (.int v :: rest) σ o) : Sm (C, E, Q) nL n pc lv (.int j :: .ref (kz E t) :: rest) σ o := by
  subst hkk; subst hv
  obtain ⟨p, l, e, R, s, m, args, below, meth, c⟩ := C
  obtain ⟨hx, hb, hml, hown, hts, hEs, hZ, hbs, hEj, hNm, hl9, hlk⟩ := hk
  intro u hu H locs ls hW hS hl
  exact va_ti hx hb (hZ.1 t ht).2 hS (kin_vp h1) rfl d (k u hu H locs ls hW hS hl)
theorem k_ldc {idx : Nat} {v : Int32} (hk : kOk (C, E, Q) cc own nL) (d : decode cc pc = .ok (.ldc idx, 2)) (hc : Cond.constant own idx v ∈ kTB) (k : Sm (C, E, Q) nL n (pc + 2) lv (.int v :: rest) σ o) : Sm (C, E, Q) nL n pc lv rest σ o := by
  obtain ⟨p, l, e, R, s, m, args, below, meth, c⟩ := C
  intro u hu H locs ls hW hS hl
  exact lv_ldc hk.1 hk.2.1 hk.2.2.2.1 (hk.2.2.2.2.1 _ hc) d (k u hu H locs ls hW hS hl)
theorem k_ldc2 {idx : Nat} {v : Int64} (hk : kOk (C, E, Q) cc own nL) (d : decode cc pc = .ok (.ldc2_w idx, 3)) (hc : Cond.constantLong own idx v ∈ kTB) (k : Sm (C, E, Q) nL n (pc + 3) lv (.long v :: rest) σ o) : Sm (C, E, Q) nL n pc lv rest σ o := by
  obtain ⟨p, l, e, R, s, m, args, below, meth, c⟩ := C
  intro u hu H locs ls hW hS hl
  exact lv_ldc2 hk.1 hk.2.1 hk.2.2.2.1 (hk.2.2.2.2.1 _ hc) d (k u hu H locs ls hW hS hl)
theorem k_ldcS {idx t : Nat} (hk : kOk (C, E, Q) cc own nL) (d : decode cc pc = .ok (.ldc idx, 2)) (ht : t < 23) (h1 : (kTx t).1 = own) (h2 : (kTx t).2.1 = idx) (k : Sm (C, E, Q) nL n (pc + 2) lv (.ref (ktx E t) :: rest) σ o) : Sm (C, E, Q) nL n pc lv rest σ o := by
  obtain ⟨p, l, e, R, s, m, args, below, meth, c⟩ := C
  obtain ⟨hx, hb, hml, hown, hts, hEs, hZ, hbs, hEj, hNm, hl9, hlk⟩ := hk
  intro u hu H locs ls hW hS hl
  have h3 := hZ.2.2.1 t ht
  rw [h1, h2] at h3
  exact va_ldcS hx hb hown h3 d (k u hu H locs ls hW hS hl)
/-! switches -/
theorem k_ite {c : Prop} [Decidable c] {o1 o2 : Option kR} {st : List Value} (k1 : c → Sm (C, E, Q) nL n pc lv st σ o1) (k2 : ¬ c → Sm (C, E, Q) nL n pc lv st σ o2) : Sm (C, E, Q) nL n pc lv st σ (if c then o1 else o2) := by
  by_cases h : c
  · rw [if_pos h]; exact k1 h
  · rw [if_neg h]; exact k2 h
theorem k_tin {dflt lo hi off : Int} {offs : Array Int} {len : Nat} {x v : Int32} (hk : kOk (C, E, Q) cc own nL) (d : decode cc pc = .ok (.tableswitch dflt lo hi offs, len)) (hx : x = v) (h1 : ¬ v.toInt < lo) (h2 : ¬ hi < v.toInt) (ho : offs[(v.toInt - lo).toNat]? = some off) (tgt : Nat) (ht : (pc : Int) + off = (tgt : Int)) (k : Sm (C, E, Q) nL n tgt lv rest σ o) : Sm (C, E, Q) nL n pc lv (.int x :: rest) σ o := by
  subst hx
  obtain ⟨p, l, e, R, s, m, args, below, meth, c⟩ := C
  intro u hu H locs ls hW hS hl
  exact lv_tableIn hk.1 hk.2.1 d h1 h2 ho ht (k u hu H locs ls hW hS hl)
theorem k_tout {dflt lo hi : Int} {offs : Array Int} {len : Nat} {x : Int32} (hk : kOk (C, E, Q) cc own nL) (d : decode cc pc = .ok (.tableswitch dflt lo hi offs, len)) (h : x.toInt < lo ∨ hi < x.toInt) (tgt : Nat) (ht : (pc : Int) + dflt = (tgt : Int)) (k : Sm (C, E, Q) nL n tgt lv rest σ o) : Sm (C, E, Q) nL n pc lv (.int x :: rest) σ o := by
  obtain ⟨p, l, e, R, s, m, args, below, meth, c⟩ := C
  intro u hu H locs ls hW hS hl
  exact lv_tableOut hk.1 hk.2.1 d h ht (k u hu H locs ls hW hS hl)
theorem k_tdef {dflt lo hi : Int} {offs : Array Int} {len : Nat} {x : Int32} (hk : kOk (C, E, Q) cc own nL) (d : decode cc pc = .ok (.tableswitch dflt lo hi offs, len)) (gaps : List Int) (hg : ∀ v ∈ gaps, ¬ v < lo ∧ ¬ hi < v ∧ offs[(v - lo).toNat]? = some dflt) (h : x.toInt < lo ∨ hi < x.toInt ∨ x.toInt ∈ gaps) (tgt : Nat) (ht : (pc : Int) + dflt = (tgt : Int)) (k : Sm (C, E, Q) nL n tgt lv rest σ o) : Sm (C, E, Q) nL n pc lv (.int x :: rest) σ o := by
  rcases h with h | h | h
  · exact k_tout hk d (Or.inl h) tgt ht k
  · exact k_tout hk d (Or.inr h) tgt ht k
  · obtain ⟨h1, h2, h3⟩ := hg _ h
    exact k_tin hk d rfl h1 h2 h3 tgt ht k
theorem k_neI {x v : Int32} {a : Int} (h : ¬ x = v) (hv : v.toInt = a) : x.toInt ≠ a := fun q => h (Int32.toInt_inj.mp (by rw [hv]; exact q))
/-! loops -/
def kFix {α : Type} (b : (α → kS → Option kR) → α → kS → Option kR) : Nat → α → kS → Option kR
  | 0 => fun _ _ => none
  | n + 1 => b (kFix b n)
/-! an answer that is a Film -/
def kRvM (E : kE) : Value → Value := fun v => match v with
  | .int i => .ref (kad E 40 i.toNatClampNeg)
  | v => v
def kBr (o : Option kR) (f : Nat → kS → Option kR) : Option kR := kB o (fun v σ => match v with
  | some (.int r) => kg (kin r 6) (f r.toNatClampNeg σ)
  | _ => none)
theorem k_callVr {l0 : Launch} {ret0 ret : Option FieldType} {rv : Value → Value} {fr0 lo0 N fr lo n2 maxL g i ci N9 idx : Nat} {y : MethodName} {bytes : ByteArray} {As st0 : List Value} {mo : Option kR} {Cn : String} {T : u_T} {ty : Nat → FieldType} {f : Nat → kS → Option kR}
    (hk : kOk (C, E, Q) cc own nL) (he : kEnd (C, E, Q) ret0 rv N) (hro : kRo C l0 fr0 lo0 N) (hM : kMet l0 E y bytes maxL ret fr lo n2 (kRvM E) (.ref (kad E g i) :: As) σ mo) (d : decode cc pc = .ok (.invokevirtual idx, 3)) (hcw : kCv own idx y bytes maxL As.length ret) (hg : kSh g = .inl ci) (hi : i < kCnt g) (hc : kCls ci Cn T N9 ty) (hcn : Cn = y.cls) (hR : fr + 1 ≤ fr0 ∧ 8 + (maxL + 11) + lo ≤ lo0) (hN : n + n2 ≤ N) (hst : st0 = As.reverse ++ .ref (kad E g i) :: rest) (hcat : (rest.map fun v => v.category).sum ≤ 8)
    (K : ∀ r σ2, r < kCnt 40 → Sm (C, E, Q) nL (n + n2) (pc + 3) lv (.ref (kad E 40 r) :: rest) σ2 (f r σ2)) : Sm (C, E, Q) nL n pc lv st0 σ (kBr mo f) :=
  k_callV hk he hro hM d hcw hg hi hc hcn hR hN hst hcat (fun v σ2 => by
    cases v with
    | none => exact k_no
    | some v =>
      cases v with
      | int r =>
        intro u hu
        obtain ⟨h1, h2⟩ := kg_some hu
        exact K _ σ2 (kin_lt h1) u h2
      | _ => exact k_no)
theorem k_areturn {N j : Nat} (hk : kOk (C, E, Q) cc own nL) (he : kEnd (C, E, Q) (some (.object "MastSparks$Film")) (kRvM E) N) (d : decode cc pc = .ok (.areturn, 1)) (hN : n ≤ N) (hj : j < kCnt 40) : Sm (C, E, Q) nL n pc lv [.ref (kad E 40 j)] σ (some (.inl (some (.int (nI j))), σ)) := by
  have hj' : j < 6 := hj
  refine k_ret (v := some (.int (nI j))) he hN rfl ?_ rfl
  obtain ⟨p, l, e, R, s, m, args, below, meth, c⟩ := C
  intro H locs ls Qc hq hf
  refine W.aret hk.1 hk.2.1 he.1 (Or.inl ⟨_, rfl⟩) (Or.inr ⟨_, rfl⟩) (fun t ht hWm => ?_) hf d hk.2.2.2.2.2.2.2.2.2.2.2
  have h := hq t ht hWm
  have e9 : kRvM E (.int (nI j)) = .ref (kad E 40 j) := by
    show Value.ref (kad E 40 (nI j).toNatClampNeg) = _
    rw [nI_clamp (by omega)]
  rw [Option.map_some, e9] at h
  exact h
/-- more room is no harm -/
theorem kMet.room {l : Launch} {y : MethodName} {maxL : Nat} {ret : Option FieldType} {fr lo fr' lo' N : Nat} {rv : Value → Value} {av : List Value} (h : kMet l E y cc maxL ret fr lo N rv av σ o) (hf9 : fr ≤ fr') (hl9 : lo ≤ lo') : kMet l E y cc maxL ret fr' lo' N rv av σ o := by
  intro u hu p e ha hc hk s m args below hf happ hP hK
  refine h u hu p e ha hc hk s m args below hf ?_ hP hK
  obtain ⟨h1, h2, h3, h4, h5, h6, h7, h8⟩ := (Spec.appliesLoose_iff hf).mp happ
  refine (Spec.appliesLoose_iff hf).mpr ⟨h1, h2, h3, h4, h5, h6, ?_, h8⟩
  simp only [State.hasRoom, Bool.and_eq_true, decide_eq_true_eq, headSpec] at h7 ⊢
  obtain ⟨⟨⟨⟨a1, a2⟩, a3⟩, a4⟩, a5⟩ := h7
  refine ⟨⟨⟨⟨?_, ?_⟩, a3⟩, a4⟩, a5⟩
  · have b1 := of_decide_eq_true a1
    exact decide_eq_true (by omega)
  · obtain ⟨b1, b2, b3, b4, b5⟩ := of_decide_eq_true a2
    exact decide_eq_true ⟨by omega, by omega, by omega, by omega, b5⟩
end KR3
