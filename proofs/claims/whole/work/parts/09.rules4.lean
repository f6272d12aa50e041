/-! COPIES OF ROWS; WHAT IS THROWN. -/
def kCp (σ : kS) (gs is gd id dp n : Nat) : kS := (fun g i k => if g = gd ∧ i = id ∧ dp ≤ k ∧ k < dp + n then σ.1 gs is (k - dp) else σ.1 g i k, σ.2)
section KW4
variable {p : Program} {l : Launch} {e : Env} {R : Room} {s : State} {m : MethodId} {args : Array Value} {below : List Frame} {meth : Method} {c : Code} {H : Heap} {locs : List Loc} {cells slots : Nat} {Q : State → Prop}
variable {cc : ByteArray} {pc : Nat} {ls : Array Slot} {rest : List Value}
/-- a stretch of one row of ints into another, or the same -/
theorem kw_copy (hexec : p.tables.exec = Jvm.exec) (hb : c.code = cc) (hml : c.maxLocals = ls.size) {own : String} {index : Nat} (hown : s.vm.findClass own = some m.cls) (hlink : (Cond.methodLink own index arraycopyName).before args s = true) (hnat : (Cond.native arraycopyName).before args s = true) (hstat : (Cond.static arraycopyName).before args s = true) (hini : (Cond.initialized "java/lang/System").before args s = true)
    {a0 a : Nat} {c0 c1 : ClassId} {n0 n1 : Nat} {f g : Nat → Int32} (hc0 : H[a0]? = some (arrV c0 n0 (fun j => .int (f j)))) (hc1 : H[a]? = some (arrV c1 n1 (fun j => .int (g j)))) (hA0 : ArrOfT s c0 .int) (hA1 : ArrOfT s c1 .int)
    {sp dp n : Int32} (h1 : ¬ sp < 0) (h2 : ¬ dp < 0) (h3 : ¬ n < 0) (h4 : sp.toNatClampNeg + n.toNatClampNeg ≤ n0) (h5 : dp.toNatClampNeg + n.toNatClampNeg ≤ n1)
    (hframes : 1 ≤ R.frames) (hlocals : (rest.map fun v => v.category).sum + (nativeFrameWords "java/lang/System" "arraycopy" 5 + 11) ≤ R.locals) (hdg : decode cc pc = .ok (.invokestatic index, 3))
    (kk : ∀ (H1 : Heap) (locs1 : List Loc), H1[a]? = some (arrV c1 n1 (fun j => .int (va_cpy f g sp.toNatClampNeg dp.toNatClampNeg n.toNatClampNeg j))) → H1.size = H.size → (∀ q : Nat, q ≠ a → H1[q]? = H[q]?) → (∀ z ∈ locs1, z ∈ locs ∨ z.base = a) → W p l e R s m args below meth c H1 locs1 cells slots Q (F0 m (pc + 3) ls rest)) : W p l e R s m args below meth c H locs cells slots Q (F0 m pc ls (.int n :: .int dp :: .ref a :: .int sp :: .ref a0 :: rest)) := by
  have nn : ∀ z : Int32, ¬ z < 0 → z.toInt = (z.toNatClampNeg : Int) := by
    intro z hz
    have hz0 : (0 : Int) ≤ z.toInt := by
      have := Int32.not_lt.mp hz
      simpa using Int32.le_iff_toInt_le.mp this
    show z.toInt = ((z.toInt.toNat : Nat) : Int)
    omega
  intro T hT X
  obtain ⟨-, k0, hk0, cm0, hkk0⟩ := hA0 n0 (fun j => .int (f j))
  obtain ⟨-, k1, hk1, cm1, hkk1⟩ := hA1 n1 (fun j => .int (g j))
  obtain ⟨vm', X', step⟩ := X.arraycopy hexec hown hlink hnat hstat hini (src := a0) (dst := a) (cs := arrV c0 n0 (fun j => .int (f j))) (cd := arrV c1 n1 (fun j => .int (g j))) (srcPos := sp) (destPos := dp) (n := n) (by rw [hT]; exact hc0) (by rw [hT]; exact hc1)
    (fun _ h => by cases h) (fun _ h => by cases h) (fun h => by cases h) (fun h => by cases h) hk0 hk1 hkk0 hkk1 (by simp [refKind]) h1 h2 h3
    (by rw [nn sp h1, nn n h3, arrV_size]; omega)
    (by rw [nn dp h2, nn n h3, arrV_size]; omega)
    (fun vm₁ _ i hi => by
      have e9 : (arrV c0 n0 (fun j => .int (f j))).slots.getD (sp.toNatClampNeg + i) .null = .int (f (sp.toNatClampNeg + i)) := by
        rw [Array.getD_eq_getD_getElem?, arrV_read _ _ (by omega)]
        rfl
      refine ⟨?_, ?_⟩
      · rw [e9]
        rfl
      · rw [e9]
        exact trivial)
    (g := F0 m pc ls (.int n :: .int dp :: .ref a :: .int sp :: .ref a0 :: rest)) rfl (by rw [hml]) (rest := rest) rfl (by rw [hb]; exact hdg) hframes (by show 2 * 0 + _ + _ ≤ _; omega)
  have e1 : copied (arrV c0 n0 (fun j => .int (f j))) (arrV c1 n1 (fun j => .int (g j))) sp dp n = arrV c1 n1 (fun j => .int (va_cpy f g sp.toNatClampNeg dp.toNatClampNeg n.toNatClampNeg j)) := va_copied (fun z => .int z) c0 c1 f g h4
  rw [e1] at X' step
  have hl : a < H.size := (Array.getElem?_eq_some_iff.mp hc1).1
  obtain ⟨t, a1, b1⟩ := kk (H.setIfInBounds a (arrV c1 n1 (fun j => .int (va_cpy f g sp.toNatClampNeg dp.toNatClampNeg n.toNatClampNeg j)))) _ (by simp [Array.getElem?_setIfInBounds, hl]) (by simp) (fun q hq => by simp [Array.getElem?_setIfInBounds, Ne.symm hq]) (fun z hz => by
      rcases List.mem_append.mp hz with h | h
      · exact Or.inl h
      · obtain ⟨y, -, hy⟩ := List.mem_map.mp h
        rw [← hy]
        exact Or.inr rfl) _ (by rw [← hT]; rfl) X'
  exact ⟨t, step t a1, b1⟩
end KW4
section KR4
variable {C : kC} {E : kE} {Q : kR → State → Prop} {cc : ByteArray} {own : String} {nL n pc : Nat} {lv : List (Nat × Value)} {rest : List Value} {σ : kS} {o : Option kR}
def kAc (own : String) (idx : Nat) : Prop := Cond.methodLink own idx arraycopyName ∈ kTB ∧ Cond.native arraycopyName ∈ kTB ∧ Cond.static arraycopyName ∈ kTB ∧ Cond.initialized "java/lang/System" ∈ kTB
theorem kV_fun {E : kE} {σ : kS} {g i len : Nat} (hg : kSh g = .inr (.int, len)) : kV E σ g i = fun j => .int (σ.1 g i j) := funext fun _ => kV_int (kKd_i hg)
theorem k_copy_c {l0 : Launch} {fr0 lo0 N gs is gd id ns nd idx dpn len : Nat} {dp ln : Int32} {f : kS → Option kR} (hk : kOk (C, E, Q) cc own nL) (hro : kRo C l0 fr0 lo0 N) (d : decode cc pc = .ok (.invokestatic idx, 3)) (hw : kAc own idx) (hgs : kSh gs = .inr (.int, ns)) (hgd : kSh gd = .inr (.int, nd)) (his : is < kCnt gs) (hid : id < kCnt gd) (h2 : ¬ dp < 0) (h3 : ¬ ln < 0) (hdp : dp.toNatClampNeg = dpn) (hln : ln.toNatClampNeg = len) (h4 : len ≤ ns) (h5 : dpn + len ≤ nd) (hR : 1 ≤ fr0 ∧ (rest.map fun v => v.category).sum + (nativeFrameWords "java/lang/System" "arraycopy" 5 + 11) ≤ lo0)
    (K : ∀ σ', Sm (C, E, Q) nL n (pc + 3) lv rest σ' (f σ')) : Sm (C, E, Q) nL n pc lv (.int ln :: .int dp :: .ref (kad E gd id) :: .int 0 :: .ref (kad E gs is) :: rest) σ (kb (kCp σ gs is gd id dpn len) f) := by
  obtain ⟨p, l, e, R, s, m, args, below, meth, c⟩ := C
  obtain ⟨hx, hb, hml, hown, hts, hEs, hZ, hbs, hEj, hNm, hl9, hlk⟩ := hk
  obtain ⟨-, hRm⟩ := hro
  have hRm : R = kRm fr0 lo0 N := hRm
  subst hdp; subst hln
  intro u hu H locs ls hW hS hl
  have his' := kcnt_of hNm his
  have hid' := kcnt_of hNm hid
  have q1 := hW.arr his' hgs
  have q2 := hW.arr hid' hgd
  rw [kV_fun hgs] at q1
  rw [kV_fun hgd] at q2
  refine kw_copy hx hb (hml.trans hl.1.symm) hown (hts _ hw.1) (hts _ hw.2.1) (hts _ hw.2.2.1) (hts _ hw.2.2.2) q1 q2 (hEs.2 gs _ _ hgs (Nat.lt_of_le_of_lt (Nat.zero_le _) his')) (hEs.2 gd _ _ hgd (Nat.lt_of_le_of_lt (Nat.zero_le _) hid')) (by decide) h2 h3 (by show 0 + _ ≤ _; omega) h5 (by subst hRm; exact hR.1) (by subst hRm; exact hR.2) d (fun H1 locs1 e1 e2 e3 e4 => ?_)
  refine K _ u hu H1 locs1 ls (hW.put hEj hid' ?_ e3 ?_) ⟨by rw [e2]; exact hS.1, fun q h1 h2 => ?_, fun z hz => ?_⟩ hl
  · unfold kCell
    rw [hgd]
    show H1[kad E gd id]? = _
    rw [e1, kV_fun hgd]
    refine congrArg (fun z => some (arrV (kcA E gd) nd z)) (funext fun k => congrArg Value.int ?_)
    show va_cpy (σ.1 gs is) (σ.1 gd id) (0 : Int32).toNatClampNeg dp.toNatClampNeg ln.toNatClampNeg k = (kCp σ gs is gd id dp.toNatClampNeg ln.toNatClampNeg).1 gd id k
    have e0 : (0 : Int32).toNatClampNeg = 0 := by decide
    unfold va_cpy kCp
    rw [e0]
    by_cases hc : dp.toNatClampNeg ≤ k ∧ k < dp.toNatClampNeg + ln.toNatClampNeg
    · rw [if_pos hc]
      show _ = if gd = gd ∧ id = id ∧ _ then _ else _
      rw [if_pos ⟨rfl, rfl, hc⟩, Nat.zero_add]
    · rw [if_neg hc]
      show _ = if gd = gd ∧ id = id ∧ _ then _ else _
      rw [if_neg (fun q => hc q.2.2)]
  · intro g' i' h
    funext k
    have : (kCp σ gs is gd id dp.toNatClampNeg ln.toNatClampNeg).1 g' i' k = σ.1 g' i' k := if_neg (fun q => h ⟨q.1, q.2.1⟩)
    unfold kV
    rw [this]
    rfl
  · rw [e3 q (fun e9 => h2 (by rw [e9]; exact hEj.2 gd id hid'))]
    exact hS.2.1 q h1 h2
  · rcases e4 z hz with h | h
    · exact hS.2.2 z h
    · show kA E z.base
      rw [h]
      exact hEj.2 gd id hid'
/-- to a computed place -/
theorem k_copy {l0 : Launch} {fr0 lo0 N gs is gd id ns nd idx len : Nat} {dp ln : Int32} {f : kS → Option kR} (hk : kOk (C, E, Q) cc own nL) (hro : kRo C l0 fr0 lo0 N) (d : decode cc pc = .ok (.invokestatic idx, 3)) (hw : kAc own idx) (hgs : kSh gs = .inr (.int, ns)) (hgd : kSh gd = .inr (.int, nd)) (his : is < kCnt gs) (hid : id < kCnt gd) (h3 : ¬ ln < 0) (hln : ln.toNatClampNeg = len) (h4 : len ≤ ns) (h5 : len ≤ nd) (hR : 1 ≤ fr0 ∧ (rest.map fun v => v.category).sum + (nativeFrameWords "java/lang/System" "arraycopy" 5 + 11) ≤ lo0)
    (K : ∀ σ', Sm (C, E, Q) nL n (pc + 3) lv rest σ' (f σ')) : Sm (C, E, Q) nL n pc lv (.int ln :: .int dp :: .ref (kad E gd id) :: .int 0 :: .ref (kad E gs is) :: rest) σ (kg (kin dp (nd + 1 - len)) (kb (kCp σ gs is gd id dp.toNatClampNeg len) f)) := by
  intro u hu
  obtain ⟨h1, h2⟩ := kg_some hu
  have h6 := kin_lt h1
  exact k_copy_c hk hro d hw hgs hgd his hid (fun q => kin_vp h1 (Or.inl q)) h3 rfl hln h4 (by omega) hR K u h2
theorem k_tgetN {idx t : Nat} (hk : kOk (C, E, Q) cc own nL) (d : decode cc pc = .ok (.getstatic idx, 3)) (ht : t < 3) (hq : (own, idx, kZn t) ∈ kFnL) (k : Sm (C, E, Q) nL n (pc + 3) lv (.ref (kz E t) :: rest) σ o) : Sm (C, E, Q) nL n pc lv rest σ o := by
  obtain ⟨p, l, e, R, s, m, args, below, meth, c⟩ := C
  obtain ⟨hx, hb, hml, hown, hts, hEs, hZ, hbs, hEj, hNm, hl9, hlk⟩ := hk
  intro u hu H locs ls hW hS hl
  exact va_getsN hx hb (hZ.1 t ht).1 hS hown (va_Nw.use rfl (hZ.2.2.2.2.2.2.2.2.1 _ hq)) (fun x h => h) d (k u hu H locs ls hW hS hl)
/-! what is thrown: new X(text) -/
def kNs : List String := ["java/lang/RuntimeException", "java/lang/Exception"]
def kTh (own : String) (ik ic : Nat) (x : String) : Prop := x ∈ kExL ∧ Cond.classLink own ik x ∈ kTB ∧ Cond.initialized x ∈ kTB ∧ (∀ w ∈ (vx_atS own ic x kNs).filter goodWord, w ∈ kTB) ∧ (∀ w ∈ (vx_atS own ic x kNs).filter (fun w => !goodWord w), w ∈ Cond.castable x x :: kDcL.map Cond.declares) ∧ (∀ w ∈ Cond.classLink own ik x :: Cond.initialized x :: vx_atS own ic x kNs, vx_ot w = true) ∧ Bundle.fit x = true ∧ ∀ n ∈ kNs, Bundle.fit n = true
theorem kTh.hat {own : String} {ik ic : Nat} {x : String} {s : State} {args : Array Value} {E : kE} {H : Heap} (h : kTh own ik ic x) (hts : ∀ w ∈ kTB, w.before args s = true) (hZ : kZ E s H) : ∀ w ∈ vx_atS own ic x kNs, w.before args s = true := by
  obtain ⟨h0, -, -, h1, h2, -⟩ := h
  refine vx_hat (B := Cond.castable x x :: kDcL.map Cond.declares) (fun w hw => hts w (h1 w hw)) (fun w hw => h2 w hw) (fun w hw => ?_)
  rcases List.mem_cons.mp hw with e | h
  · rw [e]
    exact va_Nw.use rfl (hZ.2.2.2.2.2.2.2.1 x h0)
  · obtain ⟨y, hy, rfl⟩ := List.mem_map.mp h
    exact va_Nw.use rfl (hZ.2.2.2.2.2.2.2.2.2.2 y hy)
theorem k_throw {l0 : Launch} {fr0 lo0 N t ik is ic : Nat} {ret : Option FieldType} {rv : Value → Value} {x : String} (hk : kOk (C, E, Q) cc own nL) (he : kEnd (C, E, Q) ret rv N) (hro : kRo C l0 fr0 lo0 N) (d0 : decode cc pc = .ok (.new ik, 3)) (d3 : decode cc (pc + 3) = .ok (.dup, 1)) (d4 : decode cc (pc + 4) = .ok (.ldc is, 2)) (d6 : decode cc (pc + 6) = .ok (.invokespecial ic, 3)) (d9 : decode cc (pc + 9) = .ok (.athrow, 1)) (ht : t < 23) (h1 : (kTx t).1 = own) (h2 : (kTx t).2.1 = is) (hth : kTh own ik ic x) (hR : 5 < fr0 ∧ (rest.map fun v => v.category).sum + 82 ≤ lo0) (hN : n + 1 ≤ N) : Sm (C, E, Q) nL n pc lv rest σ (some (.inr x, σ)) := by
  obtain ⟨p, l, e, R, s, m, args, below, meth, c⟩ := C
  obtain ⟨hx, hb, hml, hown, hts, hEs, hZ, hbs, hEj, hNm, hl9, hlk⟩ := hk
  obtain ⟨hret, htab, hQ⟩ := he
  obtain ⟨-, hRm⟩ := hro
  have hRm : R = kRm fr0 lo0 N := hRm
  intro u hu H locs ls hW hS hl
  cases hu
  show W p l e R s m args below meth c H locs n (8 * n) (Q _) (F0 m pc ls rest)
  rw [hQ]
  have h3 := hZ.2.2.1 t ht
  rw [h1, h2] at h3
  refine vx_throwS (names := kNs) (A := kA E) hx hb hl9 hown hth.2.2.2.2.2.2.1 hth.2.2.2.2.2.2.2 (hts _ hth.2.1) (hts _ hth.2.2.1) h3 (hth.hat hts hZ) hth.2.2.2.2.2.1 hZ.2.2.2.2.1 hZ.2.2.2.2.2.1 hS (hl.1.trans hml.symm) d0 d3 d4 d6 d9 (fun z hz => (htab z hz).elim) (by subst hRm; exact hR.1) (by subst hRm; exact hR.2) (by subst hRm; exact hN) (by subst hRm; show 8 * n + 6 ≤ 8 * N; omega) hlk (fun t9 hv9 hz9 hq9 => ⟨rfl, hW.kept (fun g i hi => ?_), Nat.le_trans hS.1 hz9, fun q g1 g2 => ?_⟩) hS.2.2 hN (by omega)
  · have h9 := hW g i hi
    have hlt : kad E g i < H.size := by
      unfold kCell at h9
      cases hg : kSh g with
      | inl ci =>
        rw [hg] at h9
        obtain ⟨cell, q1, -⟩ := h9
        exact (Array.getElem?_eq_some_iff.mp q1).1
      | inr z =>
        rw [hg] at h9
        exact (Array.getElem?_eq_some_iff.mp h9).1
    exact hq9 _ hlt
  · rw [hq9 q (Nat.lt_of_lt_of_le g1 hS.1)]
    exact hS.2.1 q g1 g2
theorem k_throwW {l0 : Launch} {fr0 lo0 N t ik is ic : Nat} {ret : Option FieldType} {rv : Value → Value} {x : String} (hk : kOk (C, E, Q) cc own nL) (he : kEnd (C, E, Q) ret rv N) (hro : kRo C l0 fr0 lo0 N) (d0 : decode cc pc = .ok (.new ik, 3)) (d3 : decode cc (pc + 3) = .ok (.dup, 1)) (d4 : decode cc (pc + 4) = .ok (.ldc_w is, 3)) (d7 : decode cc (pc + 7) = .ok (.invokespecial ic, 3)) (d10 : decode cc (pc + 10) = .ok (.athrow, 1)) (ht : t < 23) (h1 : (kTx t).1 = own) (h2 : (kTx t).2.1 = is) (hth : kTh own ik ic x) (hR : 5 < fr0 ∧ (rest.map fun v => v.category).sum + 82 ≤ lo0) (hN : n + 1 ≤ N) : Sm (C, E, Q) nL n pc lv rest σ (some (.inr x, σ)) := by
  obtain ⟨p, l, e, R, s, m, args, below, meth, c⟩ := C
  obtain ⟨hx, hb, hml, hown, hts, hEs, hZ, hbs, hEj, hNm, hl9, hlk⟩ := hk
  obtain ⟨hret, htab, hQ⟩ := he
  obtain ⟨-, hRm⟩ := hro
  have hRm : R = kRm fr0 lo0 N := hRm
  intro u hu H locs ls hW hS hl
  cases hu
  show W p l e R s m args below meth c H locs n (8 * n) (Q _) (F0 m pc ls rest)
  rw [hQ]
  have h3 := hZ.2.2.1 t ht
  rw [h1, h2] at h3
  refine vx_throwSW (names := kNs) (A := kA E) hx hb hl9 hown hth.2.2.2.2.2.2.1 hth.2.2.2.2.2.2.2 (hts _ hth.2.1) (hts _ hth.2.2.1) h3 (hth.hat hts hZ) hth.2.2.2.2.2.1 hZ.2.2.2.2.1 hZ.2.2.2.2.2.1 hS (hl.1.trans hml.symm) d0 d3 d4 d7 d10 (fun z hz => (htab z hz).elim) (by subst hRm; exact hR.1) (by subst hRm; exact hR.2) (by subst hRm; exact hN) (by subst hRm; show 8 * n + 6 ≤ 8 * N; omega) hlk (fun t9 hv9 hz9 hq9 => ⟨rfl, hW.kept (fun g i hi => ?_), Nat.le_trans hS.1 hz9, fun q g1 g2 => ?_⟩) hS.2.2 hN (by omega)
  · have h9 := hW g i hi
    have hlt : kad E g i < H.size := by
      unfold kCell at h9
      cases hg : kSh g with
      | inl ci =>
        rw [hg] at h9
        obtain ⟨cell, q1, -⟩ := h9
        exact (Array.getElem?_eq_some_iff.mp q1).1
      | inr z =>
        rw [hg] at h9
        exact (Array.getElem?_eq_some_iff.mp h9).1
    exact hq9 _ hlt
  · rw [hq9 q (Nat.lt_of_lt_of_le g1 hS.1)]
    exact hS.2.1 q g1 g2
/-! texts -/
theorem k_sval {t idx : Nat} (hk : kOk (C, E, Q) cc own nL) (d : decode cc pc = .ok (.getfield idx, 3)) (ht : t < 23) (hlink : Cond.fieldLink own idx "java/lang/String" "value" "[B" ∈ kTB) (k : Sm (C, E, Q) nL n (pc + 3) lv (.ref (ktv E t) :: rest) σ o) : Sm (C, E, Q) nL n pc lv (.ref (ktx E t) :: rest) σ o := by
  obtain ⟨p, l, e, R, s, m, args, below, meth, c⟩ := C
  obtain ⟨hx, hb, hml, hown, hts, hEs, hZ, hbs, hEj, hNm, hl9, hlk⟩ := hk
  intro u hu H locs ls hW hS hl
  obtain ⟨cf, k9, fi, f, cell, h1, h2, h3, h4, h5, h6⟩ := (hZ.2.1.1 t ht).2.2.1
  exact W.getf hx hb hown (hts _ hlink) h1 h2 (by rw [hS.2.1 _ (Array.getElem?_eq_some_iff.mp h3).1 h6]; exact h3) h4 h5 rfl rfl d (k u hu H locs ls hW hS hl)
theorem k_scod {t idx : Nat} (hk : kOk (C, E, Q) cc own nL) (d : decode cc pc = .ok (.getfield idx, 3)) (ht : t < 23) (hlink : Cond.fieldLink own idx "java/lang/String" "coder" "B" ∈ kTB) (k : Sm (C, E, Q) nL n (pc + 3) lv (.int 0 :: rest) σ o) : Sm (C, E, Q) nL n pc lv (.ref (ktx E t) :: rest) σ o := by
  obtain ⟨p, l, e, R, s, m, args, below, meth, c⟩ := C
  obtain ⟨hx, hb, hml, hown, hts, hEs, hZ, hbs, hEj, hNm, hl9, hlk⟩ := hk
  intro u hu H locs ls hW hS hl
  obtain ⟨cf, k9, fi, f, cell, h1, h2, h3, h4, h5, h6⟩ := (hZ.2.1.1 t ht).2.1
  exact W.getf hx hb hown (hts _ hlink) h1 h2 (by rw [hS.2.1 _ (Array.getElem?_eq_some_iff.mp h3).1 h6]; exact h3) h4 h5 rfl rfl d (k u hu H locs ls hW hS hl)
theorem k_slen {t : Nat} (hk : kOk (C, E, Q) cc own nL) (d : decode cc pc = .ok (.arraylength, 1)) (ht : t < 23) (k : Sm (C, E, Q) nL n (pc + 1) lv (.int (nI (kTls.getD t 0)) :: rest) σ o) : Sm (C, E, Q) nL n pc lv (.ref (ktv E t) :: rest) σ o := by
  obtain ⟨p, l, e, R, s, m, args, below, meth, c⟩ := C
  obtain ⟨hx, hb, hml, hown, hts, hEs, hZ, hbs, hEj, hNm, hl9, hlk⟩ := hk
  intro u hu H locs ls hW hS hl
  exact va_tlen hx hb (hZ.2.1.1 t ht).2.2.2 hS rfl d (k u hu H locs ls hW hS hl)
theorem k_sald {t : Nat} {j : Int32} (hk : kOk (C, E, Q) cc own nL) (d : decode cc pc = .ok (.baload, 1)) (ht : t < 23) (k : kin j (kTls.getD t 0) → Sm (C, E, Q) nL n (pc + 1) lv (.int ((kTbs.getD t []).getD j.toNatClampNeg 0) :: rest) σ o) : Sm (C, E, Q) nL n pc lv (.int j :: .ref (ktv E t) :: rest) σ (kg (kin j (kTls.getD t 0)) o) := by
  obtain ⟨p, l, e, R, s, m, args, below, meth, c⟩ := C
  obtain ⟨hx, hb, hml, hown, hts, hEs, hZ, hbs, hEj, hNm, hl9, hlk⟩ := hk
  intro u hu H locs ls hW hS hl
  obtain ⟨h1, h2⟩ := kg_some hu
  exact va_tb hx hb (hZ.2.1.1 t ht).2.2.2 hS (kin_vp h1) rfl d (k h1 u h2 H locs ls hW hS hl)
theorem k_scmp {idx : Nat} (hk : kOk (C, E, Q) cc own nL) (d : decode cc pc = .ok (.getstatic idx, 3)) (hlink : Cond.fieldLink own idx "java/lang/String" "COMPACT_STRINGS" "Z" ∈ kTB) (k : Sm (C, E, Q) nL n (pc + 3) lv (.int 1 :: rest) σ o) : Sm (C, E, Q) nL n pc lv rest σ o := by
  obtain ⟨p, l, e, R, s, m, args, below, meth, c⟩ := C
  obtain ⟨hx, hb, hml, hown, hts, hEs, hZ, hbs, hEj, hNm, hl9, hlk⟩ := hk
  intro u hu H locs ls hW hS hl
  exact va_gets hx hb hZ.2.2.2.1 hS hown (hts _ hlink) (fun x h => h) d (k u hu H locs ls hW hS hl)
/-- SIOOBE_FORMATTER: null or a cell, nobody asks which -/
theorem k_sfmt {idx : Nat} (hk : kOk (C, E, Q) cc own nL) (d : decode cc pc = .ok (.getstatic idx, 3)) (hlink : Cond.fieldLink own idx "jdk/internal/util/Preconditions" "SIOOBE_FORMATTER" "Ljava/util/function/BiFunction;" ∈ kTB) (k : ∀ v : Value, (v = .null ∨ ∃ a, v = .ref a) → Sm (C, E, Q) nL n (pc + 3) lv (v :: rest) σ o) : Sm (C, E, Q) nL n pc lv rest σ o := by
  obtain ⟨p, l, e, R, s, m, args, below, meth, c⟩ := C
  obtain ⟨hx, hb, hml, hown, hts, hEs, hZ, hbs, hEj, hNm, hl9, hlk⟩ := hk
  intro u hu H locs ls hW hS hl
  rcases hZ.2.2.2.2.2.2.1 with h | ⟨a, h⟩
  · exact va_gets hx hb h hS hown (hts _ hlink) (fun x h => h) d (k .null (Or.inl rfl) u hu H locs ls hW hS hl)
  · exact va_gets hx hb h hS hown (hts _ hlink) (fun x h => h) d (k (.ref a) (Or.inr ⟨a, rfl⟩) u hu H locs ls hW hS hl)
theorem k_i2c {x : Int32} (hk : kOk (C, E, Q) cc own nL) (d : decode cc pc = .ok (.i2c, 1)) (k : Sm (C, E, Q) nL n (pc + 1) lv (.int ((x.toUInt32 % 65536).toInt32) :: rest) σ o) : Sm (C, E, Q) nL n pc lv (.int x :: rest) σ o := by
  obtain ⟨p, l, e, R, s, m, args, below, meth, c⟩ := C
  intro u hu H locs ls hW hS hl
  exact lv_i2c hk.1 hk.2.1 d rfl (k u hu H locs ls hW hS hl)
/-- an answer of a small kind -/
theorem k_nreturn {N : Nat} {x : Int32} {ty : FieldType} (hk : kOk (C, E, Q) cc own nL) (he : kEnd (C, E, Q) (some ty) id N) (d : decode cc pc = .ok (.ireturn, 1)) (hN : n ≤ N) (h1 : narrow ty (.int x) = .int x) : Sm (C, E, Q) nL n pc lv [.int x] σ (some (.inl (some (.int x)), σ)) := by
  refine k_ret (v := some (.int x)) he hN rfl ?_ rfl
  obtain ⟨p, l, e, R, s, m, args, below, meth, c⟩ := C
  exact fun H locs ls Qc hq hf => W.zret hk.1 hk.2.1 he.1 h1 hq hf d hk.2.2.2.2.2.2.2.2.2.2.2
theorem k_nreturn_g {N : Nat} {x : Int32} {ty : FieldType} (hk : kOk (C, E, Q) cc own nL) (he : kEnd (C, E, Q) (some ty) id N) (d : decode cc pc = .ok (.ireturn, 1)) (hN : n ≤ N) : Sm (C, E, Q) nL n pc lv [.int x] σ (kg (narrow ty (.int x) = .int x) (some (.inl (some (.int x)), σ))) := by
  intro u hu
  obtain ⟨h1, h2⟩ := kg_some hu
  exact k_nreturn hk he d hN h1 u h2
/-- a call on a text -/
theorem k_callT {l0 : Launch} {ret0 ret : Option FieldType} {rv : Value → Value} {fr0 lo0 N fr lo n2 maxL t idx : Nat} {y : MethodName} {bytes : ByteArray} {As st0 : List Value} {mo : Option kR} {f : Int32 → kS → Option kR}
    (hk : kOk (C, E, Q) cc own nL) (he : kEnd (C, E, Q) ret0 rv N) (hro : kRo C l0 fr0 lo0 N) (hM : kMet l0 E y bytes maxL ret fr lo n2 id (.ref (ktx E t) :: As) σ mo) (d : decode cc pc = .ok (.invokevirtual idx, 3)) (hcw : kCv own idx y bytes maxL As.length ret) (ht : t < 23) (hcn : "java/lang/String" = y.cls) (hR : fr + 1 ≤ fr0 ∧ 8 + (maxL + 11) + lo ≤ lo0) (hN : n + n2 ≤ N) (hst : st0 = As.reverse ++ .ref (ktx E t) :: rest) (hcat : (rest.map fun v => v.category).sum ≤ 8)
    (K : ∀ r σ2, Sm (C, E, Q) nL (n + n2) (pc + 3) lv (.int r :: rest) σ2 (f r σ2)) : Sm (C, E, Q) nL n pc lv st0 σ (kBi mo f) := by
  refine k_run (rv2 := id) (n2 := n2) (a := (Value.ref (ktx E t) :: As).toArray) he ?_ (by obtain ⟨p, l, e, R, s, m, args, below, meth, c⟩ := C; exact hk.2.2.2.2.2.2.2.2.2.2.2) hN (fun v σ2 => by
    cases v with
    | none => exact k_no
    | some v => cases v <;> first | exact k_no | exact K _ σ2)
  obtain ⟨p, l, e, R, s, m, args, below, meth, c⟩ := C
  obtain ⟨hx, hb, hml, hown, hts, hEs, hZ, hbs, hEj, hNm, hl9, hlk⟩ := hk
  obtain ⟨rfl, hRm⟩ := hro
  intro u2 hu2 H locs ls hW hS hl
  have hRm : R = kRm fr0 lo0 N := hRm
  obtain ⟨cell, q1, q2, q3, q4⟩ := (hZ.2.1.1 t ht).1
  refine vx_runV (Ts := kTB) (C := y.cls) (As := As) ⟨hx, hb, hml, hown, hts⟩ (hM u2 hu2) ⟨kCb hRm hts hcw.1 hR, hts _ hcw.2.1, hts _ hcw.2.2⟩ ⟨kPc.blind, ⟨cell, by rw [hS.2.1 _ (Array.getElem?_eq_some_iff.mp q1).1 q4]; exact q1, q2, by rw [← hcn]; exact q3⟩, fun U hU hWm => ⟨rfl, hEs.moved hWm.alike, by rw [hU]; exact hZ.go hWm hS, by rw [hU]; exact Nat.le_trans hbs hS.1, by rw [hU]; exact hW⟩⟩ rfl rfl hl.1 hst (lv_room hcat) d ?_
  subst hRm
  exact ⟨hN, by show 8 * n + 8 * n2 ≤ 8 * N; omega⟩
/-- new java.util.NoSuchElementException(text), whose constructor calls its super's by another number -/
def kThN (own : String) (ik ic : Nat) (x : String) : Prop := x ∈ kExL ∧ Cond.classLink own ik x ∈ kTB ∧ Cond.initialized x ∈ kTB ∧ (∀ w ∈ ((kAtN own ic x).filter vx_no).filter goodWord, w ∈ kTB) ∧ (∀ w ∈ ((kAtN own ic x).filter vx_no).filter (fun w => !goodWord w), w ∈ Cond.castable x x :: kDcL.map Cond.declares) ∧ (∀ w ∈ Cond.classLink own ik x :: Cond.initialized x :: (kAtN own ic x).filter vx_no, vx_ot w = true) ∧ Bundle.fit x = true
theorem kThN.hat {own : String} {ik ic : Nat} {x : String} {s : State} {args : Array Value} {E : kE} {H : Heap} (h : kThN own ik ic x) (hts : ∀ w ∈ kTB, w.before args s = true) (hZ : kZ E s H) : ∀ w ∈ (kAtN own ic x).filter vx_no, w.before args s = true := by
  obtain ⟨h0, -, -, h1, h2, -⟩ := h
  refine vx_hat (B := Cond.castable x x :: kDcL.map Cond.declares) (fun w hw => hts w (h1 w hw)) (fun w hw => h2 w hw) (fun w hw => ?_)
  rcases List.mem_cons.mp hw with e | h
  · rw [e]
    exact va_Nw.use rfl (hZ.2.2.2.2.2.2.2.1 x h0)
  · obtain ⟨y, hy, rfl⟩ := List.mem_map.mp h
    exact va_Nw.use rfl (hZ.2.2.2.2.2.2.2.2.2.2 y hy)
theorem k_throwNW {l0 : Launch} {fr0 lo0 N t ik is ic : Nat} {ret : Option FieldType} {rv : Value → Value} {x : String} (hk : kOk (C, E, Q) cc own nL) (he : kEnd (C, E, Q) ret rv N) (hro : kRo C l0 fr0 lo0 N) (d0 : decode cc pc = .ok (.new ik, 3)) (d3 : decode cc (pc + 3) = .ok (.dup, 1)) (d4 : decode cc (pc + 4) = .ok (.ldc_w is, 3)) (d7 : decode cc (pc + 7) = .ok (.invokespecial ic, 3)) (d10 : decode cc (pc + 10) = .ok (.athrow, 1)) (ht : t < 23) (h1 : (kTx t).1 = own) (h2 : (kTx t).2.1 = is) (hth : kThN own ik ic x) (hR : 5 < fr0 ∧ (rest.map fun v => v.category).sum + 82 ≤ lo0) (hN : n + 1 ≤ N) : Sm (C, E, Q) nL n pc lv rest σ (some (.inr x, σ)) := by
  obtain ⟨p, l, e, R, s, m, args, below, meth, c⟩ := C
  obtain ⟨hx, hb, hml, hown, hts, hEs, hZ, hbs, hEj, hNm, hl9, hlk⟩ := hk
  obtain ⟨hret, htab, hQ⟩ := he
  obtain ⟨-, hRm⟩ := hro
  have hRm : R = kRm fr0 lo0 N := hRm
  intro u hu H locs ls hW hS hl
  cases hu
  show W p l e R s m args below meth c H locs n (8 * n) (Q _) (F0 m pc ls rest)
  rw [hQ]
  have h3 := hZ.2.2.1 t ht
  rw [h1, h2] at h3
  refine kw_throwNW (A := kA E) hx hb hl9 hown hth.2.2.2.2.2.2 (hts _ hth.2.1) (hts _ hth.2.2.1) h3 (hth.hat hts hZ) hth.2.2.2.2.2.1 hZ.2.2.2.2.1 hZ.2.2.2.2.2.1 hS (hl.1.trans hml.symm) d0 d3 d4 d7 d10 (fun z hz => (htab z hz).elim) (by subst hRm; exact hR.1) (by subst hRm; exact hR.2) (by subst hRm; exact hN) (by subst hRm; show 8 * n + 6 ≤ 8 * N; omega) hlk (fun t9 hv9 hz9 hq9 => ⟨rfl, hW.kept (fun g i hi => ?_), Nat.le_trans hS.1 hz9, fun q g1 g2 => ?_⟩) hS.2.2 hN (by omega)
  · have h9 := hW g i hi
    have hlt : kad E g i < H.size := by
      unfold kCell at h9
      cases hg : kSh g with
      | inl ci =>
        rw [hg] at h9
        obtain ⟨cell, q1, -⟩ := h9
        exact (Array.getElem?_eq_some_iff.mp q1).1
      | inr z =>
        rw [hg] at h9
        exact (Array.getElem?_eq_some_iff.mp h9).1
    exact hq9 _ hlt
  · rw [hq9 q (Nat.lt_of_lt_of_le g1 hS.1)]
    exact hS.2.1 q g1 g2
/-! Math -/
def kmax (x y : Int32) : Int32 := if x < y then y else x
def kmin (x y : Int32) : Int32 := if y < x then y else x
def kmaxL (x y : Int64) : Int64 := if y < x then x else y
theorem k_mmax {l0 : Launch} {fr0 lo0 N idx : Nat} {x y : Int32} {f : Int32 → Option kR} (hk : kOk (C, E, Q) cc own nL) (hro : kRo C l0 fr0 lo0 N) (d : decode cc pc = .ok (.invokestatic idx, 3)) (hw : kCs own idx yJ9_max_7cf53 cJ9_max_7cf53 2 2 (some .int)) (hR : 1 ≤ fr0 ∧ (rest.map fun v => v.category).sum + 13 ≤ lo0) (hN : n ≤ N) (k : ∀ z, Sm (C, E, Q) nL n (pc + 3) lv (.int z :: rest) σ (f z)) : Sm (C, E, Q) nL n pc lv (.int y :: .int x :: rest) σ (kb (kmax x y) f) := by
  obtain ⟨p, l, e, R, s, m, args, below, meth, c⟩ := C
  obtain ⟨hx, hb, hml, hown, hts, hEs, hZ, hbs, hEj, hNm, hl9, hlk⟩ := hk
  obtain ⟨-, hRm⟩ := hro
  have hRm : R = kRm fr0 lo0 N := hRm
  intro u hu H locs ls hW hS hl
  exact va_mmax hx hb (hml.trans hl.1.symm) hown (hts _ hw.1.2.1) (hts _ hw.2) (hts _ hw.1.2.2.1) (hts _ hw.1.1) (by subst hRm; exact hR.1) (by subst hRm; exact hR.2) (by subst hRm; exact hN) (by subst hRm; exact Nat.mul_le_mul_left 8 hN) d (k _ u hu H locs ls hW hS hl)
theorem k_mmin {l0 : Launch} {fr0 lo0 N idx : Nat} {x y : Int32} {f : Int32 → Option kR} (hk : kOk (C, E, Q) cc own nL) (hro : kRo C l0 fr0 lo0 N) (d : decode cc pc = .ok (.invokestatic idx, 3)) (hw : kCs own idx yJ9_min_7cf53 cJ9_min_7cf53 2 2 (some .int)) (hR : 1 ≤ fr0 ∧ (rest.map fun v => v.category).sum + 13 ≤ lo0) (hN : n ≤ N) (k : ∀ z, Sm (C, E, Q) nL n (pc + 3) lv (.int z :: rest) σ (f z)) : Sm (C, E, Q) nL n pc lv (.int y :: .int x :: rest) σ (kb (kmin x y) f) := by
  obtain ⟨p, l, e, R, s, m, args, below, meth, c⟩ := C
  obtain ⟨hx, hb, hml, hown, hts, hEs, hZ, hbs, hEj, hNm, hl9, hlk⟩ := hk
  obtain ⟨-, hRm⟩ := hro
  have hRm : R = kRm fr0 lo0 N := hRm
  intro u hu H locs ls hW hS hl
  exact va_mmin hx hb (hml.trans hl.1.symm) hown (hts _ hw.1.2.1) (hts _ hw.2) (hts _ hw.1.2.2.1) (hts _ hw.1.1) (by subst hRm; exact hR.1) (by subst hRm; exact hR.2) (by subst hRm; exact hN) (by subst hRm; exact Nat.mul_le_mul_left 8 hN) d (k _ u hu H locs ls hW hS hl)
theorem k_mmaxl {l0 : Launch} {fr0 lo0 N idx : Nat} {x y : Int64} {f : Int64 → Option kR} (hk : kOk (C, E, Q) cc own nL) (hro : kRo C l0 fr0 lo0 N) (d : decode cc pc = .ok (.invokestatic idx, 3)) (hw : kCs own idx yJ9_max_f86c9 cJ9_max_f86c9 4 2 (some .long)) (hR : 1 ≤ fr0 ∧ (rest.map fun v => v.category).sum + 15 ≤ lo0) (hN : n ≤ N) (k : ∀ z, Sm (C, E, Q) nL n (pc + 3) lv (.long z :: rest) σ (f z)) : Sm (C, E, Q) nL n pc lv (.long y :: .long x :: rest) σ (kb (kmaxL x y) f) := by
  obtain ⟨p, l, e, R, s, m, args, below, meth, c⟩ := C
  obtain ⟨hx, hb, hml, hown, hts, hEs, hZ, hbs, hEj, hNm, hl9, hlk⟩ := hk
  obtain ⟨-, hRm⟩ := hro
  have hRm : R = kRm fr0 lo0 N := hRm
  intro u hu H locs ls hW hS hl
  exact va_mmax_long hx hb (hml.trans hl.1.symm) hown (hts _ hw.1.2.1) (hts _ hw.2) (hts _ hw.1.2.2.1) (hts _ hw.1.1) (by subst hRm; exact hR.1) (by subst hRm; exact hR.2) (by subst hRm; exact hN) (by subst hRm; exact Nat.mul_le_mul_left 8 hN) d (k _ u hu H locs ls hW hS hl)
end KR4
