/-! A ROW OF LONGS THAT A METHOD MAKES FOR ITSELF: group 91, there while the method runs. -/
def kE91 (E : kE) (a : Nat) (cA : ClassId) : kE := (E.1, fun g i => if g = 91 then a else kad E g i, fun g => if g = 91 then cA else kcA E g, fun g => if g = 91 then 1 else kcnt E g, fun g i k => .ref (if (kTg g k).1 = 91 then a else kad E (kTg g k).1 (kRi (kTg g k) i k)), kbase E, kz E, ktx E, ktv E)
def kZ8 (σ : kS) : kS := (σ.1, fun g i k => if g = 91 then 0 else σ.2 g i k)
theorem kE91_cnt (E : kE) (a : Nat) (cA : ClassId) : kcnt (kE91 E a cA) 91 = 1 := rfl
theorem kTg_ne (g k : Nat) : (kTg g k).1 ≠ 91 := by
  have h1 : ∀ l ∈ kFtL, ∀ t ∈ l, t.1 ≠ 91 := by decide
  have h2 : ∀ t ∈ kAtL, t.1 ≠ 91 := by decide
  have hd : ∀ (l : List (Nat × Nat × Nat)), (∀ t ∈ l, t.1 ≠ 91) → ∀ k, (l.getD k (0, 0, 0)).1 ≠ 91 := by
    intro l hl k
    rw [List.getD_eq_getElem?_getD]
    cases h : l[k]? with
    | none => simp
    | some t => exact hl t (List.mem_of_getElem? h)
  unfold kTg
  split
  · refine hd _ ?_ k
    rename_i ci _
    rw [List.getD_eq_getElem?_getD]
    cases h : kFtL[ci]? with
    | none => intro t ht; simp at ht
    | some l => exact h1 l (List.mem_of_getElem? h)
  · exact hd _ h2 g
section KN
variable {C : kC} {E : kE} {Q : kR → State → Prop} {cc : ByteArray} {own : String} {nL n pc : Nat} {lv : List (Nat × Value)} {rest : List Value} {σ : kS} {o : Option kR}
theorem kWd.e91 {E : kE} {a : Nat} {cA : ClassId} {σ : kS} {H : Heap} (h : kWd (kE91 E a cA) σ H) (h0 : kcnt E 91 = 0) (hn : kNorm E) : kWd E σ H := by
  intro g i hi
  have hg : g ≠ 91 := fun e => by rw [e, h0] at hi; omega
  have h1 := h g i (show i < (if g = 91 then 1 else kcnt E g) by rw [if_neg hg]; exact hi)
  have e1 : kad (kE91 E a cA) g i = kad E g i := if_neg hg
  have e2 : kcA (kE91 E a cA) g = kcA E g := if_neg hg
  have e3 : kV (kE91 E a cA) σ g i = kV E σ g i := by
    funext k
    have e4 : krf (kE91 E a cA) g i k = krf E g i k := by
      rw [hn.2]
      show Value.ref (if (kTg g k).1 = 91 then a else _) = kRv E g i k
      rw [if_neg (kTg_ne g k)]
      rfl
    have e5 : kad (kE91 E a cA) 10 (σ.1 g i k).toNatClampNeg = kad E 10 (σ.1 g i k).toNatClampNeg := rfl
    unfold kV
    rw [e4, e5]
  unfold kCell at h1 ⊢
  rw [e1, e2, e3] at h1
  exact h1
theorem k_newW {l0 : Launch} {fr0 lo0 N : Nat} {ret : Option FieldType} {x1 : Int32} {f : kS → Option kR} (hj : kEj E) (hn : kNorm E) (hk : kOk (C, E, Q) cc own nL) (he : kEnd (C, E, Q) ret id N) (hro : kRo C l0 fr0 lo0 N) (h0 : kcnt E 91 = 0) (d : decode cc pc = .ok (.newarray .long, 2)) (hw : Cond.arrayClass .long ∈ kTB) (hN : n + 1 ≤ N)
    (K : ∀ (E' : kE) (Q' : kR → State → Prop), kEj E' → kNorm E' → kOk (C, E', Q') cc own nL → kEnd (C, E', Q') ret id N → 0 < kcnt E' 91 → ∀ σ', Sm (C, E', Q') nL (n + 1) (pc + 2) [(0, .ref (kad E' 48 0)), (1, .int x1)] [.ref (kad E' 91 0)] σ' (f σ')) : Sm (C, E, Q) nL n pc [(0, .ref (kad E 48 0)), (1, .int x1)] [.int 8] σ (kb (kZ8 σ) f) := by
  obtain ⟨p, l, e, R, s, m, args, below, meth, c⟩ := C
  obtain ⟨hx, hb, hml, hown, hts, hEs, hZ, hbs, hEj, hNm, hl9, hlk⟩ := id hk
  obtain ⟨hret, htab, hQ⟩ := id he
  obtain ⟨-, hRm⟩ := id hro
  have hRm : R = kRm fr0 lo0 N := hRm
  intro u hu H locs ls hW hS hl
  have hlt : ∀ g i, i < kcnt E g → kad E g i < H.size := fun g i hi => by
    have h9 := hW g i hi
    unfold kCell at h9
    cases hg : kSh g with
    | inl ci =>
      rw [hg] at h9
      obtain ⟨cell, q1, -⟩ := h9
      exact (Array.getElem?_eq_some_iff.mp q1).1
    | inr z =>
      rw [hg] at h9
      exact (Array.getElem?_eq_some_iff.mp h9).1
  show W p l e R s m args below meth c H locs n (8 * n) (Q u) (F0 m pc ls [.int 8])
  refine W.newaK (atype := .long) hx hb (hts _ hw) rfl d rfl (by decide) (N := 8) (by decide) (by decide) (by subst hRm; exact hN) (by subst hRm; show 8 * n + 8 ≤ 8 * N; omega) rfl (fun H' cA e1 z1 o1 hA => ?_)
  have hbH : kbase E ≤ H.size := Nat.le_trans hbs hS.1
  have hj' : kEj (kE91 E H.size cA) := by
    refine ⟨fun g i g' i' hi hi' hh => ?_, fun g i hi => ?_⟩
    · have hi : i < (if g = 91 then 1 else kcnt E g) := hi
      have hi' : i' < (if g' = 91 then 1 else kcnt E g') := hi'
      have hh : (if g = 91 then H.size else kad E g i) = (if g' = 91 then H.size else kad E g' i') := hh
      by_cases a1 : g = 91 <;> by_cases a2 : g' = 91
      · subst a1; subst a2
        rw [if_pos rfl] at hi hi'
        exact ⟨rfl, by omega⟩
      · rw [if_pos a1, if_neg a2] at hh
        rw [if_neg a2] at hi'
        have := hlt g' i' hi'
        omega
      · rw [if_neg a1, if_pos a2] at hh
        rw [if_neg a1] at hi
        have := hlt g i hi
        omega
      · rw [if_neg a1] at hi hh
        rw [if_neg a2] at hi' hh
        exact hEj.1 g i g' i' hi hi' hh
    · have hi : i < (if g = 91 then 1 else kcnt E g) := hi
      show kbase E ≤ (if g = 91 then H.size else kad E g i)
      by_cases a1 : g = 91
      · rw [if_pos a1]; exact hbH
      · rw [if_neg a1] at hi ⊢
        exact hEj.2 g i hi
  have hn' : kNorm (kE91 E H.size cA) := by
    refine ⟨fun g => ?_, fun g i k => rfl⟩
    show kCnt g ≤ (if g = 91 then 1 else kcnt E g)
    by_cases a1 : g = 91
    · subst a1; rw [if_pos rfl]; decide
    · rw [if_neg a1]; exact hNm.1 g
  have hk' : kOk ((p, l, e, R, s, m, args, below, meth, c), kE91 E H.size cA, fun u => vx_MQ below (kQ (kE91 E H.size cA) id u) (kXC (kE91 E H.size cA) u) args s N (8 * N) (kA E)) cc own nL := by
    refine ⟨hx, hb, hml, hown, hts, ⟨hEs.1, fun g ty len hg hc => ?_⟩, hZ, hbs, hj', hn', hl9, hlk⟩
    have hc : 0 < (if g = 91 then 1 else kcnt E g) := hc
    show ArrOfT s (if g = 91 then cA else kcA E g) ty
    by_cases a1 : g = 91
    · subst a1
      have e9 : kSh 91 = .inr (.long, 8) := rfl
      rw [e9] at hg
      cases hg
      rw [if_pos rfl]
      exact hA
    · rw [if_neg a1] at hc ⊢
      exact hEs.2 g ty len hg hc
  have K1 := K (kE91 E H.size cA) (fun u => vx_MQ below (kQ (kE91 E H.size cA) id u) (kXC (kE91 E H.size cA) u) args s N (8 * N) (kA E)) hj' hn' hk' ⟨hret, htab, fun u => rfl⟩ (Nat.lt_of_lt_of_eq Nat.zero_lt_one (kE91_cnt E H.size cA).symm) (kZ8 σ) u hu H' locs ls ?_ ⟨by have := hS.1; omega, fun q h1 h2 => by rw [o1 q (Nat.lt_of_lt_of_le h1 hS.1)]; exact hS.2.1 q h1 h2, hS.2.2⟩ hl
  · have K2 : W p l e R s m args below meth c H' locs (n + 1) (8 * n + 8) (vx_MQ below (kQ (kE91 E H.size cA) id u) (kXC (kE91 E H.size cA) u) args s N (8 * N) (kA E)) (F0 m (pc + 2) ls [.ref H.size]) := K1
    rw [hQ]
    intro T hT X
    obtain ⟨t, a1, oc, b1, b2, b3⟩ := K2 T hT X
    refine ⟨t, a1, oc, b1, b2, ?_⟩
    rcases b3 with ⟨⟨q1, q2, q3⟩, b4⟩ | ⟨q, q1, E9, ce, L, ⟨x1, x2, x3⟩, q2⟩
    · exact Or.inl ⟨⟨q1, q2.e91 h0 hNm, q3⟩, b4⟩
    · exact Or.inr ⟨q, q1, E9, ce, L, ⟨x1, x2.e91 h0 hNm, x3⟩, q2⟩
  · intro g i hi
    have hi : i < (if g = 91 then 1 else kcnt E g) := hi
    by_cases a1 : g = 91
    · subst a1
      have e9 : kSh 91 = .inr (.long, 8) := rfl
      unfold kCell
      rw [e9]
      have q1 : kad (kE91 E H.size cA) 91 i = H.size := rfl
      have q2 : kcA (kE91 E H.size cA) 91 = cA := rfl
      show H'[kad (kE91 E H.size cA) 91 i]? = some (arrV (kcA (kE91 E H.size cA) 91) 8 (kV (kE91 E H.size cA) (kZ8 σ) 91 i))
      rw [q1, q2, e1]
      refine congrArg (fun z => some (arrV cA 8 z)) (funext fun k => ?_)
      rw [kV_long (kKd_l e9)]
      rfl
    · rw [if_neg a1] at hi
      have h1 := hW g i hi
      have e1 : kad (kE91 E H.size cA) g i = kad E g i := if_neg a1
      have e2 : kcA (kE91 E H.size cA) g = kcA E g := if_neg a1
      have e3 : kV (kE91 E H.size cA) (kZ8 σ) g i = kV E σ g i := by
        funext k
        have e4 : krf (kE91 E H.size cA) g i k = krf E g i k := by
          rw [hNm.2]
          show Value.ref (if (kTg g k).1 = 91 then H.size else _) = kRv E g i k
          rw [if_neg (kTg_ne g k)]
          rfl
        have e5 : kad (kE91 E H.size cA) 10 (σ.1 g i k).toNatClampNeg = kad E 10 (σ.1 g i k).toNatClampNeg := rfl
        have e6 : (kZ8 σ).2 g i k = σ.2 g i k := if_neg a1
        unfold kV
        rw [e4, e6]
        show (if kKd g k = 0 then Value.int (σ.1 g i k) else if kKd g k = 1 then Value.long (σ.2 g i k) else if kKd g k = 2 then krf E g i k else Value.ref (kad (kE91 E H.size cA) 10 (σ.1 g i k).toNatClampNeg)) = _
        rw [e5]
      unfold kCell at h1 ⊢
      rw [e1, e2, e3]
      cases hg : kSh g with
      | inl ci =>
        rw [hg] at h1
        exact t_OB.kept h1 (o1 _ (hlt g i hi))
      | inr z =>
        rw [hg] at h1
        exact (o1 _ (hlt g i hi)).trans h1
theorem k_lald91 {j : Int32} (hk : kOk (C, E, Q) cc own nL) (h91 : 0 < kcnt E 91) (d : decode cc pc = .ok (.laload, 1)) (k : kin j 8 → Sm (C, E, Q) nL n (pc + 1) lv (.long (σ.2 91 0 j.toNatClampNeg) :: rest) σ o) : Sm (C, E, Q) nL n pc lv (.int j :: .ref (kad E 91 0) :: rest) σ (kg (kin j 8) o) := by
  obtain ⟨p, l, e, R, s, m, args, below, meth, c⟩ := C
  obtain ⟨hx, hb, hml, hown, hts, hEs, hZ, hbs, hEj, hNm, hl9, hlk⟩ := hk
  intro u hu H locs ls hW hS hl
  obtain ⟨hin, h2⟩ := kg_some hu
  have hg : kSh 91 = .inr (.long, 8) := rfl
  have h1 := hW.arr h91 hg
  refine W.lald hx hb h1 (hEs.2 91 _ _ hg h91 8 _) (fun q => by cases q) (by rw [arrV_size]; exact kin_vp hin) (v := .long (σ.2 91 0 j.toNatClampNeg)) ?_ rfl rfl d (k hin u h2 H locs ls hW hS hl)
  rw [arrV_read _ _ (kin_lt hin), kV_long (kKd_l hg)]
theorem k_last91 {j : Int32} {x : Int64} {f : kS → Option kR} (hk : kOk (C, E, Q) cc own nL) (h91 : 0 < kcnt E 91) (d : decode cc pc = .ok (.lastore, 1)) (k : kin j 8 → ∀ σ' : kS, Sm (C, E, Q) nL n (pc + 1) lv rest σ' (f σ')) : Sm (C, E, Q) nL n pc lv (.long x :: .int j :: .ref (kad E 91 0) :: rest) σ (kg (kin j 8) (kb (kUL σ 91 0 j.toNatClampNeg x) f)) := by
  obtain ⟨p, l, e, R, s, m, args, below, meth, c⟩ := C
  obtain ⟨hx, hb, hml, hown, hts, hEs, hZ, hbs, hEj, hNm, hl9, hlk⟩ := hk
  intro u hu H locs ls hW hS hl
  obtain ⟨hin, h2⟩ := kg_some hu
  have hg : kSh 91 = .inr (.long, 8) := rfl
  have h1 := hW.arr h91 hg
  refine W.last hx hb h1 (hEs.2 91 _ _ hg h91 8 _) (fun q => by cases q) (by rw [arrV_size]; exact kin_vp hin) rfl rfl d (fun H' e1 e2 e3 => k hin (kUL σ 91 0 j.toNatClampNeg x) u h2 H' _ ls (hW.put hEj h91 ?_ e3 kV_oL) (hS.put e2 e3 (hEj.2 91 0 h91)) hl)
  unfold kCell
  rw [hg]
  show H'[kad E 91 0]? = _
  rw [e1, arrV_store]
  exact congrArg (fun z => some (arrV (kcA E 91) 8 z)) ((kV_uL (x := .long x) (by rw [kV_long (kKd_l hg), kUL_s])).symm)
end KN
