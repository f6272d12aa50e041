/-! THE RULES: an instruction each, over the world E. -/
section KR
variable {C : kC} {E : kE} {Q : kR → State → Prop} {cc : ByteArray} {own : String} {nL n pc : Nat} {lv : List (Nat × Value)} {rest : List Value} {σ : kS} {o : Option kR}
abbrev kin (j : Int32) (n : Nat) : Prop := 0 ≤ j.toInt ∧ j.toInt < (n : Int)
theorem kin_vp {j : Int32} {n : Nat} (h : kin j n) : vp_in j n := vp_in_iff.mpr h
theorem kin_lt {j : Int32} {n : Nat} (h : kin j n) : j.toNatClampNeg < n := by
  have h1 := kin_vp h
  exact Nat.not_le.mp fun q => h1 (Or.inr q)
/-- a name for a value -/
def kb {α β : Sort _} (x : α) (f : α → β) : β := f x
/-- a guard -/
def kg (c : Prop) [Decidable c] (o : Option kR) : Option kR := if c then o else none
theorem kg_some {c : Prop} [Decidable c] {o : Option kR} {u : kR} (h : kg c o = some u) : c ∧ o = some u := by
  unfold kg at h
  split at h
  · exact ⟨by assumption, h⟩
  · cases h
theorem kg_t {c : Prop} [Decidable c] {o : Option kR} (h : c) : kg c o = o := if_pos h
theorem kWd.arr {E : kE} {σ : kS} {H : Heap} (h : kWd E σ H) {g i : Nat} (hi : i < kcnt E g) {ty : FieldType} {len : Nat} (hg : kSh g = .inr (ty, len)) : H[kad E g i]? = some (arrV (kcA E g) len (kV E σ g i)) := by
  have h1 := h g i hi
  unfold kCell at h1
  rw [hg] at h1
  exact h1
theorem kWd.obj {E : kE} {σ : kS} {H : Heap} (h : kWd E σ H) {g i : Nat} (hi : i < kcnt E g) {ci : Nat} (hg : kSh g = .inl ci) : t_OB (kad E g i) (E.1.1 ci) (kNf ci) (E.1.2 ci) H (kV E σ g i) := by
  have h1 := h g i hi
  unfold kCell at h1
  rw [hg] at h1
  exact h1
theorem kWd.kept {E : kE} {σ : kS} {H H' : Heap} (h : kWd E σ H) (hq : ∀ g i, i < kcnt E g → H'[kad E g i]? = H[kad E g i]?) : kWd E σ H' := by
  intro g i hi
  have h1 := h g i hi
  unfold kCell at h1 ⊢
  cases hg : kSh g with
  | inl ci =>
    rw [hg] at h1
    exact t_OB.kept h1 (hq g i hi)
  | inr q =>
    rw [hg] at h1
    exact (hq g i hi).trans h1
theorem kCell.same {E : kE} {σ σ' : kS} {H H' : Heap} {g i : Nat} (h1 : kCell E σ H g i) (hq : H'[kad E g i]? = H[kad E g i]?) (hv : kV E σ' g i = kV E σ g i) : kCell E σ' H' g i := by
  unfold kCell at h1 ⊢
  rw [hv]
  cases hg : kSh g with
  | inl ci =>
    rw [hg] at h1
    exact t_OB.kept h1 hq
  | inr q =>
    rw [hg] at h1
    exact hq.trans h1
/-- a place of a cell is written -/
theorem kWd.put {E : kE} {σ σ' : kS} {H H' : Heap} (h : kWd E σ H) (hj : kEj E) {g i : Nat} (hi : i < kcnt E g) (hc : kCell E σ' H' g i) (ho : ∀ q, q ≠ kad E g i → H'[q]? = H[q]?) (hv : ∀ g' i', ¬ (g' = g ∧ i' = i) → kV E σ' g' i' = kV E σ g' i') : kWd E σ' H' := by
  intro g' i' hi'
  by_cases hh : g' = g ∧ i' = i
  · obtain ⟨rfl, rfl⟩ := hh
    exact hc
  · exact (h g' i' hi').same (ho _ (fun e => hh (hj.1 _ _ _ _ hi' hi e))) (hv g' i' hh)
theorem kV_int {E : kE} {σ : kS} {g i k : Nat} (h : kKd g k = 0) : kV E σ g i k = .int (σ.1 g i k) := by simp [kV, h]
theorem kV_long {E : kE} {σ : kS} {g i k : Nat} (h : kKd g k = 1) : kV E σ g i k = .long (σ.2 g i k) := by simp [kV, h]
theorem kV_ref {E : kE} {σ : kS} {g i k : Nat} (h : kKd g k = 2) : kV E σ g i k = krf E g i k := by simp [kV, h]
theorem kV_sref {E : kE} {σ : kS} {g i k : Nat} (h : kKd g k = 3) : kV E σ g i k = .ref (kad E 10 (σ.1 g i k).toNatClampNeg) := by simp [kV, h]
theorem kV_o {E : kE} {σ : kS} {g i k : Nat} {v : Int32} : ∀ g' i', ¬ (g' = g ∧ i' = i) → kV E (kU σ g i k v) g' i' = kV E σ g' i' := by
  intro g' i' h
  funext k'
  have : (kU σ g i k v).1 g' i' k' = σ.1 g' i' k' := if_neg (fun q => h ⟨q.1, q.2.1⟩)
  unfold kV
  rw [this]
  rfl
theorem kV_oL {E : kE} {σ : kS} {g i k : Nat} {v : Int64} : ∀ g' i', ¬ (g' = g ∧ i' = i) → kV E (kUL σ g i k v) g' i' = kV E σ g' i' := by
  intro g' i' h
  funext k'
  have : (kUL σ g i k v).2 g' i' k' = σ.2 g' i' k' := if_neg (fun q => h ⟨q.1, q.2.1⟩)
  unfold kV
  rw [this]
  rfl
theorem kV_u {E : kE} {σ : kS} {g i k : Nat} {v : Int32} {x : Value} (h : kV E (kU σ g i k v) g i k = x) : kV E (kU σ g i k v) g i = updV (kV E σ g i) k x := by
  funext k'
  unfold updV
  by_cases e : k' = k
  · subst e
    rw [if_pos rfl, h]
  · rw [if_neg e]
    have : (kU σ g i k v).1 g i k' = σ.1 g i k' := if_neg (fun q => e q.2.2)
    unfold kV
    rw [this]
    rfl
theorem kV_uL {E : kE} {σ : kS} {g i k : Nat} {v : Int64} {x : Value} (h : kV E (kUL σ g i k v) g i k = x) : kV E (kUL σ g i k v) g i = updV (kV E σ g i) k x := by
  funext k'
  unfold updV
  by_cases e : k' = k
  · subst e
    rw [if_pos rfl, h]
  · rw [if_neg e]
    have : (kUL σ g i k v).2 g i k' = σ.2 g i k' := if_neg (fun q => e q.2.2)
    unfold kV
    rw [this]
    rfl
theorem kU_s {σ : kS} {g i k : Nat} {v : Int32} : (kU σ g i k v).1 g i k = v := if_pos ⟨rfl, rfl, rfl⟩
theorem kUL_s {σ : kS} {g i k : Nat} {v : Int64} : (kUL σ g i k v).2 g i k = v := if_pos ⟨rfl, rfl, rfl⟩
theorem kKd_i {g k len : Nat} (hg : kSh g = .inr (.int, len)) : kKd g k = 0 := by unfold kKd; rw [hg]
theorem kKd_b {g k len : Nat} (hg : kSh g = .inr (.byte, len)) : kKd g k = 0 := by unfold kKd; rw [hg]
theorem kKd_l {g k len : Nat} (hg : kSh g = .inr (.long, len)) : kKd g k = 1 := by unfold kKd; rw [hg]
theorem kKd_r {g k len : Nat} {ty : FieldType} (hg : kSh g = .inr (ty, len)) (h : kKd g 0 = 2) : kKd g k = 2 := by
  unfold kKd at h ⊢
  rw [hg] at h ⊢
  cases ty <;> exact h
theorem kcnt_of {E : kE} (h : kNorm E) {g i : Nat} (hi : i < kCnt g) : i < kcnt E g := Nat.lt_of_lt_of_le hi (h.1 g)
theorem k_iconst {z : Int} {v : Int32} (hk : kOk (C, E, Q) cc own nL) (d : decode cc pc = .ok (.iconst z, 1)) (hv : Int32.ofInt z = v) (k : Sm (C, E, Q) nL n (pc + 1) lv (.int v :: rest) σ o) : Sm (C, E, Q) nL n pc lv (rest) σ o := by
  obtain ⟨p, l, e, R, s, m, args, below, meth, c⟩ := C
  intro u hu H locs ls hW hS hl
  exact lv_iconst hk.1 hk.2.1 d hv (k u hu H locs ls hW hS hl)
theorem k_bipush {z : Int} {v : Int32} (hk : kOk (C, E, Q) cc own nL) (d : decode cc pc = .ok (.bipush z, 2)) (hv : (Int8.ofInt z).toInt32 = v) (k : Sm (C, E, Q) nL n (pc + 2) lv (.int v :: rest) σ o) : Sm (C, E, Q) nL n pc lv (rest) σ o := by
  obtain ⟨p, l, e, R, s, m, args, below, meth, c⟩ := C
  intro u hu H locs ls hW hS hl
  exact lv_bipush hk.1 hk.2.1 d hv (k u hu H locs ls hW hS hl)
theorem k_sipush {z : Int} {v : Int32} (hk : kOk (C, E, Q) cc own nL) (d : decode cc pc = .ok (.sipush z, 3)) (hv : (Int16.ofInt z).toInt32 = v) (k : Sm (C, E, Q) nL n (pc + 3) lv (.int v :: rest) σ o) : Sm (C, E, Q) nL n pc lv (rest) σ o := by
  obtain ⟨p, l, e, R, s, m, args, below, meth, c⟩ := C
  intro u hu H locs ls hW hS hl
  exact lv_sipush hk.1 hk.2.1 d hv (k u hu H locs ls hW hS hl)
theorem k_lconst {z : Fin 2} {v : Int64} (hk : kOk (C, E, Q) cc own nL) (d : decode cc pc = .ok (.lconst z, 1)) (hv : Int64.ofNat (z : Nat) = v) (k : Sm (C, E, Q) nL n (pc + 1) lv (.long v :: rest) σ o) : Sm (C, E, Q) nL n pc lv (rest) σ o := by
  obtain ⟨p, l, e, R, s, m, args, below, meth, c⟩ := C
  intro u hu H locs ls hW hS hl
  exact lv_lconst hk.1 hk.2.1 d hv (k u hu H locs ls hW hS hl)
theorem k_iload_n {z : Fin 4} {x : Int32} (hk : kOk (C, E, Q) cc own nL) (d : decode cc pc = .ok (.iload_n z, 1)) (j : Nat) (hj : lv[j]? = some ((z : Nat), .int x)) (k : Sm (C, E, Q) nL n (pc + 1) lv (.int x :: rest) σ o) : Sm (C, E, Q) nL n pc lv (rest) σ o := by
  obtain ⟨p, l, e, R, s, m, args, below, meth, c⟩ := C
  intro u hu H locs ls hW hS hl
  exact lv_iload_n hk.1 hk.2.1 d rfl (lv_at hl j hj) (k u hu H locs ls hW hS hl)
theorem k_iload {z : Nat} {x : Int32} (hk : kOk (C, E, Q) cc own nL) (d : decode cc pc = .ok (.iload z, 2)) (j : Nat) (hj : lv[j]? = some (z, .int x)) (k : Sm (C, E, Q) nL n (pc + 2) lv (.int x :: rest) σ o) : Sm (C, E, Q) nL n pc lv (rest) σ o := by
  obtain ⟨p, l, e, R, s, m, args, below, meth, c⟩ := C
  intro u hu H locs ls hW hS hl
  exact lv_iload hk.1 hk.2.1 d (lv_at hl j hj) (k u hu H locs ls hW hS hl)
theorem k_lload_n {z : Fin 4} {x : Int64} (hk : kOk (C, E, Q) cc own nL) (d : decode cc pc = .ok (.lload_n z, 1)) (j : Nat) (hj : lv[j]? = some ((z : Nat), .long x)) (k : Sm (C, E, Q) nL n (pc + 1) lv (.long x :: rest) σ o) : Sm (C, E, Q) nL n pc lv (rest) σ o := by
  obtain ⟨p, l, e, R, s, m, args, below, meth, c⟩ := C
  intro u hu H locs ls hW hS hl
  exact lv_lload_n hk.1 hk.2.1 d rfl (lv_at hl j hj) (k u hu H locs ls hW hS hl)
theorem k_lload {z : Nat} {x : Int64} (hk : kOk (C, E, Q) cc own nL) (d : decode cc pc = .ok (.lload z, 2)) (j : Nat) (hj : lv[j]? = some (z, .long x)) (k : Sm (C, E, Q) nL n (pc + 2) lv (.long x :: rest) σ o) : Sm (C, E, Q) nL n pc lv (rest) σ o := by
  obtain ⟨p, l, e, R, s, m, args, below, meth, c⟩ := C
  intro u hu H locs ls hW hS hl
  exact lv_lload hk.1 hk.2.1 d (lv_at hl j hj) (k u hu H locs ls hW hS hl)
theorem k_aload_n {z : Fin 4} {x : Nat} (hk : kOk (C, E, Q) cc own nL) (d : decode cc pc = .ok (.aload_n z, 1)) (j : Nat) (hj : lv[j]? = some ((z : Nat), .ref x)) (k : Sm (C, E, Q) nL n (pc + 1) lv (.ref x :: rest) σ o) : Sm (C, E, Q) nL n pc lv (rest) σ o := by
  obtain ⟨p, l, e, R, s, m, args, below, meth, c⟩ := C
  intro u hu H locs ls hW hS hl
  exact lv_aload_n hk.1 hk.2.1 d rfl (lv_at hl j hj) (k u hu H locs ls hW hS hl)
theorem k_aload {z : Nat} {x : Nat} (hk : kOk (C, E, Q) cc own nL) (d : decode cc pc = .ok (.aload z, 2)) (j : Nat) (hj : lv[j]? = some (z, .ref x)) (k : Sm (C, E, Q) nL n (pc + 2) lv (.ref x :: rest) σ o) : Sm (C, E, Q) nL n pc lv (rest) σ o := by
  obtain ⟨p, l, e, R, s, m, args, below, meth, c⟩ := C
  intro u hu H locs ls hW hS hl
  exact lv_aload hk.1 hk.2.1 d (lv_at hl j hj) (k u hu H locs ls hW hS hl)
theorem k_istore_n {z : Fin 4} {x : Int32} {lv' : List (Nat × Value)} (hk : kOk (C, E, Q) cc own nL) (d : decode cc pc = .ok (.istore_n z, 1)) (hn : (z : Nat) < nL) (hl2 : ((z : Nat), Value.int x) :: lv.filter (fun q => !(q.1 == (z : Nat)) && !(q.1 + 1 == (z : Nat) && q.2.category == 2)) = lv') (k : Sm (C, E, Q) nL n (pc + 1) lv' rest σ o) : Sm (C, E, Q) nL n pc lv (.int x :: rest) σ o := by
  obtain ⟨p, l, e, R, s, m, args, below, meth, c⟩ := C
  intro u hu H locs ls hW hS hl
  exact lv_istore_n hk.1 hk.2.1 d rfl hl hn hl2 (fun ls' hl' => k u hu H locs ls' hW hS hl')
theorem k_istore {z : Nat} {x : Int32} {lv' : List (Nat × Value)} (hk : kOk (C, E, Q) cc own nL) (d : decode cc pc = .ok (.istore z, 2)) (hn : z < nL) (hl2 : (z, Value.int x) :: lv.filter (fun q => !(q.1 == z) && !(q.1 + 1 == z && q.2.category == 2)) = lv') (k : Sm (C, E, Q) nL n (pc + 2) lv' rest σ o) : Sm (C, E, Q) nL n pc lv (.int x :: rest) σ o := by
  obtain ⟨p, l, e, R, s, m, args, below, meth, c⟩ := C
  intro u hu H locs ls hW hS hl
  exact lv_istore hk.1 hk.2.1 d hl hn hl2 (fun ls' hl' => k u hu H locs ls' hW hS hl')
theorem k_astore_n {z : Fin 4} {x : Nat} {lv' : List (Nat × Value)} (hk : kOk (C, E, Q) cc own nL) (d : decode cc pc = .ok (.astore_n z, 1)) (hn : (z : Nat) < nL) (hl2 : ((z : Nat), Value.ref x) :: lv.filter (fun q => !(q.1 == (z : Nat)) && !(q.1 + 1 == (z : Nat) && q.2.category == 2)) = lv') (k : Sm (C, E, Q) nL n (pc + 1) lv' rest σ o) : Sm (C, E, Q) nL n pc lv (.ref x :: rest) σ o := by
  obtain ⟨p, l, e, R, s, m, args, below, meth, c⟩ := C
  intro u hu H locs ls hW hS hl
  exact lv_astore_n hk.1 hk.2.1 d rfl hl hn hl2 (fun ls' hl' => k u hu H locs ls' hW hS hl')
theorem k_astore {z : Nat} {x : Nat} {lv' : List (Nat × Value)} (hk : kOk (C, E, Q) cc own nL) (d : decode cc pc = .ok (.astore z, 2)) (hn : z < nL) (hl2 : (z, Value.ref x) :: lv.filter (fun q => !(q.1 == z) && !(q.1 + 1 == z && q.2.category == 2)) = lv') (k : Sm (C, E, Q) nL n (pc + 2) lv' rest σ o) : Sm (C, E, Q) nL n pc lv (.ref x :: rest) σ o := by
  obtain ⟨p, l, e, R, s, m, args, below, meth, c⟩ := C
  intro u hu H locs ls hW hS hl
  exact lv_astore hk.1 hk.2.1 d hl hn hl2 (fun ls' hl' => k u hu H locs ls' hW hS hl')
theorem k_lstore_n {z : Fin 4} {x : Int64} {lv' : List (Nat × Value)} (hk : kOk (C, E, Q) cc own nL) (d : decode cc pc = .ok (.lstore_n z, 1)) (hn : (z : Nat) + 1 < nL) (hl2 : ((z : Nat), Value.long x) :: lv.filter (fun q => !(q.1 == (z : Nat)) && (!(q.1 == (z : Nat) + 1) && !(q.1 + 1 == (z : Nat) && q.2.category == 2))) = lv') (k : Sm (C, E, Q) nL n (pc + 1) lv' rest σ o) : Sm (C, E, Q) nL n pc lv (.long x :: rest) σ o := by
  obtain ⟨p, l, e, R, s, m, args, below, meth, c⟩ := C
  intro u hu H locs ls hW hS hl
  exact lv_lstore_n hk.1 hk.2.1 d rfl hl hn hl2 (fun ls' hl' => k u hu H locs ls' hW hS hl')
theorem k_lstore {z : Nat} {x : Int64} {lv' : List (Nat × Value)} (hk : kOk (C, E, Q) cc own nL) (d : decode cc pc = .ok (.lstore z, 2)) (hn : z + 1 < nL) (hl2 : (z, Value.long x) :: lv.filter (fun q => !(q.1 == z) && (!(q.1 == z + 1) && !(q.1 + 1 == z && q.2.category == 2))) = lv') (k : Sm (C, E, Q) nL n (pc + 2) lv' rest σ o) : Sm (C, E, Q) nL n pc lv (.long x :: rest) σ o := by
  obtain ⟨p, l, e, R, s, m, args, below, meth, c⟩ := C
  intro u hu H locs ls hW hS hl
  exact lv_lstore hk.1 hk.2.1 d hl hn hl2 (fun ls' hl' => k u hu H locs ls' hW hS hl')
theorem k_iinc {z j : Nat} {v : Int} {x y : Int32} {lv' : List (Nat × Value)} (hk : kOk (C, E, Q) cc own nL) (d : decode cc pc = .ok (.iinc z v, 3)) (hj : lv[j]? = some (z, .int x)) (hv : x + Int32.ofInt v = y) (hn : z < nL) (hl2 : (z, Value.int y) :: lv.filter (fun q => !(q.1 == z) && !(q.1 + 1 == z && q.2.category == 2)) = lv') (k : Sm (C, E, Q) nL n (pc + 3) lv' rest σ o) : Sm (C, E, Q) nL n pc lv rest σ o := by
  obtain ⟨p, l, e, R, s, m, args, below, meth, c⟩ := C
  intro u hu H locs ls hW hS hl
  exact lv_iinc hk.1 hk.2.1 d hl hj hv hn hl2 (fun ls' hl' => k u hu H locs ls' hW hS hl')
theorem k_iadd {x y : Int32} (hk : kOk (C, E, Q) cc own nL) (d : decode cc pc = .ok (.iadd, 1)) (k : Sm (C, E, Q) nL n (pc + 1) lv (.int (x + y) :: rest) σ o) : Sm (C, E, Q) nL n pc lv (.int y :: .int x :: rest) σ o := by
  obtain ⟨p, l, e, R, s, m, args, below, meth, c⟩ := C
  intro u hu H locs ls hW hS hl
  exact lv_iadd hk.1 hk.2.1 d (k u hu H locs ls hW hS hl)
theorem k_isub {x y : Int32} (hk : kOk (C, E, Q) cc own nL) (d : decode cc pc = .ok (.isub, 1)) (k : Sm (C, E, Q) nL n (pc + 1) lv (.int (x - y) :: rest) σ o) : Sm (C, E, Q) nL n pc lv (.int y :: .int x :: rest) σ o := by
  obtain ⟨p, l, e, R, s, m, args, below, meth, c⟩ := C
  intro u hu H locs ls hW hS hl
  exact lv_isub hk.1 hk.2.1 d (k u hu H locs ls hW hS hl)
theorem k_imul {x y : Int32} (hk : kOk (C, E, Q) cc own nL) (d : decode cc pc = .ok (.imul, 1)) (k : Sm (C, E, Q) nL n (pc + 1) lv (.int (x * y) :: rest) σ o) : Sm (C, E, Q) nL n pc lv (.int y :: .int x :: rest) σ o := by
  obtain ⟨p, l, e, R, s, m, args, below, meth, c⟩ := C
  intro u hu H locs ls hW hS hl
  exact lv_imul hk.1 hk.2.1 d (k u hu H locs ls hW hS hl)
theorem k_iand {x y : Int32} (hk : kOk (C, E, Q) cc own nL) (d : decode cc pc = .ok (.iand, 1)) (k : Sm (C, E, Q) nL n (pc + 1) lv (.int (x &&& y) :: rest) σ o) : Sm (C, E, Q) nL n pc lv (.int y :: .int x :: rest) σ o := by
  obtain ⟨p, l, e, R, s, m, args, below, meth, c⟩ := C
  intro u hu H locs ls hW hS hl
  exact lv_iand hk.1 hk.2.1 d (k u hu H locs ls hW hS hl)
theorem k_ior {x y : Int32} (hk : kOk (C, E, Q) cc own nL) (d : decode cc pc = .ok (.ior, 1)) (k : Sm (C, E, Q) nL n (pc + 1) lv (.int (x ||| y) :: rest) σ o) : Sm (C, E, Q) nL n pc lv (.int y :: .int x :: rest) σ o := by
  obtain ⟨p, l, e, R, s, m, args, below, meth, c⟩ := C
  intro u hu H locs ls hW hS hl
  exact lv_ior hk.1 hk.2.1 d (k u hu H locs ls hW hS hl)
theorem k_ixor {x y : Int32} (hk : kOk (C, E, Q) cc own nL) (d : decode cc pc = .ok (.ixor, 1)) (k : Sm (C, E, Q) nL n (pc + 1) lv (.int (x ^^^ y) :: rest) σ o) : Sm (C, E, Q) nL n pc lv (.int y :: .int x :: rest) σ o := by
  obtain ⟨p, l, e, R, s, m, args, below, meth, c⟩ := C
  intro u hu H locs ls hW hS hl
  exact lv_ixor hk.1 hk.2.1 d (k u hu H locs ls hW hS hl)
theorem k_ishl {x y : Int32} (hk : kOk (C, E, Q) cc own nL) (d : decode cc pc = .ok (.ishl, 1)) (k : Sm (C, E, Q) nL n (pc + 1) lv (.int (x <<< (y &&& 31)) :: rest) σ o) : Sm (C, E, Q) nL n pc lv (.int y :: .int x :: rest) σ o := by
  obtain ⟨p, l, e, R, s, m, args, below, meth, c⟩ := C
  intro u hu H locs ls hW hS hl
  exact lv_ishl hk.1 hk.2.1 d (k u hu H locs ls hW hS hl)
theorem k_ishr {x y : Int32} (hk : kOk (C, E, Q) cc own nL) (d : decode cc pc = .ok (.ishr, 1)) (k : Sm (C, E, Q) nL n (pc + 1) lv (.int (x >>> (y &&& 31)) :: rest) σ o) : Sm (C, E, Q) nL n pc lv (.int y :: .int x :: rest) σ o := by
  obtain ⟨p, l, e, R, s, m, args, below, meth, c⟩ := C
  intro u hu H locs ls hW hS hl
  exact lv_ishr hk.1 hk.2.1 d (k u hu H locs ls hW hS hl)
theorem k_ladd {x y : Int64} (hk : kOk (C, E, Q) cc own nL) (d : decode cc pc = .ok (.ladd, 1)) (k : Sm (C, E, Q) nL n (pc + 1) lv (.long (x + y) :: rest) σ o) : Sm (C, E, Q) nL n pc lv (.long y :: .long x :: rest) σ o := by
  obtain ⟨p, l, e, R, s, m, args, below, meth, c⟩ := C
  intro u hu H locs ls hW hS hl
  exact lv_ladd hk.1 hk.2.1 d (k u hu H locs ls hW hS hl)
theorem k_lsub {x y : Int64} (hk : kOk (C, E, Q) cc own nL) (d : decode cc pc = .ok (.lsub, 1)) (k : Sm (C, E, Q) nL n (pc + 1) lv (.long (x - y) :: rest) σ o) : Sm (C, E, Q) nL n pc lv (.long y :: .long x :: rest) σ o := by
  obtain ⟨p, l, e, R, s, m, args, below, meth, c⟩ := C
  intro u hu H locs ls hW hS hl
  exact lv_lsub hk.1 hk.2.1 d (k u hu H locs ls hW hS hl)
theorem k_lmul {x y : Int64} (hk : kOk (C, E, Q) cc own nL) (d : decode cc pc = .ok (.lmul, 1)) (k : Sm (C, E, Q) nL n (pc + 1) lv (.long (x * y) :: rest) σ o) : Sm (C, E, Q) nL n pc lv (.long y :: .long x :: rest) σ o := by
  obtain ⟨p, l, e, R, s, m, args, below, meth, c⟩ := C
  intro u hu H locs ls hW hS hl
  exact lv_lmul hk.1 hk.2.1 d (k u hu H locs ls hW hS hl)
theorem k_idiv_c {x y : Int32} (hk : kOk (C, E, Q) cc own nL) (d : decode cc pc = .ok (.idiv, 1)) (hne : ¬ y = 0) (k : Sm (C, E, Q) nL n (pc + 1) lv (.int (x / y) :: rest) σ o) : Sm (C, E, Q) nL n pc lv (.int y :: .int x :: rest) σ o := by
  obtain ⟨p, l, e, R, s, m, args, below, meth, c⟩ := C
  intro u hu H locs ls hW hS hl
  exact lv_idiv hk.1 hk.2.1 d hne (k u hu H locs ls hW hS hl)
theorem k_idiv {x y : Int32} (hk : kOk (C, E, Q) cc own nL) (d : decode cc pc = .ok (.idiv, 1)) (k : ¬ y = 0 → Sm (C, E, Q) nL n (pc + 1) lv (.int (x / y) :: rest) σ o) : Sm (C, E, Q) nL n pc lv (.int y :: .int x :: rest) σ (kg (¬ y = 0) o) := by
  intro u hu
  obtain ⟨h1, h2⟩ := kg_some hu
  exact k_idiv_c hk d h1 (k h1) u h2
theorem k_irem_c {x y : Int32} (hk : kOk (C, E, Q) cc own nL) (d : decode cc pc = .ok (.irem, 1)) (hne : ¬ y = 0) (k : Sm (C, E, Q) nL n (pc + 1) lv (.int (x - x / y * y) :: rest) σ o) : Sm (C, E, Q) nL n pc lv (.int y :: .int x :: rest) σ o := by
  obtain ⟨p, l, e, R, s, m, args, below, meth, c⟩ := C
  intro u hu H locs ls hW hS hl
  exact lv_irem hk.1 hk.2.1 d hne (k u hu H locs ls hW hS hl)
theorem k_irem {x y : Int32} (hk : kOk (C, E, Q) cc own nL) (d : decode cc pc = .ok (.irem, 1)) (k : ¬ y = 0 → Sm (C, E, Q) nL n (pc + 1) lv (.int (x - x / y * y) :: rest) σ o) : Sm (C, E, Q) nL n pc lv (.int y :: .int x :: rest) σ (kg (¬ y = 0) o) := by
  intro u hu
  obtain ⟨h1, h2⟩ := kg_some hu
  exact k_irem_c hk d h1 (k h1) u h2
theorem k_ldiv_c {x y : Int64} (hk : kOk (C, E, Q) cc own nL) (d : decode cc pc = .ok (.ldiv, 1)) (hne : ¬ y = 0) (k : Sm (C, E, Q) nL n (pc + 1) lv (.long (x / y) :: rest) σ o) : Sm (C, E, Q) nL n pc lv (.long y :: .long x :: rest) σ o := by
  obtain ⟨p, l, e, R, s, m, args, below, meth, c⟩ := C
  intro u hu H locs ls hW hS hl
  exact lv_ldiv hk.1 hk.2.1 d hne (k u hu H locs ls hW hS hl)
theorem k_ldiv {x y : Int64} (hk : kOk (C, E, Q) cc own nL) (d : decode cc pc = .ok (.ldiv, 1)) (k : ¬ y = 0 → Sm (C, E, Q) nL n (pc + 1) lv (.long (x / y) :: rest) σ o) : Sm (C, E, Q) nL n pc lv (.long y :: .long x :: rest) σ (kg (¬ y = 0) o) := by
  intro u hu
  obtain ⟨h1, h2⟩ := kg_some hu
  exact k_ldiv_c hk d h1 (k h1) u h2
theorem k_ineg {x : Int32} (hk : kOk (C, E, Q) cc own nL) (d : decode cc pc = .ok (.ineg, 1)) (k : Sm (C, E, Q) nL n (pc + 1) lv (.int (-x) :: rest) σ o) : Sm (C, E, Q) nL n pc lv (.int x :: rest) σ o := by
  obtain ⟨p, l, e, R, s, m, args, below, meth, c⟩ := C
  intro u hu H locs ls hW hS hl
  exact lv_ineg hk.1 hk.2.1 d (k u hu H locs ls hW hS hl)
theorem k_lshr {x : Int64} {y : Int32} (hk : kOk (C, E, Q) cc own nL) (d : decode cc pc = .ok (.lshr, 1)) (k : Sm (C, E, Q) nL n (pc + 1) lv (.long (x >>> (y.toInt64 &&& 63)) :: rest) σ o) : Sm (C, E, Q) nL n pc lv (.int y :: .long x :: rest) σ o := by
  obtain ⟨p, l, e, R, s, m, args, below, meth, c⟩ := C
  intro u hu H locs ls hW hS hl
  exact lv_lshr hk.1 hk.2.1 d rfl (k u hu H locs ls hW hS hl)
theorem k_i2l {x : Int32} (hk : kOk (C, E, Q) cc own nL) (d : decode cc pc = .ok (.i2l, 1)) (k : Sm (C, E, Q) nL n (pc + 1) lv (.long x.toInt64 :: rest) σ o) : Sm (C, E, Q) nL n pc lv (.int x :: rest) σ o := by
  obtain ⟨p, l, e, R, s, m, args, below, meth, c⟩ := C
  intro u hu H locs ls hW hS hl
  exact lv_i2l hk.1 hk.2.1 d rfl (k u hu H locs ls hW hS hl)
theorem k_l2i {x : Int64} (hk : kOk (C, E, Q) cc own nL) (d : decode cc pc = .ok (.l2i, 1)) (k : Sm (C, E, Q) nL n (pc + 1) lv (.int x.toInt32 :: rest) σ o) : Sm (C, E, Q) nL n pc lv (.long x :: rest) σ o := by
  obtain ⟨p, l, e, R, s, m, args, below, meth, c⟩ := C
  intro u hu H locs ls hW hS hl
  exact lv_l2i hk.1 hk.2.1 d rfl (k u hu H locs ls hW hS hl)
theorem k_i2b {x : Int32} (hk : kOk (C, E, Q) cc own nL) (d : decode cc pc = .ok (.i2b, 1)) (k : Sm (C, E, Q) nL n (pc + 1) lv (.int x.toInt8.toInt32 :: rest) σ o) : Sm (C, E, Q) nL n pc lv (.int x :: rest) σ o := by
  obtain ⟨p, l, e, R, s, m, args, below, meth, c⟩ := C
  intro u hu H locs ls hW hS hl
  exact lv_i2b hk.1 hk.2.1 d rfl (k u hu H locs ls hW hS hl)
theorem k_lcmp {x y : Int64} (hk : kOk (C, E, Q) cc own nL) (d : decode cc pc = .ok (.lcmp, 1)) (k : Sm (C, E, Q) nL n (pc + 1) lv (.int (lg_cmp x y) :: rest) σ o) : Sm (C, E, Q) nL n pc lv (.long y :: .long x :: rest) σ o := by
  obtain ⟨p, l, e, R, s, m, args, below, meth, c⟩ := C
  intro u hu H locs ls hW hS hl
  exact W.lcmp hk.1 hk.2.1 d (k u hu H locs ls hW hS hl)
theorem k_dup {v : Value} (hk : kOk (C, E, Q) cc own nL) (d : decode cc pc = .ok (.dup, 1)) (hv : v.category = 1) (k : Sm (C, E, Q) nL n (pc + 1) lv (v :: v :: rest) σ o) : Sm (C, E, Q) nL n pc lv (v :: rest) σ o := by
  obtain ⟨p, l, e, R, s, m, args, below, meth, c⟩ := C
  intro u hu H locs ls hW hS hl
  exact lv_dup hk.1 hk.2.1 d hv (k u hu H locs ls hW hS hl)
theorem k_pop {v : Value} (hk : kOk (C, E, Q) cc own nL) (d : decode cc pc = .ok (.pop, 1)) (hv : v.category = 1) (k : Sm (C, E, Q) nL n (pc + 1) lv (rest) σ o) : Sm (C, E, Q) nL n pc lv (v :: rest) σ o := by
  obtain ⟨p, l, e, R, s, m, args, below, meth, c⟩ := C
  intro u hu H locs ls hW hS hl
  exact lv_pop hk.1 hk.2.1 d hv (k u hu H locs ls hW hS hl)
theorem k_pop2l {v : Value} (hk : kOk (C, E, Q) cc own nL) (d : decode cc pc = .ok (.pop2, 1)) (hv : v.category = 2) (k : Sm (C, E, Q) nL n (pc + 1) lv (rest) σ o) : Sm (C, E, Q) nL n pc lv (v :: rest) σ o := by
  obtain ⟨p, l, e, R, s, m, args, below, meth, c⟩ := C
  intro u hu H locs ls hW hS hl
  exact lv_pop2_2 hk.1 hk.2.1 d hv (k u hu H locs ls hW hS hl)
theorem k_dup2 {v v2 : Value} (hk : kOk (C, E, Q) cc own nL) (d : decode cc pc = .ok (.dup2, 1)) (hv : v.category = 1) (hv2 : v2.category = 1) (k : Sm (C, E, Q) nL n (pc + 1) lv (v :: v2 :: v :: v2 :: rest) σ o) : Sm (C, E, Q) nL n pc lv (v :: v2 :: rest) σ o := by
  obtain ⟨p, l, e, R, s, m, args, below, meth, c⟩ := C
  intro u hu H locs ls hW hS hl
  exact lv_dup2_11 hk.1 hk.2.1 d hv hv2 (k u hu H locs ls hW hS hl)
theorem k_goto {off : Int} (hk : kOk (C, E, Q) cc own nL) (d : decode cc pc = .ok (.goto off, 3)) (tgt : Nat) (ht : (pc : Int) + off = (tgt : Int)) (k : Sm (C, E, Q) nL n tgt lv rest σ o) : Sm (C, E, Q) nL n pc lv rest σ o := by
  obtain ⟨p, l, e, R, s, m, args, below, meth, c⟩ := C
  intro u hu H locs ls hW hS hl
  exact lv_goto hk.1 hk.2.1 d ht (k u hu H locs ls hW hS hl)
theorem k_if_eq {x : Int32} {off : Int} {o1 o2 : Option kR} (hk : kOk (C, E, Q) cc own nL) (d : decode cc pc = .ok (.ifCond .eq off, 3)) (tgt : Nat) (ht : (pc : Int) + off = (tgt : Int)) (k1 : x = 0 → Sm (C, E, Q) nL n tgt lv rest σ o1) (k2 : ¬ (x = 0) → Sm (C, E, Q) nL n (pc + 3) lv rest σ o2) : Sm (C, E, Q) nL n pc lv (.int x :: rest) σ (if x = 0 then o1 else o2) := by
  obtain ⟨p, l, e, R, s, m, args, below, meth, c⟩ := C
  intro u hu H locs ls hW hS hl
  exact lv_if_eq hk.1 hk.2.1 d ht (fun h => k1 h u (by rw [if_pos h] at hu; exact hu) H locs ls hW hS hl) (fun h => k2 h u (by rw [if_neg h] at hu; exact hu) H locs ls hW hS hl)
theorem k_icmp_eq {x y : Int32} {off : Int} {o1 o2 : Option kR} (hk : kOk (C, E, Q) cc own nL) (d : decode cc pc = .ok (.if_icmp .eq off, 3)) (tgt : Nat) (ht : (pc : Int) + off = (tgt : Int)) (k1 : x = y → Sm (C, E, Q) nL n tgt lv rest σ o1) (k2 : ¬ (x = y) → Sm (C, E, Q) nL n (pc + 3) lv rest σ o2) : Sm (C, E, Q) nL n pc lv (.int y :: .int x :: rest) σ (if x = y then o1 else o2) := by
  obtain ⟨p, l, e, R, s, m, args, below, meth, c⟩ := C
  intro u hu H locs ls hW hS hl
  exact lv_icmp_eq hk.1 hk.2.1 d ht (fun h => k1 h u (by rw [if_pos h] at hu; exact hu) H locs ls hW hS hl) (fun h => k2 h u (by rw [if_neg h] at hu; exact hu) H locs ls hW hS hl)
theorem k_if_ne {x : Int32} {off : Int} {o1 o2 : Option kR} (hk : kOk (C, E, Q) cc own nL) (d : decode cc pc = .ok (.ifCond .ne off, 3)) (tgt : Nat) (ht : (pc : Int) + off = (tgt : Int)) (k1 : ¬ (x = 0) → Sm (C, E, Q) nL n tgt lv rest σ o1) (k2 : x = 0 → Sm (C, E, Q) nL n (pc + 3) lv rest σ o2) : Sm (C, E, Q) nL n pc lv (.int x :: rest) σ (if x = 0 then o2 else o1) := by
  obtain ⟨p, l, e, R, s, m, args, below, meth, c⟩ := C
  intro u hu H locs ls hW hS hl
  exact lv_if_ne hk.1 hk.2.1 d ht (fun h => k1 h u (by rw [if_neg h] at hu; exact hu) H locs ls hW hS hl) (fun h => k2 h u (by rw [if_pos h] at hu; exact hu) H locs ls hW hS hl)
theorem k_icmp_ne {x y : Int32} {off : Int} {o1 o2 : Option kR} (hk : kOk (C, E, Q) cc own nL) (d : decode cc pc = .ok (.if_icmp .ne off, 3)) (tgt : Nat) (ht : (pc : Int) + off = (tgt : Int)) (k1 : ¬ (x = y) → Sm (C, E, Q) nL n tgt lv rest σ o1) (k2 : x = y → Sm (C, E, Q) nL n (pc + 3) lv rest σ o2) : Sm (C, E, Q) nL n pc lv (.int y :: .int x :: rest) σ (if x = y then o2 else o1) := by
  obtain ⟨p, l, e, R, s, m, args, below, meth, c⟩ := C
  intro u hu H locs ls hW hS hl
  exact lv_icmp_ne hk.1 hk.2.1 d ht (fun h => k1 h u (by rw [if_neg h] at hu; exact hu) H locs ls hW hS hl) (fun h => k2 h u (by rw [if_pos h] at hu; exact hu) H locs ls hW hS hl)
theorem k_if_lt {x : Int32} {off : Int} {o1 o2 : Option kR} (hk : kOk (C, E, Q) cc own nL) (d : decode cc pc = .ok (.ifCond .lt off, 3)) (tgt : Nat) (ht : (pc : Int) + off = (tgt : Int)) (k1 : x < 0 → Sm (C, E, Q) nL n tgt lv rest σ o1) (k2 : ¬ (x < 0) → Sm (C, E, Q) nL n (pc + 3) lv rest σ o2) : Sm (C, E, Q) nL n pc lv (.int x :: rest) σ (if x < 0 then o1 else o2) := by
  obtain ⟨p, l, e, R, s, m, args, below, meth, c⟩ := C
  intro u hu H locs ls hW hS hl
  exact lv_if_lt hk.1 hk.2.1 d ht (fun h => k1 h u (by rw [if_pos h] at hu; exact hu) H locs ls hW hS hl) (fun h => k2 h u (by rw [if_neg h] at hu; exact hu) H locs ls hW hS hl)
theorem k_icmp_lt {x y : Int32} {off : Int} {o1 o2 : Option kR} (hk : kOk (C, E, Q) cc own nL) (d : decode cc pc = .ok (.if_icmp .lt off, 3)) (tgt : Nat) (ht : (pc : Int) + off = (tgt : Int)) (k1 : x < y → Sm (C, E, Q) nL n tgt lv rest σ o1) (k2 : ¬ (x < y) → Sm (C, E, Q) nL n (pc + 3) lv rest σ o2) : Sm (C, E, Q) nL n pc lv (.int y :: .int x :: rest) σ (if x < y then o1 else o2) := by
  obtain ⟨p, l, e, R, s, m, args, below, meth, c⟩ := C
  intro u hu H locs ls hW hS hl
  exact lv_icmp_lt hk.1 hk.2.1 d ht (fun h => k1 h u (by rw [if_pos h] at hu; exact hu) H locs ls hW hS hl) (fun h => k2 h u (by rw [if_neg h] at hu; exact hu) H locs ls hW hS hl)
theorem k_if_ge {x : Int32} {off : Int} {o1 o2 : Option kR} (hk : kOk (C, E, Q) cc own nL) (d : decode cc pc = .ok (.ifCond .ge off, 3)) (tgt : Nat) (ht : (pc : Int) + off = (tgt : Int)) (k1 : 0 ≤ x → Sm (C, E, Q) nL n tgt lv rest σ o1) (k2 : ¬ (0 ≤ x) → Sm (C, E, Q) nL n (pc + 3) lv rest σ o2) : Sm (C, E, Q) nL n pc lv (.int x :: rest) σ (if 0 ≤ x then o1 else o2) := by
  obtain ⟨p, l, e, R, s, m, args, below, meth, c⟩ := C
  intro u hu H locs ls hW hS hl
  exact lv_if_ge hk.1 hk.2.1 d ht (fun h => k1 h u (by rw [if_pos h] at hu; exact hu) H locs ls hW hS hl) (fun h => k2 h u (by rw [if_neg h] at hu; exact hu) H locs ls hW hS hl)
theorem k_icmp_ge {x y : Int32} {off : Int} {o1 o2 : Option kR} (hk : kOk (C, E, Q) cc own nL) (d : decode cc pc = .ok (.if_icmp .ge off, 3)) (tgt : Nat) (ht : (pc : Int) + off = (tgt : Int)) (k1 : y ≤ x → Sm (C, E, Q) nL n tgt lv rest σ o1) (k2 : ¬ (y ≤ x) → Sm (C, E, Q) nL n (pc + 3) lv rest σ o2) : Sm (C, E, Q) nL n pc lv (.int y :: .int x :: rest) σ (if y ≤ x then o1 else o2) := by
  obtain ⟨p, l, e, R, s, m, args, below, meth, c⟩ := C
  intro u hu H locs ls hW hS hl
  exact lv_icmp_ge hk.1 hk.2.1 d ht (fun h => k1 h u (by rw [if_pos h] at hu; exact hu) H locs ls hW hS hl) (fun h => k2 h u (by rw [if_neg h] at hu; exact hu) H locs ls hW hS hl)
theorem k_if_gt {x : Int32} {off : Int} {o1 o2 : Option kR} (hk : kOk (C, E, Q) cc own nL) (d : decode cc pc = .ok (.ifCond .gt off, 3)) (tgt : Nat) (ht : (pc : Int) + off = (tgt : Int)) (k1 : 0 < x → Sm (C, E, Q) nL n tgt lv rest σ o1) (k2 : ¬ (0 < x) → Sm (C, E, Q) nL n (pc + 3) lv rest σ o2) : Sm (C, E, Q) nL n pc lv (.int x :: rest) σ (if 0 < x then o1 else o2) := by
  obtain ⟨p, l, e, R, s, m, args, below, meth, c⟩ := C
  intro u hu H locs ls hW hS hl
  exact lv_if_gt hk.1 hk.2.1 d ht (fun h => k1 h u (by rw [if_pos h] at hu; exact hu) H locs ls hW hS hl) (fun h => k2 h u (by rw [if_neg h] at hu; exact hu) H locs ls hW hS hl)
theorem k_icmp_gt {x y : Int32} {off : Int} {o1 o2 : Option kR} (hk : kOk (C, E, Q) cc own nL) (d : decode cc pc = .ok (.if_icmp .gt off, 3)) (tgt : Nat) (ht : (pc : Int) + off = (tgt : Int)) (k1 : y < x → Sm (C, E, Q) nL n tgt lv rest σ o1) (k2 : ¬ (y < x) → Sm (C, E, Q) nL n (pc + 3) lv rest σ o2) : Sm (C, E, Q) nL n pc lv (.int y :: .int x :: rest) σ (if y < x then o1 else o2) := by
  obtain ⟨p, l, e, R, s, m, args, below, meth, c⟩ := C
  intro u hu H locs ls hW hS hl
  exact lv_icmp_gt hk.1 hk.2.1 d ht (fun h => k1 h u (by rw [if_pos h] at hu; exact hu) H locs ls hW hS hl) (fun h => k2 h u (by rw [if_neg h] at hu; exact hu) H locs ls hW hS hl)
theorem k_if_le {x : Int32} {off : Int} {o1 o2 : Option kR} (hk : kOk (C, E, Q) cc own nL) (d : decode cc pc = .ok (.ifCond .le off, 3)) (tgt : Nat) (ht : (pc : Int) + off = (tgt : Int)) (k1 : x ≤ 0 → Sm (C, E, Q) nL n tgt lv rest σ o1) (k2 : ¬ (x ≤ 0) → Sm (C, E, Q) nL n (pc + 3) lv rest σ o2) : Sm (C, E, Q) nL n pc lv (.int x :: rest) σ (if x ≤ 0 then o1 else o2) := by
  obtain ⟨p, l, e, R, s, m, args, below, meth, c⟩ := C
  intro u hu H locs ls hW hS hl
  exact lv_if_le hk.1 hk.2.1 d ht (fun h => k1 h u (by rw [if_pos h] at hu; exact hu) H locs ls hW hS hl) (fun h => k2 h u (by rw [if_neg h] at hu; exact hu) H locs ls hW hS hl)
theorem k_icmp_le {x y : Int32} {off : Int} {o1 o2 : Option kR} (hk : kOk (C, E, Q) cc own nL) (d : decode cc pc = .ok (.if_icmp .le off, 3)) (tgt : Nat) (ht : (pc : Int) + off = (tgt : Int)) (k1 : x ≤ y → Sm (C, E, Q) nL n tgt lv rest σ o1) (k2 : ¬ (x ≤ y) → Sm (C, E, Q) nL n (pc + 3) lv rest σ o2) : Sm (C, E, Q) nL n pc lv (.int y :: .int x :: rest) σ (if x ≤ y then o1 else o2) := by
  obtain ⟨p, l, e, R, s, m, args, below, meth, c⟩ := C
  intro u hu H locs ls hW hS hl
  exact lv_icmp_le hk.1 hk.2.1 d ht (fun h => k1 h u (by rw [if_pos h] at hu; exact hu) H locs ls hW hS hl) (fun h => k2 h u (by rw [if_neg h] at hu; exact hu) H locs ls hW hS hl)
/-- the top gets a name -/
theorem k_nm {x : Int32} {f : Int32 → Option kR} (k : ∀ y : Int32, Sm (C, E, Q) nL n pc lv (.int y :: rest) σ (f y)) : Sm (C, E, Q) nL n pc lv (.int x :: rest) σ (kb x f) := k x
theorem k_nml {x : Int64} {f : Int64 → Option kR} (k : ∀ y : Int64, Sm (C, E, Q) nL n pc lv (.long y :: rest) σ (f y)) : Sm (C, E, Q) nL n pc lv (.long x :: rest) σ (kb x f) := k x
/-- fewer locals, in any order -/
theorem k_sub {lv' : List (Nat × Value)} (ks : List Nat) (h : lv_pick lv ks = lv') (k : Sm (C, E, Q) nL n pc lv' rest σ o) : Sm (C, E, Q) nL n pc lv rest σ o := by
  obtain ⟨p, l, e, R, s, m, args, below, meth, c⟩ := C
  exact fun u hu H locs ls hW hS hl => k u hu H locs ls hW hS (lv_sub hl ks h)
theorem k_wide {n' : Nat} (h : n ≤ n') (k : Sm (C, E, Q) nL n' pc lv rest σ o) : Sm (C, E, Q) nL n pc lv rest σ o := by
  obtain ⟨p, l, e, R, s, m, args, below, meth, c⟩ := C
  exact fun u hu H locs ls hW hS hl => W.widen h (Nat.mul_le_mul_left 8 h) (k u hu H locs ls hW hS hl)
theorem k_no : Sm (C, E, Q) nL n pc lv rest σ none := fun u h => by cases h
theorem k_iald_c {g i len : Nat} {j : Int32} (hk : kOk (C, E, Q) cc own nL) (d : decode cc pc = .ok (.iaload, 1)) (hg : kSh g = .inr (.int, len)) (hi : i < kCnt g) (hin : kin j len) (k : Sm (C, E, Q) nL n (pc + 1) lv (.int (σ.1 g i j.toNatClampNeg) :: rest) σ o) : Sm (C, E, Q) nL n pc lv (.int j :: .ref (kad E g i) :: rest) σ o := by
  obtain ⟨p, l, e, R, s, m, args, below, meth, c⟩ := C
  obtain ⟨hx, hb, hml, hown, hts, hEs, hZ, hbs, hEj, hNm, hl9, hlk⟩ := hk
  intro u hu H locs ls hW hS hl
  have hi' := kcnt_of hNm hi
  have h1 := hW.arr hi' hg
  refine W.iald hx hb h1 (hEs.2 g _ _ hg (Nat.lt_of_le_of_lt (Nat.zero_le _) hi') len _) (fun q => by cases q) (by rw [arrV_size]; exact kin_vp hin) (v := .int (σ.1 g i j.toNatClampNeg)) ?_ rfl rfl d (k u hu H locs ls hW hS hl)
  rw [arrV_read _ _ (kin_lt hin), kV_int (kKd_i hg)]
theorem k_iald {g i len : Nat} {j : Int32} (hk : kOk (C, E, Q) cc own nL) (d : decode cc pc = .ok (.iaload, 1)) (hg : kSh g = .inr (.int, len)) (hi : i < kCnt g) (k : kin j len → Sm (C, E, Q) nL n (pc + 1) lv (.int (σ.1 g i j.toNatClampNeg) :: rest) σ o) : Sm (C, E, Q) nL n pc lv (.int j :: .ref (kad E g i) :: rest) σ (kg (kin j len) o) := by
  intro u hu
  obtain ⟨h1, h2⟩ := kg_some hu
  exact k_iald_c hk d hg hi h1 (k h1) u h2
theorem k_bald_c {g i len : Nat} {j : Int32} (hk : kOk (C, E, Q) cc own nL) (d : decode cc pc = .ok (.baload, 1)) (hg : kSh g = .inr (.byte, len)) (hi : i < kCnt g) (hin : kin j len) (k : Sm (C, E, Q) nL n (pc + 1) lv (.int (σ.1 g i j.toNatClampNeg) :: rest) σ o) : Sm (C, E, Q) nL n pc lv (.int j :: .ref (kad E g i) :: rest) σ o := by
  obtain ⟨p, l, e, R, s, m, args, below, meth, c⟩ := C
  obtain ⟨hx, hb, hml, hown, hts, hEs, hZ, hbs, hEj, hNm, hl9, hlk⟩ := hk
  intro u hu H locs ls hW hS hl
  have hi' := kcnt_of hNm hi
  have h1 := hW.arr hi' hg
  refine W.bald hx hb h1 (hEs.2 g _ _ hg (Nat.lt_of_le_of_lt (Nat.zero_le _) hi') len _) (fun q => by cases q) (by rw [arrV_size]; exact kin_vp hin) (v := .int (σ.1 g i j.toNatClampNeg)) ?_ rfl rfl d (k u hu H locs ls hW hS hl)
  rw [arrV_read _ _ (kin_lt hin), kV_int (kKd_b hg)]
theorem k_bald {g i len : Nat} {j : Int32} (hk : kOk (C, E, Q) cc own nL) (d : decode cc pc = .ok (.baload, 1)) (hg : kSh g = .inr (.byte, len)) (hi : i < kCnt g) (k : kin j len → Sm (C, E, Q) nL n (pc + 1) lv (.int (σ.1 g i j.toNatClampNeg) :: rest) σ o) : Sm (C, E, Q) nL n pc lv (.int j :: .ref (kad E g i) :: rest) σ (kg (kin j len) o) := by
  intro u hu
  obtain ⟨h1, h2⟩ := kg_some hu
  exact k_bald_c hk d hg hi h1 (k h1) u h2
theorem k_lald_c {g i len : Nat} {j : Int32} (hk : kOk (C, E, Q) cc own nL) (d : decode cc pc = .ok (.laload, 1)) (hg : kSh g = .inr (.long, len)) (hi : i < kCnt g) (hin : kin j len) (k : Sm (C, E, Q) nL n (pc + 1) lv (.long (σ.2 g i j.toNatClampNeg) :: rest) σ o) : Sm (C, E, Q) nL n pc lv (.int j :: .ref (kad E g i) :: rest) σ o := by
  obtain ⟨p, l, e, R, s, m, args, below, meth, c⟩ := C
  obtain ⟨hx, hb, hml, hown, hts, hEs, hZ, hbs, hEj, hNm, hl9, hlk⟩ := hk
  intro u hu H locs ls hW hS hl
  have hi' := kcnt_of hNm hi
  have h1 := hW.arr hi' hg
  refine W.lald hx hb h1 (hEs.2 g _ _ hg (Nat.lt_of_le_of_lt (Nat.zero_le _) hi') len _) (fun q => by cases q) (by rw [arrV_size]; exact kin_vp hin) (v := .long (σ.2 g i j.toNatClampNeg)) ?_ rfl rfl d (k u hu H locs ls hW hS hl)
  rw [arrV_read _ _ (kin_lt hin), kV_long (kKd_l hg)]
theorem k_lald {g i len : Nat} {j : Int32} (hk : kOk (C, E, Q) cc own nL) (d : decode cc pc = .ok (.laload, 1)) (hg : kSh g = .inr (.long, len)) (hi : i < kCnt g) (k : kin j len → Sm (C, E, Q) nL n (pc + 1) lv (.long (σ.2 g i j.toNatClampNeg) :: rest) σ o) : Sm (C, E, Q) nL n pc lv (.int j :: .ref (kad E g i) :: rest) σ (kg (kin j len) o) := by
  intro u hu
  obtain ⟨h1, h2⟩ := kg_some hu
  exact k_lald_c hk d hg hi h1 (k h1) u h2
theorem k_aald_c {g i len g' i' : Nat} {ty : FieldType} {j : Int32} (hk : kOk (C, E, Q) cc own nL) (d : decode cc pc = .ok (.aaload, 1)) (hg : kSh g = .inr (ty, len)) (hty : ty.isReference = true) (hkd : kKd g 0 = 2) (hi : i < kCnt g) (hin : kin j len) (hv : kRv E g i j.toNatClampNeg = .ref (kad E g' i')) (k : Sm (C, E, Q) nL n (pc + 1) lv (.ref (kad E g' i') :: rest) σ o) : Sm (C, E, Q) nL n pc lv (.int j :: .ref (kad E g i) :: rest) σ o := by
  obtain ⟨p, l, e, R, s, m, args, below, meth, c⟩ := C
  obtain ⟨hx, hb, hml, hown, hts, hEs, hZ, hbs, hEj, hNm, hl9, hlk⟩ := hk
  intro u hu H locs ls hW hS hl
  have hi' := kcnt_of hNm hi
  have h1 := hW.arr hi' hg
  refine W.aald hx hb h1 (hEs.2 g _ _ hg (Nat.lt_of_le_of_lt (Nat.zero_le _) hi') len _) hty (fun q => by cases q) (by rw [arrV_size]; exact kin_vp hin) (v := .ref (kad E g' i')) ?_ rfl rfl d (k u hu H locs ls hW hS hl)
  have hkd' : kKd g j.toNatClampNeg = 2 := by exact kKd_r hg hkd
  rw [arrV_read _ _ (kin_lt hin), kV_ref hkd', hNm.2, hv]
theorem k_aald {g i len g' : Nat} {f : Nat → Nat} {ty : FieldType} {j : Int32} (hk : kOk (C, E, Q) cc own nL) (d : decode cc pc = .ok (.aaload, 1)) (hg : kSh g = .inr (ty, len)) (hty : ty.isReference = true) (hkd : kKd g 0 = 2) (hi : i < kCnt g) (hv : ∀ z, kRv E g i z = .ref (kad E g' (f z))) (k : kin j len → Sm (C, E, Q) nL n (pc + 1) lv (.ref (kad E g' (f j.toNatClampNeg)) :: rest) σ o) : Sm (C, E, Q) nL n pc lv (.int j :: .ref (kad E g i) :: rest) σ (kg (kin j len) o) := by
  intro u hu
  obtain ⟨h1, h2⟩ := kg_some hu
  exact k_aald_c hk d hg hty hkd hi h1 (hv _) (k h1) u h2
theorem k_alen {g i len : Nat} {ty : FieldType} {v : Int32} (hk : kOk (C, E, Q) cc own nL) (d : decode cc pc = .ok (.arraylength, 1)) (hg : kSh g = .inr (ty, len)) (hi : i < kCnt g) (hv : len.toInt32 = v) (k : Sm (C, E, Q) nL n (pc + 1) lv (.int v :: rest) σ o) : Sm (C, E, Q) nL n pc lv (.ref (kad E g i) :: rest) σ o := by
  obtain ⟨p, l, e, R, s, m, args, below, meth, c⟩ := C
  obtain ⟨hx, hb, hml, hown, hts, hEs, hZ, hbs, hEj, hNm, hl9, hlk⟩ := hk
  intro u hu H locs ls hW hS hl
  have hi' := kcnt_of hNm hi
  exact W.alen hx hb (hW.arr hi' hg) (hEs.2 g _ _ hg (Nat.lt_of_le_of_lt (Nat.zero_le _) hi') len _) (by rw [arrV_size]; exact hv) rfl rfl d (k u hu H locs ls hW hS hl)
theorem k_iast_c {g i len : Nat} {j : Int32} {x : Int32} {f : kS → Option kR} (hk : kOk (C, E, Q) cc own nL) (d : decode cc pc = .ok (.iastore, 1)) (hg : kSh g = .inr (.int, len)) (hi : i < kCnt g) (hin : kin j len) (k : ∀ σ' : kS, Sm (C, E, Q) nL n (pc + 1) lv rest σ' (f σ')) : Sm (C, E, Q) nL n pc lv (.int x :: .int j :: .ref (kad E g i) :: rest) σ (kb (kU σ g i j.toNatClampNeg x) f) := by
  obtain ⟨p, l, e, R, s, m, args, below, meth, c⟩ := C
  obtain ⟨hx, hb, hml, hown, hts, hEs, hZ, hbs, hEj, hNm, hl9, hlk⟩ := hk
  intro u hu H locs ls hW hS hl
  have hi' := kcnt_of hNm hi
  have h1 := hW.arr hi' hg
  refine W.iast hx hb h1 (hEs.2 g _ _ hg (Nat.lt_of_le_of_lt (Nat.zero_le _) hi') len _) (fun q => by cases q) (by rw [arrV_size]; exact kin_vp hin) rfl rfl d (fun H' e1 e2 e3 => k (kU σ g i j.toNatClampNeg x) u hu H' _ ls (hW.put hEj hi' ?_ e3 kV_o) (hS.put e2 e3 (hEj.2 g i hi')) hl)
  unfold kCell
  rw [hg]
  show H'[kad E g i]? = _
  rw [e1, arrV_store]
  exact congrArg (fun z => some (arrV (kcA E g) len z)) ((kV_u (x := .int x) (by rw [kV_int (kKd_i hg), kU_s])).symm)
theorem k_iast {g i len : Nat} {j : Int32} {x : Int32} {f : kS → Option kR} (hk : kOk (C, E, Q) cc own nL) (d : decode cc pc = .ok (.iastore, 1)) (hg : kSh g = .inr (.int, len)) (hi : i < kCnt g) (k : kin j len → ∀ σ' : kS, Sm (C, E, Q) nL n (pc + 1) lv rest σ' (f σ')) : Sm (C, E, Q) nL n pc lv (.int x :: .int j :: .ref (kad E g i) :: rest) σ (kg (kin j len) (kb (kU σ g i j.toNatClampNeg x) f)) := by
  intro u hu
  obtain ⟨h1, h2⟩ := kg_some hu
  exact k_iast_c hk d hg hi h1 (k h1) u h2
theorem k_bast_c {g i len : Nat} {j : Int32} {x : Int32} {f : kS → Option kR} (hk : kOk (C, E, Q) cc own nL) (d : decode cc pc = .ok (.bastore, 1)) (hg : kSh g = .inr (.byte, len)) (hi : i < kCnt g) (hin : kin j len) (k : ∀ σ' : kS, Sm (C, E, Q) nL n (pc + 1) lv rest σ' (f σ')) : Sm (C, E, Q) nL n pc lv (.int x :: .int j :: .ref (kad E g i) :: rest) σ (kb (kU σ g i j.toNatClampNeg x.toInt8.toInt32) f) := by
  obtain ⟨p, l, e, R, s, m, args, below, meth, c⟩ := C
  obtain ⟨hx, hb, hml, hown, hts, hEs, hZ, hbs, hEj, hNm, hl9, hlk⟩ := hk
  intro u hu H locs ls hW hS hl
  have hi' := kcnt_of hNm hi
  have h1 := hW.arr hi' hg
  refine W.bast hx hb h1 (hEs.2 g _ _ hg (Nat.lt_of_le_of_lt (Nat.zero_le _) hi') len _) (fun q => by cases q) (by rw [arrV_size]; exact kin_vp hin) rfl rfl d (fun H' e1 e2 e3 => k (kU σ g i j.toNatClampNeg x.toInt8.toInt32) u hu H' _ ls (hW.put hEj hi' ?_ e3 kV_o) (hS.put e2 e3 (hEj.2 g i hi')) hl)
  unfold kCell
  rw [hg]
  show H'[kad E g i]? = _
  rw [e1, arrV_store]
  exact congrArg (fun z => some (arrV (kcA E g) len z)) ((kV_u (x := .int x.toInt8.toInt32) (by rw [kV_int (kKd_b hg), kU_s])).symm)
theorem k_bast {g i len : Nat} {j : Int32} {x : Int32} {f : kS → Option kR} (hk : kOk (C, E, Q) cc own nL) (d : decode cc pc = .ok (.bastore, 1)) (hg : kSh g = .inr (.byte, len)) (hi : i < kCnt g) (k : kin j len → ∀ σ' : kS, Sm (C, E, Q) nL n (pc + 1) lv rest σ' (f σ')) : Sm (C, E, Q) nL n pc lv (.int x :: .int j :: .ref (kad E g i) :: rest) σ (kg (kin j len) (kb (kU σ g i j.toNatClampNeg x.toInt8.toInt32) f)) := by
  intro u hu
  obtain ⟨h1, h2⟩ := kg_some hu
  exact k_bast_c hk d hg hi h1 (k h1) u h2
theorem k_last_c {g i len : Nat} {j : Int32} {x : Int64} {f : kS → Option kR} (hk : kOk (C, E, Q) cc own nL) (d : decode cc pc = .ok (.lastore, 1)) (hg : kSh g = .inr (.long, len)) (hi : i < kCnt g) (hin : kin j len) (k : ∀ σ' : kS, Sm (C, E, Q) nL n (pc + 1) lv rest σ' (f σ')) : Sm (C, E, Q) nL n pc lv (.long x :: .int j :: .ref (kad E g i) :: rest) σ (kb (kUL σ g i j.toNatClampNeg x) f) := by
  obtain ⟨p, l, e, R, s, m, args, below, meth, c⟩ := C
  obtain ⟨hx, hb, hml, hown, hts, hEs, hZ, hbs, hEj, hNm, hl9, hlk⟩ := hk
  intro u hu H locs ls hW hS hl
  have hi' := kcnt_of hNm hi
  have h1 := hW.arr hi' hg
  refine W.last hx hb h1 (hEs.2 g _ _ hg (Nat.lt_of_le_of_lt (Nat.zero_le _) hi') len _) (fun q => by cases q) (by rw [arrV_size]; exact kin_vp hin) rfl rfl d (fun H' e1 e2 e3 => k (kUL σ g i j.toNatClampNeg x) u hu H' _ ls (hW.put hEj hi' ?_ e3 kV_oL) (hS.put e2 e3 (hEj.2 g i hi')) hl)
  unfold kCell
  rw [hg]
  show H'[kad E g i]? = _
  rw [e1, arrV_store]
  exact congrArg (fun z => some (arrV (kcA E g) len z)) ((kV_uL (x := .long x) (by rw [kV_long (kKd_l hg), kUL_s])).symm)
theorem k_last {g i len : Nat} {j : Int32} {x : Int64} {f : kS → Option kR} (hk : kOk (C, E, Q) cc own nL) (d : decode cc pc = .ok (.lastore, 1)) (hg : kSh g = .inr (.long, len)) (hi : i < kCnt g) (k : kin j len → ∀ σ' : kS, Sm (C, E, Q) nL n (pc + 1) lv rest σ' (f σ')) : Sm (C, E, Q) nL n pc lv (.long x :: .int j :: .ref (kad E g i) :: rest) σ (kg (kin j len) (kb (kUL σ g i j.toNatClampNeg x) f)) := by
  intro u hu
  obtain ⟨h1, h2⟩ := kg_some hu
  exact k_last_c hk d hg hi h1 (k h1) u h2
end KR
