/-! SIMPLE CALLS. -/
def iGl : List Nat := [1, 4, 8, 10, 11, 12, 13, 14, 15, 16, 17, 21, 22, 23, 24, 25, 26, 27, 28, 29, 30, 31, 32, 33, 34, 40, 41, 42, 43, 44, 45, 46, 47, 49, 54, 56, 57, 58, 61, 62, 82, 84, 86, 88]
theorem Inv_congr {m m' : kM} (hg : ∀ g ∈ iGl, m' g = m g) (h0 : ∀ k ∈ [1, 3, 5, 8], m' 0 0 k = m 0 0 k) (h48 : ∀ k ∈ [1, 3, 13, 39, 41, 42, 43, 44, 45, 46], m' 48 0 k = m 48 0 k) (h : Inv m) : Inv m' := by
  have e1 := hg 1 (by decide)
  have e4 := hg 4 (by decide)
  have e8 := hg 8 (by decide)
  have e10 := hg 10 (by decide)
  have e11 := hg 11 (by decide)
  have e12 := hg 12 (by decide)
  have e13 := hg 13 (by decide)
  have e14 := hg 14 (by decide)
  have e15 := hg 15 (by decide)
  have e16 := hg 16 (by decide)
  have e17 := hg 17 (by decide)
  have e21 := hg 21 (by decide)
  have e22 := hg 22 (by decide)
  have e23 := hg 23 (by decide)
  have e24 := hg 24 (by decide)
  have e25 := hg 25 (by decide)
  have e26 := hg 26 (by decide)
  have e27 := hg 27 (by decide)
  have e28 := hg 28 (by decide)
  have e29 := hg 29 (by decide)
  have e30 := hg 30 (by decide)
  have e31 := hg 31 (by decide)
  have e32 := hg 32 (by decide)
  have e33 := hg 33 (by decide)
  have e34 := hg 34 (by decide)
  have e40 := hg 40 (by decide)
  have e41 := hg 41 (by decide)
  have e42 := hg 42 (by decide)
  have e43 := hg 43 (by decide)
  have e44 := hg 44 (by decide)
  have e45 := hg 45 (by decide)
  have e46 := hg 46 (by decide)
  have e47 := hg 47 (by decide)
  have e49 := hg 49 (by decide)
  have e54 := hg 54 (by decide)
  have e56 := hg 56 (by decide)
  have e57 := hg 57 (by decide)
  have e58 := hg 58 (by decide)
  have e61 := hg 61 (by decide)
  have e62 := hg 62 (by decide)
  have e82 := hg 82 (by decide)
  have e84 := hg 84 (by decide)
  have e86 := hg 86 (by decide)
  have e88 := hg 88 (by decide)
  have f1 := h0 1 (by decide)
  have f3 := h0 3 (by decide)
  have f5 := h0 5 (by decide)
  have f8 := h0 8 (by decide)
  have k1 := h48 1 (by decide)
  have k3 := h48 3 (by decide)
  have k13 := h48 13 (by decide)
  have k39 := h48 39 (by decide)
  have k41 := h48 41 (by decide)
  have k42 := h48 42 (by decide)
  have k43 := h48 43 (by decide)
  have k44 := h48 44 (by decide)
  have k45 := h48 45 (by decide)
  have k46 := h48 46 (by decide)
  simp only [Inv, iP, iI, iT, iY, iF, iK, iX, papR, yOf] at h ⊢
  simp only [e1, e4, e8, e10, e11, e12, e13, e14, e15, e16, e17, e21, e22, e23, e24, e25, e26, e27, e28, e29, e30, e31, e32, e33, e34, e40, e41, e42, e43, e44, e45, e46, e47, e49, e54, e56, e57, e58, e61, e62, e82, e84, e86, e88, f1, f3, f5, f8, k1, k3, k13, k39, k41, k42, k43, k44, k45, k46]
  exact h
theorem kU_g {σ : kS} {g i k : Nat} {v : Int32} {g' : Nat} (h : g' ≠ g) : (kU σ g i k v).1 g' = σ.1 g' := by
  funext i' k'
  show (if g' = g ∧ i' = i ∧ k' = k then v else σ.1 g' i' k') = _
  rw [if_neg (fun q => h q.1)]
theorem kU_k {σ : kS} {g i k : Nat} {v : Int32} {i' k' : Nat} (h : k' ≠ k) : (kU σ g i k v).1 g i' k' = σ.1 g i' k' := by
  show (if g = g ∧ i' = i ∧ k' = k then v else σ.1 g i' k') = _
  rw [if_neg (fun q => h q.2.2)]
theorem Inv_thr {σ : kS} {v : Int32} (h : Inv σ.1) : Inv (kU σ 48 0 0 v).1 :=
  Inv_congr (fun g hg => kU_g (fun e => by subst e; revert hg; decide)) (fun k hk => by rw [kU_g (by decide)]) (fun k hk => kU_k (fun e => by subst e; revert hk; decide)) h
theorem x_in (F : Nat) (a b c : Int32) (σ : kS) : f_X6_in F a b c σ = some (.inl (some (.int (if b ≤ a ∧ a ≤ c then 1 else 0))), σ) := by
  unfold f_X6_in
  by_cases h1 : a < b
  · rw [if_pos h1, if_neg (fun q => absurd h1 (Int32.not_lt.mpr q.1))]
    rfl
  · rw [if_neg h1]
    by_cases h2 : c < a
    · rw [if_pos h2, if_neg (fun q => absurd h2 (Int32.not_lt.mpr q.2))]
      rfl
    · rw [if_neg h2, if_pos ⟨Int32.not_lt.mp h1, Int32.not_lt.mp h2⟩]
      rfl
theorem x_bad0 (F : Nat) (w : Int32) {σ : kS} (h : σ.1 48 0 0 = 0) : f_X6_bad F 0 w σ = some (.inl (some (.int 0)), σ) := by
  unfold f_X6_bad f_X6_bad_b16
  rw [if_pos rfl, if_pos h]
  rfl
theorem x_bad1 (F : Nat) {w : Int32} (hw : w ≠ 0) {σ : kS} (h : σ.1 48 0 0 = 0) : f_X6_bad F 1 w σ = some (.inl (some (.int 1)), kU σ 48 0 0 w) := by
  unfold f_X6_bad f_X6_bad_b16
  rw [if_neg (by decide), if_pos h]
  show (if w = 0 then _ else _) = _
  rw [if_neg hw]
  rfl
theorem x_cmp {x y : Int64} (h : x = y) : lg_cmp x y = 0 := by
  subst h
  unfold lg_cmp
  simp
/-- the law's comparison of a call that answers an int -/
theorem q_i {w : Option kR} {mo : kS → Option kR} {nx : kS → Option kR} {k b : Int32} {σ2 σ4 : kS} (hw : w = some (.inl (some (.int k)), σ2)) (hm : mo σ2 = some (.inl (some (.int b)), σ4)) (ht : σ4.1 48 0 0 = k) (hv : k = 0 → σ4.2 90 0 0 = b.toInt64) : kBhi w (fun c1 σ2 => kBhi (mo σ2) (fun c3 σ4 => kBhi (f_X6_thrown 2000 σ4) (fun c5 σ6 => (if c5 = c1 then ((if c1 = 0 then ((if (lg_cmp (σ6.2 90 0 0) (c3).toInt64) = 0 then (nx σ6) else (none))) else (nx σ6))) else (none))) kNo) kNo) kNo = nx σ4 := by
  rw [hw]
  show kBhi (mo σ2) _ _ = _
  rw [hm]
  show (if σ4.1 48 0 0 = k then (if k = 0 then (if lg_cmp (σ4.2 90 0 0) b.toInt64 = 0 then nx σ4 else none) else nx σ4) else none) = _
  rw [if_pos ht]
  by_cases h0 : k = 0
  · rw [if_pos h0, if_pos (x_cmp (hv h0))]
  · rw [if_neg h0]
theorem t_why (F : Nat) (a : Int32) (σ : kS) : f_X5_testWhy F a σ = if 0 ≤ a ∧ a < σ.1 0 0 5 then some (.inl none, σ) else some (.inr "java/util/NoSuchElementException", σ) := by
  unfold f_X5_testWhy
  by_cases h1 : a < 0
  · rw [if_pos h1, if_neg (fun q => absurd h1 (Int32.not_lt.mpr q.1))]
    rfl
  · rw [if_neg h1]
    by_cases h2 : a < σ.1 0 0 5
    · rw [if_pos h2, if_pos ⟨Int32.not_lt.mp h1, h2⟩]
    · rw [if_neg h2, if_neg (fun q => h2 q.2)]
      rfl
theorem t_row (F : Nat) (a : Int32) (σ : kS) : f_X5_testRow F a σ = if 0 ≤ a ∧ a < σ.1 4 0 3 then some (.inl none, σ) else some (.inr "java/lang/IndexOutOfBoundsException", σ) := by
  unfold f_X5_testRow
  by_cases h1 : a < 0
  · rw [if_pos h1, if_neg (fun q => absurd h1 (Int32.not_lt.mpr q.1))]
    rfl
  · rw [if_neg h1]
    by_cases h2 : a < σ.1 4 0 3
    · rw [if_pos h2, if_pos ⟨Int32.not_lt.mp h1, h2⟩]
    · rw [if_neg h2, if_neg (fun q => h2 q.2)]
      rfl
theorem t_cell (F : Nat) (a : Int32) (σ : kS) : f_X5_testCell F a σ = if 0 ≤ a ∧ a ≤ 7 then some (.inl none, σ) else some (.inr "java/lang/IndexOutOfBoundsException", σ) := by
  unfold f_X5_testCell
  have e : a < 8 ↔ a ≤ 7 := by
    rw [Int32.lt_iff_toInt_lt, Int32.le_iff_toInt_le]
    show a.toInt < 8 ↔ a.toInt ≤ 7
    omega
  by_cases h1 : a < 0
  · rw [if_pos h1, if_neg (fun q => absurd h1 (Int32.not_lt.mpr q.1))]
    rfl
  · rw [if_neg h1]
    by_cases h2 : a < 8
    · rw [if_pos h2, if_pos ⟨Int32.not_lt.mp h1, e.mp h2⟩]
    · rw [if_neg h2, if_neg (fun q => h2 (e.mpr q.2))]
      rfl
theorem t_with (F : Nat) (a b c : Int32) (σ : kS) : f_X5_testWithin F a b c σ = if b ≤ a ∧ a ≤ c then some (.inl none, σ) else some (.inr "java/lang/IllegalArgumentException", σ) := by
  unfold f_X5_testWithin
  by_cases h1 : a < b
  · rw [if_pos h1, if_neg (fun q => absurd h1 (Int32.not_lt.mpr q.1))]
    rfl
  · rw [if_neg h1]
    by_cases h2 : a ≤ c
    · rw [if_pos h2, if_pos ⟨Int32.not_lt.mp h1, h2⟩]
    · rw [if_neg h2, if_neg (fun q => h2 q.2)]
      rfl
theorem le_pred {a w : Int32} (h : rng w 0 1000) : a ≤ w - 1 ↔ a < w := by
  rw [Int32.le_iff_toInt_le, Int32.lt_iff_toInt_lt, Int32.toInt_sub]
  obtain ⟨h1, h2⟩ := h
  show a.toInt ≤ (w.toInt - 1).bmod (2 ^ 32) ↔ _
  rw [Int.bmod_eq_of_le (by omega) (by omega)]
  omega
theorem kin_of {a b : Int32} {n : Nat} (h1 : 0 ≤ a) (h2 : a < b) (h3 : b.toInt ≤ (n : Int)) : kin a n := by
  rw [Int32.le_iff_toInt_le] at h1
  rw [Int32.lt_iff_toInt_lt] at h2
  have h1 : 0 ≤ a.toInt := h1
  exact ⟨h1, by omega⟩
theorem kin_le {a b : Int32} {n : Nat} (h1 : 0 ≤ a) (h2 : a ≤ b) (h3 : b.toInt < (n : Int)) : kin a n := by
  rw [Int32.le_iff_toInt_le] at h1 h2
  have h1 : 0 ≤ a.toInt := h1
  exact ⟨h1, by omega⟩
theorem x_isWhy (F : Nat) (a : Int32) {σ : kS} (h : rng (σ.1 48 0 13) 0 6) : f_X6_isWhy F a σ = some (.inl (some (.int (if 0 ≤ a ∧ a < σ.1 48 0 13 then 1 else 0))), σ) := by
  unfold f_X6_isWhy
  rw [x_in]
  have e : (0 ≤ a ∧ a ≤ σ.1 48 0 13 - 1) ↔ (0 ≤ a ∧ a < σ.1 48 0 13) := and_congr_right fun _ => le_pred ⟨h.1, Int.le_trans h.2 (by decide)⟩
  by_cases q : 0 ≤ a ∧ a < σ.1 48 0 13
  · rw [if_pos q, if_pos (e.mpr q)]
    rfl
  · rw [if_neg q, if_neg (fun z => q (e.mp z))]
    rfl
theorem g_fault  : Good (q_fault 2000 ) := by
  intro nx σ h
  refine ⟨kU σ 48 0 0 0, Inv_thr h, ?_⟩
  have e : σ.1 0 0 3 = σ.1 48 0 3 := h.2.2.2.2.2.2.2.2.2.2
  show (if σ.1 0 0 3 = σ.1 48 0 3 then nx (kU σ 48 0 0 0) else none) = _
  rw [if_pos e]

