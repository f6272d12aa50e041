/-! CALLS. -/
theorem if10 {c : Prop} [Decidable c] {α : Type} {A B : α} : (if (if c then (1 : Int32) else 0) = 0 then A else B) = if c then B else A := by
  by_cases h : c
  · rw [if_pos h, if_pos h, if_neg (by decide)]
  · rw [if_neg h, if_neg h, if_pos rfl]
theorem if1 {α : Type} {A B : α} : (if (1 : Int32) = 0 then A else B) = B := if_neg (by decide)
theorem if0 {α : Type} {A B : α} : (if (0 : Int32) = 0 then A else B) = A := if_pos rfl
theorem z_thr {σ : kS} {v : Int32} : (kU σ 48 0 0 v).1 48 0 0 = v := kU_here
theorem z_bad0 {F : Nat} {w v : Int32} {σ : kS} (hv : v = 0) : f_X6_bad F 0 w (kU σ 48 0 0 v) = some (.inl (some (.int 0)), kU σ 48 0 0 v) := x_bad0 F w (by rw [z_thr]; exact hv)
theorem z_bad1 {F : Nat} {w : Int32} {σ : kS} (hw : w ≠ 0) : f_X6_bad F 1 w (kU σ 48 0 0 0) = some (.inl (some (.int 1)), kU (kU σ 48 0 0 0) 48 0 0 w) := x_bad1 F hw z_thr
theorem q_iF {F : Nat} {w : Option kR} {mo : kS → Option kR} {nx : kS → Option kR} {k b : Int32} {σ2 σ4 : kS} (hw : w = some (.inl (some (.int k)), σ2)) (hm : mo σ2 = some (.inl (some (.int b)), σ4)) (ht : σ4.1 48 0 0 = k) (hv : k = 0 → σ4.2 90 0 0 = b.toInt64) : kBhi w (fun c1 σ2 => kBhi (mo σ2) (fun c3 σ4 => kBhi (f_X6_thrown F σ4) (fun c5 σ6 => (if c5 = c1 then ((if c1 = 0 then ((if (lg_cmp (σ6.2 90 0 0) (c3).toInt64) = 0 then (nx σ6) else (none))) else (nx σ6))) else (none))) kNo) kNo) kNo = nx σ4 := by
  rw [hw]
  show kBhi (mo σ2) _ _ = _
  rw [hm]
  show (if σ4.1 48 0 0 = k then (if k = 0 then (if lg_cmp (σ4.2 90 0 0) b.toInt64 = 0 then nx σ4 else none) else nx σ4) else none) = _
  rw [if_pos ht]
  by_cases h0 : k = 0
  · rw [if_pos h0, if_pos (x_cmp (hv h0))]
  · rw [if_neg h0]
def iGf : List Nat := [1, 4, 10, 11, 12, 13, 14, 15, 16, 17, 21, 22, 23, 24, 25, 26, 27, 28, 29, 30, 31, 32, 33, 34, 49, 54, 56, 57, 58, 61, 62, 82, 84, 86, 88]
theorem Inv_cgFK {m m' : kM} (hg : ∀ g ∈ iGf, m' g = m g) (h0 : ∀ k ∈ [1, 3, 5, 8], m' 0 0 k = m 0 0 k) (h48 : ∀ k ∈ [1, 3, 13, 39, 41, 42, 43, 44, 45, 46], m' 48 0 k = m 48 0 k) (hF : iF m') (hK : iK m') (h : Inv m) : Inv m' := by
  have e1 := hg 1 (by decide)
  have e4 := hg 4 (by decide)
  have e10 := hg 10 (by decide)
  have e11 := hg 11 (by decide)
  have e12 := hg 12 (by decide)
  have e13 := hg 13 (by decide)
  have e14 := hg 14 (by decide)
  have e15 := hg 15 (by decide)
  have e16 := hg 16 (by decide)
  have e17 := hg 17 (by decide)
  have e21 := hg 21 (by decide)
  have e22 := hg 22 (by decide)
  have e23 := hg 23 (by decide)
  have e24 := hg 24 (by decide)
  have e25 := hg 25 (by decide)
  have e26 := hg 26 (by decide)
  have e27 := hg 27 (by decide)
  have e28 := hg 28 (by decide)
  have e29 := hg 29 (by decide)
  have e30 := hg 30 (by decide)
  have e31 := hg 31 (by decide)
  have e32 := hg 32 (by decide)
  have e33 := hg 33 (by decide)
  have e34 := hg 34 (by decide)
  have e49 := hg 49 (by decide)
  have e54 := hg 54 (by decide)
  have e56 := hg 56 (by decide)
  have e57 := hg 57 (by decide)
  have e58 := hg 58 (by decide)
  have e61 := hg 61 (by decide)
  have e62 := hg 62 (by decide)
  have e82 := hg 82 (by decide)
  have e84 := hg 84 (by decide)
  have e86 := hg 86 (by decide)
  have e88 := hg 88 (by decide)
  have f1 := h0 1 (by decide)
  have f3 := h0 3 (by decide)
  have f5 := h0 5 (by decide)
  have f8 := h0 8 (by decide)
  have k1 := h48 1 (by decide)
  have k3 := h48 3 (by decide)
  have k13 := h48 13 (by decide)
  have k39 := h48 39 (by decide)
  have k41 := h48 41 (by decide)
  have k42 := h48 42 (by decide)
  have k43 := h48 43 (by decide)
  have k44 := h48 44 (by decide)
  have k45 := h48 45 (by decide)
  have k46 := h48 46 (by decide)
  obtain ⟨hP, hW, hI, hT, hY, -, -, hX⟩ := h
  refine ⟨?_, ?_, ?_, ?_, ?_, hF, hK, ?_⟩
  · simp only [iP, papR] at hP ⊢
    simp only [e1, e4, e10, e11, e12, e13, e14, e15, e16, e17, e21, e22, e23, e24, e25, e26, e27, e28, e29, e30, e31, e32, e33, e34, e49, e54, e56, e57, e58, e61, e62, e82, e84, e86, e88, f1, f3, f5, f8, k1, k3, k13, k39, k41, k42, k43, k44, k45, k46]
    exact hP
  · simp only [e1, e4, e10, e11, e12, e13, e14, e15, e16, e17, e21, e22, e23, e24, e25, e26, e27, e28, e29, e30, e31, e32, e33, e34, e49, e54, e56, e57, e58, e61, e62, e82, e84, e86, e88, f1, f3, f5, f8, k1, k3, k13, k39, k41, k42, k43, k44, k45, k46]
    exact hW
  · simp only [iI, papR] at hI ⊢
    simp only [e1, e4, e10, e11, e12, e13, e14, e15, e16, e17, e21, e22, e23, e24, e25, e26, e27, e28, e29, e30, e31, e32, e33, e34, e49, e54, e56, e57, e58, e61, e62, e82, e84, e86, e88, f1, f3, f5, f8, k1, k3, k13, k39, k41, k42, k43, k44, k45, k46]
    exact hI
  · simp only [e1, e4, e10, e11, e12, e13, e14, e15, e16, e17, e21, e22, e23, e24, e25, e26, e27, e28, e29, e30, e31, e32, e33, e34, e49, e54, e56, e57, e58, e61, e62, e82, e84, e86, e88, f1, f3, f5, f8, k1, k3, k13, k39, k41, k42, k43, k44, k45, k46]
    exact hT
  · simp only [iY, yOf] at hY ⊢
    simp only [e1, e4, e10, e11, e12, e13, e14, e15, e16, e17, e21, e22, e23, e24, e25, e26, e27, e28, e29, e30, e31, e32, e33, e34, e49, e54, e56, e57, e58, e61, e62, e82, e84, e86, e88, f1, f3, f5, f8, k1, k3, k13, k39, k41, k42, k43, k44, k45, k46]
    exact hY
  · simp only [iX] at hX ⊢
    simp only [e1, e4, e10, e11, e12, e13, e14, e15, e16, e17, e21, e22, e23, e24, e25, e26, e27, e28, e29, e30, e31, e32, e33, e34, e49, e54, e56, e57, e58, e61, e62, e82, e84, e86, e88, f1, f3, f5, f8, k1, k3, k13, k39, k41, k42, k43, k44, k45, k46]
    exact hX
theorem iGf_all {p : Nat → Prop} (h : p 1 ∧ p 4 ∧ p 10 ∧ p 11 ∧ p 12 ∧ p 13 ∧ p 14 ∧ p 15 ∧ p 16 ∧ p 17 ∧ p 21 ∧ p 22 ∧ p 23 ∧ p 24 ∧ p 25 ∧ p 26 ∧ p 27 ∧ p 28 ∧ p 29 ∧ p 30 ∧ p 31 ∧ p 32 ∧ p 33 ∧ p 34 ∧ p 49 ∧ p 54 ∧ p 56 ∧ p 57 ∧ p 58 ∧ p 61 ∧ p 62 ∧ p 82 ∧ p 84 ∧ p 86 ∧ p 88) : ∀ g ∈ iGf, p g := by
  simp only [iGf, List.forall_mem_cons, List.not_mem_nil, false_implies, implies_true, and_true]
  exact h
theorem Inv_frFK {S : Nat → Nat → Bool} {σ σ' : kS} (h : Fr S σ σ') (h1 : ∀ g ∈ iGf, ∀ k, S g k = false) (h0 : ∀ k ∈ [1, 3, 5, 8], S 0 k = false) (h48 : ∀ k ∈ [1, 3, 13, 39, 41, 42, 43, 44, 45, 46], S 48 k = false) (hF : iF σ'.1) (hK : iK σ'.1) (hi : Inv σ.1) : Inv σ'.1 :=
  Inv_cgFK (fun g hg => by funext i k; exact h.1 g i k (h1 g hg k)) (fun k hk => h.1 0 0 k (h0 k hk)) (fun k hk => h.1 48 0 k (h48 k hk)) hF hK hi
/-- all that the class's asking may change -/
def sF (g _k : Nat) : Bool := Nat.beq g 6 || Nat.beq g 8 || (Nat.ble 35 g && Nat.ble g 47)
theorem Inv_sF {σ σ' : kS} (h : Fr sF σ σ') (hF : iF σ'.1) (hK : iK σ'.1) (hi : Inv σ.1) : Inv σ'.1 :=
  Inv_frFK h (iGf_all (by refine ⟨?_, ?_, ?_, ?_, ?_, ?_, ?_, ?_, ?_, ?_, ?_, ?_, ?_, ?_, ?_, ?_, ?_, ?_, ?_, ?_, ?_, ?_, ?_, ?_, ?_, ?_, ?_, ?_, ?_, ?_, ?_, ?_, ?_, ?_, ?_⟩ <;> exact fun _ => rfl)) (by decide) (by decide) hF hK hi
theorem sF_y : ∀ g, 10 ≤ g → g ≤ 17 → ∀ k, sF g k = false := by
  intro g h1 h2 k
  have h : g = 10 ∨ g = 11 ∨ g = 12 ∨ g = 13 ∨ g = 14 ∨ g = 15 ∨ g = 16 ∨ g = 17 := by omega
  rcases h with rfl | rfl | rfl | rfl | rfl | rfl | rfl | rfl <;> rfl
theorem sR_y : ∀ g, 10 ≤ g → g ≤ 17 → ∀ k, sR g k = false := by
  intro g h1 h2 k
  have h : g = 10 ∨ g = 11 ∨ g = 12 ∨ g = 13 ∨ g = 14 ∨ g = 15 ∨ g = 16 ∨ g = 17 := by omega
  rcases h with rfl | rfl | rfl | rfl | rfl | rfl | rfl | rfl <;> rfl
theorem sC_sF {σ σ' : kS} (h : Fr sC σ σ') : Fr sF σ σ' := h.sub (by
  intro g k q
  have q : (Nat.beq g 6 || Nat.beq g 8 || (Nat.ble 35 g && Nat.ble g 47)) = false := q
  simp only [Bool.or_eq_false_iff, Bool.and_eq_false_iff] at q
  show (Nat.beq g 6 || (Nat.ble 35 g && Nat.ble g 39)) = false
  rw [q.1.1]
  rcases q.2 with z | z
  · rw [z]; rfl
  · have : Nat.ble g 39 = false := by
      cases e : Nat.ble g 39
      · rfl
      · have := Nat.le_of_ble_eq_true e
        rw [Nat.ble_eq_true_of_le (show g ≤ 47 by omega)] at z
        cases z
    rw [this]; simp)
theorem FrM_sF {w : Nat} {σ σ' : kS} (h : FrM w σ σ') : Fr sF σ σ' := by
  refine ⟨fun g i k q => ?_, h.2⟩
  have q : (Nat.beq g 6 || Nat.beq g 8 || (Nat.ble 35 g && Nat.ble g 47)) = false := q
  simp only [Bool.or_eq_false_iff, Bool.and_eq_false_iff] at q
  refine h.1 g i k ?_ ?_
  · show (Nat.beq g 6 || (Nat.ble 35 g && Nat.ble g 39)) = false
    rw [q.1.1]
    rcases q.2 with z | z
    · rw [z]; rfl
    · have : Nat.ble g 39 = false := by
        cases e : Nat.ble g 39
        · rfl
        · have := Nat.le_of_ble_eq_true e
          rw [Nat.ble_eq_true_of_le (show g ≤ 47 by omega)] at z
          cases z
      rw [this]; simp
  · intro a b
    rcases q.2 with z | z
    · rw [Nat.ble_eq_true_of_le (show 35 ≤ g by omega)] at z; cases z
    · rw [Nat.ble_eq_true_of_le b] at z; cases z
/-! what the invariant gives -/
theorem inv_told {m : kM} (h : Inv m) : m 0 0 5 = m 48 0 13 ∧ rng (m 48 0 13) 0 6 := by
  obtain ⟨hP, hW, hI, hT, hY, hF, hK, hX⟩ := h
  exact ⟨hY.1, by rw [← hY.1]; exact hW.1⟩
theorem inv_why {m : kM} (h : Inv m) {w : Nat} (hw6 : w < 6) (hw : nI w < m 48 0 13) : whyR (yOf m (w + 2)) (m 57 0 w) (fun j => m 56 (14 * w + j)) (m 54 w) := h.2.2.2.2.1.2 w hw6 hw
theorem inv_film {m : kM} (h : Inv m) {w : Nat} (hw6 : w < 6) (hm : m 40 w 0 = 1) : filmR (m 40 w) (m 41 w) (m 42 w) (m 43 w) (m 44 w) (m 45 w) (m 46 w) (m 47 w) (m 61 0) (m 62 0) (yOf m (w + 2)) := by
  rcases h.2.2.2.2.2.1 w hw6 with z | z
  · rw [hm] at z; exact absurd z (by decide)
  · exact z.2.2
theorem inv_x {m : kM} (h : Inv m) : m 48 0 39 = -1 ∧ m 48 0 41 = -1 ∧ m 48 0 42 = 0 := ⟨h.2.2.2.2.2.2.2.1, h.2.2.2.2.2.2.2.2.1, h.2.2.2.2.2.2.2.2.2.1⟩
theorem inv_n {m : kM} (h : Inv m) : (∀ k, k < 10 → m 21 0 k = m 61 0 k) ∧ (∀ c, c < 8 → m 22 0 c = m 62 0 c) ∧ (∀ k, k < 10 → rng (m 61 0 k) (leastN k) (mostN k)) := ⟨h.1.1.2.2.2.1, h.1.1.2.2.2.2.1, h.1.2.2.2.2.1⟩
theorem optS_0 {on ov n : Nat → Int32} : ∀ k, k < 100 → optS 0 on ov k n = n
  | 0, _ => rfl
  | k + 1, hk => by
    show (if _ then _ else _) = _
    rw [if_neg, optS_0 k (by omega)]
    rw [Int32.zero_shiftRight]
    decide
theorem now_inv {m : kM} (h : Inv m) : nowS m = m 61 0 := by
  obtain ⟨h1, h2, h3⟩ := inv_x h
  have ho := h.1.2.2.2.1
  obtain ⟨-, ho5⟩ := rng_nI ho
  unfold nowS
  rw [h1, h2, h3, optS_0 _ (by omega)]
  rfl
def rOK (m : kM) (w : Nat) (y : yD) : Prop := w < 6 ∧ whyR y (m 57 0 w) (fun j => m 56 (14 * w + j)) (m 54 w) ∧ rng (m 48 0 45) 0 5 ∧ ∀ k, k < 5 → kin (m 86 k 0) 10
theorem rOK_inv {m : kM} (h : Inv m) {w : Nat} (hw6 : w < 6) (hw : nI w < m 48 0 13) : rOK m w (yOf m (w + 2)) := by
  refine ⟨hw6, inv_why h hw6 hw, h.1.2.2.2.1, fun k hk => ?_⟩
  have := (h.1.2.2.2.2.2.2.2.2 k hk).1
  exact ⟨this.1, by have := this.2; omega⟩
theorem rOK_fr {S : Nat → Nat → Bool} {σ σ' : kS} {w : Nat} {y : yD} (h : rOK σ.1 w y) (f : Fr S σ σ') (h1 : ∀ k, S 57 k = false ∧ S 56 k = false ∧ S 54 k = false ∧ S 86 k = false) (h2 : S 48 45 = false) : rOK σ'.1 w y := by
  obtain ⟨a1, a2, a3, a4⟩ := h
  have e57 : σ'.1 57 0 w = σ.1 57 0 w := f.1 57 0 w (h1 w).1
  have e56 : σ'.1 56 = σ.1 56 := by funext i k; exact f.1 56 i k (h1 k).2.1
  have e54 : σ'.1 54 = σ.1 54 := by funext i k; exact f.1 54 i k (h1 k).2.2.1
  refine ⟨a1, by rw [e57, e56, e54]; exact a2, by rw [f.1 48 0 45 h2]; exact a3, fun k hk => by rw [f.1 86 k 0 (h1 0).2.2.2]; exact a4 k hk⟩
theorem setS_rng {y : yD} (hy : wfY y) {n : Nat → Int32} (hn : ∀ k, k < 10 → rng (n k) (leastN k) (mostN k)) : ∀ j, j ≤ yn y → ∀ k, k < 10 → rng (setS y j n k) (leastN k) (mostN k)
  | 0, _, k, hk => hn k hk
  | j + 1, hj, k, hk => by
    have ih := setS_rng hy hn j (by omega)
    have hnew : setS y (j + 1) n = if yk y j = -19 then up (setS y j n) (yt y j) (ya y j) else setS y j n := rfl
    rw [hnew]
    by_cases z : yk y j = -19
    · rw [if_pos z, up_at]
      by_cases q : k = yt y j
      · rw [if_pos q]
        rcases hy.2 j (by omega) with a | a | a
        · exact absurd (z.symm.trans a.1) (by decide)
        · exact absurd (z.symm.trans a.1) (by decide)
        · rw [q]; exact a.2.2
      · rw [if_neg q]; exact ih k hk
    · rw [if_neg z]; exact ih k hk
theorem v_runs {F : Nat} (hF : 2000 ≤ F) {σ : kS} {w : Nat} {y : yD} {n0 : Nat → Int32} (h : rOK σ.1 w y) (hn : nowS σ.1 = n0) (hr : ∀ k, k < 10 → rng (n0 k) (leastN k) (mostN k)) :
    RV (f_X6_runs F (nI w) σ) (fun σ' => refR σ'.1 (setS y (yn y) n0) (σ.1 62 0) y ∧ Fr sR σ σ') := by
  obtain ⟨a1, a2, a3, a4⟩ := h
  exact r_runs hF a1 a2 a3 a4 (by rw [hn]) (setS_rng (wfY_of a2) hr (yn y) (Nat.le_refl _) 5 (by omega)).1
theorem v_film {F : Nat} (hF : 2000 ≤ F) {σ : kS} (h : Inv σ.1) {w : Nat} (hw6 : w < 6) (hw : nI w < σ.1 48 0 13) :
    RI (f_X5_filmBy F (nI w) σ) (fun r σ' => r = nI w ∧ Inv σ'.1 ∧ σ'.1 40 w 0 = 1 ∧ (∀ w', w' < 6 → σ.1 40 w' 0 = 1 → σ'.1 40 w' 0 = 1) ∧ Fr sF σ σ') := by
  obtain ⟨ht, hr⟩ := inv_told h
  obtain ⟨n1, n2, n3⟩ := inv_n h
  have hm := h.2.2.2.2.2.1 w hw6
  refine ri_mono (x_filmBy (F := F) hF (σ := σ) (w := w) (n0 := σ.1 61 0) (g := σ.1 62 0) hw6 n1 n2 (wfY_of (inv_why h hw6 hw)) (hm.imp id (fun z => ⟨z.1, z.2.2⟩))) ?_
  rintro r σ' ⟨rfl, h1, h2, h3⟩
  have f := FrM_sF h3
  have e61 : σ'.1 61 = σ.1 61 := by funext i k; exact f.1 61 i k rfl
  have e62 : σ'.1 62 = σ.1 62 := by funext i k; exact f.1 62 i k rfl
  have e84 : σ'.1 84 = σ.1 84 := by funext i k; exact f.1 84 i k rfl
  have ey : ∀ i, yOf σ'.1 i = yOf σ.1 i := fun i => yOf_fr f sF_y
  have e8 : σ'.1 8 = σ.1 8 := by funext i k; exact h3.1 8 i k rfl (fun z => absurd z (by omega))
  have hoth : ∀ w', w' ≠ w → ∀ g, 40 ≤ g → g ≤ 47 → σ'.1 g w' = σ.1 g w' := fun w' hne g g1 g2 => by
    funext k
    refine h3.1 g w' k ?_ (fun _ _ => hne)
    have hg : g = 40 ∨ g = 41 ∨ g = 42 ∨ g = 43 ∨ g = 44 ∨ g = 45 ∨ g = 46 ∨ g = 47 := by omega
    rcases hg with rfl | rfl | rfl | rfl | rfl | rfl | rfl | rfl <;> rfl
  refine ⟨rfl, Inv_sF f ?_ ?_ h, h1, fun w' hw' q => ?_, f⟩
  · intro w' hw'
    by_cases z : w' = w
    · subst z
      refine Or.inr ⟨h1, ?_, ?_⟩
      · rw [f.1 0 0 5 rfl, ht]; exact hw
      · rw [e61, e62, ey]; exact h2
    · have := h.2.2.2.2.2.1 w' hw'
      rw [hoth w' z 40 (by omega) (by omega), hoth w' z 41 (by omega) (by omega), hoth w' z 42 (by omega) (by omega), hoth w' z 43 (by omega) (by omega), hoth w' z 44 (by omega) (by omega), hoth w' z 45 (by omega) (by omega), hoth w' z 46 (by omega) (by omega), hoth w' z 47 (by omega) (by omega), e61, e62, ey, f.1 0 0 5 rfl]
      exact this
  · intro w' hw'
    have := h.2.2.2.2.2.2.1 w' hw'
    rw [e8, e61, e62, e84, ey, f.1 0 0 5 rfl, f.1 48 0 44 rfl]
    exact this
  · by_cases z : w' = w
    · subst z; exact h1
    · rw [hoth w' z 40 (by omega) (by omega)]; exact q
