/-! CALLS THAT SET. -/
def lowI (a : Int32) : Int32 := if a = 5 then 1 else 0
def higI (a : Int32) : Int32 := if a = 5 then 20 else if a = 7 then 9999 else if a = 1 then 999 else if a = 2 then 999 else if a = 9 then 999 else 99
theorem m_low {F : Nat} {a : Int32} {σ : kS} : f_X6_lowest F a σ = some (.inl (some (.int (lowI a))), σ) := by
  unfold f_X6_lowest f_X6_lowest_b10 lowI
  by_cases h : a = 5
  · rw [if_pos h, if_pos h]
  · rw [if_neg h, if_neg h]
theorem m_hig {F : Nat} {a : Int32} {σ : kS} : f_X6_highest F a σ = some (.inl (some (.int (higI a))), σ) := by
  unfold f_X6_highest f_X6_highest_b38 f_X6_highest_b46 higI
  by_cases h5 : a = 5
  · rw [if_pos h5, if_pos h5]
  rw [if_neg h5, if_neg h5]
  by_cases h7 : a = 7
  · rw [if_pos h7, if_pos h7]
  rw [if_neg h7, if_neg h7]
  by_cases h1 : a = 1
  · rw [if_pos h1, if_pos h1]
  rw [if_neg h1, if_neg h1]
  by_cases h2 : a = 2
  · rw [if_pos h2, if_pos h2]
  rw [if_neg h2, if_neg h2]
  by_cases h9 : a = 9
  · rw [if_pos h9, if_pos h9]
  · rw [if_neg h9, if_neg h9]
theorem low_ok {k : Nat} (hk : k < 10) : (kZv 1).getD k 0 = lowI (nI k) ∧ (kZv 2).getD k 0 = higI (nI k) ∧ (lowI (nI k)).toInt = leastN k ∧ (higI (nI k)).toInt = mostN k := by
  have : k = 0 ∨ k = 1 ∨ k = 2 ∨ k = 3 ∨ k = 4 ∨ k = 5 ∨ k = 6 ∨ k = 7 ∨ k = 8 ∨ k = 9 := by omega
  rcases this with rfl | rfl | rfl | rfl | rfl | rfl | rfl | rfl | rfl | rfl <;> decide
theorem low_rng {k : Nat} (hk : k < 10) {v : Int32} (h : lowI (nI k) ≤ v ∧ v ≤ higI (nI k)) : rng v (leastN k) (mostN k) := by
  obtain ⟨-, -, e1, e2⟩ := low_ok hk
  rw [i_le, i_le, e1, e2] at h
  exact h
theorem t_num {F : Nat} {k : Nat} {v : Int32} {σ : kS} (hk : k < 10) : f_X5_testNumber F (nI k) v σ = if lowI (nI k) ≤ v ∧ v ≤ higI (nI k) then some (.inl none, σ) else some (.inr "java/lang/IllegalArgumentException", σ) := by
  have hkk : kin (nI k) 10 := (nI_kin (by omega)).mpr hk
  obtain ⟨e1, e2, -, -⟩ := low_ok hk
  unfold f_X5_testNumber f_X5_testNumber_b28
  rw [nI_c (by omega), e1, e2, if_neg (nI_nneg (by omega)), if_neg (by show ¬ nI 10 ≤ nI k; rw [nJ_le (by omega) (by omega)]; omega), kg_t hkk, kg_t hkk]
  by_cases h1 : v < lowI (nI k)
  · rw [if_pos h1, if_neg (fun z => absurd h1 (Int32.not_lt.mpr z.1))]
  · rw [if_neg h1]
    by_cases h2 : v ≤ higI (nI k)
    · rw [if_pos h2, if_pos ⟨Int32.not_lt.mp h1, h2⟩]
    · rw [if_neg h2, if_neg (fun z => h2 z.2)]
theorem t_numx {F : Nat} {a v : Int32} {σ : kS} (h : ¬ (0 ≤ a ∧ a ≤ 9)) : f_X5_testNumber F a v σ = some (.inr "java/lang/IllegalArgumentException", σ) := by
  unfold f_X5_testNumber f_X5_testNumber_b28
  by_cases h1 : a < 0
  · rw [if_pos h1]
  · rw [if_neg h1, if_pos]
    rw [i_le, i_le] at h
    rw [i_lt] at h1
    rw [i_le]
    have h : ¬ ((0 : Int) ≤ a.toInt ∧ a.toInt ≤ 9) := h
    have h1 : ¬ a.toInt < 0 := h1
    show (10 : Int) ≤ a.toInt
    omega
theorem g_weigh' {F : Nat} (a1 a2 : Int32) : Good (q_weigh F a1 a2) := by
  intro nx σ h
  obtain ⟨ht, hr⟩ := inv_told h
  by_cases c1 : 0 ≤ a1 ∧ a1 < σ.1 48 0 13
  · have c1' : 0 ≤ a1 ∧ a1 < σ.1 0 0 5 := by rw [ht]; exact c1
    obtain ⟨w, hw6, rfl⟩ := nI_ex (n := 6) (kin_of (n := 6) c1.1 c1.2 hr.2)
    have hkw : kin (nI w) 6 := (nI_kin (by omega)).mpr hw6
    have ew : (nI w).toNatClampNeg = w := nI_c (by omega)
    by_cases c2 : 1 ≤ a2 ∧ a2 ≤ 99
    · have hcl : f_X5_weigh F (nI w) a2 σ = some (.inl (some (.int (σ.1 23 0 w))), kU σ 23 0 w a2) := by
        unfold f_X5_weigh
        rw [t_why, if_pos c1', s_bv, t_with, if_pos c2, s_bv, kg_t hkw, s_b, kg_t hkw, s_b, ew]
      refine top_i (k := 0) (σ2 := kUL (kU σ 23 0 w a2) 90 0 0 (σ.1 23 0 w).toInt64) (by unfold w_weigh; rw [hcl]; rfl) ?_
      unfold f_X6_weigh
      have e13 : (kU σ 23 0 w a2).1 48 0 13 = σ.1 48 0 13 := rfl
      simp only [s_b, e_whyU (σ := kU σ 23 0 w a2) (by rw [e13]; exact hr), s_bi, if10, f_X6_weigh_b19, z_bad0 rfl, if0, if_true, x_in, f_X6_weigh_b42, e13, if_pos c1, if_pos c2, if1, ew]
      refine n_g hkw (n_g hkw (n_i ⟨?_, ?_, fun _ => ?_⟩))
      · obtain ⟨m', hm⟩ : ∃ m', m' = (kU (kU (kUL (kU σ 23 0 w a2) 90 0 0 (σ.1 23 0 w).toInt64) 48 0 0 0) 58 0 w a2).1 := ⟨_, rfl⟩
        rw [← hm]
        have E0 : ∀ g i k, ¬ (g = 23 ∧ i = 0 ∧ k = w) → ¬ (g = 58 ∧ i = 0 ∧ k = w) → ¬ (g = 48 ∧ i = 0 ∧ k = 0) → m' g i k = σ.1 g i k := fun g i k q1 q2 q3 => by
          rw [hm, kU_at, if_neg q2, kU_at, if_neg q3]
          show (kU σ 23 0 w a2).1 g i k = _
          rw [kU_at, if_neg q1]
        obtain ⟨hP, hW, hI, hT, hY, hF, hK, hX⟩ := h
        refine ⟨iP_cg (fun g i k q => E0 g i k (by omega) (by omega) (by omega)) hP, ?_, iI_cg (fun g i k q => E0 g i k (by omega) (by omega) (by omega)) (E0 48 0 13 (by omega) (by omega) (by omega)) hI, iT_cg (fun g i k q => E0 g i k (by omega) (by omega) (by omega)) hT, iY_cg (fun g i k q => E0 g i k (by omega) (by omega) (by omega)) hY, iF_cg (fun g i k q => E0 g i k (by omega) (by omega) (by omega)) hF, iK_cg (fun g i k q => E0 g i k (by omega) (by omega) (by omega)) hK, iX_cg (fun g i k q => E0 g i k (by omega) (by omega) (by omega)) hX⟩
        rw [E0 0 0 5 (by omega) (by omega) (by omega)]
        refine ⟨hW.1, fun u hu => ?_⟩
        by_cases z : u = w
        · subst z
          have e1 : m' 23 0 u = a2 := by rw [hm]; simp [kU_at, kUL]
          have e2 : m' 58 0 u = a2 := by rw [hm]; simp [kU_at]
          rw [e1, e2, if_pos c1'.2]
          rw [i_le, i_le] at c2
          exact ⟨c2, rfl⟩
        · rw [E0 23 0 u (by omega) (by omega) (by omega), E0 58 0 u (by omega) (by omega) (by omega)]
          exact hW.2 u hu
      · simp [kU_at]
      · show (ent (kU σ 23 0 w a2) (σ.1 23 0 w).toInt64).2 90 0 0 = _
        rw [ent_2, (inv_wt h hw6 c1.2).1]
        rfl
    · have hcl : f_X5_weigh F (nI w) a2 σ = some (.inr "java/lang/IllegalArgumentException", σ) := by
        unfold f_X5_weigh
        rw [t_why, if_pos c1', s_bv, t_with, if_neg c2, s_xv]
      refine top_i (k := 2) (σ2 := σ) (by unfold w_weigh; rw [hcl]; rfl) ?_
      unfold f_X6_weigh
      simp only [s_b, e_why (σ := σ) hr, s_bi, if10, f_X6_weigh_b19, z_bad0 rfl, if0, if_true, x_in, f_X6_weigh_b42, if_pos c1, if_neg c2, if1, z_bad1 two_ne, f_X6_weigh_b49]
      exact n_i ⟨thr_inv h, z_thr, fun z => absurd z two_ne⟩
  · have c1' : ¬ (0 ≤ a1 ∧ a1 < σ.1 0 0 5) := by rw [ht]; exact c1
    have hcl : f_X5_weigh F a1 a2 σ = some (.inr "java/util/NoSuchElementException", σ) := by
      unfold f_X5_weigh
      rw [t_why, if_neg c1', s_xv]
    refine top_i (k := 1) (σ2 := σ) (by unfold w_weigh; rw [hcl]; rfl) ?_
    unfold f_X6_weigh
    simp only [s_b, e_why (σ := σ) hr, s_bi, if10, f_X6_weigh_b19, if_neg c1, z_bad1 one_ne, if1, f_X6_weigh_b49, if0, if_true]
    exact n_i ⟨thr_inv h, z_thr, fun z => absurd z one_ne⟩
theorem g_set' {F : Nat} (hF : 2000 ≤ F) (a1 a2 : Int32) : Good (q_set F a1 a2) := by
  intro nx σ h
  by_cases c1 : 0 ≤ a1 ∧ a1 ≤ 9
  · obtain ⟨j, hj, rfl⟩ := r_nI (b := 9) c1 (by omega)
    have hkj : kin (nI j) 10 := (nI_kin (by omega)).mpr (by omega)
    have ej : (nI j).toNatClampNeg = j := nI_c (by omega)
    by_cases c2 : lowI (nI j) ≤ a2 ∧ a2 ≤ higI (nI j)
    · obtain ⟨σ1, e1, f1, f2, f3, f4⟩ := rv_get (x_forget hF (σ := kU σ 21 0 j a2))
      have hcl : f_X5_set F (nI j) a2 σ = some (.inl (some (.int (σ.1 21 0 j))), σ1) := by
        unfold f_X5_set
        rw [t_num (by omega), if_pos c2, s_bv, kg_t hkj, s_b, kg_t hkj, s_b, ej, e1, s_bv]
      refine top_i (k := 0) (σ2 := kUL σ1 90 0 0 (σ.1 21 0 j).toInt64) (by unfold w_set; rw [hcl]; rfl) ?_
      unfold f_X6_set
      simp only [s_b, s_bi, if10, f_X6_set_b21, z_bad0 rfl, if0, if_true, x_in, m_low, m_hig, f_X6_set_b49, if_pos c1, if_pos c2, if1, ej]
      have e61 : (ent σ1 (σ.1 21 0 j).toInt64).1 61 0 j = σ.1 21 0 j := by
        rw [ent_1 (by decide), f3 61 0 j (by decide) (by omega)]
        exact ((inv_n h).1 j (by omega)).symm
      refine n_g hkj (n_g hkj (n_i ⟨?_, ?_, fun _ => ?_⟩))
      · obtain ⟨m', hm⟩ : ∃ m', m' = (kU (kU (kUL σ1 90 0 0 (σ.1 21 0 j).toInt64) 48 0 0 0) 61 0 j a2).1 := ⟨_, rfl⟩
        rw [← hm]
        have E0 : ∀ g i k, ¬ (g = 21 ∧ i = 0 ∧ k = j) → ¬ (g = 61 ∧ i = 0 ∧ k = j) → ¬ (g = 48 ∧ i = 0 ∧ k = 0) → g ≠ 8 → ¬ (g = 40 ∧ k = 0) → m' g i k = σ.1 g i k := fun g i k q1 q2 q3 q4 q5 => by
          rw [hm, kU_at, if_neg q2, kU_at, if_neg q3]
          show σ1.1 g i k = _
          rw [f3 g i k q4 q5, kU_at, if_neg q1]
        have m21 : m' 21 0 j = a2 := by
          rw [hm]
          show σ1.1 21 0 j = a2
          rw [f3 21 0 j (by decide) (by omega)]
          exact kU_here
        have m61 : m' 61 0 j = a2 := by rw [hm]; exact kU_here
        obtain ⟨hP, hW, hI, hT, hY, -, -, hX⟩ := h
        refine ⟨?_, iW_cg (fun g i k q => E0 g i k (by omega) (by omega) (by omega) (by omega) (by omega)) hW, iI_cg (fun g i k q => E0 g i k (by omega) (by omega) (by omega) (by omega) (by omega)) (E0 48 0 13 (by omega) (by omega) (by omega) (by omega) (by omega)) hI, iT_cg (fun g i k q => E0 g i k (by omega) (by omega) (by omega) (by omega) (by omega)) hT, iY_cg (fun g i k q => E0 g i k (by omega) (by omega) (by omega) (by omega) (by omega)) hY, iF_0 (fun w hw => ?_), iK_0 (fun w hw => ?_), iX_cg (fun g i k q => E0 g i k (by omega) (by omega) (by omega) (by omega) (by omega)) hX⟩
        · obtain ⟨⟨p1, p2, p3, p4, p5, p6, p7, p8⟩, ⟨k1, k2, k3, k4, k5, k6, k7, k8⟩⟩ := hP
          have G : ∀ g i k, g ≠ 21 → g ≠ 61 → ¬ (g = 48 ∧ i = 0 ∧ k = 0) → g ≠ 8 → g ≠ 40 → m' g i k = σ.1 g i k := fun g i k q1 q2 q3 q4 q5 => E0 g i k (by omega) (by omega) q3 q4 (by omega)
          have g82 : m' 82 = σ.1 82 := by funext i k; exact G 82 i k (by omega) (by omega) (by omega) (by omega) (by omega)
          have g84 : m' 84 = σ.1 84 := by funext i k; exact G 84 i k (by omega) (by omega) (by omega) (by omega) (by omega)
          have g86 : m' 86 = σ.1 86 := by funext i k; exact G 86 i k (by omega) (by omega) (by omega) (by omega) (by omega)
          have g62 : m' 62 = σ.1 62 := by funext i k; exact G 62 i k (by omega) (by omega) (by omega) (by omega) (by omega)
          unfold iP
          rw [g82, g84, g86, g62, G 48 0 43 (by omega) (by omega) (by omega) (by omega) (by omega), G 48 0 44 (by omega) (by omega) (by omega) (by omega) (by omega), G 48 0 45 (by omega) (by omega) (by omega) (by omega) (by omega)]
          refine ⟨⟨?_, ?_, ?_, fun k hk => ?_, fun k hk => ?_, fun r hr => ?_, fun r hr => ?_, fun r hr => ?_⟩, ⟨k1, k2, k3, fun k hk => ?_, k5, k6, k7, k8⟩⟩
          · rw [G 4 0 3 (by omega) (by omega) (by omega) (by omega) (by omega)]; exact p1
          · rw [G 4 0 10 (by omega) (by omega) (by omega) (by omega) (by omega)]; exact p2
          · rw [G 4 0 13 (by omega) (by omega) (by omega) (by omega) (by omega)]; exact p3
          · by_cases z : k = j
            · rw [z, m21, m61]
            · rw [E0 21 0 k (by omega) (by omega) (by omega) (by omega) (by omega), E0 61 0 k (by omega) (by omega) (by omega) (by omega) (by omega)]
              exact p4 k hk
          · rw [G 22 0 k (by omega) (by omega) (by omega) (by omega) (by omega)]; exact p5 k hk
          · rw [G 24 0 r (by omega) (by omega) (by omega) (by omega) (by omega), G 25 0 r (by omega) (by omega) (by omega) (by omega) (by omega), G 26 0 r (by omega) (by omega) (by omega) (by omega) (by omega), G 27 0 r (by omega) (by omega) (by omega) (by omega) (by omega), G 28 0 r (by omega) (by omega) (by omega) (by omega) (by omega), G 29 0 r (by omega) (by omega) (by omega) (by omega) (by omega)]
            exact p6 r hr
          · rw [G 30 0 r (by omega) (by omega) (by omega) (by omega) (by omega), G 31 0 r (by omega) (by omega) (by omega) (by omega) (by omega)]
            exact p7 r hr
          · rw [G 32 0 r (by omega) (by omega) (by omega) (by omega) (by omega), G 33 0 r (by omega) (by omega) (by omega) (by omega) (by omega), G 34 0 r (by omega) (by omega) (by omega) (by omega) (by omega)]
            exact p8 r hr
          · by_cases z : k = j
            · rw [z, m61]; exact low_rng (by omega) c2
            · rw [E0 61 0 k (by omega) (by omega) (by omega) (by omega) (by omega)]
              exact k4 k hk
        · rw [hm]; exact f1 w hw
        · rw [hm]; exact f2 w hw
      · simp [kU_at]
      · show (ent σ1 (σ.1 21 0 j).toInt64).2 90 0 0 = _
        rw [ent_2, e61]
    · have hcl : f_X5_set F (nI j) a2 σ = some (.inr "java/lang/IllegalArgumentException", σ) := by
        unfold f_X5_set
        rw [t_num (by omega), if_neg c2, s_xv]
      refine top_i (k := 1) (σ2 := σ) (by unfold w_set; rw [hcl]; rfl) ?_
      unfold f_X6_set
      simp only [s_b, s_bi, if10, f_X6_set_b21, z_bad0 rfl, if0, if_true, x_in, m_low, m_hig, f_X6_set_b49, if_pos c1, if_neg c2, if1, z_bad1 one_ne, f_X6_set_b56]
      exact n_i ⟨thr_inv h, z_thr, fun z => absurd z one_ne⟩
  · have hcl : f_X5_set F a1 a2 σ = some (.inr "java/lang/IllegalArgumentException", σ) := by
      unfold f_X5_set
      rw [t_numx c1, s_xv]
    refine top_i (k := 1) (σ2 := σ) (by unfold w_set; rw [hcl]; rfl) ?_
    unfold f_X6_set
    simp only [s_b, s_bi, if10, f_X6_set_b21, x_in, if_neg c1, z_bad1 one_ne, if1, f_X6_set_b56, if0, if_true]
    exact n_i ⟨thr_inv h, z_thr, fun z => absurd z one_ne⟩
theorem g_fill' {F : Nat} (hF : 2000 ≤ F) (a1 a2 : Int32) : Good (q_fill F a1 a2) := by
  intro nx σ h
  by_cases c1 : 0 ≤ a1 ∧ a1 ≤ 7
  · obtain ⟨j, hj, rfl⟩ := r_nI (b := 7) c1 (by omega)
    have hkj : kin (nI j) 8 := (nI_kin (by omega)).mpr (by omega)
    have ej : (nI j).toNatClampNeg = j := nI_c (by omega)
    by_cases c2 : 0 ≤ a2 ∧ a2 ≤ 999
    · obtain ⟨σ1, e1, f1, f2, f3, f4⟩ := rv_get (x_forget hF (σ := kU σ 22 0 j a2))
      have hcl : f_X5_fill F (nI j) a2 σ = some (.inl (some (.int (σ.1 22 0 j))), σ1) := by
        unfold f_X5_fill
        rw [t_cell, if_pos c1, s_bv, t_with, if_pos c2, s_bv, kg_t hkj, s_b, kg_t hkj, s_b, ej, e1, s_bv]
      refine top_i (k := 0) (σ2 := kUL σ1 90 0 0 (σ.1 22 0 j).toInt64) (by unfold w_fill; rw [hcl]; rfl) ?_
      unfold f_X6_fill
      simp only [s_b, s_bi, if10, f_X6_fill_b21, z_bad0 rfl, if0, if_true, x_in, f_X6_fill_b45, if_pos c1, if_pos c2, if1, ej]
      have e62 : (ent σ1 (σ.1 22 0 j).toInt64).1 62 0 j = σ.1 22 0 j := by
        rw [ent_1 (by decide), f3 62 0 j (by decide) (by omega)]
        exact ((inv_n h).2.1 j (by omega)).symm
      refine n_g hkj (n_g hkj (n_i ⟨?_, ?_, fun _ => ?_⟩))
      · obtain ⟨m', hm⟩ : ∃ m', m' = (kU (kU (kUL σ1 90 0 0 (σ.1 22 0 j).toInt64) 48 0 0 0) 62 0 j a2).1 := ⟨_, rfl⟩
        rw [← hm]
        have E0 : ∀ g i k, ¬ (g = 22 ∧ i = 0 ∧ k = j) → ¬ (g = 62 ∧ i = 0 ∧ k = j) → ¬ (g = 48 ∧ i = 0 ∧ k = 0) → g ≠ 8 → ¬ (g = 40 ∧ k = 0) → m' g i k = σ.1 g i k := fun g i k q1 q2 q3 q4 q5 => by
          rw [hm, kU_at, if_neg q2, kU_at, if_neg q3]
          show σ1.1 g i k = _
          rw [f3 g i k q4 q5, kU_at, if_neg q1]
        have m21 : m' 22 0 j = a2 := by
          rw [hm]
          show σ1.1 22 0 j = a2
          rw [f3 22 0 j (by decide) (by omega)]
          exact kU_here
        have m61 : m' 62 0 j = a2 := by rw [hm]; exact kU_here
        obtain ⟨hP, hW, hI, hT, hY, -, -, hX⟩ := h
        refine ⟨?_, iW_cg (fun g i k q => E0 g i k (by omega) (by omega) (by omega) (by omega) (by omega)) hW, iI_cg (fun g i k q => E0 g i k (by omega) (by omega) (by omega) (by omega) (by omega)) (E0 48 0 13 (by omega) (by omega) (by omega) (by omega) (by omega)) hI, iT_cg (fun g i k q => E0 g i k (by omega) (by omega) (by omega) (by omega) (by omega)) hT, iY_cg (fun g i k q => E0 g i k (by omega) (by omega) (by omega) (by omega) (by omega)) hY, iF_0 (fun w hw => ?_), iK_0 (fun w hw => ?_), iX_cg (fun g i k q => E0 g i k (by omega) (by omega) (by omega) (by omega) (by omega)) hX⟩
        · obtain ⟨⟨p1, p2, p3, p4, p5, p6, p7, p8⟩, ⟨k1, k2, k3, k4, k5, k6, k7, k8⟩⟩ := hP
          have G : ∀ g i k, g ≠ 22 → g ≠ 62 → ¬ (g = 48 ∧ i = 0 ∧ k = 0) → g ≠ 8 → g ≠ 40 → m' g i k = σ.1 g i k := fun g i k q1 q2 q3 q4 q5 => E0 g i k (by omega) (by omega) q3 q4 (by omega)
          have g82 : m' 82 = σ.1 82 := by funext i k; exact G 82 i k (by omega) (by omega) (by omega) (by omega) (by omega)
          have g84 : m' 84 = σ.1 84 := by funext i k; exact G 84 i k (by omega) (by omega) (by omega) (by omega) (by omega)
          have g86 : m' 86 = σ.1 86 := by funext i k; exact G 86 i k (by omega) (by omega) (by omega) (by omega) (by omega)
          have g61 : m' 61 = σ.1 61 := by funext i k; exact G 61 i k (by omega) (by omega) (by omega) (by omega) (by omega)
          unfold iP
          rw [g82, g84, g86, g61, G 48 0 43 (by omega) (by omega) (by omega) (by omega) (by omega), G 48 0 44 (by omega) (by omega) (by omega) (by omega) (by omega), G 48 0 45 (by omega) (by omega) (by omega) (by omega) (by omega)]
          refine ⟨⟨?_, ?_, ?_, fun k hk => ?_, fun k hk => ?_, fun r hr => ?_, fun r hr => ?_, fun r hr => ?_⟩, ⟨k1, k2, k3, k4, fun k hk => ?_, k6, k7, k8⟩⟩
          · rw [G 4 0 3 (by omega) (by omega) (by omega) (by omega) (by omega)]; exact p1
          · rw [G 4 0 10 (by omega) (by omega) (by omega) (by omega) (by omega)]; exact p2
          · rw [G 4 0 13 (by omega) (by omega) (by omega) (by omega) (by omega)]; exact p3
          · rw [G 21 0 k (by omega) (by omega) (by omega) (by omega) (by omega)]; exact p4 k hk
          · by_cases z : k = j
            · rw [z, m21, m61]
            · rw [E0 22 0 k (by omega) (by omega) (by omega) (by omega) (by omega), E0 62 0 k (by omega) (by omega) (by omega) (by omega) (by omega)]
              exact p5 k hk
          · rw [G 24 0 r (by omega) (by omega) (by omega) (by omega) (by omega), G 25 0 r (by omega) (by omega) (by omega) (by omega) (by omega), G 26 0 r (by omega) (by omega) (by omega) (by omega) (by omega), G 27 0 r (by omega) (by omega) (by omega) (by omega) (by omega), G 28 0 r (by omega) (by omega) (by omega) (by omega) (by omega), G 29 0 r (by omega) (by omega) (by omega) (by omega) (by omega)]
            exact p6 r hr
          · rw [G 30 0 r (by omega) (by omega) (by omega) (by omega) (by omega), G 31 0 r (by omega) (by omega) (by omega) (by omega) (by omega)]
            exact p7 r hr
          · rw [G 32 0 r (by omega) (by omega) (by omega) (by omega) (by omega), G 33 0 r (by omega) (by omega) (by omega) (by omega) (by omega), G 34 0 r (by omega) (by omega) (by omega) (by omega) (by omega)]
            exact p8 r hr
          · by_cases z : k = j
            · rw [z, m61]; rw [i_le, i_le] at c2; exact c2
            · rw [E0 62 0 k (by omega) (by omega) (by omega) (by omega) (by omega)]
              exact k5 k hk
        · rw [hm]; exact f1 w hw
        · rw [hm]; exact f2 w hw
      · simp [kU_at]
      · show (ent σ1 (σ.1 22 0 j).toInt64).2 90 0 0 = _
        rw [ent_2, e62]
    · have hcl : f_X5_fill F (nI j) a2 σ = some (.inr "java/lang/IllegalArgumentException", σ) := by
        unfold f_X5_fill
        rw [t_cell, if_pos c1, s_bv, t_with, if_neg c2, s_xv]
      refine top_i (k := 2) (σ2 := σ) (by unfold w_fill; rw [hcl]; rfl) ?_
      unfold f_X6_fill
      simp only [s_b, s_bi, if10, f_X6_fill_b21, z_bad0 rfl, if0, if_true, x_in, f_X6_fill_b45, if_pos c1, if_neg c2, if1, z_bad1 two_ne, f_X6_fill_b52]
      exact n_i ⟨thr_inv h, z_thr, fun z => absurd z two_ne⟩
  · have hcl : f_X5_fill F a1 a2 σ = some (.inr "java/lang/IndexOutOfBoundsException", σ) := by
      unfold f_X5_fill
      rw [t_cell, if_neg c1, s_xv]
    refine top_i (k := 1) (σ2 := σ) (by unfold w_fill; rw [hcl]; rfl) ?_
    unfold f_X6_fill
    simp only [s_b, s_bi, if10, f_X6_fill_b21, x_in, if_neg c1, z_bad1 one_ne, if1, f_X6_fill_b52, if0, if_true]
    exact n_i ⟨thr_inv h, z_thr, fun z => absurd z one_ne⟩
