/-! ROW, ASKED. -/
def lowV (k : Int32) : Int32 := if k = 3 then -9999 else if k = 5 then -9999 else 0
def hiV (k : Int32) : Int32 := if k = 0 then 1 else if k = 1 then 7 else if k = 2 then 99 else if k = 4 then 99 else 9999
theorem t_rv {F : Nat} {k : Nat} {v : Int32} {σ : kS} (hk : k < 6) : f_X5_testRowValue F (nI k) v σ = if lowV (nI k) ≤ v ∧ v ≤ hiV (nI k) then some (.inl none, σ) else some (.inr "java/lang/IllegalArgumentException", σ) := by
  have hg : ∀ a b : Int32, kBv (f_X5_testWithin F v a b σ) (fun σ2 => f_X5_testRowValue_b75 F σ2) = if a ≤ v ∧ v ≤ b then some (.inl none, σ) else some (.inr "java/lang/IllegalArgumentException", σ) := fun a b => by
    rw [t_with]
    by_cases h : a ≤ v ∧ v ≤ b
    · rw [if_pos h]; rfl
    · rw [if_neg h]; rfl
  unfold f_X5_testRowValue
  have : k = 0 ∨ k = 1 ∨ k = 2 ∨ k = 3 ∨ k = 4 ∨ k = 5 := by omega
  rcases this with rfl | rfl | rfl | rfl | rfl | rfl
  · rw [if_pos (by decide)]; exact hg 0 1
  · rw [if_neg (by decide), if_pos (by decide)]; exact hg 0 7
  · rw [if_neg (by decide), if_neg (by decide), if_pos (by decide)]; exact hg 0 99
  · rw [if_neg (by decide), if_neg (by decide), if_neg (by decide), if_neg (by decide)]; exact hg (-9999) 9999
  · rw [if_neg (by decide), if_neg (by decide), if_neg (by decide), if_pos (by decide)]; exact hg 0 99
  · rw [if_neg (by decide), if_neg (by decide), if_neg (by decide), if_neg (by decide)]; exact hg (-9999) 9999
theorem m_row {F : Nat} {a1 a2 a3 a4 a5 : Int32} {σ : kS} : f_X6_row F a1 a2 a3 a4 a5 σ = f_X6_row_b60 F a1 a2 a3 a4 a5 (lowV a1) (hiV a1) (kU σ 48 0 0 0) := by
  have h22 : ∀ t, f_X6_row_b22 F a1 a2 a3 a4 a5 t (kU σ 48 0 0 0) = f_X6_row_b60 F a1 a2 a3 a4 a5 t (hiV a1) (kU σ 48 0 0 0) := fun t => by
    unfold f_X6_row_b22 f_X6_row_b52 hiV
    by_cases h0 : a1 = 0
    · rw [if_pos h0, if_pos h0]
    rw [if_neg h0, if_neg h0]
    by_cases h1 : a1 = 1
    · rw [if_pos h1, if_pos h1]
    rw [if_neg h1, if_neg h1]
    by_cases h2 : a1 = 2
    · rw [if_pos h2, if_pos h2]
    rw [if_neg h2, if_neg h2]
    by_cases h4 : a1 = 4
    · rw [if_pos h4, if_pos h4]
    rw [if_neg h4, if_neg h4]
  unfold f_X6_row f_X6_row_b15 lowV
  rw [s_b, h22, h22]
  by_cases h3 : a1 = 3
  · rw [if_pos h3, if_pos h3]
  rw [if_neg h3, if_neg h3]
  by_cases h5 : a1 = 5
  · rw [if_pos h5, if_pos h5]
  · rw [if_neg h5, if_neg h5]
theorem kU82 {σ : kS} {i k : Nat} {v : Int32} : (kU σ 82 i k v).1 48 = σ.1 48 := kU_g (by decide)
theorem kU84 {σ : kS} {i k : Nat} {v : Int32} : (kU σ 84 i k v).1 48 = σ.1 48 := kU_g (by decide)
theorem kU86 {σ : kS} {i k : Nat} {v : Int32} : (kU σ 86 i k v).1 48 = σ.1 48 := kU_g (by decide)
theorem g_row' {F : Nat} (a1 a2 a3 a4 a5 : Int32) : Good (q_row F a1 a2 a3 a4 a5) := by
  intro nx σ h
  obtain ⟨R, hR10, hR, hR4⟩ := inv_R h
  have hbad : ∀ σ2 : kS, Inv σ2.1 → RI (f_X6_row_b115 F a1 a2 a3 a4 a5 (kU σ2 48 0 0 0)) (fun b σ4 => Inv σ4.1 ∧ σ4.1 48 0 0 = 1 ∧ ((1 : Int32) = 0 → σ4.2 90 0 0 = b.toInt64)) := fun σ2 i2 => by
    unfold f_X6_row_b115 f_X6_row_b120
    rw [z_bad1 one_ne, s_bi]
    exact n_f one_ne (n_i ⟨thr_inv i2, z_thr, fun z => absurd z one_ne⟩)
  by_cases c1 : 0 ≤ a1 ∧ a1 ≤ 5
  · obtain ⟨kd, hkd, rfl⟩ := r_nI (b := 5) c1 (by omega)
    by_cases c2 : 0 ≤ a2 ∧ a2 ≤ 99
    · by_cases c3 : 0 ≤ a3 ∧ a3 ≤ 7
      · by_cases c4 : lowV (nI kd) ≤ a4 ∧ a4 ≤ hiV (nI kd)
        · by_cases c5 : 0 ≤ a5 ∧ a5 ≤ 8
          · by_cases hfull : R = 10
            · have hcl : f_X5_row F (nI kd) a2 a3 a4 a5 σ = some (.inl (some (.int (-1))), σ) := by
                unfold f_X5_row
                rw [t_with, if_pos c1, s_bv, t_with, if_pos c2, s_bv, t_with, if_pos c3, s_bv, t_rv (by omega), if_pos c4, s_bv, t_with, if_pos c5, s_bv, s_b, hR4, if_neg (by rw [hfull]; decide)]
              refine top_i (k := 0) (σ2 := kUL σ 90 0 0 (-1 : Int32).toInt64) (by unfold w_row; rw [hcl]; rfl) ?_
              rw [m_row]
              unfold f_X6_row_b60 f_X6_row_b120
              simp only [x_in, s_bi, if10, if_pos c1, if_pos c2, if_pos c3, if_pos c4, if_pos c5, z_bad0 rfl, if0, if_true, if1]
              refine n_t (by rw [ent_48 (by decide), hR, hfull]; rfl) (n_i ⟨ent_inv h, z_thr, fun _ => ent_2⟩)
            · have hkR : kin (nI R) 10 := (nI_kin (by omega)).mpr (by omega)
              have eR : (nI R).toNatClampNeg = R := nI_c (by omega)
              have eS : nI R + 1 = nI (R + 1) := nI_s (by omega)
              obtain ⟨σ1, es1⟩ : ∃ σ1, σ1 = kU (kU (kU (kU (kU (kU (kU σ 24 0 R (nI kd)) 25 0 R a2) 26 0 R a3) 27 0 R a4) 28 0 R a5) 29 0 R 0) 4 0 3 (nI (R + 1)) := ⟨_, rfl⟩
              have hcl : f_X5_row F (nI kd) a2 a3 a4 a5 σ = some (.inl (some (.int (nI R))), σ1) := by
                unfold f_X5_row
                rw [t_with, if_pos c1, s_bv, t_with, if_pos c2, s_bv, t_with, if_pos c3, s_bv, t_rv (by omega), if_pos c4, s_bv, t_with, if_pos c5, s_bv, s_b, hR4, if_pos (by show nI R < nI 10; rw [nJ_lt (by omega) (by omega)]; omega)]
                simp only [kg_t hkR, s_b, eR, eS]
                rw [es1]
              refine top_i (k := 0) (σ2 := kUL σ1 90 0 0 (nI R).toInt64) (by unfold w_row; rw [hcl]; rfl) ?_
              rw [m_row]
              unfold f_X6_row_b60 f_X6_row_b120
              have e43 : (ent σ1 (nI R).toInt64).1 48 0 43 = nI R := by rw [ent_48 (by decide), es1]; exact hR
              have e43' : (kU (kUL σ1 90 0 0 (nI R).toInt64) 48 0 0 0).1 48 0 43 = nI R := e43
              simp only [x_in, s_bi, if10, if_pos c1, if_pos c2, if_pos c3, if_pos c4, if_pos c5, z_bad0 rfl, if0, if_true, if1, s_b, kU82, e43', eR, eS, kg_t hkR, kU_here]
              refine n_f (by show ¬ nI R = nI 10; rw [nI_inj (by omega) (by omega)]; exact hfull) (n_i ⟨?_, ?_, fun _ => ?_⟩)
              · obtain ⟨m', hm⟩ : ∃ m', m' = (kU (kU (kU (kU (kU (kU (kU (kU (kUL σ1 90 0 0 (nI R).toInt64) 48 0 0 0) 82 R 0 (nI kd)) 82 R 1 a2) 82 R 2 a3) 82 R 3 a4) 82 R 4 a5) 82 R 5 0) 48 0 43 (nI (R + 1))).1 := ⟨_, rfl⟩
                rw [← hm]
                have E0 : ∀ g i k, ¬ (24 ≤ g ∧ g ≤ 29 ∧ i = 0 ∧ k = R) → ¬ (g = 4 ∧ i = 0 ∧ k = 3) → ¬ (g = 82 ∧ i = R) → ¬ (g = 48 ∧ i = 0 ∧ k = 0) → ¬ (g = 48 ∧ i = 0 ∧ k = 43) → m' g i k = σ.1 g i k := fun g i k q1 q2 q3 q4 q5 => by
                  rw [hm, kU_at, if_neg q5, kU_at, if_neg (by omega), kU_at, if_neg (by omega), kU_at, if_neg (by omega), kU_at, if_neg (by omega), kU_at, if_neg (by omega), kU_at, if_neg (by omega), kU_at, if_neg q4]
                  show σ1.1 g i k = _
                  rw [es1, kU_at, if_neg q2, kU_at, if_neg (by omega), kU_at, if_neg (by omega), kU_at, if_neg (by omega), kU_at, if_neg (by omega), kU_at, if_neg (by omega), kU_at, if_neg (by omega)]
                have M1 : ∀ g i k, g ≠ 48 → g ≠ 82 → m' g i k = σ1.1 g i k := fun g i k q1 q2 => by
                  rw [hm, kU_at, if_neg (by omega), kU_at, if_neg (by omega), kU_at, if_neg (by omega), kU_at, if_neg (by omega), kU_at, if_neg (by omega), kU_at, if_neg (by omega), kU_at, if_neg (by omega), kU_at, if_neg (by omega)]
                  rfl
                obtain ⟨hP, hW, hI, hT, hY, hF, hK, hX⟩ := h
                refine ⟨?_, iW_cg (fun g i k q => E0 g i k (by omega) (by omega) (by omega) (by omega) (by omega)) hW, iI_cg (fun g i k q => E0 g i k (by omega) (by omega) (by omega) (by omega) (by omega)) (E0 48 0 13 (by omega) (by omega) (by omega) (by omega) (by omega)) hI, iT_cg (fun g i k q => E0 g i k (by omega) (by omega) (by omega) (by omega) (by omega)) hT, iY_cg (fun g i k q => E0 g i k (by omega) (by omega) (by omega) (by omega) (by omega)) hY, iF_cg (fun g i k q => E0 g i k (by omega) (by omega) (by omega) (by omega) (by omega)) hF, iK_cg (fun g i k q => E0 g i k (by omega) (by omega) (by omega) (by omega) (by omega)) hK, iX_cg (fun g i k q => E0 g i k (by omega) (by omega) (by omega) (by omega) (by omega)) hX⟩
                obtain ⟨⟨p1, p2, p3, p4, p5, p6, p7, p8⟩, ⟨k1, k2, k3, k4, k5, k6, k7, k8⟩⟩ := hP
                have g61 : m' 61 = σ.1 61 := by funext i k; exact E0 61 i k (by omega) (by omega) (by omega) (by omega) (by omega)
                have g62 : m' 62 = σ.1 62 := by funext i k; exact E0 62 i k (by omega) (by omega) (by omega) (by omega) (by omega)
                have g84 : m' 84 = σ.1 84 := by funext i k; exact E0 84 i k (by omega) (by omega) (by omega) (by omega) (by omega)
                have g86 : m' 86 = σ.1 86 := by funext i k; exact E0 86 i k (by omega) (by omega) (by omega) (by omega) (by omega)
                have m43 : m' 48 0 43 = nI (R + 1) := by rw [hm]; exact kU_here
                have m4 : m' 4 0 3 = nI (R + 1) := by rw [M1 4 0 3 (by omega) (by omega), es1]; exact kU_here
                have v0 : m' 82 R 0 = nI kd ∧ m' 82 R 1 = a2 ∧ m' 82 R 2 = a3 ∧ m' 82 R 3 = a4 ∧ m' 82 R 4 = a5 ∧ m' 82 R 5 = 0 := by
                  rw [hm]
                  refine ⟨?_, ?_, ?_, ?_, ?_, ?_⟩ <;> simp [kU_at]
                have c0 : m' 24 0 R = nI kd ∧ m' 25 0 R = a2 ∧ m' 26 0 R = a3 ∧ m' 27 0 R = a4 ∧ m' 28 0 R = a5 ∧ m' 29 0 R = 0 := by
                  rw [M1 24 0 R (by omega) (by omega), M1 25 0 R (by omega) (by omega), M1 26 0 R (by omega) (by omega), M1 27 0 R (by omega) (by omega), M1 28 0 R (by omega) (by omega), M1 29 0 R (by omega) (by omega), es1]
                  refine ⟨?_, ?_, ?_, ?_, ?_, ?_⟩ <;> simp [kU_at]
                obtain ⟨v1, v2, v3, v4, v5, v6⟩ := v0
                obtain ⟨u1, u2, u3, u4, u5, u6⟩ := c0
                unfold iP
                rw [g61, g62, g84, g86, m43, E0 48 0 44 (by omega) (by omega) (by omega) (by omega) (by omega), E0 48 0 45 (by omega) (by omega) (by omega) (by omega) (by omega)]
                refine ⟨⟨m4, ?_, ?_, fun k hk => ?_, fun k hk => ?_, fun r hr => ?_, fun r hr => ?_, fun r hr => ?_⟩, ⟨?_, k2, k3, k4, k5, fun r hr => ?_, k7, k8⟩⟩
                · rw [E0 4 0 10 (by omega) (by omega) (by omega) (by omega) (by omega)]; exact p2
                · rw [E0 4 0 13 (by omega) (by omega) (by omega) (by omega) (by omega)]; exact p3
                · rw [E0 21 0 k (by omega) (by omega) (by omega) (by omega) (by omega)]; exact p4 k hk
                · rw [E0 22 0 k (by omega) (by omega) (by omega) (by omega) (by omega)]; exact p5 k hk
                · by_cases z : r = R
                  · subst z
                    rw [v1, v2, v3, v4, v5, v6]
                    exact ⟨u1, u2, u3, u4, u5, u6⟩
                  · rw [E0 24 0 r (by omega) (by omega) (by omega) (by omega) (by omega), E0 25 0 r (by omega) (by omega) (by omega) (by omega) (by omega), E0 26 0 r (by omega) (by omega) (by omega) (by omega) (by omega), E0 27 0 r (by omega) (by omega) (by omega) (by omega) (by omega), E0 28 0 r (by omega) (by omega) (by omega) (by omega) (by omega), E0 29 0 r (by omega) (by omega) (by omega) (by omega) (by omega), E0 82 r 0 (by omega) (by omega) (by omega) (by omega) (by omega), E0 82 r 1 (by omega) (by omega) (by omega) (by omega) (by omega), E0 82 r 2 (by omega) (by omega) (by omega) (by omega) (by omega), E0 82 r 3 (by omega) (by omega) (by omega) (by omega) (by omega), E0 82 r 4 (by omega) (by omega) (by omega) (by omega) (by omega), E0 82 r 5 (by omega) (by omega) (by omega) (by omega) (by omega)]
                    exact p6 r hr
                · rw [E0 30 0 r (by omega) (by omega) (by omega) (by omega) (by omega), E0 31 0 r (by omega) (by omega) (by omega) (by omega) (by omega)]
                  exact p7 r hr
                · rw [E0 32 0 r (by omega) (by omega) (by omega) (by omega) (by omega), E0 33 0 r (by omega) (by omega) (by omega) (by omega) (by omega), E0 34 0 r (by omega) (by omega) (by omega) (by omega) (by omega)]
                  exact p8 r hr
                · refine ⟨?_, ?_⟩
                  · rw [nI_toInt (by omega)]; omega
                  · rw [nI_toInt (by omega)]; omega
                · by_cases z : r = R
                  · subst z
                    rw [v1, v2, v3, v4, v5, v6]
                    rw [i_le, i_le] at c1 c2 c3 c4 c5
                    refine ⟨c1, c2, c3, ⟨?_, ?_⟩, c5, by decide, by decide⟩
                    · refine Int.le_trans ?_ c4.1
                      have : kd = 0 ∨ kd = 1 ∨ kd = 2 ∨ kd = 3 ∨ kd = 4 ∨ kd = 5 := by omega
                      rcases this with rfl | rfl | rfl | rfl | rfl | rfl <;> decide
                    · refine Int.le_trans c4.2 ?_
                      have : kd = 0 ∨ kd = 1 ∨ kd = 2 ∨ kd = 3 ∨ kd = 4 ∨ kd = 5 := by omega
                      rcases this with rfl | rfl | rfl | rfl | rfl | rfl <;> decide
                  · rw [E0 82 r 0 (by omega) (by omega) (by omega) (by omega) (by omega), E0 82 r 1 (by omega) (by omega) (by omega) (by omega) (by omega), E0 82 r 2 (by omega) (by omega) (by omega) (by omega) (by omega), E0 82 r 3 (by omega) (by omega) (by omega) (by omega) (by omega), E0 82 r 4 (by omega) (by omega) (by omega) (by omega) (by omega), E0 82 r 5 (by omega) (by omega) (by omega) (by omega) (by omega)]
                    exact k6 r hr
              · simp [kU_at]
              · show (ent σ1 (nI R).toInt64).2 90 0 0 = _
                rw [ent_2, nI_p (a := R + 1) (by omega) (by omega)]
                rfl
          · have hcl : f_X5_row F (nI kd) a2 a3 a4 a5 σ = some (.inr "java/lang/IllegalArgumentException", σ) := by
              unfold f_X5_row
              rw [t_with, if_pos c1, s_bv, t_with, if_pos c2, s_bv, t_with, if_pos c3, s_bv, t_rv (by omega), if_pos c4, s_bv, t_with, if_neg c5, s_xv]
            refine top_i (k := 1) (σ2 := σ) (by unfold w_row; rw [hcl]; rfl) ?_
            rw [m_row]
            unfold f_X6_row_b60
            simp only [x_in, s_bi, if10, if_pos c1, if_pos c2, if_pos c3, if_pos c4, if_neg c5, if1, if0, if_true]
            exact hbad σ h
        · have hcl : f_X5_row F (nI kd) a2 a3 a4 a5 σ = some (.inr "java/lang/IllegalArgumentException", σ) := by
            unfold f_X5_row
            rw [t_with, if_pos c1, s_bv, t_with, if_pos c2, s_bv, t_with, if_pos c3, s_bv, t_rv (by omega), if_neg c4, s_xv]
          refine top_i (k := 1) (σ2 := σ) (by unfold w_row; rw [hcl]; rfl) ?_
          rw [m_row]
          unfold f_X6_row_b60
          simp only [x_in, s_bi, if10, if_pos c1, if_pos c2, if_pos c3, if_neg c4, if1, if0, if_true]
          exact hbad σ h
      · have hcl : f_X5_row F (nI kd) a2 a3 a4 a5 σ = some (.inr "java/lang/IllegalArgumentException", σ) := by
          unfold f_X5_row
          rw [t_with, if_pos c1, s_bv, t_with, if_pos c2, s_bv, t_with, if_neg c3, s_xv]
        refine top_i (k := 1) (σ2 := σ) (by unfold w_row; rw [hcl]; rfl) ?_
        rw [m_row]
        unfold f_X6_row_b60
        simp only [x_in, s_bi, if10, if_pos c1, if_pos c2, if_neg c3, if1, if0, if_true]
        exact hbad σ h
    · have hcl : f_X5_row F (nI kd) a2 a3 a4 a5 σ = some (.inr "java/lang/IllegalArgumentException", σ) := by
        unfold f_X5_row
        rw [t_with, if_pos c1, s_bv, t_with, if_neg c2, s_xv]
      refine top_i (k := 1) (σ2 := σ) (by unfold w_row; rw [hcl]; rfl) ?_
      rw [m_row]
      unfold f_X6_row_b60
      simp only [x_in, s_bi, if10, if_pos c1, if_neg c2, if1, if0, if_true]
      exact hbad σ h
  · have hcl : f_X5_row F a1 a2 a3 a4 a5 σ = some (.inr "java/lang/IllegalArgumentException", σ) := by
      unfold f_X5_row
      rw [t_with, if_neg c1, s_xv]
    refine top_i (k := 1) (σ2 := σ) (by unfold w_row; rw [hcl]; rfl) ?_
    rw [m_row]
    unfold f_X6_row_b60
    simp only [x_in, s_bi, if10, if_neg c1, if1, if0, if_true]
    exact hbad σ h
theorem g_asked' {F : Nat} (a1 a2 : Int32) : Good (q_asked F a1 a2) := by
  intro nx σ h
  obtain ⟨t1, t2, t3, t4⟩ := inv_rows h
  by_cases c1 : 0 ≤ a1 ∧ a1 < σ.1 48 0 43
  · have c1' : 0 ≤ a1 ∧ a1 < σ.1 4 0 3 := by rw [t1]; exact c1
    have c1p : 0 ≤ a1 ∧ a1 ≤ σ.1 48 0 43 - 1 := ⟨c1.1, (le_pred ⟨t2.1, Int.le_trans t2.2 (by decide)⟩).mpr c1.2⟩
    obtain ⟨r, hr10, rfl⟩ := nI_ex (n := 10) (kin_of (n := 10) c1.1 c1.2 t2.2)
    have hkr : kin (nI r) 10 := (nI_kin (by omega)).mpr hr10
    have er : (nI r).toNatClampNeg = r := nI_c (by omega)
    by_cases c2 : 0 ≤ a2 ∧ a2 ≤ 99
    · obtain ⟨v, hv⟩ : ∃ v, v = kmin 8 (σ.1 28 0 r + a2 / 10) := ⟨_, rfl⟩
      have hcl : f_X5_asked F (nI r) a2 σ = some (.inl (some (.int v)), kU σ 29 0 r a2) := by
        unfold f_X5_asked
        rw [t_row, if_pos c1', s_bv, t_with, if_pos c2, s_bv, kg_t hkr, s_b, er, c_wrong hr10, s_bi, kU_here, hv]
        rfl
      refine top_i (k := 0) (σ2 := kUL (kU σ 29 0 r a2) 90 0 0 v.toInt64) (by unfold w_asked; rw [hcl]; rfl) ?_
      unfold f_X6_asked
      have e43 : (kU (kUL (kU σ 29 0 r a2) 90 0 0 v.toInt64) 48 0 0 0).1 48 0 43 = σ.1 48 0 43 := by rw [kU_k (by decide)]; rfl
      simp only [s_b, s_bi, x_in, if10, e43, if_pos c1p, f_X6_asked_b25, z_bad0 rfl, if0, if_true, f_X6_asked_b48, if_pos c2, if1, er, m_wrong hr10]
      refine n_g hkr (n_i ⟨?_, ?_, fun _ => ?_⟩)
      · obtain ⟨m', hm⟩ : ∃ m', m' = (kU (kU (kUL (kU σ 29 0 r a2) 90 0 0 v.toInt64) 48 0 0 0) 82 r 5 a2).1 := ⟨_, rfl⟩
        rw [← hm]
        have E0 : ∀ g i k, ¬ (g = 29 ∧ i = 0 ∧ k = r) → ¬ (g = 82 ∧ i = r ∧ k = 5) → ¬ (g = 48 ∧ i = 0 ∧ k = 0) → m' g i k = σ.1 g i k := fun g i k q1 q2 q3 => by
          rw [hm, kU_at, if_neg q2, kU_at, if_neg q3]
          show (kU σ 29 0 r a2).1 g i k = _
          rw [kU_at, if_neg q1]
        have m29 : m' 29 0 r = a2 := by rw [hm]; simp [kU_at, kUL]
        have m82 : m' 82 r 5 = a2 := by rw [hm]; exact kU_here
        obtain ⟨hP, hW, hI, hT, hY, hF, hK, hX⟩ := h
        refine ⟨?_, iW_cg (fun g i k q => E0 g i k (by omega) (by omega) (by omega)) hW, iI_cg (fun g i k q => E0 g i k (by omega) (by omega) (by omega)) (E0 48 0 13 (by omega) (by omega) (by omega)) hI, iT_cg (fun g i k q => E0 g i k (by omega) (by omega) (by omega)) hT, iY_cg (fun g i k q => E0 g i k (by omega) (by omega) (by omega)) hY, iF_cg (fun g i k q => E0 g i k (by omega) (by omega) (by omega)) hF, iK_cg (fun g i k q => E0 g i k (by omega) (by omega) (by omega)) hK, iX_cg (fun g i k q => E0 g i k (by omega) (by omega) (by omega)) hX⟩
        obtain ⟨⟨p1, p2, p3, p4, p5, p6, p7, p8⟩, ⟨k1, k2, k3, k4, k5, k6, k7, k8⟩⟩ := hP
        have g61 : m' 61 = σ.1 61 := by funext i k; exact E0 61 i k (by omega) (by omega) (by omega)
        have g62 : m' 62 = σ.1 62 := by funext i k; exact E0 62 i k (by omega) (by omega) (by omega)
        have g84 : m' 84 = σ.1 84 := by funext i k; exact E0 84 i k (by omega) (by omega) (by omega)
        have g86 : m' 86 = σ.1 86 := by funext i k; exact E0 86 i k (by omega) (by omega) (by omega)
        unfold iP
        rw [g61, g62, g84, g86, E0 48 0 43 (by omega) (by omega) (by omega), E0 48 0 44 (by omega) (by omega) (by omega), E0 48 0 45 (by omega) (by omega) (by omega)]
        refine ⟨⟨?_, ?_, ?_, fun k hk => ?_, fun k hk => ?_, fun q hq => ?_, fun q hq => ?_, fun q hq => ?_⟩, ⟨k1, k2, k3, k4, k5, fun q hq => ?_, k7, k8⟩⟩
        · rw [E0 4 0 3 (by omega) (by omega) (by omega)]; exact p1
        · rw [E0 4 0 10 (by omega) (by omega) (by omega)]; exact p2
        · rw [E0 4 0 13 (by omega) (by omega) (by omega)]; exact p3
        · rw [E0 21 0 k (by omega) (by omega) (by omega)]; exact p4 k hk
        · rw [E0 22 0 k (by omega) (by omega) (by omega)]; exact p5 k hk
        · obtain ⟨s1, s2, s3, s4, s5, s6⟩ := p6 q hq
          rw [E0 24 0 q (by omega) (by omega) (by omega), E0 25 0 q (by omega) (by omega) (by omega), E0 26 0 q (by omega) (by omega) (by omega), E0 27 0 q (by omega) (by omega) (by omega), E0 28 0 q (by omega) (by omega) (by omega), E0 82 q 0 (by omega) (by omega) (by omega), E0 82 q 1 (by omega) (by omega) (by omega), E0 82 q 2 (by omega) (by omega) (by omega), E0 82 q 3 (by omega) (by omega) (by omega), E0 82 q 4 (by omega) (by omega) (by omega)]
          refine ⟨s1, s2, s3, s4, s5, ?_⟩
          by_cases z : q = r
          · rw [z, m29, m82]
          · rw [E0 29 0 q (by omega) (by omega) (by omega), E0 82 q 5 (by omega) (by omega) (by omega)]; exact s6
        · rw [E0 30 0 q (by omega) (by omega) (by omega), E0 31 0 q (by omega) (by omega) (by omega)]
          exact p7 q hq
        · rw [E0 32 0 q (by omega) (by omega) (by omega), E0 33 0 q (by omega) (by omega) (by omega), E0 34 0 q (by omega) (by omega) (by omega)]
          exact p8 q hq
        · obtain ⟨s1, s2, s3, s4, s5, s6⟩ := k6 q hq
          rw [E0 82 q 0 (by omega) (by omega) (by omega), E0 82 q 1 (by omega) (by omega) (by omega), E0 82 q 2 (by omega) (by omega) (by omega), E0 82 q 3 (by omega) (by omega) (by omega), E0 82 q 4 (by omega) (by omega) (by omega)]
          refine ⟨s1, s2, s3, s4, s5, ?_⟩
          by_cases z : q = r
          · rw [z, m82]; rw [i_le, i_le] at c2; exact c2
          · rw [E0 82 q 5 (by omega) (by omega) (by omega)]; exact s6
      · simp [kU_at]
      · show (ent (kU σ 29 0 r a2) v.toInt64).2 90 0 0 = _
        rw [ent_2, hv, (t3 r hr10).2.2.2.2.1]
        unfold wrS
        rw [kU_here, kU_at, if_neg (by omega), ent_1 (by decide)]
        rfl
    · have hcl : f_X5_asked F (nI r) a2 σ = some (.inr "java/lang/IllegalArgumentException", σ) := by
        unfold f_X5_asked
        rw [t_row, if_pos c1', s_bv, t_with, if_neg c2, s_xv]
      refine top_i (k := 2) (σ2 := σ) (by unfold w_asked; rw [hcl]; rfl) ?_
      unfold f_X6_asked
      have e43 : (kU σ 48 0 0 0).1 48 0 43 = σ.1 48 0 43 := kU_k (by decide)
      simp only [s_b, s_bi, x_in, if10, e43, if_pos c1p, f_X6_asked_b25, z_bad0 rfl, if0, if_true, f_X6_asked_b48, if_neg c2, if1, z_bad1 two_ne, f_X6_asked_b55]
      exact n_i ⟨thr_inv h, z_thr, fun z => absurd z two_ne⟩
  · have c1' : ¬ (0 ≤ a1 ∧ a1 < σ.1 4 0 3) := by rw [t1]; exact c1
    have c1p : ¬ (0 ≤ a1 ∧ a1 ≤ σ.1 48 0 43 - 1) := fun z => c1 ⟨z.1, (le_pred ⟨t2.1, Int.le_trans t2.2 (by decide)⟩).mp z.2⟩
    have hcl : f_X5_asked F a1 a2 σ = some (.inr "java/lang/IndexOutOfBoundsException", σ) := by
      unfold f_X5_asked
      rw [t_row, if_neg c1', s_xv]
    refine top_i (k := 1) (σ2 := σ) (by unfold w_asked; rw [hcl]; rfl) ?_
    unfold f_X6_asked
    have e43 : (kU σ 48 0 0 0).1 48 0 43 = σ.1 48 0 43 := kU_k (by decide)
    simp only [s_b, s_bi, x_in, if10, e43, if_neg c1p, f_X6_asked_b25, if1, z_bad1 one_ne, f_X6_asked_b55, if0, if_true]
    exact n_i ⟨thr_inv h, z_thr, fun z => absurd z one_ne⟩
