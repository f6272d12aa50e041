/-! BEFORE, OPTION. -/
theorem g_before' {F : Nat} (hF : 2000 ≤ F) (a1 a2 : Int32) : Good (q_before F a1 a2) := by
  intro nx σ h
  obtain ⟨b1, b2, b3, b4, b5⟩ := inv_bef h
  obtain ⟨N, hN⟩ : ∃ N, N = (σ.1 48 0 44).toNatClampNeg := ⟨_, rfl⟩
  rw [← hN] at b2 b3
  have b10 : σ.1 4 0 10 = nI N := b1.trans b2
  have hbad : RI (f_X6_before_b27 F a1 a2 (kU σ 48 0 0 0)) (fun b σ4 => Inv σ4.1 ∧ σ4.1 48 0 0 = 1 ∧ ((1 : Int32) = 0 → σ4.2 90 0 0 = b.toInt64)) := by
    unfold f_X6_before_b27 f_X6_before_b32
    rw [z_bad1 one_ne, s_bi]
    exact n_f one_ne (n_i ⟨thr_inv h, z_thr, fun z => absurd z one_ne⟩)
  by_cases c1 : 0 ≤ a1 ∧ a1 ≤ 99
  · have d1 : f_X5_testNumber F 0 a1 σ = some (.inl none, σ) := (t_num (k := 0) (by omega)).trans (if_pos c1)
    by_cases c2 : 0 ≤ a2 ∧ a2 ≤ 999
    · have d2 : f_X5_testNumber F 2 a2 σ = some (.inl none, σ) := (t_num (k := 2) (by omega)).trans (if_pos c2)
      by_cases hfull : N = 10
      · have hcl : f_X5_before F a1 a2 σ = some (.inl (some (.int (-1))), σ) := by
          unfold f_X5_before
          rw [d1, s_bv, d2, s_bv, s_b, b10, if_neg (by rw [hfull]; decide)]
        refine top_i (k := 0) (σ2 := kUL σ 90 0 0 (-1 : Int32).toInt64) (by unfold w_before; rw [hcl]; rfl) ?_
        unfold f_X6_before
        simp only [s_b, x_in, s_bi, if10, if_pos c1, if_pos c2, f_X6_before_b32, z_bad0 rfl, if0, if_true, if1]
        refine n_t (by rw [ent_48 (by decide), b2, hfull]; rfl) (n_i ⟨ent_inv h, z_thr, fun _ => ent_2⟩)
      · have hkN : kin (nI N) 10 := (nI_kin (by omega)).mpr (by omega)
        have eN : (nI N).toNatClampNeg = N := nI_c (by omega)
        have eS : nI N + 1 = nI (N + 1) := nI_s (by omega)
        obtain ⟨σ0, es0⟩ : ∃ σ0, σ0 = kU (kU (kU σ 30 0 N a1) 31 0 N a2) 4 0 10 (nI (N + 1)) := ⟨_, rfl⟩
        obtain ⟨σ1, e1, f1, f2⟩ := rv_get (x_fillK hF (σ := σ0) (v := -1))
        have hs1 : σ1.1 4 0 10 = nI (N + 1) := by rw [f2.1 4 0 10 rfl, es0]; exact kU_here
        have hcl : f_X5_before F a1 a2 σ = some (.inl (some (.int (nI (N + 1)))), σ1) := by
          unfold f_X5_before f_X5_forgetBurnt
          rw [d1, s_bv, d2, s_bv, s_b, b10, if_pos (by show nI N < nI 10; rw [nJ_lt (by omega) (by omega)]; omega)]
          simp only [kg_t hkN, s_b, eN, eS]
          rw [← es0, e1, s_bv, s_bv, hs1]
        refine top_i (k := 0) (σ2 := kUL σ1 90 0 0 (nI (N + 1)).toInt64) (by unfold w_before; rw [hcl]; rfl) ?_
        unfold f_X6_before
        have e44 : (kU (kUL σ1 90 0 0 (nI (N + 1)).toInt64) 48 0 0 0).1 48 0 44 = nI N := by
          rw [kU_k (by decide)]
          show σ1.1 48 0 44 = _
          rw [f2.1 48 0 44 rfl, es0]; exact b2
        simp only [s_b, x_in, s_bi, if10, if_pos c1, if_pos c2, f_X6_before_b32, z_bad0 rfl, if0, if_true, if1, kU84, e44, eN, eS, kg_t hkN, kU_here]
        refine n_f (by show ¬ nI N = nI 10; rw [nI_inj (by omega) (by omega)]; exact hfull) (n_i ⟨?_, ?_, fun _ => ?_⟩)
        · obtain ⟨m', hm⟩ : ∃ m', m' = (kU (kU (kU (kU (kUL σ1 90 0 0 (nI (N + 1)).toInt64) 48 0 0 0) 84 N 0 a1) 84 N 1 a2) 48 0 44 (nI (N + 1))).1 := ⟨_, rfl⟩
          rw [← hm]
          have M1 : ∀ g i k, g ≠ 48 → g ≠ 84 → m' g i k = σ1.1 g i k := fun g i k q1 q2 => by
            rw [hm, kU_at, if_neg (by omega), kU_at, if_neg (by omega), kU_at, if_neg (by omega), kU_at, if_neg (by omega)]
            rfl
          have E0 : ∀ g i k, ¬ (30 ≤ g ∧ g ≤ 31 ∧ i = 0 ∧ k = N) → ¬ (g = 4 ∧ i = 0 ∧ k = 10) → ¬ (g = 84 ∧ i = N) → ¬ (g = 48 ∧ i = 0 ∧ k = 0) → ¬ (g = 48 ∧ i = 0 ∧ k = 44) → g ≠ 8 → m' g i k = σ.1 g i k := fun g i k q1 q2 q3 q4 q5 q6 => by
            rw [hm, kU_at, if_neg q5, kU_at, if_neg (by omega), kU_at, if_neg (by omega), kU_at, if_neg q4]
            show σ1.1 g i k = _
            rw [f2.1 g i k (by show List.contains _ _ = false; simp; omega), es0, kU_at, if_neg q2, kU_at, if_neg (by omega), kU_at, if_neg (by omega)]
          obtain ⟨hP, hW, hI, hT, hY, hF', hK, hX⟩ := h
          refine ⟨?_, iW_cg (fun g i k q => E0 g i k (by omega) (by omega) (by omega) (by omega) (by omega) (by omega)) hW, iI_cg (fun g i k q => E0 g i k (by omega) (by omega) (by omega) (by omega) (by omega) (by omega)) (E0 48 0 13 (by omega) (by omega) (by omega) (by omega) (by omega) (by omega)) hI, iT_cg (fun g i k q => E0 g i k (by omega) (by omega) (by omega) (by omega) (by omega) (by omega)) hT, iY_cg (fun g i k q => E0 g i k (by omega) (by omega) (by omega) (by omega) (by omega) (by omega)) hY, iF_cg (fun g i k q => E0 g i k (by omega) (by omega) (by omega) (by omega) (by omega) (by omega)) hF', iK_0 (fun w hw => ?_), iX_cg (fun g i k q => E0 g i k (by omega) (by omega) (by omega) (by omega) (by omega) (by omega)) hX⟩
          · obtain ⟨⟨p1, p2, p3, p4, p5, p6, p7, p8⟩, ⟨k1, k2, k3, k4, k5, k6, k7, k8⟩⟩ := hP
            have g61 : m' 61 = σ.1 61 := by funext i k; exact E0 61 i k (by omega) (by omega) (by omega) (by omega) (by omega) (by omega)
            have g62 : m' 62 = σ.1 62 := by funext i k; exact E0 62 i k (by omega) (by omega) (by omega) (by omega) (by omega) (by omega)
            have g82 : m' 82 = σ.1 82 := by funext i k; exact E0 82 i k (by omega) (by omega) (by omega) (by omega) (by omega) (by omega)
            have g86 : m' 86 = σ.1 86 := by funext i k; exact E0 86 i k (by omega) (by omega) (by omega) (by omega) (by omega) (by omega)
            have m44 : m' 48 0 44 = nI (N + 1) := by rw [hm]; exact kU_here
            have m4 : m' 4 0 10 = nI (N + 1) := by rw [M1 4 0 10 (by omega) (by omega)]; exact hs1
            have v1 : m' 84 N 0 = a1 := by rw [hm]; simp [kU_at]
            have v2 : m' 84 N 1 = a2 := by rw [hm]; simp [kU_at]
            have u1 : m' 30 0 N = a1 := by rw [M1 30 0 N (by omega) (by omega), f2.1 30 0 N rfl, es0]; simp [kU_at]
            have u2 : m' 31 0 N = a2 := by rw [M1 31 0 N (by omega) (by omega), f2.1 31 0 N rfl, es0]; simp [kU_at]
            unfold iP
            rw [g61, g62, g82, g86, m44, E0 48 0 43 (by omega) (by omega) (by omega) (by omega) (by omega) (by omega), E0 48 0 45 (by omega) (by omega) (by omega) (by omega) (by omega) (by omega)]
            refine ⟨⟨?_, m4, ?_, fun k hk => ?_, fun k hk => ?_, fun r hr => ?_, fun r hr => ?_, fun r hr => ?_⟩, ⟨k1, ?_, k3, k4, k5, k6, fun r hr => ?_, k8⟩⟩
            · rw [E0 4 0 3 (by omega) (by omega) (by omega) (by omega) (by omega) (by omega)]; exact p1
            · rw [E0 4 0 13 (by omega) (by omega) (by omega) (by omega) (by omega) (by omega)]; exact p3
            · rw [E0 21 0 k (by omega) (by omega) (by omega) (by omega) (by omega) (by omega)]; exact p4 k hk
            · rw [E0 22 0 k (by omega) (by omega) (by omega) (by omega) (by omega) (by omega)]; exact p5 k hk
            · rw [E0 24 0 r (by omega) (by omega) (by omega) (by omega) (by omega) (by omega), E0 25 0 r (by omega) (by omega) (by omega) (by omega) (by omega) (by omega), E0 26 0 r (by omega) (by omega) (by omega) (by omega) (by omega) (by omega), E0 27 0 r (by omega) (by omega) (by omega) (by omega) (by omega) (by omega), E0 28 0 r (by omega) (by omega) (by omega) (by omega) (by omega) (by omega), E0 29 0 r (by omega) (by omega) (by omega) (by omega) (by omega) (by omega)]
              exact p6 r hr
            · by_cases z : r = N
              · rw [z, v1, v2]; exact ⟨u1, u2⟩
              · rw [E0 30 0 r (by omega) (by omega) (by omega) (by omega) (by omega) (by omega), E0 31 0 r (by omega) (by omega) (by omega) (by omega) (by omega) (by omega), E0 84 r 0 (by omega) (by omega) (by omega) (by omega) (by omega) (by omega), E0 84 r 1 (by omega) (by omega) (by omega) (by omega) (by omega) (by omega)]
                exact p7 r hr
            · rw [E0 32 0 r (by omega) (by omega) (by omega) (by omega) (by omega) (by omega), E0 33 0 r (by omega) (by omega) (by omega) (by omega) (by omega) (by omega), E0 34 0 r (by omega) (by omega) (by omega) (by omega) (by omega) (by omega)]
              exact p8 r hr
            · refine ⟨?_, ?_⟩
              · rw [nI_toInt (by omega)]; omega
              · rw [nI_toInt (by omega)]; omega
            · by_cases z : r = N
              · rw [z, v1, v2]
                rw [i_le, i_le] at c1 c2
                exact ⟨c1, c2⟩
              · rw [E0 84 r 0 (by omega) (by omega) (by omega) (by omega) (by omega) (by omega), E0 84 r 1 (by omega) (by omega) (by omega) (by omega) (by omega) (by omega)]
                exact k7 r hr
          · rw [M1 8 0 w (by omega) (by omega)]; exact f1 w hw
        · simp [kU_at]
        · show (ent σ1 (nI (N + 1)).toInt64).2 90 0 0 = _
          rw [ent_2]
    · have d2 : f_X5_testNumber F 2 a2 σ = some (.inr "java/lang/IllegalArgumentException", σ) := (t_num (k := 2) (by omega)).trans (if_neg c2)
      have hcl : f_X5_before F a1 a2 σ = some (.inr "java/lang/IllegalArgumentException", σ) := by
        unfold f_X5_before
        rw [d1, s_bv, d2, s_xv]
      refine top_i (k := 1) (σ2 := σ) (by unfold w_before; rw [hcl]; rfl) ?_
      unfold f_X6_before
      simp only [s_b, x_in, s_bi, if10, if_pos c1, if_neg c2, if0, if_true, if1]
      exact hbad
  · have d1 : f_X5_testNumber F 0 a1 σ = some (.inr "java/lang/IllegalArgumentException", σ) := (t_num (k := 0) (by omega)).trans (if_neg c1)
    have hcl : f_X5_before F a1 a2 σ = some (.inr "java/lang/IllegalArgumentException", σ) := by
      unfold f_X5_before
      rw [d1, s_xv]
    refine top_i (k := 1) (σ2 := σ) (by unfold w_before; rw [hcl]; rfl) ?_
    unfold f_X6_before
    simp only [s_b, x_in, s_bi, if10, if_neg c1, if0, if_true, if1]
    exact hbad
theorem g_option' {F : Nat} (a1 a2 a3 : Int32) : Good (q_option F a1 a2 a3) := by
  intro nx σ h
  obtain ⟨N, hN5, hN0, hN, hN4, o1, o2⟩ := inv_opt h
  have hthr : ∀ o : Option kR, o = some (.inl (some (.int 0)), kU (kU σ 48 0 0 0) 48 0 0 1) → RI o (fun b σ4 => Inv σ4.1 ∧ σ4.1 48 0 0 = 1 ∧ ((1 : Int32) = 0 → σ4.2 90 0 0 = b.toInt64)) := by
    rintro o rfl
    exact n_i ⟨thr_inv h, z_thr, fun z => absurd z one_ne⟩
  by_cases c1 : 0 ≤ a1 ∧ a1 ≤ 9
  · obtain ⟨j, hj, rfl⟩ := r_nI (b := 9) c1 (by omega)
    by_cases c2 : lowI (nI j) ≤ a2 ∧ a2 ≤ higI (nI j)
    · by_cases c3 : 0 ≤ a3 ∧ a3 ≤ 999
      · by_cases hfull : N = 5
        · have hcl : f_X5_option F (nI j) a2 a3 σ = some (.inl (some (.int (-1))), σ) := by
            unfold f_X5_option
            rw [t_num (by omega), if_pos c2, s_bv, t_with, if_pos c3, s_bv, s_b, hN4, if_neg (by rw [hfull]; decide)]
          refine top_i (k := 0) (σ2 := kUL σ 90 0 0 (-1 : Int32).toInt64) (by unfold w_option; rw [hcl]; rfl) ?_
          unfold f_X6_option
          simp only [s_b, x_in, s_bi, if10, if_pos c1, if_pos c3, f_X6_option_b32, z_bad0 rfl, if0, if_true, if1, m_low, m_hig, if_pos c2, f_X6_option_b60]
          refine n_t (by rw [ent_48 (by decide), hN, hfull]; rfl) (n_i ⟨ent_inv h, z_thr, fun _ => ent_2⟩)
        · have hkN : kin (nI N) 5 := (nI_kin (by omega)).mpr (by omega)
          have eN : (nI N).toNatClampNeg = N := nI_c (by omega)
          have eS : nI N + 1 = nI (N + 1) := nI_s (by omega)
          obtain ⟨σ1, es1⟩ : ∃ σ1, σ1 = kU (kU (kU (kU σ 32 0 N (nI j)) 33 0 N a2) 34 0 N a3) 4 0 13 (nI (N + 1)) := ⟨_, rfl⟩
          have hcl : f_X5_option F (nI j) a2 a3 σ = some (.inl (some (.int (nI N))), σ1) := by
            unfold f_X5_option
            rw [t_num (by omega), if_pos c2, s_bv, t_with, if_pos c3, s_bv, s_b, hN4, if_pos (by show nI N < nI 5; rw [nJ_lt (by omega) (by omega)]; omega)]
            simp only [kg_t hkN, s_b, eN, eS]
            rw [es1]
          refine top_i (k := 0) (σ2 := kUL σ1 90 0 0 (nI N).toInt64) (by unfold w_option; rw [hcl]; rfl) ?_
          unfold f_X6_option
          have e45 : (kU (kUL σ1 90 0 0 (nI N).toInt64) 48 0 0 0).1 48 0 45 = nI N := by
            rw [kU_k (by decide)]
            show σ1.1 48 0 45 = _
            rw [es1]; exact hN
          simp only [s_b, x_in, s_bi, if10, if_pos c1, if_pos c3, f_X6_option_b32, z_bad0 rfl, if0, if_true, if1, m_low, m_hig, if_pos c2, f_X6_option_b60, kU86, e45, eN, eS, kg_t hkN, kU_here]
          refine n_f (by show ¬ nI N = nI 5; rw [nI_inj (by omega) (by omega)]; exact hfull) (n_i ⟨?_, ?_, fun _ => ?_⟩)
          · obtain ⟨m', hm⟩ : ∃ m', m' = (kU (kU (kU (kU (kU (kUL σ1 90 0 0 (nI N).toInt64) 48 0 0 0) 86 N 0 (nI j)) 86 N 1 a2) 86 N 2 a3) 48 0 45 (nI (N + 1))).1 := ⟨_, rfl⟩
            rw [← hm]
            have M1 : ∀ g i k, g ≠ 48 → g ≠ 86 → m' g i k = σ1.1 g i k := fun g i k q1 q2 => by
              rw [hm, kU_at, if_neg (by omega), kU_at, if_neg (by omega), kU_at, if_neg (by omega), kU_at, if_neg (by omega), kU_at, if_neg (by omega)]
              rfl
            have E0 : ∀ g i k, ¬ (32 ≤ g ∧ g ≤ 34 ∧ i = 0 ∧ k = N) → ¬ (g = 4 ∧ i = 0 ∧ k = 13) → ¬ (g = 86 ∧ i = N) → ¬ (g = 48 ∧ i = 0 ∧ k = 0) → ¬ (g = 48 ∧ i = 0 ∧ k = 45) → m' g i k = σ.1 g i k := fun g i k q1 q2 q3 q4 q5 => by
              rw [hm, kU_at, if_neg q5, kU_at, if_neg (by omega), kU_at, if_neg (by omega), kU_at, if_neg (by omega), kU_at, if_neg q4]
              show σ1.1 g i k = _
              rw [es1, kU_at, if_neg q2, kU_at, if_neg (by omega), kU_at, if_neg (by omega), kU_at, if_neg (by omega)]
            obtain ⟨hP, hW, hI, hT, hY, hF, hK, hX⟩ := h
            refine ⟨?_, iW_cg (fun g i k q => E0 g i k (by omega) (by omega) (by omega) (by omega) (by omega)) hW, iI_cg (fun g i k q => E0 g i k (by omega) (by omega) (by omega) (by omega) (by omega)) (E0 48 0 13 (by omega) (by omega) (by omega) (by omega) (by omega)) hI, iT_cg (fun g i k q => E0 g i k (by omega) (by omega) (by omega) (by omega) (by omega)) hT, iY_cg (fun g i k q => E0 g i k (by omega) (by omega) (by omega) (by omega) (by omega)) hY, iF_cg (fun g i k q => E0 g i k (by omega) (by omega) (by omega) (by omega) (by omega)) hF, iK_cg (fun g i k q => E0 g i k (by omega) (by omega) (by omega) (by omega) (by omega)) hK, iX_cg (fun g i k q => E0 g i k (by omega) (by omega) (by omega) (by omega) (by omega)) hX⟩
            obtain ⟨⟨p1, p2, p3, p4, p5, p6, p7, p8⟩, ⟨k1, k2, k3, k4, k5, k6, k7, k8⟩⟩ := hP
            have g61 : m' 61 = σ.1 61 := by funext i k; exact E0 61 i k (by omega) (by omega) (by omega) (by omega) (by omega)
            have g62 : m' 62 = σ.1 62 := by funext i k; exact E0 62 i k (by omega) (by omega) (by omega) (by omega) (by omega)
            have g82 : m' 82 = σ.1 82 := by funext i k; exact E0 82 i k (by omega) (by omega) (by omega) (by omega) (by omega)
            have g84 : m' 84 = σ.1 84 := by funext i k; exact E0 84 i k (by omega) (by omega) (by omega) (by omega) (by omega)
            have m45 : m' 48 0 45 = nI (N + 1) := by rw [hm]; exact kU_here
            have m4 : m' 4 0 13 = nI (N + 1) := by rw [M1 4 0 13 (by omega) (by omega), es1]; exact kU_here
            have v1 : m' 86 N 0 = nI j := by rw [hm]; simp [kU_at]
            have v2 : m' 86 N 1 = a2 := by rw [hm]; simp [kU_at]
            have v3 : m' 86 N 2 = a3 := by rw [hm]; simp [kU_at]
            have u1 : m' 32 0 N = nI j := by rw [M1 32 0 N (by omega) (by omega), es1]; simp [kU_at]
            have u2 : m' 33 0 N = a2 := by rw [M1 33 0 N (by omega) (by omega), es1]; simp [kU_at]
            have u3 : m' 34 0 N = a3 := by rw [M1 34 0 N (by omega) (by omega), es1]; simp [kU_at]
            unfold iP
            rw [g61, g62, g82, g84, m45, E0 48 0 43 (by omega) (by omega) (by omega) (by omega) (by omega), E0 48 0 44 (by omega) (by omega) (by omega) (by omega) (by omega)]
            refine ⟨⟨?_, ?_, m4, fun k hk => ?_, fun k hk => ?_, fun r hr => ?_, fun r hr => ?_, fun r hr => ?_⟩, ⟨k1, k2, ?_, k4, k5, k6, k7, fun r hr => ?_⟩⟩
            · rw [E0 4 0 3 (by omega) (by omega) (by omega) (by omega) (by omega)]; exact p1
            · rw [E0 4 0 10 (by omega) (by omega) (by omega) (by omega) (by omega)]; exact p2
            · rw [E0 21 0 k (by omega) (by omega) (by omega) (by omega) (by omega)]; exact p4 k hk
            · rw [E0 22 0 k (by omega) (by omega) (by omega) (by omega) (by omega)]; exact p5 k hk
            · rw [E0 24 0 r (by omega) (by omega) (by omega) (by omega) (by omega), E0 25 0 r (by omega) (by omega) (by omega) (by omega) (by omega), E0 26 0 r (by omega) (by omega) (by omega) (by omega) (by omega), E0 27 0 r (by omega) (by omega) (by omega) (by omega) (by omega), E0 28 0 r (by omega) (by omega) (by omega) (by omega) (by omega), E0 29 0 r (by omega) (by omega) (by omega) (by omega) (by omega)]
              exact p6 r hr
            · rw [E0 30 0 r (by omega) (by omega) (by omega) (by omega) (by omega), E0 31 0 r (by omega) (by omega) (by omega) (by omega) (by omega)]
              exact p7 r hr
            · by_cases z : r = N
              · rw [z, v1, v2, v3]; exact ⟨u1, u2, u3⟩
              · rw [E0 32 0 r (by omega) (by omega) (by omega) (by omega) (by omega), E0 33 0 r (by omega) (by omega) (by omega) (by omega) (by omega), E0 34 0 r (by omega) (by omega) (by omega) (by omega) (by omega), E0 86 r 0 (by omega) (by omega) (by omega) (by omega) (by omega), E0 86 r 1 (by omega) (by omega) (by omega) (by omega) (by omega), E0 86 r 2 (by omega) (by omega) (by omega) (by omega) (by omega)]
                exact p8 r hr
            · refine ⟨?_, ?_⟩
              · rw [nI_toInt (by omega)]; omega
              · rw [nI_toInt (by omega)]; omega
            · by_cases z : r = N
              · rw [z, v1, v2, v3, nI_c (by omega)]
                rw [i_le, i_le] at c1 c3
                exact ⟨c1, low_rng (by omega) c2, c3⟩
              · rw [E0 86 r 0 (by omega) (by omega) (by omega) (by omega) (by omega), E0 86 r 1 (by omega) (by omega) (by omega) (by omega) (by omega), E0 86 r 2 (by omega) (by omega) (by omega) (by omega) (by omega)]
                exact k8 r hr
          · simp [kU_at]
          · show (ent σ1 (nI N).toInt64).2 90 0 0 = _
            rw [ent_2, nI_p (a := N + 1) (by omega) (by omega)]
            rfl
      · have hcl : f_X5_option F (nI j) a2 a3 σ = some (.inr "java/lang/IllegalArgumentException", σ) := by
          unfold f_X5_option
          rw [t_num (by omega), if_pos c2, s_bv, t_with, if_neg c3, s_xv]
        refine top_i (k := 1) (σ2 := σ) (by unfold w_option; rw [hcl]; rfl) (hthr _ ?_)
        unfold f_X6_option
        simp only [s_b, x_in, s_bi, if10, if_pos c1, if_neg c3, f_X6_option_b27, f_X6_option_b32, if0, if_true, if1, z_bad1 one_ne, f_X6_option_b67]
    · have hcl : f_X5_option F (nI j) a2 a3 σ = some (.inr "java/lang/IllegalArgumentException", σ) := by
        unfold f_X5_option
        rw [t_num (by omega), if_neg c2, s_xv]
      refine top_i (k := 1) (σ2 := σ) (by unfold w_option; rw [hcl]; rfl) (hthr _ ?_)
      unfold f_X6_option
      by_cases c3 : 0 ≤ a3 ∧ a3 ≤ 999
      · simp only [s_b, x_in, s_bi, if10, if_pos c1, if_pos c3, f_X6_option_b32, z_bad0 rfl, if0, if_true, if1, m_low, m_hig, if_neg c2, f_X6_option_b60, z_bad1 one_ne, f_X6_option_b67]
      · simp only [s_b, x_in, s_bi, if10, if_pos c1, if_neg c3, f_X6_option_b27, f_X6_option_b32, if0, if_true, if1, z_bad1 one_ne, f_X6_option_b67]
  · have hcl : f_X5_option F a1 a2 a3 σ = some (.inr "java/lang/IllegalArgumentException", σ) := by
      unfold f_X5_option
      rw [t_numx c1, s_xv]
    refine top_i (k := 1) (σ2 := σ) (by unfold w_option; rw [hcl]; rfl) (hthr _ ?_)
    unfold f_X6_option
    simp only [s_b, x_in, s_bi, if10, if_neg c1, f_X6_option_b27, f_X6_option_b32, if0, if_true, if1, z_bad1 one_ne, f_X6_option_b67]
