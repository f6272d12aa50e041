/-! RESTORE. -/
theorem g_restore' {F : Nat} (hF : 2000 ≤ F) : Good (q_restore F) := by
  intro nx σ h
  obtain ⟨K, hK3, hK, hK0⟩ := inv_img h
  obtain ⟨ht, htr⟩ := inv_told h
  by_cases h0 : K = 0
  · have hcl : f_X5_restore F σ = some (.inl (some (.int (-1))), σ) := by
      unfold f_X5_restore
      rw [hK0, if_neg (by rw [h0]; decide)]
    refine top_p hcl ?_
    unfold f_X6_restore
    refine n_b (n_t (by rw [kU_k (by decide), hK, h0]; rfl) (n_i ⟨Inv_thr h, rfl⟩))
  · obtain ⟨k, rfl⟩ : ∃ k, K = k + 1 := ⟨K - 1, by omega⟩
    have hkk : kin (nI k) 3 := (nI_kin (by omega)).mpr (by omega)
    have ep : nI (k + 1) - 1 = nI k := nI_p (a := k + 1) (by omega) (by omega)
    obtain ⟨hI1, hI2, hI3⟩ := h.2.2.1
    obtain ⟨⟨p1, p2, p3, p4, p5, p6, p7, p8⟩, ⟨k1, k2, k3, k4, k5, k6, k7, k8⟩, hw, hwle⟩ := hI3 k (by omega) (by rw [hK, nJ_lt (by omega) (by omega)]; omega)
    obtain ⟨σ0, e0, c1, c2, c3, ⟨c4, c5, c6⟩, c7, c8, c9, c10, c11⟩ := rv_get (x_copyP (F := F) (σ := kU σ 0 0 8 (nI k)) (a := 0) (b := k + 1))
    obtain ⟨σ1, e1, f1, f2, f3, f4⟩ := rv_get (x_forget hF (σ := σ0))
    have k08 : σ1.1 0 0 8 = nI k := by rw [f3 0 0 8 (by omega) (by omega), c10 0 0 8 (by omega)]; exact kU_here
    have hcl : f_X5_restore F σ = some (.inl (some (.int (nI k))), σ1) := by
      unfold f_X5_restore
      rw [hK0, ep, if_pos (by show nI 0 < nI (k + 1); rw [nJ_lt (by omega) (by omega)]; omega), s_b, kU_here, kg_t hkk, s_b, nI_c (by omega), e0, s_bv, e1, s_bv, k08]
    refine top_p hcl ?_
    have S1 : ∀ g i j, ¬ (i = 0 ∧ (g = 4 ∨ 21 ≤ g ∧ g ≤ 34)) → ¬ (g = 0 ∧ i = 0 ∧ j = 8) → g ≠ 8 → ¬ (g = 40 ∧ j = 0) → σ1.1 g i j = σ.1 g i j := fun g i j q1 q2 q3 q4 => by
      rw [f3 g i j q3 q4, c10 g i j q1, kU_at, if_neg q2]
    unfold f_X6_restore
    refine n_b ?_
    obtain ⟨σ2, es2⟩ : ∃ σ2, σ2 = kU σ1 48 0 0 0 := ⟨_, rfl⟩
    rw [← es2]
    have e46 : σ2.1 48 0 46 = nI (k + 1) := by rw [es2, kU_k (by decide), S1 48 0 46 (by omega) (by omega) (by omega) (by omega)]; exact hK
    rw [e46, ep]
    refine n_f (by show ¬ nI (k + 1) = nI 0; rw [nI_inj (by omega) (by omega)]; omega) (n_b ?_)
    rw [kU_here]
    obtain ⟨σ3, es3⟩ : ∃ σ3, σ3 = kU σ2 48 0 46 (nI k) := ⟨_, rfl⟩
    rw [← es3]
    have S3 : ∀ g i j, ¬ (i = 0 ∧ (g = 4 ∨ 21 ≤ g ∧ g ≤ 34)) → ¬ (g = 0 ∧ i = 0 ∧ j = 8) → g ≠ 8 → ¬ (g = 40 ∧ j = 0) → ¬ (g = 48 ∧ i = 0 ∧ (j = 0 ∨ j = 46)) → σ3.1 g i j = σ.1 g i j := fun g i j q1 q2 q3 q4 q5 => by
      rw [es3, kU_at, if_neg (by omega), es2, kU_at, if_neg (by omega)]; exact S1 g i j q1 q2 q3 q4
    have T3 : ∀ g i j, g ≠ 48 → σ3.1 g i j = σ1.1 g i j := fun g i j q => by rw [es3, kU_at, if_neg (by omega), es2, kU_at, if_neg (by omega)]
    obtain ⟨hd, hd6⟩ := rng_nI hw.1
    refine n_bv (m_movesAll hF (k := k) (bk := 1) (by omega) (fun _ => ⟨(σ.1 88 k 3).toNatClampNeg, by omega, by rw [S3 88 k 3 (by omega) (by omega) (by omega) (by omega) (by omega)]; exact hd⟩)) ?_
    rintro σ4 ⟨⟨d1, d2, d3⟩, ⟨d4, d5, d6, d7⟩, d8, d9, d10, d11, d12, d13, d14, d15, -⟩
    simp only [if_neg one_ne] at d1 d2 d3 d8 d9 d10 d11 d12 d13
    have g88 : ∀ p, σ3.1 88 k p = σ.1 88 k p := fun p => S3 88 k p (by omega) (by omega) (by omega) (by omega) (by omega)
    have e46' : σ4.1 48 0 46 = nI k := by
      rw [d14 48 0 46 (by omega) (by omega) (by omega) (by omega) (by omega) (by omega) (by omega) (by omega), es3]; exact kU_here
    rw [e46']
    refine n_i ⟨?_, rfl⟩
    obtain ⟨m', hm⟩ : ∃ m', m' = σ4.1 := ⟨_, rfl⟩
    rw [← hm]
    rw [← hm] at d1 d2 d3 d8 d9 d10 d11 d12 d13 d14 e46'
    have E0 : ∀ g i j, g ≠ 61 → g ≠ 62 → g ≠ 58 → g ≠ 82 → g ≠ 84 → g ≠ 86 → ¬ (g = 88 ∧ i = k) → ¬ (i = 0 ∧ (g = 4 ∨ 21 ≤ g ∧ g ≤ 34)) → ¬ (g = 0 ∧ i = 0 ∧ j = 8) → g ≠ 8 → ¬ (g = 40 ∧ j = 0) → ¬ (g = 48 ∧ i = 0 ∧ (j = 0 ∨ j = 43 ∨ j = 44 ∨ j = 45 ∨ j = 46 ∨ j = 51)) → m' g i j = σ.1 g i j := fun g i j q1 q2 q3 q4 q5 q6 q7 q8 q9 q10 q11 q12 => by
      rw [d14 g i j q1 q2 q3 q4 q5 q6 q7 (by omega)]
      exact S3 g i j q8 q9 q10 q11 (by omega)
    have C0 : ∀ g i j, g < 48 → m' g i j = σ1.1 g i j := fun g i j q => by
      rw [d14 g i j (by omega) (by omega) (by omega) (by omega) (by omega) (by omega) (by omega) (by omega)]
      exact T3 g i j (by omega)
    have C1 : ∀ g j, (g = 4 ∨ 21 ≤ g ∧ g ≤ 34) → m' g 0 j = σ0.1 g 0 j := fun g j q => by rw [C0 g 0 j (by omega), f3 g 0 j (by omega) (by omega)]
    have D1 : ∀ g j, (g = 4 ∨ 21 ≤ g ∧ g ≤ 34) → (kU σ 0 0 8 (nI k)).1 g (k + 1) j = σ.1 g (k + 1) j := fun g j q => by rw [kU_at, if_neg (by omega)]
    obtain ⟨hP, hW, hI, hT, hY, -, -, hX⟩ := h
    refine ⟨⟨⟨?_, ?_, ?_, fun j hj => ?_, fun j hj => ?_, fun r hr => ?_, fun r hr => ?_, fun r hr => ?_⟩, ⟨?_, ?_, ?_, fun j hj => ?_, fun j hj => ?_, fun r hr => ?_, fun r hr => ?_, fun r hr => ?_⟩⟩, ?_, ?_, iT_cg (fun g i j q => E0 g i j (by omega) (by omega) (by omega) (by omega) (by omega) (by omega) (by omega) (by omega) (by omega) (by omega) (by omega) (by omega)) hT, iY_cg (fun g i j q => E0 g i j (by omega) (by omega) (by omega) (by omega) (by omega) (by omega) (by omega) (by omega) (by omega) (by omega) (by omega) (by omega)) hY, iF_0 (fun w hw => ?_), iK_0 (fun w hw => ?_), iX_cg (fun g i j q => E0 g i j (by omega) (by omega) (by omega) (by omega) (by omega) (by omega) (by omega) (by omega) (by omega) (by omega) (by omega) (by omega)) hX⟩
    · rw [C1 4 3 (by omega), c4, D1 4 3 (by omega), d1, g88]; exact p1
    · rw [C1 4 10 (by omega), c5, D1 4 10 (by omega), d2, g88]; exact p2
    · rw [C1 4 13 (by omega), c6, D1 4 13 (by omega), d3, g88]; exact p3
    · rw [C1 21 j (by omega), c1 j hj, D1 21 j (by omega), (d8 j hj).1, g88]; exact p4 j hj
    · rw [C1 22 j (by omega), c2 j hj, D1 22 j (by omega), (d9 j hj).1, g88]; exact p5 j hj
    · obtain ⟨s1, s2, s3, s4, s5, s6⟩ := c7 r hr
      rw [C1 24 r (by omega), C1 25 r (by omega), C1 26 r (by omega), C1 27 r (by omega), C1 28 r (by omega), C1 29 r (by omega), s1, s2, s3, s4, s5, s6, D1 24 r (by omega), D1 25 r (by omega), D1 26 r (by omega), D1 27 r (by omega), D1 28 r (by omega), D1 29 r (by omega), (d11 r 0 hr (by omega)).1, (d11 r 1 hr (by omega)).1, (d11 r 2 hr (by omega)).1, (d11 r 3 hr (by omega)).1, (d11 r 4 hr (by omega)).1, (d11 r 5 hr (by omega)).1, g88, g88, g88, g88, g88, g88]
      exact p6 r hr
    · obtain ⟨s1, s2⟩ := c8 r hr
      rw [C1 30 r (by omega), C1 31 r (by omega), s1, s2, D1 30 r (by omega), D1 31 r (by omega), (d12 r 0 hr (by omega)).1, (d12 r 1 hr (by omega)).1, g88, g88]
      exact p7 r hr
    · obtain ⟨s1, s2, s3⟩ := c9 r hr
      rw [C1 32 r (by omega), C1 33 r (by omega), C1 34 r (by omega), s1, s2, s3, D1 32 r (by omega), D1 33 r (by omega), D1 34 r (by omega), (d13 r 0 hr (by omega)).1, (d13 r 1 hr (by omega)).1, (d13 r 2 hr (by omega)).1, g88, g88, g88]
      exact p8 r hr
    · rw [d1, g88]; exact k1
    · rw [d2, g88]; exact k2
    · rw [d3, g88]; exact k3
    · rw [(d8 j hj).1, g88]; exact k4 j hj
    · rw [(d9 j hj).1, g88]; exact k5 j hj
    · rw [(d11 r 0 hr (by omega)).1, (d11 r 1 hr (by omega)).1, (d11 r 2 hr (by omega)).1, (d11 r 3 hr (by omega)).1, (d11 r 4 hr (by omega)).1, (d11 r 5 hr (by omega)).1, g88, g88, g88, g88, g88, g88]
      exact k6 r hr
    · rw [(d12 r 0 hr (by omega)).1, (d12 r 1 hr (by omega)).1, g88, g88]
      exact k7 r hr
    · rw [(d13 r 0 hr (by omega)).1, (d13 r 1 hr (by omega)).1, (d13 r 2 hr (by omega)).1, g88, g88, g88]
      exact k8 r hr
    · have e5 : m' 0 0 5 = σ.1 0 0 5 := E0 0 0 5 (by omega) (by omega) (by omega) (by omega) (by omega) (by omega) (by omega) (by omega) (by omega) (by omega) (by omega) (by omega)
      rw [e5]
      refine ⟨hW.1, fun j hj => ?_⟩
      obtain ⟨w1, w2⟩ := hw.2 j hj
      have a1 : m' 23 0 j = σ.1 23 (k + 1) j := by rw [C1 23 j (by omega), c3 j hj, D1 23 j (by omega)]
      have a2 : m' 58 0 j = (if nI j < σ.1 88 k 3 then σ.1 88 k (22 + j) else 10) := by rw [(d10 j hj).1, g88, g88]
      rw [a1, a2]
      refine ⟨w1, ?_⟩
      by_cases z : nI j < σ.1 88 k 3
      · rw [if_pos z] at w2 ⊢
        have : nI j < σ.1 0 0 5 := by
          rw [ht]
          rw [i_lt] at z ⊢
          rw [i_le] at hwle
          omega
        rw [if_pos this]
        exact w2
      · rw [if_neg z] at w2 ⊢
        rw [w2]
        exact (ite_or _ _).elim (fun e => by rw [e]) (fun e => by rw [e])
    · have m08 : m' 0 0 8 = nI k := by rw [C0 0 0 8 (by omega)]; exact k08
      refine ⟨m08.trans e46'.symm, by rw [e46']; exact ⟨by rw [nI_toInt (by omega)]; omega, by rw [nI_toInt (by omega)]; omega⟩, fun u hu hlt => ?_⟩
      rw [e46', nJ_lt (by omega) (by omega)] at hlt
      have hh := hI3 u hu (by rw [hK, nJ_lt (by omega) (by omega)]; omega)
      have G : ∀ g j, (g = 4 ∨ 21 ≤ g ∧ g ≤ 34) → m' g (u + 1) j = σ.1 g (u + 1) j := fun g j q => E0 g (u + 1) j (by omega) (by omega) (by omega) (by omega) (by omega) (by omega) (by omega) (by omega) (by omega) (by omega) (by omega) (by omega)
      have G88 : m' 88 u = σ.1 88 u := by funext j; exact E0 88 u j (by omega) (by omega) (by omega) (by omega) (by omega) (by omega) (by omega) (by omega) (by omega) (by omega) (by omega) (by omega)
      have G23 : m' 23 (u + 1) = σ.1 23 (u + 1) := by funext j; exact G 23 j (by omega)
      have G13 : m' 48 0 13 = σ.1 48 0 13 := E0 48 0 13 (by omega) (by omega) (by omega) (by omega) (by omega) (by omega) (by omega) (by omega) (by omega) (by omega) (by omega) (by omega)
      rw [G88, G23, G13]
      refine ⟨?_, hh.2⟩
      have h1 := hh.1
      unfold papR at h1 ⊢
      simp only [G 4 3 (by omega), G 4 10 (by omega), G 4 13 (by omega), fun j => G 21 j (by omega), fun j => G 22 j (by omega), fun j => G 24 j (by omega), fun j => G 25 j (by omega), fun j => G 26 j (by omega), fun j => G 27 j (by omega), fun j => G 28 j (by omega), fun j => G 29 j (by omega), fun j => G 30 j (by omega), fun j => G 31 j (by omega), fun j => G 32 j (by omega), fun j => G 33 j (by omega), fun j => G 34 j (by omega)]
      exact h1
    · rw [C0 40 w 0 (by omega)]; exact f1 w hw
    · rw [C0 8 0 w (by omega)]; exact f2 w hw
