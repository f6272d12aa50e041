/-! IMAGE, RESTORE. -/
def cpF (a b : Nat) (σ σ' : kS) : Prop := (∀ k, k < 10 → σ'.1 21 a k = σ.1 21 b k) ∧ (∀ k, k < 8 → σ'.1 22 a k = σ.1 22 b k) ∧ (∀ k, k < 6 → σ'.1 23 a k = σ.1 23 b k) ∧ (σ'.1 4 a 3 = σ.1 4 b 3 ∧ σ'.1 4 a 10 = σ.1 4 b 10 ∧ σ'.1 4 a 13 = σ.1 4 b 13) ∧ (∀ k, k < 10 → σ'.1 24 a k = σ.1 24 b k ∧ σ'.1 25 a k = σ.1 25 b k ∧ σ'.1 26 a k = σ.1 26 b k ∧ σ'.1 27 a k = σ.1 27 b k ∧ σ'.1 28 a k = σ.1 28 b k ∧ σ'.1 29 a k = σ.1 29 b k) ∧ (∀ k, k < 10 → σ'.1 30 a k = σ.1 30 b k ∧ σ'.1 31 a k = σ.1 31 b k) ∧ (∀ k, k < 5 → σ'.1 32 a k = σ.1 32 b k ∧ σ'.1 33 a k = σ.1 33 b k ∧ σ'.1 34 a k = σ.1 34 b k) ∧ (∀ g i k, ¬ (i = a ∧ (g = 4 ∨ 21 ≤ g ∧ g ≤ 34)) → σ'.1 g i k = σ.1 g i k) ∧ σ'.2 = σ.2
theorem x_copyP {F : Nat} {σ : kS} {a b : Nat} : RV (f_X2_copyFrom F a b σ) (cpF a b σ) := by
  unfold f_X2_copyFrom
  refine n_v ⟨fun k hk => ?_, fun k hk => ?_, fun k hk => ?_, ⟨?_, ?_, ?_⟩, fun k hk => ⟨?_, ?_, ?_, ?_, ?_, ?_⟩, fun k hk => ⟨?_, ?_⟩, fun k hk => ⟨?_, ?_, ?_⟩, fun g i k q => ?_, rfl⟩
  · simp only [kCp_at, kU_at]; simp [hk]
  · simp only [kCp_at, kU_at]; simp [hk]
  · simp only [kCp_at, kU_at]; simp [hk]
  · simp only [kCp_at, kU_at]; simp
  · simp only [kCp_at, kU_at]; simp
  · simp only [kCp_at, kU_at]; simp
  · simp only [kCp_at, kU_at]; simp [hk]
  · simp only [kCp_at, kU_at]; simp [hk]
  · simp only [kCp_at, kU_at]; simp [hk]
  · simp only [kCp_at, kU_at]; simp [hk]
  · simp only [kCp_at, kU_at]; simp [hk]
  · simp only [kCp_at, kU_at]; simp [hk]
  · simp only [kCp_at, kU_at]; simp [hk]
  · simp only [kCp_at, kU_at]; simp [hk]
  · simp only [kCp_at, kU_at]; simp [hk]
  · simp only [kCp_at, kU_at]; simp [hk]
  · simp only [kCp_at, kU_at]; simp [hk]
  · rw [kCp_at, if_neg (by omega), kCp_at, if_neg (by omega), kCp_at, if_neg (by omega), kU_at, if_neg (by omega), kCp_at, if_neg (by omega), kCp_at, if_neg (by omega), kU_at, if_neg (by omega), kCp_at, if_neg (by omega), kCp_at, if_neg (by omega), kCp_at, if_neg (by omega), kCp_at, if_neg (by omega), kCp_at, if_neg (by omega), kCp_at, if_neg (by omega), kU_at, if_neg (by omega), kCp_at, if_neg (by omega), kCp_at, if_neg (by omega), kCp_at, if_neg (by omega)]
theorem inv_img {m : kM} (h : Inv m) : ∃ K, K ≤ 3 ∧ m 48 0 46 = nI K ∧ m 0 0 8 = nI K := by
  obtain ⟨e1, e2⟩ := rng_nI h.2.2.1.2.1
  exact ⟨_, by omega, e1, h.2.2.1.1.trans e1⟩
theorem g_image' {F : Nat} (hF : 2000 ≤ F) : Good (q_image F) := by
  intro nx σ h
  obtain ⟨K, hK3, hK, hK0⟩ := inv_img h
  obtain ⟨ht, htr⟩ := inv_told h
  by_cases hfull : K = 3
  · have hcl : f_X5_image F σ = some (.inl (some (.int (-1))), σ) := by
      unfold f_X5_image
      rw [hK0, if_neg (by rw [hfull]; decide)]
    refine top_p hcl ?_
    unfold f_X6_image
    refine n_b (n_t (by rw [kU_k (by decide), hK, hfull]; rfl) (n_i ⟨Inv_thr h, rfl⟩))
  · have hkK : kin (nI K) 3 := (nI_kin (by omega)).mpr (by omega)
    obtain ⟨σ0, e0, c1, c2, c3, ⟨c4, c5, c6⟩, c7, c8, c9, c10, c11⟩ := rv_get (x_copyP (F := F) (σ := σ) (a := K + 1) (b := 0))
    have k08 : σ0.1 0 0 8 = nI K := (c10 0 0 8 (by omega)).trans hK0
    have hcl : f_X5_image F σ = some (.inl (some (.int (nI (K + 1)))), kU σ0 0 0 8 (nI (K + 1))) := by
      unfold f_X5_image
      rw [hK0, if_pos (by show nI K < nI 3; rw [nJ_lt (by omega) (by omega)]; omega), kg_t hkK, s_b, nI_c (by omega), e0, s_bv, k08, nI_s (by omega), s_b, kU_here]
    refine top_p hcl ?_
    unfold f_X6_image
    refine n_b ?_
    obtain ⟨σ1, es1⟩ : ∃ σ1, σ1 = kU (kU σ0 0 0 8 (nI (K + 1))) 48 0 0 0 := ⟨_, rfl⟩
    rw [← es1]
    have E1 : ∀ g i k, ¬ (i = K + 1 ∧ (g = 4 ∨ 21 ≤ g ∧ g ≤ 34)) → ¬ (g = 0 ∧ i = 0 ∧ k = 8) → ¬ (g = 48 ∧ i = 0 ∧ k = 0) → σ1.1 g i k = σ.1 g i k := fun g i k q1 q2 q3 => by
      rw [es1, kU_at, if_neg q3, kU_at, if_neg q2]; exact c10 g i k q1
    have e46 : σ1.1 48 0 46 = nI K := (E1 48 0 46 (by omega) (by omega) (by omega)).trans hK
    have P1 : ∀ g k, (g = 4 ∨ 21 ≤ g ∧ g ≤ 34) → σ1.1 g (K + 1) k = σ0.1 g (K + 1) k := fun g k q => by rw [es1, kU_at, if_neg (by omega), kU_at, if_neg (by omega)]
    rw [e46]
    refine n_f (by show ¬ nI K = nI 3; rw [nI_inj (by omega) (by omega)]; exact hfull) ?_
    refine n_bv (m_movesAll hF (k := K) (bk := 0) (by omega) (fun z => absurd rfl z)) ?_
    rintro σ2 ⟨⟨d1, d2, d3⟩, ⟨d4, d5, d6, d7⟩, d8, d9, d10, d11, d12, d13, d14, d15, d16⟩
    simp only [if_true] at d1 d2 d3 d4 d5 d6 d7 d8 d9 d10 d11 d12 d13
    have d16 := d16 rfl
    refine n_b ?_
    have e46' : σ2.1 48 0 46 = nI K := (d14 48 0 46 (by omega) (by omega) (by omega) (by omega) (by omega) (by omega) (by omega) (by omega)).trans e46
    rw [e46', nI_s (by omega), kU_here]
    refine n_i ⟨?_, rfl⟩
    obtain ⟨m', hm⟩ : ∃ m', m' = (kU σ2 48 0 46 (nI (K + 1))).1 := ⟨_, rfl⟩
    rw [← hm]
    -- what stays
    have E0 : ∀ g i k, ¬ (i = K + 1 ∧ (g = 4 ∨ 21 ≤ g ∧ g ≤ 34)) → ¬ (g = 0 ∧ i = 0 ∧ k = 8) → ¬ (g = 88 ∧ i = K) → ¬ (g = 48 ∧ i = 0 ∧ (k = 0 ∨ k = 46 ∨ k = 51)) → m' g i k = σ.1 g i k := fun g i k q1 q2 q3 q4 => by
      rw [hm, kU_at, if_neg (by omega)]
      by_cases c : g = 61 ∨ g = 62 ∨ g = 58 ∨ g = 82 ∨ g = 84 ∨ g = 86
      · rw [d16 g i k c, E1 g i k q1 q2 (by omega)]
      · by_cases c2 : g = 48 ∧ i = 0 ∧ (k = 43 ∨ k = 44 ∨ k = 45)
        · obtain ⟨rfl, rfl, c3⟩ := c2
          rcases c3 with rfl | rfl | rfl
          · rw [d1, E1 48 0 43 (by omega) (by omega) (by omega)]
          · rw [d2, E1 48 0 44 (by omega) (by omega) (by omega)]
          · rw [d3, E1 48 0 45 (by omega) (by omega) (by omega)]
        · rw [d14 g i k (by omega) (by omega) (by omega) (by omega) (by omega) (by omega) q3 (by omega), E1 g i k q1 q2 (by omega)]
    have P0 : ∀ g k, (g = 4 ∨ 21 ≤ g ∧ g ≤ 34) → m' g (K + 1) k = σ0.1 g (K + 1) k := fun g k q => by
      rw [hm, kU_at, if_neg (by omega), d14 g (K + 1) k (by omega) (by omega) (by omega) (by omega) (by omega) (by omega) (by omega) (by omega)]; exact P1 g k q
    have V : ∀ p, m' 88 K p = σ2.1 88 K p := fun p => by rw [hm, kU_at, if_neg (by omega)]
    obtain ⟨hP, hW, hI, hT, hY, hF', hKk, hX⟩ := h
    refine ⟨iP_cg (fun g i k q => E0 g i k (by omega) (by omega) (by omega) (by omega)) hP, iW_cg (fun g i k q => E0 g i k (by omega) (by omega) (by omega) (by omega)) hW, ?_, iT_cg (fun g i k q => E0 g i k (by omega) (by omega) (by omega) (by omega)) hT, iY_cg (fun g i k q => E0 g i k (by omega) (by omega) (by omega) (by omega)) hY, iF_cg (fun g i k q => E0 g i k (by omega) (by omega) (by omega) (by omega)) hF', iK_cg (fun g i k q => E0 g i k (by omega) (by omega) (by omega) (by omega)) hKk, iX_cg (fun g i k q => E0 g i k (by omega) (by omega) (by omega) (by omega)) hX⟩
    have m46 : m' 48 0 46 = nI (K + 1) := by rw [hm]; exact kU_here
    have m08 : m' 0 0 8 = nI (K + 1) := by
      rw [hm, kU_at, if_neg (by omega), d14 0 0 8 (by omega) (by omega) (by omega) (by omega) (by omega) (by omega) (by omega) (by omega), es1, kU_at, if_neg (by omega)]
      exact kU_here
    refine ⟨m08.trans m46.symm, by rw [m46]; exact ⟨by rw [nI_toInt (by omega)]; omega, by rw [nI_toInt (by omega)]; omega⟩, fun k hk hlt => ?_⟩
    rw [m46, nJ_lt (by omega) (by omega)] at hlt
    rw [E0 48 0 13 (by omega) (by omega) (by omega) (by omega)]
    by_cases z : k = K
    · subst z
      obtain ⟨⟨p1, p2, p3, p4, p5, p6, p7, p8⟩, ⟨k1, k2, k3, k4, k5, k6, k7, k8⟩⟩ := hP
      have r0 : m' 88 k 0 = σ.1 48 0 43 := by rw [V, d4, E1 48 0 43 (by omega) (by omega) (by omega)]
      have r1 : m' 88 k 1 = σ.1 48 0 44 := by rw [V, d5, E1 48 0 44 (by omega) (by omega) (by omega)]
      have r2 : m' 88 k 2 = σ.1 48 0 45 := by rw [V, d6, E1 48 0 45 (by omega) (by omega) (by omega)]
      have r3 : m' 88 k 3 = σ.1 48 0 13 := by rw [V, d7, E1 48 0 13 (by omega) (by omega) (by omega)]
      have r4 : ∀ j, j < 10 → m' 88 k (4 + j) = σ.1 61 0 j := fun j hj => by rw [V, (d8 j hj).2, E1 61 0 j (by omega) (by omega) (by omega)]
      have r5 : ∀ j, j < 8 → m' 88 k (14 + j) = σ.1 62 0 j := fun j hj => by rw [V, (d9 j hj).2, E1 62 0 j (by omega) (by omega) (by omega)]
      have r6 : ∀ j, j < 6 → m' 88 k (22 + j) = σ.1 58 0 j := fun j hj => by rw [V, (d10 j hj).2, E1 58 0 j (by omega) (by omega) (by omega)]
      have r7 : ∀ r j, r < 10 → j < 6 → m' 88 k (28 + 6 * r + j) = σ.1 82 r j := fun r j hr hj => by rw [V, (d11 r j hr hj).2, E1 82 r j (by omega) (by omega) (by omega)]
      have r8 : ∀ r j, r < 10 → j < 2 → m' 88 k (88 + 2 * r + j) = σ.1 84 r j := fun r j hr hj => by rw [V, (d12 r j hr hj).2, E1 84 r j (by omega) (by omega) (by omega)]
      have r9 : ∀ r j, r < 5 → j < 3 → m' 88 k (108 + 3 * r + j) = σ.1 86 r j := fun r j hr hj => by rw [V, (d13 r j hr hj).2, E1 86 r j (by omega) (by omega) (by omega)]
      refine ⟨⟨?_, ?_, ?_, fun j hj => ?_, fun j hj => ?_, fun r hr => ?_, fun r hr => ?_, fun r hr => ?_⟩, ⟨?_, ?_, ?_, fun j hj => ?_, fun j hj => ?_, fun r hr => ?_, fun r hr => ?_, fun r hr => ?_⟩, ?_, ?_⟩
      · rw [r0, P0 4 3 (by omega), c4]; exact p1
      · rw [r1, P0 4 10 (by omega), c5]; exact p2
      · rw [r2, P0 4 13 (by omega), c6]; exact p3
      · rw [P0 21 j (by omega), c1 j hj]; show _ = m' 88 k (4 + j); rw [r4 j hj]; exact p4 j hj
      · rw [P0 22 j (by omega), c2 j hj]; show _ = m' 88 k (14 + j); rw [r5 j hj]; exact p5 j hj
      · obtain ⟨s1, s2, s3, s4, s5, s6⟩ := c7 r hr
        rw [P0 24 r (by omega), P0 25 r (by omega), P0 26 r (by omega), P0 27 r (by omega), P0 28 r (by omega), P0 29 r (by omega), s1, s2, s3, s4, s5, s6]
        dsimp only
        rw [r7 r 0 hr (by omega), r7 r 1 hr (by omega), r7 r 2 hr (by omega), r7 r 3 hr (by omega), r7 r 4 hr (by omega), r7 r 5 hr (by omega)]
        exact p6 r hr
      · obtain ⟨s1, s2⟩ := c8 r hr
        rw [P0 30 r (by omega), P0 31 r (by omega), s1, s2]
        dsimp only
        rw [r8 r 0 hr (by omega), r8 r 1 hr (by omega)]
        exact p7 r hr
      · obtain ⟨s1, s2, s3⟩ := c9 r hr
        rw [P0 32 r (by omega), P0 33 r (by omega), P0 34 r (by omega), s1, s2, s3]
        dsimp only
        rw [r9 r 0 hr (by omega), r9 r 1 hr (by omega), r9 r 2 hr (by omega)]
        exact p8 r hr
      · rw [r0]; exact k1
      · rw [r1]; exact k2
      · rw [r2]; exact k3
      · dsimp only; rw [r4 j hj]; exact k4 j hj
      · dsimp only; rw [r5 j hj]; exact k5 j hj
      · dsimp only
        rw [r7 r 0 hr (by omega), r7 r 1 hr (by omega), r7 r 2 hr (by omega), r7 r 3 hr (by omega), r7 r 4 hr (by omega), r7 r 5 hr (by omega)]
        exact k6 r hr
      · dsimp only
        rw [r8 r 0 hr (by omega), r8 r 1 hr (by omega)]
        exact k7 r hr
      · dsimp only
        rw [r9 r 0 hr (by omega), r9 r 1 hr (by omega), r9 r 2 hr (by omega)]
        exact k8 r hr
      · rw [r3, ← ht]
        refine ⟨hW.1, fun j hj => ?_⟩
        dsimp only
        rw [P0 23 j (by omega), c3 j hj, r6 j hj]
        exact hW.2 j hj
      · rw [r3]; exact Int32.le_refl _
    · obtain ⟨-, -, hI3⟩ := hI
      have hk2 : k < K := by omega
      have hh := hI3 k hk (by rw [hK, nJ_lt (by omega) (by omega)]; exact hk2)
      have G : ∀ g j, (g = 4 ∨ 21 ≤ g ∧ g ≤ 34) → m' g (k + 1) j = σ.1 g (k + 1) j := fun g j q => E0 g (k + 1) j (by omega) (by omega) (by omega) (by omega)
      have G88 : m' 88 k = σ.1 88 k := by funext j; exact E0 88 k j (by omega) (by omega) (by omega) (by omega)
      have G23 : m' 23 (k + 1) = σ.1 23 (k + 1) := by funext j; exact G 23 j (by omega)
      rw [G88, G23]
      refine ⟨?_, hh.2⟩
      have h1 := hh.1
      unfold papR at h1 ⊢
      simp only [G 4 3 (by omega), G 4 10 (by omega), G 4 13 (by omega), fun j => G 21 j (by omega), fun j => G 22 j (by omega), fun j => G 24 j (by omega), fun j => G 25 j (by omega), fun j => G 26 j (by omega), fun j => G 27 j (by omega), fun j => G 28 j (by omega), fun j => G 29 j (by omega), fun j => G 30 j (by omega), fun j => G 31 j (by omega), fun j => G 32 j (by omega), fun j => G 33 j (by omega), fun j => G 34 j (by omega)]
      exact h1
