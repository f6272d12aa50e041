/-! PARTS OF THE INVARIANT, cell by cell. -/
theorem iP_cg {m m' : kM} (E : ∀ g i k, ((g = 4 ∨ 21 ≤ g ∧ g ≤ 34 ∧ g ≠ 23) ∧ i = 0 ∨ g = 61 ∨ g = 62 ∨ g = 82 ∨ g = 84 ∨ g = 86 ∨ g = 48 ∧ 43 ≤ k ∧ k ≤ 45) → m' g i k = m g i k) (h : iP m) : iP m' := by
  have e4 : ∀ k, m' 4 0 k = m 4 0 k := fun k => E 4 0 k (by omega)
  have e21 : ∀ k, m' 21 0 k = m 21 0 k := fun k => E 21 0 k (by omega)
  have e22 : ∀ k, m' 22 0 k = m 22 0 k := fun k => E 22 0 k (by omega)
  have e24 : ∀ k, m' 24 0 k = m 24 0 k := fun k => E 24 0 k (by omega)
  have e25 : ∀ k, m' 25 0 k = m 25 0 k := fun k => E 25 0 k (by omega)
  have e26 : ∀ k, m' 26 0 k = m 26 0 k := fun k => E 26 0 k (by omega)
  have e27 : ∀ k, m' 27 0 k = m 27 0 k := fun k => E 27 0 k (by omega)
  have e28 : ∀ k, m' 28 0 k = m 28 0 k := fun k => E 28 0 k (by omega)
  have e29 : ∀ k, m' 29 0 k = m 29 0 k := fun k => E 29 0 k (by omega)
  have e30 : ∀ k, m' 30 0 k = m 30 0 k := fun k => E 30 0 k (by omega)
  have e31 : ∀ k, m' 31 0 k = m 31 0 k := fun k => E 31 0 k (by omega)
  have e32 : ∀ k, m' 32 0 k = m 32 0 k := fun k => E 32 0 k (by omega)
  have e33 : ∀ k, m' 33 0 k = m 33 0 k := fun k => E 33 0 k (by omega)
  have e34 : ∀ k, m' 34 0 k = m 34 0 k := fun k => E 34 0 k (by omega)
  have e61 : ∀ k, m' 61 0 k = m 61 0 k := fun k => E 61 0 k (by omega)
  have e62 : ∀ k, m' 62 0 k = m 62 0 k := fun k => E 62 0 k (by omega)
  have e82 : ∀ i k, m' 82 i k = m 82 i k := fun i k => E 82 i k (by omega)
  have e84 : ∀ i k, m' 84 i k = m 84 i k := fun i k => E 84 i k (by omega)
  have e86 : ∀ i k, m' 86 i k = m 86 i k := fun i k => E 86 i k (by omega)
  have k43 : m' 48 0 43 = m 48 0 43 := E 48 0 43 (by omega)
  have k44 : m' 48 0 44 = m 48 0 44 := E 48 0 44 (by omega)
  have k45 : m' 48 0 45 = m 48 0 45 := E 48 0 45 (by omega)
  simp only [iP, papR, papK] at h ⊢
  simp only [e4, e21, e22, e24, e25, e26, e27, e28, e29, e30, e31, e32, e33, e34, e61, e62, e82, e84, e86, k43, k44, k45]
  exact h
theorem iI_cg {m m' : kM} (E : ∀ g i k, ((g = 4 ∨ 21 ≤ g ∧ g ≤ 34) ∧ 1 ≤ i ∨ g = 88 ∨ g = 0 ∧ k = 8 ∨ g = 48 ∧ k = 46) → m' g i k = m g i k) (E2 : m' 48 0 13 = m 48 0 13) (h : iI m) : iI m' := by
  have e4 : ∀ i k, m' 4 (i + 1) k = m 4 (i + 1) k := fun i k => E 4 (i + 1) k (by omega)
  have e21 : ∀ i k, m' 21 (i + 1) k = m 21 (i + 1) k := fun i k => E 21 (i + 1) k (by omega)
  have e22 : ∀ i k, m' 22 (i + 1) k = m 22 (i + 1) k := fun i k => E 22 (i + 1) k (by omega)
  have e23 : ∀ i k, m' 23 (i + 1) k = m 23 (i + 1) k := fun i k => E 23 (i + 1) k (by omega)
  have e24 : ∀ i k, m' 24 (i + 1) k = m 24 (i + 1) k := fun i k => E 24 (i + 1) k (by omega)
  have e25 : ∀ i k, m' 25 (i + 1) k = m 25 (i + 1) k := fun i k => E 25 (i + 1) k (by omega)
  have e26 : ∀ i k, m' 26 (i + 1) k = m 26 (i + 1) k := fun i k => E 26 (i + 1) k (by omega)
  have e27 : ∀ i k, m' 27 (i + 1) k = m 27 (i + 1) k := fun i k => E 27 (i + 1) k (by omega)
  have e28 : ∀ i k, m' 28 (i + 1) k = m 28 (i + 1) k := fun i k => E 28 (i + 1) k (by omega)
  have e29 : ∀ i k, m' 29 (i + 1) k = m 29 (i + 1) k := fun i k => E 29 (i + 1) k (by omega)
  have e30 : ∀ i k, m' 30 (i + 1) k = m 30 (i + 1) k := fun i k => E 30 (i + 1) k (by omega)
  have e31 : ∀ i k, m' 31 (i + 1) k = m 31 (i + 1) k := fun i k => E 31 (i + 1) k (by omega)
  have e32 : ∀ i k, m' 32 (i + 1) k = m 32 (i + 1) k := fun i k => E 32 (i + 1) k (by omega)
  have e33 : ∀ i k, m' 33 (i + 1) k = m 33 (i + 1) k := fun i k => E 33 (i + 1) k (by omega)
  have e34 : ∀ i k, m' 34 (i + 1) k = m 34 (i + 1) k := fun i k => E 34 (i + 1) k (by omega)
  have e88 : ∀ i k, m' 88 i k = m 88 i k := fun i k => E 88 i k (by omega)
  have e0 : m' 0 0 8 = m 0 0 8 := E 0 0 8 (by omega)
  have k46 : m' 48 0 46 = m 48 0 46 := E 48 0 46 (by omega)
  simp only [iI, papR, papK, iW] at h ⊢
  simp only [e4, e21, e22, e23, e24, e25, e26, e27, e28, e29, e30, e31, e32, e33, e34, e88, e0, k46, E2]
  exact h
theorem yOf_cg {m m' : kM} {i : Nat} (E : ∀ g k, 10 ≤ g → g ≤ 17 → m' g i k = m g i k) : yOf m' i = yOf m i := by
  have e : ∀ g, 10 ≤ g → g ≤ 17 → m' g i = m g i := fun g h1 h2 => by funext k; exact E g k h1 h2
  unfold yOf
  rw [e 10 (by omega) (by omega), e 11 (by omega) (by omega), e 12 (by omega) (by omega), e 13 (by omega) (by omega), e 14 (by omega) (by omega), e 15 (by omega) (by omega), e 16 (by omega) (by omega), e 17 (by omega) (by omega)]
theorem iY_cg {m m' : kM} (E : ∀ g i k, (10 ≤ g ∧ g ≤ 17 ∧ 2 ≤ i ∨ g = 54 ∨ g = 56 ∨ g = 57 ∨ g = 0 ∧ k = 5 ∨ g = 48 ∧ k = 13) → m' g i k = m g i k) (h : iY m) : iY m' := by
  have ey : ∀ w, yOf m' (w + 2) = yOf m (w + 2) := fun w => yOf_cg (fun g k h1 h2 => E g (w + 2) k (by omega))
  have e54 : m' 54 = m 54 := by funext i k; exact E 54 i k (by omega)
  have e56 : m' 56 = m 56 := by funext i k; exact E 56 i k (by omega)
  have e57 : m' 57 = m 57 := by funext i k; exact E 57 i k (by omega)
  have e5 : m' 0 0 5 = m 0 0 5 := E 0 0 5 (by omega)
  have e13 : m' 48 0 13 = m 48 0 13 := E 48 0 13 (by omega)
  unfold iY at h ⊢
  simp only [ey, e54, e56, e57, e5, e13]
  exact h
theorem iF_cg {m m' : kM} (E : ∀ g i k, (10 ≤ g ∧ g ≤ 17 ∧ 2 ≤ i ∨ 40 ≤ g ∧ g ≤ 47 ∨ g = 61 ∨ g = 62 ∨ g = 0 ∧ k = 5) → m' g i k = m g i k) (h : iF m) : iF m' := by
  have ey : ∀ w, yOf m' (w + 2) = yOf m (w + 2) := fun w => yOf_cg (fun g k h1 h2 => E g (w + 2) k (by omega))
  have e40 : m' 40 = m 40 := by funext i k; exact E 40 i k (by omega)
  have e41 : m' 41 = m 41 := by funext i k; exact E 41 i k (by omega)
  have e42 : m' 42 = m 42 := by funext i k; exact E 42 i k (by omega)
  have e43 : m' 43 = m 43 := by funext i k; exact E 43 i k (by omega)
  have e44 : m' 44 = m 44 := by funext i k; exact E 44 i k (by omega)
  have e45 : m' 45 = m 45 := by funext i k; exact E 45 i k (by omega)
  have e46 : m' 46 = m 46 := by funext i k; exact E 46 i k (by omega)
  have e47 : m' 47 = m 47 := by funext i k; exact E 47 i k (by omega)
  have e61 : m' 61 = m 61 := by funext i k; exact E 61 i k (by omega)
  have e62 : m' 62 = m 62 := by funext i k; exact E 62 i k (by omega)
  have e5 : m' 0 0 5 = m 0 0 5 := E 0 0 5 (by omega)
  unfold iF at h ⊢
  simp only [ey, e40, e41, e42, e43, e44, e45, e46, e47, e61, e62, e5]
  exact h
theorem iK_cg {m m' : kM} (E : ∀ g i k, (10 ≤ g ∧ g ≤ 17 ∧ 2 ≤ i ∨ g = 8 ∨ g = 61 ∨ g = 62 ∨ g = 84 ∨ g = 0 ∧ k = 5 ∨ g = 48 ∧ k = 44) → m' g i k = m g i k) (h : iK m) : iK m' := by
  have ey : ∀ w, yOf m' (w + 2) = yOf m (w + 2) := fun w => yOf_cg (fun g k h1 h2 => E g (w + 2) k (by omega))
  have e8 : m' 8 = m 8 := by funext i k; exact E 8 i k (by omega)
  have e61 : m' 61 = m 61 := by funext i k; exact E 61 i k (by omega)
  have e62 : m' 62 = m 62 := by funext i k; exact E 62 i k (by omega)
  have e84 : m' 84 = m 84 := by funext i k; exact E 84 i k (by omega)
  have e5 : m' 0 0 5 = m 0 0 5 := E 0 0 5 (by omega)
  have k44 : m' 48 0 44 = m 48 0 44 := E 48 0 44 (by omega)
  unfold iK at h ⊢
  simp only [ey, e8, e61, e62, e84, e5, k44]
  exact h
theorem iT_cg {m m' : kM} (E : ∀ g i k, (g = 1 ∨ g = 49 ∨ g = 0 ∧ k = 1 ∨ g = 48 ∧ k = 1) → m' g i k = m g i k) (h : iT (m 0 0 1) (m 48 0 1) (m 1 0) (m 49 0)) : iT (m' 0 0 1) (m' 48 0 1) (m' 1 0) (m' 49 0) := by
  have e1 : m' 1 = m 1 := by funext i k; exact E 1 i k (by omega)
  have e49 : m' 49 = m 49 := by funext i k; exact E 49 i k (by omega)
  rw [E 0 0 1 (by omega), E 48 0 1 (by omega), e1, e49]
  exact h
theorem iW_cg {m m' : kM} (E : ∀ g i k, (g = 23 ∧ i = 0 ∨ g = 58 ∨ g = 0 ∧ k = 5) → m' g i k = m g i k) (h : iW (m 0 0 5) (m 23 0) (m 58 0)) : iW (m' 0 0 5) (m' 23 0) (m' 58 0) := by
  have e23 : m' 23 0 = m 23 0 := by funext k; exact E 23 0 k (by omega)
  have e58 : m' 58 = m 58 := by funext i k; exact E 58 i k (by omega)
  rw [E 0 0 5 (by omega), e23, e58]
  exact h
theorem iX_cg {m m' : kM} (E : ∀ g i k, (g = 48 ∧ (k = 3 ∨ k = 39 ∨ k = 41 ∨ k = 42) ∨ g = 0 ∧ k = 3) → m' g i k = m g i k) (h : iX m) : iX m' := by
  unfold iX at h ⊢
  rw [E 48 0 39 (by omega), E 48 0 41 (by omega), E 48 0 42 (by omega), E 0 0 3 (by omega), E 48 0 3 (by omega)]
  exact h
theorem iF_0 {m : kM} (h : ∀ w, w < 6 → m 40 w 0 = 0) : iF m := fun w hw => Or.inl (h w hw)
theorem iK_0 {m : kM} (h : ∀ w, w < 6 → m 8 0 w = -1) : iK m := fun w hw => Or.inl (h w hw)
theorem x_forget {F : Nat} (hF : 2000 ≤ F) {σ : kS} : RV (f_X5_forgetRuns F σ) (fun σ' => (∀ w, w < 6 → σ'.1 40 w 0 = 0) ∧ (∀ w, w < 6 → σ'.1 8 0 w = -1) ∧ (∀ g i k, g ≠ 8 → ¬ (g = 40 ∧ k = 0) → σ'.1 g i k = σ.1 g i k) ∧ σ'.2 = σ.2) := by
  unfold f_X5_forgetRuns
  refine n_fix (fun n x σ' => ∃ j, x = nI j ∧ j ≤ 6 ∧ n = 6 - j ∧ (∀ w, w < j → σ'.1 40 w 0 = 0) ∧ (∀ g i k, g ≠ 8 → ¬ (g = 40 ∧ k = 0) → σ'.1 g i k = σ.1 g i k) ∧ σ'.2 = σ.2) ?_ F 6 _ σ (by omega) ⟨0, rfl, by omega, rfl, fun w hw => absurd hw (by omega), fun _ _ _ _ _ => rfl, rfl⟩
  rintro rr n x σ' ⟨j, rfl, hj, rfl, hI, hE, hl⟩ ih
  unfold f_X5_forgetRuns_b2 f_X5_forgetBurnt
  simp only [nI_c (a := j) (by omega), nI_s (a := j) (by omega)]
  refine n_if (fun q => ?_) (fun q => ?_)
  · have q : nI 6 ≤ nI j := q
    rw [nJ_le (by omega) (by omega)] at q
    refine n_bv (P := fun σ2 => (∀ c, c < 6 → σ2.1 8 0 c = -1) ∧ Fr (sL [8]) σ' σ2) ?_ ?_
    · refine n_bv (x_fillK hF) ?_
      rintro σ2 h2
      exact n_v h2
    · rintro σ2 ⟨h1, h2⟩
      refine n_v ⟨fun w hw => (h2.1 40 w 0 rfl).trans (hI w (by omega)), h1, fun g i k g8 g40 => ?_, h2.2.trans hl⟩
      rw [h2.1 g i k (by show List.contains _ _ = false; simp; omega)]
      exact hE g i k g8 g40
  · have q : ¬ nI 6 ≤ nI j := q
    rw [nJ_le (by omega) (by omega)] at q
    refine n_g ((nI_kin (by omega)).mpr (by omega)) (n_b (n_b (ih (6 - (j + 1)) _ _ (by omega) ⟨j + 1, rfl, by omega, rfl, fun w hw => ?_, fun g i k g8 g40 => ?_, hl⟩)))
    · rw [kU_at]
      by_cases z : w = j
      · simp [z]
      · simp [z]; exact hI w (by omega)
    · rw [kU_at, if_neg (fun z => g40 ⟨z.1, z.2.2⟩)]
      exact hE g i k g8 g40
theorem g_count' {F : Nat} (a1 : Int32) : Good (q_count F a1) := by
  intro nx σ h
  obtain ⟨ht, hr⟩ := inv_told h
  have hP := h.1.1
  have hI := h.2.2.1.1
  have hT := h.2.2.2.1.1
  by_cases c : 10 ≤ a1 ∧ a1 ≤ 19
  · obtain ⟨c1, c2⟩ := c
    rw [i_le] at c1 c2
    have d1 : 10 ≤ a1.toInt := c1
    have d2 : a1.toInt ≤ 19 := c2
    have e : (a1 - 10).toInt = a1.toInt - 10 := by
      rw [i_sub]
      · rfl
      · show _ ≤ _ - (10 : Int); omega
      · show _ - (10 : Int) < _; omega
    have hk : kin (a1 - 10) 10 := by
      show 0 ≤ Int32.toInt _ ∧ Int32.toInt _ < ((10 : Nat) : Int)
      rw [e]; omega
    have ne : ∀ x : Int32, x.toInt < 10 → a1 ≠ x := fun x hx z => by rw [← z] at hx; omega
    have hcl : f_X5_count F a1 σ = some (.inl (some (.int (σ.1 21 0 (a1 - 10).toNatClampNeg))), σ) := by
      unfold f_X5_count f_X5_count_b106 f_X5_count_b107
      rw [if_neg (ne 0 (by decide)), if_neg (ne 1 (by decide)), if_neg (ne 2 (by decide)), if_neg (ne 3 (by decide)), if_neg (ne 4 (by decide)), if_neg (ne 5 (by decide)), if_neg (by rw [i_lt]; show ¬ a1.toInt < 10; omega), if_neg (by rw [i_le]; show ¬ (20 : Int) ≤ a1.toInt; omega), kg_t hk]
    refine top_p hcl ?_
    unfold f_X6_count
    simp only [s_b, x_in, s_bi, if10, if_pos (show 10 ≤ a1 ∧ a1 ≤ 19 from ⟨by rw [i_le]; exact d1, by rw [i_le]; exact d2⟩)]
    refine n_g hk (n_i ⟨Inv_thr h, ?_⟩)
    rw [kU_g (by decide)]
    exact hP.2.2.2.1 _ (kin_lt hk)
  · have hcl : f_X5_count F a1 σ = some (.inl (some (.int (if a1 = 0 then σ.1 0 0 5 else if a1 = 1 then σ.1 4 0 3 else if a1 = 2 then σ.1 4 0 10 else if a1 = 3 then σ.1 4 0 13 else if a1 = 4 then σ.1 0 0 8 else if a1 = 5 then σ.1 0 0 1 else -1))), σ) := by
      unfold f_X5_count f_X5_count_b106 f_X5_count_b107
      by_cases z0 : a1 = 0
      · rw [if_pos z0, if_pos z0]
      by_cases z1 : a1 = 1
      · rw [if_neg z0, if_pos z1, if_neg z0, if_pos z1]
      by_cases z2 : a1 = 2
      · rw [if_neg z0, if_neg z1, if_pos z2, if_neg z0, if_neg z1, if_pos z2]
      by_cases z3 : a1 = 3
      · rw [if_neg z0, if_neg z1, if_neg z2, if_pos z3, if_neg z0, if_neg z1, if_neg z2, if_pos z3]
      by_cases z4 : a1 = 4
      · rw [if_neg z0, if_neg z1, if_neg z2, if_neg z3, if_pos z4, if_neg z0, if_neg z1, if_neg z2, if_neg z3, if_pos z4]
      by_cases z5 : a1 = 5
      · rw [if_neg z0, if_neg z1, if_neg z2, if_neg z3, if_neg z4, if_pos z5, if_neg z0, if_neg z1, if_neg z2, if_neg z3, if_neg z4, if_pos z5]
      rw [if_neg z0, if_neg z1, if_neg z2, if_neg z3, if_neg z4, if_neg z5, if_neg z0, if_neg z1, if_neg z2, if_neg z3, if_neg z4, if_neg z5]
      by_cases z6 : a1 < 10
      · rw [if_pos z6]
      · rw [if_neg z6, if_pos]
        rw [i_le, i_le] at c
        rw [i_lt] at z6
        rw [i_le]
        have c : ¬ ((10 : Int) ≤ a1.toInt ∧ a1.toInt ≤ 19) := c
        have z6 : ¬ a1.toInt < 10 := z6
        show (20 : Int) ≤ a1.toInt
        omega
    refine top_p hcl ?_
    unfold f_X6_count
    simp only [s_b, x_in, s_bi, if10, if_neg c, if0, if_true]
    by_cases z0 : a1 = 0
    · exact n_t z0 (n_i ⟨Inv_thr h, by rw [if_pos z0]; exact ht⟩)
    refine n_f z0 ?_
    by_cases z1 : a1 = 1
    · exact n_t z1 (n_i ⟨Inv_thr h, by rw [if_neg z0, if_pos z1]; exact hP.1⟩)
    refine n_f z1 ?_
    by_cases z2 : a1 = 2
    · exact n_t z2 (n_i ⟨Inv_thr h, by rw [if_neg z0, if_neg z1, if_pos z2]; exact hP.2.1⟩)
    refine n_f z2 ?_
    by_cases z3 : a1 = 3
    · exact n_t z3 (n_i ⟨Inv_thr h, by rw [if_neg z0, if_neg z1, if_neg z2, if_pos z3]; exact hP.2.2.1⟩)
    refine n_f z3 ?_
    by_cases z4 : a1 = 4
    · exact n_t z4 (n_i ⟨Inv_thr h, by rw [if_neg z0, if_neg z1, if_neg z2, if_neg z3, if_pos z4]; exact hI⟩)
    refine n_f z4 ?_
    by_cases z5 : a1 = 5
    · exact n_t z5 (n_i ⟨Inv_thr h, by rw [if_neg z0, if_neg z1, if_neg z2, if_neg z3, if_neg z4, if_pos z5]; exact hT⟩)
    exact n_f z5 (n_i ⟨Inv_thr h, by rw [if_neg z0, if_neg z1, if_neg z2, if_neg z3, if_neg z4, if_neg z5]⟩)
