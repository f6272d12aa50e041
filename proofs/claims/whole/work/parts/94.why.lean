/-! WHY -/
theorem iT_0 {b l : Nat → Int32} : iT 0 0 b l := ⟨rfl, ⟨by decide, by decide⟩, fun k hk q => by
  rw [show (0 : Int32) = nI 0 from rfl, nJ_lt (by omega) (by omega)] at q
  omega⟩
theorem iI_mono {m m' : kM} (E : ∀ g i k, ((g = 4 ∨ 21 ≤ g ∧ g ≤ 34) ∧ 1 ≤ i ∨ g = 88 ∨ g = 0 ∧ k = 8 ∨ g = 48 ∧ k = 46) → m' g i k = m g i k) (E2 : m 48 0 13 ≤ m' 48 0 13) (h : iI m) : iI m' := by
  obtain ⟨m1, e1⟩ : ∃ m1 : kM, m1 = fun g i k => if g = 48 ∧ i = 0 ∧ k = 13 then m 48 0 13 else m' g i k := ⟨_, rfl⟩
  have a1 : ∀ g i k, ¬ (g = 48 ∧ k = 13) → m1 g i k = m' g i k := fun g i k q => by rw [e1]; exact if_neg (by omega)
  have h1 : iI m1 := iI_cg (m := m) (fun g i k q => by rw [a1 g i k (by omega)]; exact E g i k q) (by rw [e1]; exact if_pos ⟨rfl, rfl, rfl⟩) h
  have h13 : m1 48 0 13 = m 48 0 13 := by rw [e1]; exact if_pos ⟨rfl, rfl, rfl⟩
  obtain ⟨m2, e2⟩ : ∃ m2 : kM, m2 = fun g i k => if g = 48 ∧ i = 0 ∧ k = 13 then m1 48 0 13 else m' g i k := ⟨_, rfl⟩
  obtain ⟨b1, b2, b3⟩ := h1
  rw [a1 0 0 8 (by omega), a1 48 0 46 (by omega)] at b1
  rw [a1 48 0 46 (by omega)] at b2 b3
  refine ⟨b1, b2, fun k hk hl => ?_⟩
  obtain ⟨c1, c2, c3, c4⟩ := b3 k hk hl
  have f : ∀ g, g ≠ 48 → m1 g = m' g := fun g hg => by funext i k; exact a1 g i k (by omega)
  unfold papR at c1 ⊢
  rw [f 88 (by decide)] at c1 c2 c3 c4
  rw [f 4 (by decide), f 21 (by decide), f 22 (by decide), f 24 (by decide), f 25 (by decide), f 26 (by decide), f 27 (by decide), f 28 (by decide), f 29 (by decide), f 30 (by decide), f 31 (by decide), f 32 (by decide), f 33 (by decide), f 34 (by decide)] at c1
  rw [f 23 (by decide)] at c3
  rw [h13] at c4
  exact ⟨c1, c2, c3, Int32.le_trans c4 E2⟩
/-- no WHY more -/
theorem inv_b {m m' : kM} (E0 : ∀ g i k, ¬ (g = 48 ∧ i = 0 ∧ k ≤ 9) → g ≠ 50 → g ≠ 52 → ¬ (i = 0 ∧ (g = 2 ∨ 10 ≤ g ∧ g ≤ 20)) → ¬ (g = 0 ∧ i = 0 ∧ (k = 1 ∨ k = 3)) → m' g i k = m g i k) (h1 : m' 0 0 1 = 0) (h2 : m' 48 0 1 = 0) (h3 : m' 0 0 3 = m' 48 0 3) (h : Inv m) : Inv m' := by
  obtain ⟨hP, hW, hI, hT, hY, hF, hK, hX⟩ := h
  refine ⟨iP_cg (fun g i k q => E0 g i k (by omega) (by omega) (by omega) (by omega) (by omega)) hP, iW_cg (fun g i k q => E0 g i k (by omega) (by omega) (by omega) (by omega) (by omega)) hW, iI_cg (fun g i k q => E0 g i k (by omega) (by omega) (by omega) (by omega) (by omega)) (E0 48 0 13 (by omega) (by omega) (by omega) (by omega) (by omega)) hI, by rw [h1, h2]; exact iT_0, iY_cg (fun g i k q => E0 g i k (by omega) (by omega) (by omega) (by omega) (by omega)) hY, iF_cg (fun g i k q => E0 g i k (by omega) (by omega) (by omega) (by omega) (by omega)) hF, iK_cg (fun g i k q => E0 g i k (by omega) (by omega) (by omega) (by omega) (by omega)) hK, ?_⟩
  obtain ⟨x1, x2, x3, -⟩ := hX
  exact ⟨by rw [E0 48 0 39 (by omega) (by omega) (by omega) (by omega) (by omega)]; exact x1, by rw [E0 48 0 41 (by omega) (by omega) (by omega) (by omega) (by omega)]; exact x2, by rw [E0 48 0 42 (by omega) (by omega) (by omega) (by omega) (by omega)]; exact x3, h3⟩
/-- one WHY more -/
theorem inv_y {m m' : kM} {T : Nat} (hT : T < 6) (hT13 : m 48 0 13 = nI T) (hT5 : m 0 0 5 = nI T)
    (E0 : ∀ g i k, ¬ (g = 54 ∧ i = T) → ¬ (g = 56 ∧ 14 * T ≤ i ∧ i < 14 * T + 14) → ¬ ((g = 57 ∨ g = 58) ∧ i = 0 ∧ k = T) → ¬ (g = 48 ∧ i = 0 ∧ (k ≤ 9 ∨ k = 13)) → g ≠ 50 → g ≠ 52 → ¬ (i = T + 2 ∧ 10 ≤ g ∧ g ≤ 17) → ¬ (i = 0 ∧ (g = 2 ∨ 10 ≤ g ∧ g ≤ 20)) → ¬ (g = 0 ∧ i = 0 ∧ (k = 1 ∨ k = 3 ∨ k = 5)) → m' g i k = m g i k)
    (h1 : m' 0 0 1 = 0) (h2 : m' 48 0 1 = 0) (h3 : m' 0 0 3 = m' 48 0 3) (h5 : m' 0 0 5 = nI (T + 1)) (h13 : m' 48 0 13 = nI (T + 1)) (h58 : m' 58 0 T = 10) (hw : whyR (yOf m' (T + 2)) (m' 57 0 T) (fun j => m' 56 (14 * T + j)) (m' 54 T)) (h : Inv m) : Inv m' := by
  obtain ⟨hP, hW, hI, hT', hY, hF, hK, hX⟩ := h
  have ey : ∀ w, w ≠ T → yOf m' (w + 2) = yOf m (w + 2) := fun w hw => yOf_cg (fun g k q1 q2 => E0 g (w + 2) k (by omega) (by omega) (by omega) (by omega) (by omega) (by omega) (by omega) (by omega) (by omega))
  have lt1 : ∀ w, w < 6 → nI w < nI T → nI w < nI (T + 1) ∧ w ≠ T := fun w hw q => by
    rw [nJ_lt (by omega) (by omega)] at q ⊢
    omega
  refine ⟨iP_cg (fun g i k q => E0 g i k (by omega) (by omega) (by omega) (by omega) (by omega) (by omega) (by omega) (by omega) (by omega)) hP, ?_, iI_mono (fun g i k q => E0 g i k (by omega) (by omega) (by omega) (by omega) (by omega) (by omega) (by omega) (by omega) (by omega)) (by rw [hT13, h13, nJ_le (by omega) (by omega)]; omega) hI, by rw [h1, h2]; exact iT_0, ⟨by rw [h5, h13], fun w hw6 hlt => ?_⟩, fun w hw6 => ?_, fun w hw6 => ?_, ?_⟩
  · rw [h5]
    rw [hT5] at hW
    refine ⟨?_, fun w hw6 => ?_⟩
    · show (0 : Int) ≤ (nI (T + 1)).toInt ∧ (nI (T + 1)).toInt ≤ 6
      rw [nI_toInt (by omega)]; omega
    · obtain ⟨a, b⟩ := hW.2 w hw6
      rw [E0 23 0 w (by omega) (by omega) (by omega) (by omega) (by omega) (by omega) (by omega) (by omega) (by omega)]
      refine ⟨a, ?_⟩
      by_cases z : w = T
      · subst z
        rw [if_neg (by rw [nJ_lt (by omega) (by omega)]; omega)] at b
        rw [if_pos (by rw [nJ_lt (by omega) (by omega)]; omega), h58]
        exact b
      · rw [E0 58 0 w (by omega) (by omega) (by omega) (by omega) (by omega) (by omega) (by omega) (by omega) (by omega)]
        by_cases y : w < T
        · rw [if_pos ((nJ_lt (by omega) (by omega)).mpr y)] at b
          rw [if_pos ((nJ_lt (by omega) (by omega)).mpr (by omega))]
          exact b
        · rw [if_neg (by rw [nJ_lt (by omega) (by omega)]; omega)] at b
          rw [if_neg (by rw [nJ_lt (by omega) (by omega)]; omega)]
          exact b
  · by_cases z : w = T
    · rw [z]; exact hw
    · rw [h13, nJ_lt (by omega) (by omega)] at hlt
      have hh := hY.2 w hw6 (by rw [hT13, nJ_lt (by omega) (by omega)]; omega)
      have e54 : m' 54 w = m 54 w := by funext k; exact E0 54 w k (by omega) (by omega) (by omega) (by omega) (by omega) (by omega) (by omega) (by omega) (by omega)
      rw [ey w z, e54, E0 57 0 w (by omega) (by omega) (by omega) (by omega) (by omega) (by omega) (by omega) (by omega) (by omega)]
      refine ⟨hh.1, hh.2.1, fun j hj hl => ?_⟩
      have hc := hh.2.2 j hj hl
      have e56 : m' 56 (14 * w + j) = m 56 (14 * w + j) := by funext k; exact E0 56 (14 * w + j) k (by omega) (by omega) (by omega) (by omega) (by omega) (by omega) (by omega) (by omega) (by omega)
      dsimp only at hc ⊢
      rw [e56]
      exact hc
  · rcases hF w hw6 with q | ⟨q1, q2, q3⟩
    · exact Or.inl ((E0 40 w 0 (by omega) (by omega) (by omega) (by omega) (by omega) (by omega) (by omega) (by omega) (by omega)).trans q)
    · rw [hT5] at q2
      obtain ⟨l1, l2⟩ := lt1 w hw6 q2
      have eg : ∀ g, 40 ≤ g → g ≤ 47 → m' g w = m g w := fun g g1 g2 => by funext k; exact E0 g w k (by omega) (by omega) (by omega) (by omega) (by omega) (by omega) (by omega) (by omega) (by omega)
      have e61 : m' 61 0 = m 61 0 := by funext k; exact E0 61 0 k (by omega) (by omega) (by omega) (by omega) (by omega) (by omega) (by omega) (by omega) (by omega)
      have e62 : m' 62 0 = m 62 0 := by funext k; exact E0 62 0 k (by omega) (by omega) (by omega) (by omega) (by omega) (by omega) (by omega) (by omega) (by omega)
      rw [eg 40 (by omega) (by omega), eg 41 (by omega) (by omega), eg 42 (by omega) (by omega), eg 43 (by omega) (by omega), eg 44 (by omega) (by omega), eg 45 (by omega) (by omega), eg 46 (by omega) (by omega), eg 47 (by omega) (by omega), e61, e62, ey w l2, h5]
      exact Or.inr ⟨q1, l1, q3⟩
  · rcases hK w hw6 with q | ⟨q2, q3⟩
    · exact Or.inl ((E0 8 0 w (by omega) (by omega) (by omega) (by omega) (by omega) (by omega) (by omega) (by omega) (by omega)).trans q)
    · rw [hT5] at q2
      obtain ⟨l1, l2⟩ := lt1 w hw6 q2
      have e61 : m' 61 0 = m 61 0 := by funext k; exact E0 61 0 k (by omega) (by omega) (by omega) (by omega) (by omega) (by omega) (by omega) (by omega) (by omega)
      have e62 : m' 62 0 = m 62 0 := by funext k; exact E0 62 0 k (by omega) (by omega) (by omega) (by omega) (by omega) (by omega) (by omega) (by omega) (by omega)
      have e84 : m' 84 = m 84 := by funext i k; exact E0 84 i k (by omega) (by omega) (by omega) (by omega) (by omega) (by omega) (by omega) (by omega) (by omega)
      rw [E0 8 0 w (by omega) (by omega) (by omega) (by omega) (by omega) (by omega) (by omega) (by omega) (by omega), E0 48 0 44 (by omega) (by omega) (by omega) (by omega) (by omega) (by omega) (by omega) (by omega) (by omega), e61, e62, e84, ey w l2, h5]
      exact Or.inr ⟨l1, q3⟩
  · obtain ⟨x1, x2, x3, -⟩ := hX
    exact ⟨by rw [E0 48 0 39 (by omega) (by omega) (by omega) (by omega) (by omega) (by omega) (by omega) (by omega) (by omega)]; exact x1, by rw [E0 48 0 41 (by omega) (by omega) (by omega) (by omega) (by omega) (by omega) (by omega) (by omega) (by omega)]; exact x2, by rw [E0 48 0 42 (by omega) (by omega) (by omega) (by omega) (by omega) (by omega) (by omega) (by omega) (by omega)]; exact x3, h3⟩
/-- the reference's beginning -/
theorem r_why0 {F : Nat} {a1 : Int32} {σ : kS} (h : 0 ≤ a1 ∧ a1 ≤ σ.1 48 0 1) : f_X6_why F a1 σ = if σ.1 48 0 13 = 6 then (some (.inl (some (.int (-1))), kU (kU (kU σ 48 0 0 0) 48 0 1 0) 48 0 3 (-1))) else (kb (kU (kU (kU (kU (kU (kU (kU (kU (kU (kU σ 48 0 0 0) 48 0 1 0) 48 0 3 (-1)) 48 0 2 a1) 48 0 4 0) 48 0 5 0) 48 0 6 0) 48 0 7 (-1)) 48 0 8 0) 48 0 9 0) fun σ36 => kBv (f_X6_blanks F σ36) fun σ37 => kFix (f_X6_why_b92 F) F () σ37) := by
  have h13 : (kU (kU (kU σ 48 0 0 0) 48 0 1 0) 48 0 3 (-1)).1 48 0 13 = σ.1 48 0 13 := by
    rw [kU_k (by decide), kU_k (by decide), kU_k (by decide)]
  unfold f_X6_why f_X6_why_b23
  rw [s_b, kU_k (by decide), x_in, s_bi, if_pos h, if_neg one_ne, z_bad0 rfl, s_bi, if_pos rfl, s_b, s_b, h13, s_b, s_b, s_b, s_b, s_b, s_b, s_b]
