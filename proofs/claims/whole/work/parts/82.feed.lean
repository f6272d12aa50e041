/-! FEED. -/
theorem b_rng {z : Int32} : rng (z &&& 255) 0 255 := by
  have e : (z &&& 255).toInt = (z &&& 255).toBitVec.toInt := rfl
  have h : (z &&& 255).toBitVec.toNat ≤ 255 := by
    rw [Int32.toBitVec_and, BitVec.toNat_and]
    exact Nat.and_le_right
  unfold rng
  rw [e, BitVec.toInt_eq_toNat_cond]
  split <;> omega
theorem b_i8 {z : Int32} : (z &&& 255).toInt8 = z.toInt8 := by
  rw [← Int8.toBitVec_inj]
  show (z &&& 255).toBitVec.signExtend 8 = z.toBitVec.signExtend 8
  refine BitVec.eq_of_getLsbD_eq fun i hi => ?_
  rw [BitVec.getLsbD_signExtend, BitVec.getLsbD_signExtend]
  have h32 : i < 32 := by omega
  simp only [hi, h32, decide_true, Bool.true_and, if_true]
  rw [Int32.toBitVec_and, BitVec.getLsbD_and]
  have : (255 : Int32).toBitVec.getLsbD i = true := by
    have : i = 0 ∨ i = 1 ∨ i = 2 ∨ i = 3 ∨ i = 4 ∨ i = 5 ∨ i = 6 ∨ i = 7 := by omega
    rcases this with rfl | rfl | rfl | rfl | rfl | rfl | rfl | rfl <;> decide
  rw [this]
  simp
theorem b_88 {z : Int32} : z.toInt8.toInt32.toInt8.toInt32 = (z &&& 255).toInt8.toInt32 := by
  rw [b_i8, Int8.toInt8_toInt32]
def wdF (a1 a2 a3 a4 a5 : Int32) (j : Nat) : Int32 := if j = 0 then a1 else if j = 1 then a2 else if j = 2 then a3 else if j = 3 then a4 else a5
def byF (a1 a2 a3 a4 a5 : Int32) (t : Nat) : Int32 := wdF a1 a2 a3 a4 a5 (t / 4) >>> (nI (24 - 8 * (t % 4)) &&& 31)
def shF (s : Nat) : Int32 := if s < 4 then nI (24 - 8 * s) else -8
theorem c_feed {F : Nat} (hF : 2000 ≤ F) {σ : kS} {a1 a2 a3 a4 a5 : Int32} {n : Nat} (hn : n + 20 ≤ 300) (h1 : σ.1 0 0 1 = nI n) :
    RI (kFix (f_X5_feed_b18 F) F (a1, a2, a3, a4, a5, 0) σ) (fun r σ' => r = nI (n + 20) ∧ (∀ t, t < 20 → σ'.1 1 0 (n + t) = (byF a1 a2 a3 a4 a5 t &&& 255).toInt8.toInt32) ∧ (∀ g i k, ¬ (g = 1 ∧ i = 0 ∧ n ≤ k ∧ k < n + 20) → ¬ (g = 0 ∧ i = 0 ∧ k = 1) → σ'.1 g i k = σ.1 g i k) ∧ σ'.1 0 0 1 = nI (n + 20) ∧ σ'.2 = σ.2) := by
  refine n_fix (fun m x σ' => ∃ j, x = (a1, a2, a3, a4, a5, nI j) ∧ j ≤ 5 ∧ m = 5 - j ∧ (∀ t, t < 4 * j → σ'.1 1 0 (n + t) = (byF a1 a2 a3 a4 a5 t &&& 255).toInt8.toInt32) ∧ (∀ g i k, ¬ (g = 1 ∧ i = 0 ∧ n ≤ k ∧ k < n + 4 * j) → ¬ (g = 0 ∧ i = 0 ∧ k = 1) → σ'.1 g i k = σ.1 g i k) ∧ σ'.1 0 0 1 = nI (n + 4 * j) ∧ σ'.2 = σ.2) ?_ F 5 _ σ (by omega) ⟨0, rfl, by omega, rfl, fun t ht => absurd ht (by omega), fun _ _ _ _ _ => rfl, h1, rfl⟩
  rintro rr m x σ' ⟨j, rfl, hj, rfl, hI, hE, ht, hl⟩ ih
  have hin : j < 5 → Rn (f_X5_feed_b66 F rr a1 a2 a3 a4 a5 (nI j) (wdF a1 a2 a3 a4 a5 j) σ') (fun v σ_1 => ∃ r, v = some (Value.int r) ∧ r = nI (n + 20) ∧ (∀ t, t < 20 → σ_1.1 1 0 (n + t) = (byF a1 a2 a3 a4 a5 t &&& 255).toInt8.toInt32) ∧ (∀ g i k, ¬ (g = 1 ∧ i = 0 ∧ n ≤ k ∧ k < n + 20) → ¬ (g = 0 ∧ i = 0 ∧ k = 1) → σ_1.1 g i k = σ.1 g i k) ∧ σ_1.1 0 0 1 = nI (n + 20) ∧ σ_1.2 = σ.2) := by
    intro hj5
    unfold f_X5_feed_b66
    refine n_fix (fun m x σ2 => ∃ s, x = (a1, a2, a3, a4, a5, nI j, wdF a1 a2 a3 a4 a5 j, shF s) ∧ s ≤ 4 ∧ m = 4 - s ∧ (∀ t, t < 4 * j + s → σ2.1 1 0 (n + t) = (byF a1 a2 a3 a4 a5 t &&& 255).toInt8.toInt32) ∧ (∀ g i k, ¬ (g = 1 ∧ i = 0 ∧ n ≤ k ∧ k < n + 4 * j + s) → ¬ (g = 0 ∧ i = 0 ∧ k = 1) → σ2.1 g i k = σ.1 g i k) ∧ σ2.1 0 0 1 = nI (n + 4 * j + s) ∧ σ2.2 = σ.2) ?_ F 4 _ σ' (by omega) ⟨0, rfl, by omega, rfl, hI, hE, ht, hl⟩
    rintro r2 m x σ2 ⟨s, rfl, hs, rfl, hI2, hE2, ht2, hl2⟩ ih2
    unfold f_X5_feed_b72
    dsimp only
    by_cases hs4 : s = 4
    · subst hs4
      rw [nI_s (by omega)]
      refine n_t (by decide) (ih (5 - (j + 1)) _ _ (by omega) ⟨j + 1, rfl, by omega, rfl, fun t ht => hI2 t (by omega), fun g i k q1 q2 => hE2 g i k (by omega) q2, ?_, hl2⟩)
      rw [ht2]; congr 1
    · have hsh : shF s = nI (24 - 8 * s) := if_pos (by omega)
      have hsn : shF s + (-8) = shF (s + 1) := by
        have : s = 0 ∨ s = 1 ∨ s = 2 ∨ s = 3 := by omega
        rcases this with rfl | rfl | rfl | rfl <;> decide
      refine n_f (by rw [hsh]; exact nI_nneg (by omega)) ?_
      rw [ht2, nI_c (by omega)]
      refine n_g ((nI_kin (by omega)).mpr (by omega)) (n_b (n_b ?_))
      rw [kU_at, if_neg (by omega), ht2, nI_s (by omega), hsn]
      have hby : ((wdF a1 a2 a3 a4 a5 j >>> (shF s &&& 31)).toInt8.toInt32).toInt8.toInt32 = (byF a1 a2 a3 a4 a5 (4 * j + s) &&& 255).toInt8.toInt32 := by
        rw [b_88, hsh]
        unfold byF
        rw [show (4 * j + s) / 4 = j by omega, show (4 * j + s) % 4 = s by omega]
      refine ih2 (4 - (s + 1)) _ _ (by omega) ⟨s + 1, rfl, by omega, rfl, fun t ht => ?_, fun g i k q1 q2 => ?_, kU_here, hl2⟩
      · rw [kU_at, if_neg (by omega), kU_at]
        by_cases z : t = 4 * j + s
        · rw [if_pos ⟨rfl, rfl, by omega⟩, hby, z]
        · rw [if_neg (fun q => z (by omega))]; exact hI2 t (by omega)
      · rw [kU_at, if_neg q2, kU_at, if_neg (by omega)]
        exact hE2 g i k (by omega) q2
  unfold f_X5_feed_b18
  dsimp only
  by_cases h5 : j = 5
  · subst h5
    refine n_t (by decide) (n_i ⟨ht, hI, hE, ht, hl⟩)
  · have hin := hin (by omega)
    refine n_f (by show ¬ nI 5 ≤ nI j; rw [nJ_le (by omega) (by omega)]; omega) ?_
    have : j = 0 ∨ j = 1 ∨ j = 2 ∨ j = 3 ∨ j = 4 := by omega
    rcases this with rfl | rfl | rfl | rfl | rfl
    · exact n_t (by decide) hin
    · exact n_f (by decide) (n_t (by decide) hin)
    · exact n_f (by decide) (n_f (by decide) (n_t (by decide) hin))
    · exact n_f (by decide) (n_f (by decide) (n_f (by decide) (n_t (by decide) hin)))
    · exact n_f (by decide) (n_f (by decide) (n_f (by decide) (n_f (by decide) hin)))
theorem m_feed {F : Nat} (hF : 2000 ≤ F) {σ : kS} {a1 a2 a3 a4 a5 : Int32} {n : Nat} (hn : n + 20 ≤ 300) (h1 : σ.1 48 0 1 = nI n) :
    RI (kFix (f_X6_feed_b23 F) F (a1, a2, a3, a4, a5, 0) σ) (fun r σ' => r = nI (n + 20) ∧ (∀ t, t < 20 → σ'.1 49 0 (n + t) = (byF a1 a2 a3 a4 a5 t &&& 255)) ∧ (∀ g i k, ¬ (g = 49 ∧ i = 0 ∧ n ≤ k ∧ k < n + 20) → ¬ (g = 48 ∧ i = 0 ∧ k = 1) → σ'.1 g i k = σ.1 g i k) ∧ σ'.1 48 0 1 = nI (n + 20) ∧ σ'.2 = σ.2) := by
  refine n_fix (fun m x σ' => ∃ j, x = (a1, a2, a3, a4, a5, nI j) ∧ j ≤ 20 ∧ m = 20 - j ∧ (∀ t, t < j → σ'.1 49 0 (n + t) = (byF a1 a2 a3 a4 a5 t &&& 255)) ∧ (∀ g i k, ¬ (g = 49 ∧ i = 0 ∧ n ≤ k ∧ k < n + j) → ¬ (g = 48 ∧ i = 0 ∧ k = 1) → σ'.1 g i k = σ.1 g i k) ∧ σ'.1 48 0 1 = nI (n + j) ∧ σ'.2 = σ.2) ?_ F 20 _ σ (by omega) ⟨0, rfl, by omega, rfl, fun t ht => absurd ht (by omega), fun _ _ _ _ _ => rfl, h1, rfl⟩
  rintro rr m x σ' ⟨j, rfl, hj, rfl, hI, hE, ht, hl⟩ ih
  have hin : j < 20 → Rn (f_X6_feed_b76 F rr a1 a2 a3 a4 a5 (nI j) (wdF a1 a2 a3 a4 a5 (j / 4)) σ') (fun v σ_1 => ∃ r, v = some (Value.int r) ∧ r = nI (n + 20) ∧ (∀ t, t < 20 → σ_1.1 49 0 (n + t) = (byF a1 a2 a3 a4 a5 t &&& 255)) ∧ (∀ g i k, ¬ (g = 49 ∧ i = 0 ∧ n ≤ k ∧ k < n + 20) → ¬ (g = 48 ∧ i = 0 ∧ k = 1) → σ_1.1 g i k = σ.1 g i k) ∧ σ_1.1 48 0 1 = nI (n + 20) ∧ σ_1.2 = σ.2) := by
    intro hj20
    unfold f_X6_feed_b76
    have hsh : 24 - (8 * (nI j - nI j / 4 * 4)) = nI (24 - 8 * (j % 4)) := by
      have : j = 0 ∨ j = 1 ∨ j = 2 ∨ j = 3 ∨ j = 4 ∨ j = 5 ∨ j = 6 ∨ j = 7 ∨ j = 8 ∨ j = 9 ∨ j = 10 ∨ j = 11 ∨ j = 12 ∨ j = 13 ∨ j = 14 ∨ j = 15 ∨ j = 16 ∨ j = 17 ∨ j = 18 ∨ j = 19 := by omega
      rcases this with rfl | rfl | rfl | rfl | rfl | rfl | rfl | rfl | rfl | rfl | rfl | rfl | rfl | rfl | rfl | rfl | rfl | rfl | rfl | rfl <;> decide
    rw [ht, nI_c (by omega), nI_s (a := j) (by omega), hsh]
    refine n_g ((nI_kin (by omega)).mpr (by omega)) (n_b (n_b ?_))
    rw [kU_at, if_neg (by omega), ht, nI_s (by omega)]
    refine ih (20 - (j + 1)) _ _ (by omega) ⟨j + 1, rfl, by omega, rfl, fun t ht => ?_, fun g i k q1 q2 => ?_, kU_here, hl⟩
    · rw [kU_at, if_neg (by omega), kU_at]
      by_cases z : t = j
      · rw [if_pos ⟨rfl, rfl, by omega⟩, z]; rfl
      · rw [if_neg (fun q => z (by omega))]; exact hI t (by omega)
    · rw [kU_at, if_neg q2, kU_at, if_neg (by omega)]
      exact hE g i k (by omega) q2
  unfold f_X6_feed_b23
  dsimp only
  by_cases h5 : j = 20
  · subst h5
    rw [ht]
    exact n_t (by decide) (n_i ⟨rfl, hI, hE, ht, hl⟩)
  · have hin := hin (by omega)
    refine n_f (by show ¬ nI 20 ≤ nI j; rw [nJ_le (by omega) (by omega)]; omega) ?_
    by_cases q4 : 4 ≤ j
    · refine n_t (by show nI 4 ≤ nI j; rw [nJ_le (by omega) (by omega)]; exact q4) ?_
      by_cases q8 : 8 ≤ j
      · refine n_t (by show nI 8 ≤ nI j; rw [nJ_le (by omega) (by omega)]; exact q8) ?_
        by_cases q12 : 12 ≤ j
        · refine n_t (by show nI 12 ≤ nI j; rw [nJ_le (by omega) (by omega)]; exact q12) ?_
          by_cases q16 : 16 ≤ j
          · refine n_t (by show nI 16 ≤ nI j; rw [nJ_le (by omega) (by omega)]; exact q16) ?_
            rw [show j / 4 = 4 by omega] at hin; exact hin
          · refine n_f (by show ¬ nI 16 ≤ nI j; rw [nJ_le (by omega) (by omega)]; exact q16) ?_
            rw [show j / 4 = 3 by omega] at hin; exact hin
        · refine n_f (by show ¬ nI 12 ≤ nI j; rw [nJ_le (by omega) (by omega)]; exact q12) ?_
          rw [show j / 4 = 2 by omega] at hin; exact hin
      · refine n_f (by show ¬ nI 8 ≤ nI j; rw [nJ_le (by omega) (by omega)]; exact q8) ?_
        rw [show j / 4 = 1 by omega] at hin; exact hin
    · refine n_f (by show ¬ nI 4 ≤ nI j; rw [nJ_le (by omega) (by omega)]; exact q4) ?_
      rw [show j / 4 = 0 by omega] at hin; exact hin
theorem inv_tape {m : kM} (h : Inv m) : ∃ n, n ≤ 300 ∧ m 0 0 1 = nI n ∧ m 48 0 1 = nI n ∧ ∀ k, k < n → rng (m 49 0 k) 0 255 ∧ m 1 0 k = (m 49 0 k).toInt8.toInt32 := by
  obtain ⟨a1, a2, a3⟩ := h.2.2.2.1
  obtain ⟨e1, e2⟩ := rng_nI a2
  exact ⟨_, by omega, a1.trans e1, e1, fun k hk => a3 k (by omega) (by rw [e1, nJ_lt (by omega) (by omega)]; exact hk)⟩
theorem g_feed' {F : Nat} (hF : 2000 ≤ F) (a1 a2 a3 a4 a5 : Int32) : Good (q_feed F a1 a2 a3 a4 a5) := by
  intro nx σ h
  obtain ⟨n, hn3, h1, h48, hb⟩ := inv_tape h
  have e20 : nI n + 20 = nI (n + 20) := by
    rw [i_eq, i_add, nI_toInt (by omega), nI_toInt (by omega)]
    · rfl
    · rw [nI_toInt (by omega)]; show _ ≤ (n : Int) + 20; omega
    · rw [nI_toInt (by omega)]; show (n : Int) + 20 < _; omega
  by_cases hn : n + 20 ≤ 300
  · obtain ⟨r, σ1, e1, rfl, b1, b2, b3, b4⟩ := ri_get (c_feed hF (a1 := a1) (a2 := a2) (a3 := a3) (a4 := a4) (a5 := a5) hn h1)
    have hcl : f_X5_feed F a1 a2 a3 a4 a5 σ = some (.inl (some (.int (nI (n + 20)))), σ1) := by
      unfold f_X5_feed
      rw [h1, e20, if_pos (by show nI (n + 20) ≤ nI 300; rw [nJ_le (by omega) (by omega)]; exact hn), e1]
    refine top_p hcl ?_
    unfold f_X6_feed
    have e48 : (kU σ1 48 0 0 0).1 48 0 1 = nI n := by rw [kU_k (by decide), b2 48 0 1 (by omega) (by omega)]; exact h48
    rw [s_b, e48, e20]
    refine n_t (by show nI (n + 20) ≤ nI 300; rw [nJ_le (by omega) (by omega)]; exact hn) ?_
    refine ri_mono (m_feed hF hn e48) ?_
    rintro r σ2 ⟨rfl, c1, c2, c3, c4⟩
    refine ⟨?_, rfl⟩
    have E0 : ∀ g i k, ¬ (g = 1 ∧ i = 0 ∧ n ≤ k ∧ k < n + 20) → ¬ (g = 0 ∧ i = 0 ∧ k = 1) → ¬ (g = 49 ∧ i = 0 ∧ n ≤ k ∧ k < n + 20) → ¬ (g = 48 ∧ i = 0 ∧ (k = 0 ∨ k = 1)) → σ2.1 g i k = σ.1 g i k := fun g i k q1 q2 q3 q4 => by
      rw [c2 g i k q3 (by omega), kU_at, if_neg (by omega), b2 g i k q1 q2]
    obtain ⟨hP, hW, hI, hT, hY, hF', hK, hX⟩ := h
    refine ⟨iP_cg (fun g i k q => E0 g i k (by omega) (by omega) (by omega) (by omega)) hP, iW_cg (fun g i k q => E0 g i k (by omega) (by omega) (by omega) (by omega)) hW, iI_cg (fun g i k q => E0 g i k (by omega) (by omega) (by omega) (by omega)) (E0 48 0 13 (by omega) (by omega) (by omega) (by omega)) hI, ?_, iY_cg (fun g i k q => E0 g i k (by omega) (by omega) (by omega) (by omega)) hY, iF_cg (fun g i k q => E0 g i k (by omega) (by omega) (by omega) (by omega)) hF', iK_cg (fun g i k q => E0 g i k (by omega) (by omega) (by omega) (by omega)) hK, iX_cg (fun g i k q => E0 g i k (by omega) (by omega) (by omega) (by omega)) hX⟩
    have k1 : σ2.1 0 0 1 = nI (n + 20) := by rw [c2 0 0 1 (by omega) (by omega), kU_at, if_neg (by omega)]; exact b3
    rw [k1, c3]
    refine ⟨rfl, ⟨by rw [nI_toInt (by omega)]; omega, by rw [nI_toInt (by omega)]; omega⟩, fun k hk hlt => ?_⟩
    rw [nJ_lt (by omega) (by omega)] at hlt
    by_cases z : k < n
    · rw [E0 49 0 k (by omega) (by omega) (by omega) (by omega), E0 1 0 k (by omega) (by omega) (by omega) (by omega)]
      exact hb k z
    · obtain ⟨t, rfl⟩ : ∃ t, k = n + t := ⟨k - n, by omega⟩
      have g1 : σ2.1 1 0 (n + t) = σ1.1 1 0 (n + t) := by rw [c2 1 0 (n + t) (by omega) (by omega), kU_at, if_neg (by omega)]
      rw [g1, c1 t (by omega), b1 t (by omega)]
      exact ⟨b_rng, rfl⟩
  · have hcl : f_X5_feed F a1 a2 a3 a4 a5 σ = some (.inl (some (.int (-1))), σ) := by
      unfold f_X5_feed
      rw [h1, e20, if_neg (by show ¬ nI (n + 20) ≤ nI 300; rw [nJ_le (by omega) (by omega)]; exact hn)]
    refine top_p hcl ?_
    unfold f_X6_feed
    have e48 : (kU σ 48 0 0 0).1 48 0 1 = nI n := by rw [kU_k (by decide)]; exact h48
    rw [s_b, e48, e20]
    exact n_f (by show ¬ nI (n + 20) ≤ nI 300; rw [nJ_le (by omega) (by omega)]; exact hn) (n_i ⟨Inv_thr h, rfl⟩)
