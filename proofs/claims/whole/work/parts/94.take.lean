/-! WHAT WAS READ IS TAKEN -/
theorem e14 : ∀ t : Fin 6, ∀ x : Fin 14, (14 : Int32) * nI t.val + nI x.val = nI (14 * t.val + x.val) := by decide +kernel
theorem e14' {t x : Nat} (ht : t < 6) (hx : x < 14) : (14 : Int32) * nI t + nI x = nI (14 * t + x) := e14 ⟨t, ht⟩ ⟨x, hx⟩
theorem m_179 {F : Nat} (hF : 2000 ≤ F) {T j : Nat} {τ : kS} (hT : T < 6) (hj : j ≤ 14) (h13 : τ.1 48 0 13 = nI T) (h9 : τ.1 48 0 9 = nI j) :
    RI (kFix (f_X6_why_b179 F) F 0 τ) (fun r τ' => r = nI T ∧ (∀ x i, x < j → i < 4 → τ'.1 56 (14 * T + x) i = τ.1 52 x i) ∧ τ'.1 57 0 T = nI j ∧ τ'.1 58 0 T = 10 ∧ τ'.1 48 0 13 = nI (T + 1) ∧ (∀ g i k, ¬ (g = 56 ∧ 14 * T ≤ i ∧ i < 14 * T + 14) → ¬ ((g = 57 ∨ g = 58) ∧ i = 0 ∧ k = T) → ¬ (g = 48 ∧ i = 0 ∧ k = 13) → τ'.1 g i k = τ.1 g i k) ∧ τ'.2 = τ.2) := by
  refine n_fix (fun m x σ' => ∃ x0, x = nI x0 ∧ x0 ≤ j ∧ m = j - x0 ∧ (∀ x i, x < x0 → i < 4 → σ'.1 56 (14 * T + x) i = τ.1 52 x i) ∧ (∀ g i k, ¬ (g = 56 ∧ 14 * T ≤ i ∧ i < 14 * T + 14) → σ'.1 g i k = τ.1 g i k) ∧ σ'.2 = τ.2) ?_ F j _ τ (by omega) ⟨0, rfl, by omega, rfl, fun x i hx => absurd hx (by omega), fun _ _ _ _ => rfl, rfl⟩
  rintro rr m x σ' ⟨x0, rfl, hx0, rfl, hI, hE, hl⟩ ih
  unfold f_X6_why_b179
  dsimp only
  have e9 : σ'.1 48 0 9 = nI j := (hE 48 0 9 (by omega)).trans h9
  have e13 : σ'.1 48 0 13 = nI T := (hE 48 0 13 (by omega)).trans h13
  have kT : kin (nI T) 6 := (nI_kin (by omega)).mpr hT
  have cT : (nI T).toNatClampNeg = T := nI_c (by omega)
  rw [e9, e13]
  by_cases z : x0 = j
  · subst z
    refine n_t (by rw [nJ_le (by omega) (by omega)]; omega) (n_g kT (n_b ?_))
    rw [cT, kU_g (by decide), e13, cT]
    refine n_g kT (n_b (n_b ?_))
    rw [kU_here, kU_g (by decide), kU_g (by decide), e13, nI_s (by omega), nI_p (by omega) (by omega)]
    refine n_i ⟨by rw [Nat.add_sub_cancel], fun x i hx hi => ?_, ?_, ?_, kU_here, fun g i k q1 q2 q3 => ?_, hl⟩
    · rw [kU_g (by decide), kU_g (by decide), kU_g (by decide)]; exact hI x i hx hi
    · rw [kU_g (by decide), kU_g (by decide)]; exact kU_here
    · rw [kU_g (by decide)]; exact kU_here
    · rw [kU_at, if_neg q3, kU_at, if_neg (by omega), kU_at, if_neg (by omega)]; exact hE g i k q1
  · refine n_f (by rw [nJ_le (by omega) (by omega)]; omega) ?_
    refine n_fix (fun m x σ2 => ∃ i0, x = (nI x0, nI i0) ∧ i0 ≤ 4 ∧ m = 4 - i0 ∧ (∀ x i, x < x0 → i < 4 → σ2.1 56 (14 * T + x) i = τ.1 52 x i) ∧ (∀ i, i < i0 → σ2.1 56 (14 * T + x0) i = τ.1 52 x0 i) ∧ (∀ g i k, ¬ (g = 56 ∧ 14 * T ≤ i ∧ i < 14 * T + 14) → σ2.1 g i k = τ.1 g i k) ∧ σ2.2 = τ.2) ?_ F 4 _ σ' (by omega) ⟨0, rfl, by omega, rfl, hI, fun i hi => absurd hi (by omega), hE, hl⟩
    rintro r2 m x σ2 ⟨i0, rfl, hi0, rfl, hI2, hJ2, hE2, hl2⟩ ih2
    unfold f_X6_why_b189
    dsimp only
    by_cases y : i0 = 4
    · subst y
      rw [nI_s (by omega)]
      refine n_t (by decide) (ih (j - (x0 + 1)) _ _ (by omega) ⟨x0 + 1, rfl, by omega, rfl, fun x i hx hi => ?_, hE2, hl2⟩)
      by_cases w : x = x0
      · rw [w]; exact hJ2 i hi
      · exact hI2 x i (by omega) hi
    · have f13 : σ2.1 48 0 13 = nI T := (hE2 48 0 13 (by omega)).trans h13
      refine n_f (by show ¬ nI 4 ≤ nI i0; rw [nJ_le (by omega) (by omega)]; omega) ?_
      rw [f13, e14' hT (by omega), nI_c (by omega), nI_c (by omega), nI_c (by omega), nI_s (by omega)]
      refine n_g ((nI_kin (by omega)).mpr (by omega)) (n_b (n_g ((nI_kin (by omega)).mpr (by omega)) (n_b (n_g ((nI_kin (by omega)).mpr (by omega)) (n_g ((nI_kin (by omega)).mpr (by omega)) (n_b ?_))))))
      refine ih2 (4 - (i0 + 1)) _ _ (by omega) ⟨i0 + 1, rfl, by omega, rfl, fun x i hx hi => ?_, fun i hi => ?_, fun g i k q => ?_, hl2⟩
      · rw [kU_at, if_neg (by omega)]; exact hI2 x i hx hi
      · rw [kU_at]
        by_cases w : i = i0
        · rw [if_pos ⟨rfl, rfl, w⟩, w]
          exact hE2 52 x0 i0 (by omega)
        · rw [if_neg (fun q => w q.2.2)]; exact hJ2 i (by omega)
      · rw [kU_at, if_neg (by omega)]; exact hE2 g i k q
theorem m_146 {F : Nat} (hF : 2000 ≤ F) {T j c : Nat} {τ : kS} (hT : T < 6) (hj : j ≤ 14) (hc : c ≤ 300) (h13 : τ.1 48 0 13 = nI T) (h8 : τ.1 48 0 8 = nI c) (h9 : τ.1 48 0 9 = nI j) :
    RI (kFix (f_X6_why_b146 F) F 0 τ) (fun r τ' => r = nI T ∧ (∀ x, x < c → τ'.1 54 T x = τ.1 50 0 x) ∧ (∀ x i, x < j → i < 4 → τ'.1 56 (14 * T + x) i = τ.1 52 x i) ∧ τ'.1 57 0 T = nI j ∧ τ'.1 58 0 T = 10 ∧ τ'.1 48 0 13 = nI (T + 1) ∧ (∀ g i k, ¬ (g = 54 ∧ i = T) → ¬ (g = 56 ∧ 14 * T ≤ i ∧ i < 14 * T + 14) → ¬ ((g = 57 ∨ g = 58) ∧ i = 0 ∧ k = T) → ¬ (g = 48 ∧ i = 0 ∧ k = 13) → τ'.1 g i k = τ.1 g i k) ∧ τ'.2 = τ.2) := by
  refine n_fix (fun m x σ' => ∃ x0, x = nI x0 ∧ x0 ≤ c ∧ m = c - x0 ∧ (∀ x, x < x0 → σ'.1 54 T x = τ.1 50 0 x) ∧ (∀ g i k, ¬ (g = 54 ∧ i = T) → σ'.1 g i k = τ.1 g i k) ∧ σ'.2 = τ.2) ?_ F c _ τ (by omega) ⟨0, rfl, by omega, rfl, fun x hx => absurd hx (by omega), fun _ _ _ _ => rfl, rfl⟩
  rintro rr m x σ' ⟨x0, rfl, hx0, rfl, hI, hE, hl⟩ ih
  unfold f_X6_why_b146
  dsimp only
  have e8 : σ'.1 48 0 8 = nI c := (hE 48 0 8 (by omega)).trans h8
  have e13 : σ'.1 48 0 13 = nI T := (hE 48 0 13 (by omega)).trans h13
  have e9 : σ'.1 48 0 9 = nI j := (hE 48 0 9 (by omega)).trans h9
  rw [e8, e13]
  by_cases z : x0 = c
  · subst z
    refine n_t (by rw [nJ_le (by omega) (by omega)]; omega) (ri_mono (m_179 hF hT hj e13 e9) ?_)
    rintro r τ' ⟨r1, r2, r3, r4, r5, r6, r7⟩
    refine ⟨r1, fun x hx => ?_, fun x i hx hi => ?_, r3, r4, r5, fun g i k q1 q2 q3 q4 => ?_, r7.trans hl⟩
    · rw [r6 54 T x (by omega) (by omega) (by omega)]; exact hI x hx
    · rw [r2 x i hx hi]; exact hE 52 x i (by omega)
    · rw [r6 g i k q2 q3 q4]; exact hE g i k q1
  · refine n_f (by rw [nJ_le (by omega) (by omega)]; omega) (n_g ((nI_kin (by omega)).mpr hT) (n_b (n_g ((nI_kin (by omega)).mpr (by omega)) (n_g ((nI_kin (by omega)).mpr (by omega)) (n_b ?_)))))
    rw [nI_c (by omega), nI_c (by omega), nI_s (by omega)]
    refine ih (c - (x0 + 1)) _ _ (by omega) ⟨x0 + 1, rfl, by omega, rfl, fun x hx => ?_, fun g i k q => ?_, hl⟩
    · rw [kU_at]
      by_cases w : x = x0
      · rw [if_pos ⟨rfl, rfl, w⟩, w]; exact hE 50 0 x0 (by omega)
      · rw [if_neg (fun q => w q.2.2)]; exact hI x (by omega)
    · rw [kU_at, if_neg (by omega)]; exact hE g i k q
/-- the class's copy -/
theorem c_copy {F T : Nat} {σ : kS} : ∃ σc, f_X4_copyFrom F (T + 2) 0 σ = some (.inl none, σc) ∧ (∀ g i k, ¬ (i = T + 2 ∧ 10 ≤ g ∧ g ≤ 17) → σc.1 g i k = σ.1 g i k) ∧ σc.1 10 (T + 2) 0 = σ.1 10 0 0 ∧ (∀ g k, 11 ≤ g → g ≤ 16 → k < 14 → σc.1 g (T + 2) k = σ.1 g 0 k) ∧ (∀ k, k < 300 → σc.1 17 (T + 2) k = σ.1 17 0 k) ∧ σc.2 = σ.2 := by
  unfold f_X4_copyFrom
  refine ⟨_, rfl, fun g i k q => ?_, ?_, fun g k h1 h2 hk => ?_, fun k hk => ?_, rfl⟩
  · rw [kU_at, if_neg (by omega), kCp_at, if_neg (by omega), kCp_at, if_neg (by omega), kCp_at, if_neg (by omega), kCp_at, if_neg (by omega), kCp_at, if_neg (by omega), kCp_at, if_neg (by omega), kCp_at, if_neg (by omega), kU_at, if_neg (by omega)]
  · simp [kU_at, kCp_at]
  · have q3 : g = 11 ∨ g = 12 ∨ g = 13 ∨ g = 14 ∨ g = 15 ∨ g = 16 := by omega
    rcases q3 with rfl | rfl | rfl | rfl | rfl | rfl <;> simp [kU_at, kCp_at, hk]
  · simp [kU_at, kCp_at, hk]
