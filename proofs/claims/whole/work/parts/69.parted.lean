/-! PARTED. -/
def alP (H1 H2 : Nat → Int32) (G1 G2 M1 M2 : Nat → Nat → Int32) (f1 f2 : Nat → Int32) (s : Nat) : Prop := H1 s = H2 s ∧ ∀ c, c < 8 → G1 s c = G2 s c ∧ M1 s c = M2 s c ∧ litI (f1 c) (nI s) = litI (f2 c) (nI s)
/-- the first SECOND at which P is not so -/
def ptS (P : Nat → Prop) (v : Int32) : Prop := (v = -1 ∧ ∀ s, s < 100 → P s) ∨ ∃ s, s < 100 ∧ v = nI s ∧ ¬ P s ∧ ∀ t, t < s → P t
theorem ptS_u {P : Nat → Prop} {v v' : Int32} (h : ptS P v) (h' : ptS P v') : v = v' := by
  rcases h with ⟨e, a⟩ | ⟨s, s1, e, s2, s3⟩
  · rcases h' with ⟨e', a'⟩ | ⟨s', s1', e', s2', s3'⟩
    · rw [e, e']
    · exact absurd (a s' s1') s2'
  · rcases h' with ⟨e', a'⟩ | ⟨s', s1', e', s2', s3'⟩
    · exact absurd (a' s s1) s2
    · have : s = s' := by
        rcases Nat.lt_trichotomy s s' with z | z | z
        · exact absurd (s3' s z) s2
        · exact z
        · exact absurd (s3 s' z) s2'
      rw [e, e', this]
theorem c_alike {F : Nat} (hF : 2000 ≤ F) {σ : kS} {w v s : Nat} (hs : s < 100) : RI (f_X5_areAlike F w v (nI s) σ) (fun r σ' => (r = 1 ∧ alP (σ.1 44 w) (σ.1 44 v) (fun s c => σ.1 45 w (8 * s + c)) (fun s c => σ.1 45 v (8 * s + c)) (fun s c => σ.1 46 w (8 * s + c)) (fun s c => σ.1 46 v (8 * s + c)) (σ.1 47 w) (σ.1 47 v) s ∨ r = 0 ∧ ¬ alP (σ.1 44 w) (σ.1 44 v) (fun s c => σ.1 45 w (8 * s + c)) (fun s c => σ.1 45 v (8 * s + c)) (fun s c => σ.1 46 w (8 * s + c)) (fun s c => σ.1 46 v (8 * s + c)) (σ.1 47 w) (σ.1 47 v) s) ∧ σ' = σ) := by
  have hks : kin (nI s) 100 := (nI_kin (by omega)).mpr hs
  unfold f_X5_areAlike
  rw [nI_c (a := s) (by omega)]
  refine n_g hks (n_g hks (n_if (fun q0 => ?_) (fun q0 => n_i ⟨Or.inr ⟨rfl, fun z => q0 z.1⟩, rfl⟩)))
  refine n_fix (fun n x σ' => ∃ j, x = (w, v, nI s, nI j) ∧ j ≤ 8 ∧ n = 8 - j ∧ σ' = σ ∧ ∀ c, c < j → σ.1 45 w (8 * s + c) = σ.1 45 v (8 * s + c) ∧ σ.1 46 w (8 * s + c) = σ.1 46 v (8 * s + c) ∧ litI (σ.1 47 w c) (nI s) = litI (σ.1 47 v c) (nI s)) ?_ F 8 _ σ (by omega) ⟨0, rfl, by omega, rfl, rfl, fun c hc => absurd hc (by omega)⟩
  rintro rr n x σ' ⟨j, rfl, hj, rfl, rfl, hI⟩ ih
  unfold f_X5_areAlike_b19 f_X5_areAlike_b82
  dsimp only
  refine n_if (fun q => ?_) (fun q => ?_)
  · have q : nI 8 ≤ nI j := q
    rw [nJ_le (by omega) (by omega)] at q
    have : j = 8 := by omega
    subst this
    exact n_i ⟨Or.inl ⟨rfl, q0, hI⟩, rfl⟩
  · have q : ¬ nI 8 ≤ nI j := q
    rw [nJ_le (by omega) (by omega)] at q
    have hkp : kin (nI (8 * s + j)) 800 := (nI_kin (by omega)).mpr (by omega)
    rw [nI_8 hs (by omega), s_b, nI_c (by omega), c_lit (by omega), s_bi, c_lit (by omega), s_bi, nI_s (by omega)]
    refine n_g hkp (n_g hkp (n_if (fun q1 => n_g hkp (n_g hkp (n_if (fun q2 => n_if (fun q3 => ?_) (fun q3 => ?_)) (fun q2 => ?_)))) (fun q1 => ?_)))
    · refine ih (8 - (j + 1)) _ _ (by omega) ⟨j + 1, rfl, by omega, rfl, rfl, fun c hc => ?_⟩
      by_cases k : c = j
      · subst k; exact ⟨q1, q2, q3⟩
      · exact hI c (by omega)
    · exact n_i ⟨Or.inr ⟨rfl, fun z => q3 (z.2 j (by omega)).2.2⟩, rfl⟩
    · exact n_i ⟨Or.inr ⟨rfl, fun z => q2 (z.2 j (by omega)).2.1⟩, rfl⟩
    · exact n_i ⟨Or.inr ⟨rfl, fun z => q1 (z.2 j (by omega)).1⟩, rfl⟩
theorem c_parted {F : Nat} (hF : 2000 ≤ F) {σ : kS} {w v : Nat} : RI (kFix (f_X5_parted_b26 F) F (w, v, 0) σ) (fun r σ' => ptS (alP (σ.1 44 w) (σ.1 44 v) (fun s c => σ.1 45 w (8 * s + c)) (fun s c => σ.1 45 v (8 * s + c)) (fun s c => σ.1 46 w (8 * s + c)) (fun s c => σ.1 46 v (8 * s + c)) (σ.1 47 w) (σ.1 47 v)) r ∧ σ' = σ) := by
  refine n_fix (fun n x σ' => ∃ s, x = (w, v, nI s) ∧ s ≤ 100 ∧ n = 100 - s ∧ σ' = σ ∧ ∀ t, t < s → alP (σ.1 44 w) (σ.1 44 v) (fun s c => σ.1 45 w (8 * s + c)) (fun s c => σ.1 45 v (8 * s + c)) (fun s c => σ.1 46 w (8 * s + c)) (fun s c => σ.1 46 v (8 * s + c)) (σ.1 47 w) (σ.1 47 v) t) ?_ F 100 _ σ (by omega) ⟨0, rfl, by omega, rfl, rfl, fun c hc => absurd hc (by omega)⟩
  rintro rr n x σ' ⟨s, rfl, hs, rfl, rfl, hI⟩ ih
  unfold f_X5_parted_b26
  dsimp only
  refine n_if (fun q => ?_) (fun q => ?_)
  · have q : nI 100 ≤ nI s := q
    rw [nJ_le (by omega) (by omega)] at q
    exact n_i ⟨Or.inl ⟨rfl, fun t ht => hI t (by omega)⟩, rfl⟩
  · have q : ¬ nI 100 ≤ nI s := q
    rw [nJ_le (by omega) (by omega)] at q
    refine n_bi (c_alike hF (by omega)) ?_
    rintro r σ1 ⟨hr, rfl⟩
    rw [nI_s (by omega)]
    rcases hr with ⟨rfl, hp⟩ | ⟨rfl, hp⟩
    · refine n_f (by decide) (ih (100 - (s + 1)) _ _ (by omega) ⟨s + 1, rfl, by omega, rfl, rfl, fun t ht => ?_⟩)
      by_cases k : t = s
      · subst k; exact hp
      · exact hI t (by omega)
    · exact n_t rfl (n_i ⟨Or.inr ⟨s, by omega, rfl, hp, hI⟩, rfl⟩)
/-- the reference's keeping of the other RUN -/
def sO (g _k : Nat) : Bool := Nat.beq g 72 || Nat.beq g 74 || Nat.beq g 79 || Nat.beq g 80
theorem m_keep {F : Nat} (hF : 2000 ≤ F) {σ : kS} {x1 : Int32} {Q : Option Value → kS → Prop} (hnx : ∀ σ', (∀ s, s < 100 → σ'.1 79 0 s = σ.1 78 0 s ∧ ∀ c, c < 8 → σ'.1 72 s c = σ.1 68 s c ∧ σ'.1 74 s c = σ.1 70 s c) → (∀ c, c < 8 → σ'.1 80 0 c = σ.1 66 0 c) → Fr sO σ σ' → Rn (kBv (f_X6_runs F x1 σ') fun σ26 => kFix (f_X6_parted_b152 F) F 0 σ26) Q) : Rn (kFix (f_X6_parted_b43 F) F (x1, 0) σ) Q := by
  refine n_fix (fun n x σ' => ∃ s, x = (x1, nI s) ∧ s ≤ 100 ∧ n = 100 - s ∧ (∀ t, t < s → σ'.1 79 0 t = σ.1 78 0 t ∧ ∀ c, c < 8 → σ'.1 72 t c = σ.1 68 t c ∧ σ'.1 74 t c = σ.1 70 t c) ∧ Fr sO σ σ') ?_ F 100 _ σ (by omega) ⟨0, rfl, by omega, rfl, fun c hc => absurd hc (by omega), Fr.refl σ⟩
  rintro rr n x σ' ⟨s, rfl, hs, rfl, hI, hfr⟩ ih
  unfold f_X6_parted_b43
  dsimp only
  refine n_if (fun q => ?_) (fun q => ?_)
  · have q : nI 100 ≤ nI s := q
    rw [nJ_le (by omega) (by omega)] at q
    refine n_fix (fun n x σ2 => ∃ j, x = (x1, nI j) ∧ j ≤ 8 ∧ n = 8 - j ∧ (∀ t, t < 100 → σ2.1 79 0 t = σ.1 78 0 t ∧ ∀ c, c < 8 → σ2.1 72 t c = σ.1 68 t c ∧ σ2.1 74 t c = σ.1 70 t c) ∧ (∀ c, c < j → σ2.1 80 0 c = σ.1 66 0 c) ∧ Fr sO σ σ2) ?_ F 8 _ σ' (by omega) ⟨0, rfl, by omega, rfl, fun t ht => hI t (by omega), fun c hc => absurd hc (by omega), hfr⟩
    rintro r2 n x σ2 ⟨j, rfl, hj, rfl, hI2, hI3, hfr2⟩ ih2
    unfold f_X6_parted_b121
    dsimp only
    refine n_if (fun q1 => ?_) (fun q1 => ?_)
    · have q1 : nI 8 ≤ nI j := q1
      rw [nJ_le (by omega) (by omega)] at q1
      exact hnx σ2 hI2 (fun c hc => hI3 c (by omega)) hfr2
    · have q1 : ¬ nI 8 ≤ nI j := q1
      rw [nJ_le (by omega) (by omega)] at q1
      have hkj : kin (nI j) 8 := (nI_kin (by omega)).mpr (by omega)
      rw [nI_c (by omega), nI_s (by omega)]
      refine n_g hkj (n_g hkj (n_b (ih2 (8 - (j + 1)) _ _ (by omega) ⟨j + 1, rfl, by omega, rfl, hI2, fun c hc => ?_, hfr2.u rfl⟩)))
      rw [kU_at]
      by_cases k : c = j
      · subst k; simp; exact hfr2.1 66 0 c rfl
      · simp [k]; exact hI3 c (by omega)
  · have q : ¬ nI 100 ≤ nI s := q
    rw [nJ_le (by omega) (by omega)] at q
    have hks : kin (nI s) 100 := (nI_kin (by omega)).mpr (by omega)
    refine n_fix (fun n x σ2 => ∃ j, x = (x1, nI s, nI j) ∧ j ≤ 8 ∧ n = 8 - j ∧ (∀ t, t < s → σ2.1 79 0 t = σ.1 78 0 t ∧ ∀ c, c < 8 → σ2.1 72 t c = σ.1 68 t c ∧ σ2.1 74 t c = σ.1 70 t c) ∧ (∀ c, c < j → σ2.1 72 s c = σ.1 68 s c ∧ σ2.1 74 s c = σ.1 70 s c) ∧ Fr sO σ σ2) ?_ F 8 _ σ' (by omega) ⟨0, rfl, by omega, rfl, hI, fun c hc => absurd hc (by omega), hfr⟩
    rintro r2 n x σ2 ⟨j, rfl, hj, rfl, hI2, hI3, hfr2⟩ ih2
    unfold f_X6_parted_b52
    dsimp only
    rw [nI_c (a := s) (by omega), nI_c (a := j) (by omega), nI_s (a := s) (by omega), nI_s (a := j) (by omega)]
    refine n_if (fun q1 => ?_) (fun q1 => ?_)
    · have q1 : nI 8 ≤ nI j := q1
      rw [nJ_le (by omega) (by omega)] at q1
      refine n_g hks (n_g hks (n_b (ih (100 - (s + 1)) _ _ (by omega) ⟨s + 1, rfl, by omega, rfl, fun t ht => ?_, hfr2.u rfl⟩)))
      simp only [kU_at]
      by_cases k : t = s
      · subst k
        simp
        exact ⟨hfr2.1 78 0 t rfl, fun c hc => hI3 c (by omega)⟩
      · simp [k]; exact hI2 t (by omega)
    · have q1 : ¬ nI 8 ≤ nI j := q1
      rw [nJ_le (by omega) (by omega)] at q1
      have hkj : kin (nI j) 8 := (nI_kin (by omega)).mpr (by omega)
      refine n_g hks (n_b (n_g hks (n_b (n_g hkj (n_g hkj (n_b (n_g hks (n_b (n_g hks (n_b (n_g hkj (n_g hkj (n_b (ih2 (8 - (j + 1)) _ _ (by omega) ⟨j + 1, rfl, by omega, rfl, fun t ht => ?_, fun c hc => ?_, (hfr2.u rfl).u rfl⟩))))))))))))))
      · have k : ¬ t = s := by omega
        simp only [kU_at]
        simp [k]
        exact hI2 t ht
      · simp only [kU_at]
        by_cases k : c = j
        · subst k
          simp
          exact ⟨hfr2.1 68 s c rfl, hfr2.1 70 s c rfl⟩
        · simp [k]; exact hI3 c (by omega)
theorem m_parted {F : Nat} (hF : 2000 ≤ F) {σ : kS} : RI (kFix (f_X6_parted_b152 F) F 0 σ) (fun r σ' => ptS (alP (σ.1 78 0) (σ.1 79 0) (σ.1 68) (σ.1 72) (σ.1 70) (σ.1 74) (σ.1 66 0) (σ.1 80 0)) r ∧ σ' = σ) := by
  obtain ⟨P, hP⟩ : ∃ P, P = alP (σ.1 78 0) (σ.1 79 0) (σ.1 68) (σ.1 72) (σ.1 70) (σ.1 74) (σ.1 66 0) (σ.1 80 0) := ⟨_, rfl⟩
  rw [← hP]
  refine n_fix (fun n x σ' => ∃ s, x = nI s ∧ s ≤ 100 ∧ n = 100 - s ∧ σ' = σ ∧ ∀ t, t < s → P t) ?_ F 100 _ σ (by omega) ⟨0, rfl, by omega, rfl, rfl, fun c hc => absurd hc (by omega)⟩
  rintro rr n x σ' ⟨s, rfl, hs, rfl, rfl, hI⟩ ih
  unfold f_X6_parted_b152
  dsimp only
  refine n_if (fun q => ?_) (fun q => ?_)
  · have q : nI 100 ≤ nI s := q
    rw [nJ_le (by omega) (by omega)] at q
    exact n_i ⟨Or.inl ⟨rfl, fun t ht => hI t (by omega)⟩, rfl⟩
  have q : ¬ nI 100 ≤ nI s := q
  rw [nJ_le (by omega) (by omega)] at q
  have hks : kin (nI s) 100 := (nI_kin (by omega)).mpr (by omega)
  have hin : ∀ t0 : Int32, (t0 = 1 ∧ σ'.1 78 0 s = σ'.1 79 0 s ∨ t0 = 0 ∧ ¬ σ'.1 78 0 s = σ'.1 79 0 s) → Rn (f_X6_parted_b178 F rr (nI s) t0 σ') (fun v σ_1 => ∃ r, v = some (Value.int r) ∧ ptS P r ∧ σ_1 = σ') := by
    intro t0 ht0
    unfold f_X6_parted_b178
    refine n_fix (fun n x σ2 => ∃ j t, x = (nI s, t, nI j) ∧ j ≤ 8 ∧ n = 8 - j ∧ σ2 = σ' ∧ (t = 1 ∧ (σ'.1 78 0 s = σ'.1 79 0 s ∧ ∀ c, c < j → σ'.1 68 s c = σ'.1 72 s c ∧ σ'.1 70 s c = σ'.1 74 s c ∧ litI (σ'.1 66 0 c) (nI s) = litI (σ'.1 80 0 c) (nI s)) ∨ t = 0 ∧ ¬ P s)) ?_ F 8 _ σ' (by omega) ⟨0, t0, rfl, by omega, rfl, rfl, ?_⟩
    · rintro r2 n x σ2 ⟨j, t, rfl, hj, rfl, rfl, hI2⟩ ih2
      unfold f_X6_parted_b183 f_X6_parted_b278 f_X6_parted_b279
      dsimp only
      rw [nI_c (a := s) (by omega), nI_c (a := j) (by omega), nI_s (a := s) (by omega), nI_s (a := j) (by omega)]
      refine n_if (fun q1 => ?_) (fun q1 => ?_)
      · have q1 : nI 8 ≤ nI j := q1
        rw [nJ_le (by omega) (by omega)] at q1
        have : j = 8 := by omega
        subst this
        rcases hI2 with ⟨rfl, a1, a2⟩ | ⟨rfl, a1⟩
        · refine n_f (by decide) (ih (100 - (s + 1)) _ _ (by omega) ⟨s + 1, rfl, by omega, rfl, rfl, fun t ht => ?_⟩)
          by_cases k : t = s
          · subst k; rw [hP]; exact ⟨a1, a2⟩
          · exact hI t (by omega)
        · exact n_t rfl (n_i ⟨Or.inr ⟨s, by omega, rfl, a1, hI⟩, rfl⟩)
      · have q1 : ¬ nI 8 ≤ nI j := q1
        rw [nJ_le (by omega) (by omega)] at q1
        have hkj : kin (nI j) 8 := (nI_kin (by omega)).mpr (by omega)
        have h0 : ¬ P s → Rn (r2 (nI s, 0, nI (j + 1)) σ2) _ := fun z => ih2 (8 - (j + 1)) _ _ (by omega) ⟨j + 1, 0, rfl, by omega, rfl, rfl, Or.inr ⟨rfl, z⟩⟩
        rcases hI2 with ⟨rfl, a1, a2⟩ | ⟨rfl, a1⟩
        · refine n_f (by decide) ?_
          refine n_g hks (n_b (n_g hkj (n_g hks (n_b (n_g hkj ?_)))))
          have hlast : ∀ t1 : Int32, t1 = litI (σ2.1 80 0 j) (nI s) → σ2.1 68 s j = σ2.1 72 s j → σ2.1 70 s j = σ2.1 74 s j → Rn (f_X6_parted_b271 F r2 (nI s) (nI j) (litI (σ2.1 66 0 j) (nI s)) t1 σ2) (fun v σ_1 => ∃ r, v = some (Value.int r) ∧ ptS P r ∧ σ_1 = σ2) := by
            intro t1 ht1 b1 b2
            unfold f_X6_parted_b271 f_X6_parted_b278 f_X6_parted_b279
            rw [nI_s (a := j) (by omega)]
            refine n_if (fun z => ih2 (8 - (j + 1)) _ _ (by omega) ⟨j + 1, 1, rfl, by omega, rfl, rfl, Or.inl ⟨rfl, a1, fun c hc => ?_⟩⟩) (fun z => h0 (fun p => z ?_))
            · by_cases k : c = j
              · subst k; exact ⟨b1, b2, z.trans ht1⟩
              · exact a2 c (by omega)
            · rw [hP] at p
              exact ((p.2 j (by omega)).2.2).trans ht1.symm
          refine n_if (fun q2 => n_g hks (n_b (n_g hkj (n_g hks (n_b (n_g hkj (n_if (fun q3 => ?_) (fun q3 => h0 (fun p => q3 ?_)))))))))  (fun q2 => h0 (fun p => q2 ?_))
          · rw [m_lit (by omega), s_bi]
            unfold f_X6_parted_b270
            refine n_g hkj (n_if (fun q4 => hlast 0 ?_ q2.symm q3.symm) (fun q4 => n_g hkj (n_if (fun q5 => hlast 0 ?_ q2.symm q3.symm) (fun q5 => hlast 1 ?_ q2.symm q3.symm))))
            · unfold litI; rw [if_pos q4]
            · unfold litI; rw [if_neg q4, if_pos q5]
            · unfold litI; rw [if_neg q4, if_neg q5]
          · rw [hP] at p; exact ((p.2 j (by omega)).2.1).symm
          · rw [hP] at p; exact ((p.2 j (by omega)).1).symm
        · exact n_t rfl (h0 a1)
    · rcases ht0 with ⟨rfl, z⟩ | ⟨rfl, z⟩
      · exact Or.inl ⟨rfl, z, fun c hc => absurd hc (by omega)⟩
      · exact Or.inr ⟨rfl, fun p => z (by rw [hP] at p; exact p.1)⟩
  rw [nI_c (by omega)]
  exact n_g hks (n_g hks (n_if (fun q1 => hin 1 (Or.inl ⟨rfl, q1.symm⟩)) (fun q1 => hin 0 (Or.inr ⟨rfl, fun z => q1 z.symm⟩))))
def sRO (g k : Nat) : Bool := sR g k || sO g k
theorem Inv_sO {σ σ' : kS} (h : Fr sO σ σ') (hi : Inv σ.1) : Inv σ'.1 :=
  Inv_fr h (iGl_all (by refine ⟨?_, ?_, ?_, ?_, ?_, ?_, ?_, ?_, ?_, ?_, ?_, ?_, ?_, ?_, ?_, ?_, ?_, ?_, ?_, ?_, ?_, ?_, ?_, ?_, ?_, ?_, ?_, ?_, ?_, ?_, ?_, ?_, ?_, ?_, ?_, ?_, ?_, ?_, ?_, ?_, ?_, ?_, ?_, ?_⟩ <;> exact fun _ => rfl)) (by decide) (by decide) hi
theorem g_parted' {F : Nat} (hF : 2000 ≤ F) (a1 a2 : Int32) : Good (q_parted F a1 a2) := by
  intro nx σ h
  obtain ⟨ht, hr⟩ := inv_told h
  by_cases c1 : 0 ≤ a1 ∧ a1 < σ.1 48 0 13
  · have c1' : 0 ≤ a1 ∧ a1 < σ.1 0 0 5 := by rw [ht]; exact c1
    by_cases c2 : 0 ≤ a2 ∧ a2 < σ.1 48 0 13
    · have c2' : 0 ≤ a2 ∧ a2 < σ.1 0 0 5 := by rw [ht]; exact c2
      obtain ⟨w, σ1, hw6, rfl, hkw, e1, i1, e13, m1, fm, m2, f1⟩ := pre_film hF h c1
      obtain ⟨v, σ2, hv6, rfl, hkv, e2, i2, e13', k1, fm2, k2, f2⟩ := pre_film hF i1 (a := a2) (by rw [e13]; exact c2)
      have fmw := inv_film i2 hw6 (k2 w hw6 m1)
      rw [e13] at e13'
      obtain ⟨r, σ', er, hp, es'⟩ := ri_get (c_parted hF (σ := σ2) (w := w) (v := v))
      rw [es'] at er
      have hcl : f_X5_parted F (nI w) (nI v) σ = some (.inl (some (.int r)), σ2) := by
        unfold f_X5_parted
        rw [t_why, if_pos c1', s_bv, t_why, if_pos c2', s_bv, e1, s_br hkw, e2, s_br hkv, nI_c (a := w) (by omega), nI_c (a := v) (by omega), er]
      refine top_i (k := 0) (σ2 := kUL σ2 90 0 0 r.toInt64) (by unfold w_parted; rw [hcl]; rfl) ?_
      unfold f_X6_parted
      simp only [s_b, e_whyU (σ := σ2) (by rw [e13']; exact hr), s_bi, if10, f_X6_parted_b27, z_bad0 rfl, if0, if_true, e13', if_pos c1, if_pos c2, if1]
      refine n_bv (e_runs hF i2 hv6 (by rw [e13']; exact c2.2)) ?_
      rintro σ4 ⟨g1, g2, g3, g4, g5⟩
      refine m_keep hF ?_
      intro σ5 b1 b2 f5
      have i5 := Inv_sO f5 g2
      have e5 : σ5.1 48 0 13 = σ.1 48 0 13 := by rw [f5.1 48 0 13 rfl, g3.1 48 0 13 rfl, ent_48 (by decide), e13']
      refine n_bv (i_runs hF i5 hw6 (by rw [e5]; exact c1.2)) ?_
      rintro σ6 ⟨d1, d2, d3⟩
      refine ri_mono (m_parted hF) ?_
      rintro r' σ7 ⟨hp', rfl⟩
      have t0 : σ7.1 48 0 0 = 0 := by rw [d3.1 48 0 0 rfl, f5.1 48 0 0 rfl]; exact g4
      refine ⟨d2, t0, fun _ => ?_⟩
      rw [d3.2, f5.2, g5]
      have hrr : r = r' := by
        refine ptS_u hp ?_
        have e61 : σ5.1 61 0 = σ2.1 61 0 := by funext k; rw [f5.1 61 0 k rfl, g3.1 61 0 k rfl, ent_1 (by decide)]
        have e62 : σ5.1 62 0 = σ2.1 62 0 := by funext k; rw [f5.1 62 0 k rfl, g3.1 62 0 k rfl, ent_1 (by decide)]
        have ey : yOf σ5.1 (w + 2) = yOf σ2.1 (w + 2) := by
          rw [yOf_fr f5 (by
            intro g h1 h2 k
            have h : g = 10 ∨ g = 11 ∨ g = 12 ∨ g = 13 ∨ g = 14 ∨ g = 15 ∨ g = 16 ∨ g = 17 := by omega
            rcases h with rfl | rfl | rfl | rfl | rfl | rfl | rfl | rfl <;> rfl), yOf_fr g3 sR_y, ent_y]
        rw [e61, e62, ey] at d1
        have hrun : ∀ (y : yD) s, runN (setS y (yn y) (σ2.1 61 0)) (σ2.1 62 0) y s = runS (σ2.1 61 0) (σ2.1 62 0) y s := fun y s => by rw [runS]
        have hiff : ∀ s, s < 100 → (alP (σ7.1 78 0) (σ7.1 79 0) (σ7.1 68) (σ7.1 72) (σ7.1 70) (σ7.1 74) (σ7.1 66 0) (σ7.1 80 0) s ↔ alP (σ2.1 44 w) (σ2.1 44 v) (fun s c => σ2.1 45 w (8 * s + c)) (fun s c => σ2.1 45 v (8 * s + c)) (fun s c => σ2.1 46 w (8 * s + c)) (fun s c => σ2.1 46 v (8 * s + c)) (σ2.1 47 w) (σ2.1 47 v) s) := by
          intro s hs
          obtain ⟨-, -, -, w4, w5⟩ := fmw.1 s hs
          obtain ⟨-, -, -, v4, v5⟩ := fm2.1 s hs
          obtain ⟨-, -, -, q4, q5⟩ := d1.1 s hs
          obtain ⟨-, -, -, p4, p5⟩ := g1.1 s hs
          obtain ⟨b3, b4⟩ := b1 s hs
          rw [hrun] at q4 p4
          have E1 : σ7.1 78 0 s = σ2.1 44 w s := by rw [q4, w4]
          have E2 : σ7.1 79 0 s = σ2.1 44 v s := by rw [d3.1 79 0 s rfl, b3, p4, v4]
          unfold alP
          rw [E1, E2]
          refine and_congr_right fun _ => ?_
          refine forall_congr' fun c => forall_congr' fun hc => ?_
          have G1 : σ7.1 68 s c = σ2.1 45 w (8 * s + c) := by rw [(q5 c hc).1, (w5 c hc).1, hrun]
          have G2 : σ7.1 72 s c = σ2.1 45 v (8 * s + c) := by rw [d3.1 72 s c rfl, (b4 c hc).1, (p5 c hc).1, (v5 c hc).1, hrun]
          have M1 : σ7.1 70 s c = σ2.1 46 w (8 * s + c) := by rw [(q5 c hc).2, (w5 c hc).2, hrun]
          have M2 : σ7.1 74 s c = σ2.1 46 v (8 * s + c) := by rw [d3.1 74 s c rfl, (b4 c hc).2, (p5 c hc).2, (v5 c hc).2, hrun]
          have L1 : σ7.1 66 0 c = σ2.1 47 w c := by rw [d1.2.1 c hc, fmw.2.1 c hc, hrun]
          have L2 : σ7.1 80 0 c = σ2.1 47 v c := by rw [d3.1 80 0 c rfl, b2 c hc, g1.2.1 c hc, fm2.2.1 c hc, hrun]
          rw [G1, G2, M1, M2, L1, L2]
        rcases hp' with ⟨a1, a2⟩ | ⟨s, s1, s2, s3, s4⟩
        · exact Or.inl ⟨a1, fun s hs => (hiff s hs).mp (a2 s hs)⟩
        · exact Or.inr ⟨s, s1, s2, fun z => s3 ((hiff s s1).mpr z), fun t ht => (hiff t (by omega)).mp (s4 t ht)⟩
      rw [hrr]
    · have c2' : ¬ (0 ≤ a2 ∧ a2 < σ.1 0 0 5) := by rw [ht]; exact c2
      have hcl : f_X5_parted F a1 a2 σ = some (.inr "java/util/NoSuchElementException", σ) := by
        unfold f_X5_parted
        rw [t_why, if_pos c1', s_bv, t_why, if_neg c2', s_xv]
      refine top_i (k := 1) (σ2 := σ) (by unfold w_parted; rw [hcl]; rfl) ?_
      unfold f_X6_parted
      simp only [s_b, e_why (σ := σ) hr, s_bi, if10, f_X6_parted_b22, f_X6_parted_b27, if_pos c1, if_neg c2, z_bad1 one_ne, if1, if0, if_true]
      exact n_i ⟨thr_inv h, z_thr, fun z => absurd z one_ne⟩
  · have c1' : ¬ (0 ≤ a1 ∧ a1 < σ.1 0 0 5) := by rw [ht]; exact c1
    have hcl : f_X5_parted F a1 a2 σ = some (.inr "java/util/NoSuchElementException", σ) := by
      unfold f_X5_parted
      rw [t_why, if_neg c1', s_xv]
    refine top_i (k := 1) (σ2 := σ) (by unfold w_parted; rw [hcl]; rfl) ?_
    unfold f_X6_parted
    simp only [s_b, e_why (σ := σ) hr, s_bi, if10, f_X6_parted_b22, f_X6_parted_b27, if_neg c1, z_bad1 one_ne, if1, if0, if_true]
    exact n_i ⟨thr_inv h, z_thr, fun z => absurd z one_ne⟩
