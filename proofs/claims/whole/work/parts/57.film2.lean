/-! BURNS, LASTS, A FILM. -/
theorem sC_y : ∀ g, 10 ≤ g → g ≤ 17 → ∀ k, sC g k = false := by
  intro g h1 h2 k
  have h : g = 10 ∨ g = 11 ∨ g = 12 ∨ g = 13 ∨ g = 14 ∨ g = 15 ∨ g = 16 ∨ g = 17 := by omega
  rcases h with rfl | rfl | rfl | rfl | rfl | rfl | rfl | rfl <;> rfl
theorem x_lastedSoFar {F : Nat} {σ : kS} {r : rS} (h : flM σ.1 r) : f_X1_lastedSoFar F σ = some (.inl (some (.int (lastS r))), σ) := by
  obtain ⟨-, -, -, -, -, h1, -, h2⟩ := h
  unfold f_X1_lastedSoFar f_X1_lastedSoFar_b27 f_X1_lastedSoFar_b40 lastS
  rw [h1, h2]
  by_cases q1 : r.2.2.2.2.1 = -1
  · rw [if_pos q1, if_pos (Or.inl q1)]
  rw [if_neg q1]
  by_cases q2 : r.2.2.2.2.2.2 = -1
  · rw [if_pos q2, if_pos (Or.inr (Or.inl q2))]
  rw [if_neg q2]
  by_cases q3 : r.2.2.2.2.1 ≤ r.2.2.2.2.2.2
  · rw [if_pos q3, if_neg (fun h => h.elim q1 (fun h => h.elim q2 (Int32.not_lt.mpr q3)))]
  · rw [if_neg q3, if_pos (Or.inr (Or.inr (Int32.not_le.mp q3)))]
theorem x_burns {F : Nat} (hF : 2000 ≤ F) {σ : kS} {i : Nat} {n g : Nat → Int32} {y : yD} (hi : i < 8) (h5 : σ.1 6 0 5 = nI i) (ey0 : yOf σ.1 i = y) (hy : wfY y) (hn : ∀ k, k < 10 → σ.1 35 0 k = n k) (hr : flM σ.1 (begS n g)) :
    RI (f_X1_burns F σ) (fun r σ' => r = (if (runN n g y 100).2.2.2.2.1 = -1 then 0 else 1) ∧ σ'.1 6 0 10 = (runN n g y 100).2.2.2.2.1 ∧ Fr sC σ σ') := by
  unfold f_X1_burns
  refine n_fix (fun N x σ' => ∃ s, x = nI s ∧ s ≤ 100 ∧ N = 100 - s ∧ flM σ'.1 (runN n g y s) ∧ (∀ k, k < 10 → σ'.1 35 0 k = n k) ∧ σ'.1 6 0 5 = nI i ∧ Fr sC σ σ') ?_ F 100 _ _ (by omega) ⟨0, rfl, by omega, rfl, hr, hn, h5, Fr.refl σ⟩
  rintro rr N x σ' ⟨s, rfl, hs, rfl, hfl, h35, e5, hfr⟩ ih
  have e10 : σ'.1 6 0 10 = (runN n g y s).2.2.2.2.1 := hfl.2.2.2.2.2.1
  have hend : (runN n g y 100).2.2.2.2.1 = (runN n g y s).2.2.2.2.1 → Rn (f_X1_burns_b27 F σ') (fun v σ' => ∃ r, v = some (Value.int r) ∧ (r = if (runN n g y 100).2.2.2.2.1 = -1 then 0 else 1) ∧ σ'.1 6 0 10 = (runN n g y 100).2.2.2.2.1 ∧ Fr sC σ σ') := fun he => by
    unfold f_X1_burns_b27 f_X1_burns_b40
    rw [he, ← e10]
    refine n_if (fun q => ?_) (fun q => ?_)
    · exact n_g rfl (n_i ⟨by rw [if_pos q], rfl, hfr⟩)
    · exact n_g rfl (n_i ⟨by rw [if_neg q], rfl, hfr⟩)
  unfold f_X1_burns_b2
  dsimp only
  refine n_if (fun q => ?_) (fun q => ?_)
  · have q : nI 100 ≤ nI s := q
    rw [nJ_le (by omega) (by omega)] at q
    have : s = 100 := by omega
    subst this
    exact hend rfl
  · have q : ¬ nI 100 ≤ nI s := q
    rw [nJ_le (by omega) (by omega)] at q
    rw [e10, nI_s (a := s) (by omega)]
    refine n_if (fun q1 => ?_) (fun q1 => hend ?_)
    · have ey : yOf σ'.1 i = y := (yOf_fr hfr sC_y).trans ey0
      have hp := x_pass (F := F) hF (σ := σ') (i := i) (sec := nI s) (n := n) (r := runN n g y s) hi e5 (by rw [ey]; exact hy) h35 hfl
      rw [ey] at hp
      refine n_bv hp ?_
      rintro σ2 ⟨p1, p2, p3, p4⟩
      exact ih (100 - (s + 1)) _ _ (by omega) ⟨s + 1, rfl, by omega, rfl, p1, fun k hk => (p3 k).trans (h35 k hk), p4.trans e5, hfr.trans p2⟩
    · obtain ⟨d, he⟩ : ∃ d, s + d = 100 := ⟨100 - s, by omega⟩
      have := runN_first_st q1 d (by omega)
      rw [he] at this
      exact this
theorem x_lasts {F : Nat} (hF : 2000 ≤ F) {σ : kS} {i : Nat} {n g : Nat → Int32} {y : yD} (hi : i < 8) (h5 : σ.1 6 0 5 = nI i) (ey0 : yOf σ.1 i = y) (hy : wfY y) (hn : ∀ k, k < 10 → σ.1 35 0 k = n k) (hr : flM σ.1 (begS n g)) :
    RI (f_X1_lasts F σ) (fun r σ' => r = lastS (runN n g y 100) ∧ Fr sC σ σ') := by
  unfold f_X1_lasts
  refine n_fix (fun N x σ' => ∃ s, x = nI s ∧ s ≤ 100 ∧ N = 100 - s ∧ flM σ'.1 (runN n g y s) ∧ (∀ k, k < 10 → σ'.1 35 0 k = n k) ∧ σ'.1 6 0 5 = nI i ∧ Fr sC σ σ') ?_ F 100 _ _ (by omega) ⟨0, rfl, by omega, rfl, hr, hn, h5, Fr.refl σ⟩
  rintro rr N x σ' ⟨s, rfl, hs, rfl, hfl, h35, e5, hfr⟩ ih
  have e12 : σ'.1 6 0 12 = (runN n g y s).2.2.2.2.2.2 := hfl.2.2.2.2.2.2.2
  have hend : lastS (runN n g y s) = lastS (runN n g y 100) → Rn (f_X1_lasts_b27 F σ') (fun v σ' => ∃ r, v = some (Value.int r) ∧ r = lastS (runN n g y 100) ∧ Fr sC σ σ') := fun he => by
    unfold f_X1_lasts_b27
    rw [x_lastedSoFar hfl, s_bi]
    exact n_i ⟨he, hfr⟩
  unfold f_X1_lasts_b2
  dsimp only
  refine n_if (fun q => ?_) (fun q => ?_)
  · have q : nI 100 ≤ nI s := q
    rw [nJ_le (by omega) (by omega)] at q
    have : s = 100 := by omega
    subst this
    exact hend rfl
  · have q : ¬ nI 100 ≤ nI s := q
    rw [nJ_le (by omega) (by omega)] at q
    rw [e12, nI_s (a := s) (by omega)]
    refine n_if (fun q1 => ?_) (fun q1 => hend (lastS_st hs q1))
    have ey : yOf σ'.1 i = y := (yOf_fr hfr sC_y).trans ey0
    have hp := x_pass (F := F) hF (σ := σ') (i := i) (sec := nI s) (n := n) (r := runN n g y s) hi e5 (by rw [ey]; exact hy) h35 hfl
    rw [ey] at hp
    refine n_bv hp ?_
    rintro σ2 ⟨p1, p2, p3, p4⟩
    exact ih (100 - (s + 1)) _ _ (by omega) ⟨s + 1, rfl, by omega, rfl, p1, fun k hk => (p3 k).trans (h35 k hk), p4.trans e5, hfr.trans p2⟩
/-- the flight and one film -/
def FrM (w : Nat) (σ σ' : kS) : Prop := (∀ g i k, sC g k = false → (40 ≤ g → g ≤ 47 → i ≠ w) → σ'.1 g i k = σ.1 g i k) ∧ σ'.2 = σ.2
theorem FrM.of {w : Nat} {σ σ' : kS} (h : Fr sC σ σ') : FrM w σ σ' := ⟨fun g i k q _ => h.1 g i k q, h.2⟩
theorem FrM.trans {w : Nat} {σ σ' σ'' : kS} (h : FrM w σ σ') (h' : FrM w σ' σ'') : FrM w σ σ'' := ⟨fun g i k q z => (h'.1 g i k q z).trans (h.1 g i k q z), h'.2.trans h.2⟩
theorem FrM.u {w : Nat} {σ σ' : kS} {g k : Nat} {v : Int32} (h : FrM w σ σ') (q1 : 40 ≤ g) (q2 : g ≤ 47) : FrM w σ (kU σ' g w k v) := by
  refine ⟨fun g' i' k' e z => ?_, h.2⟩
  rw [kU_at, if_neg]
  · exact h.1 g' i' k' e z
  · rintro ⟨rfl, rfl, rfl⟩
    exact z q1 q2 rfl
theorem FrM.cp {w : Nat} {σ σ' : kS} {gs is gd dp n : Nat} (h : FrM w σ σ') (q1 : 40 ≤ gd) (q2 : gd ≤ 47) : FrM w σ (kCp σ' gs is gd w dp n) := by
  refine ⟨fun g' i' k' e z => ?_, h.2⟩
  rw [kCp_at, if_neg]
  · exact h.1 g' i' k' e z
  · rintro ⟨rfl, rfl, -⟩
    exact z q1 q2 rfl
theorem x_keep {F : Nat} {σ : kS} {w s : Nat} (hs : s < 100) : f_X0_keep F w (nI s) σ = some (.inl none, kCp (kCp (kU (kU (kU (kU σ 41 w s (σ.1 6 0 6)) 42 w s (σ.1 6 0 7)) 43 w s (σ.1 6 0 8)) 44 w s (σ.1 6 0 9)) 36 0 45 w (8 * s) 8) 37 0 46 w (8 * s) 8) := by
  have e8 : nI s * 8 = nI (8 * s) := by
    rw [i_eq, i_mul, nI_toInt (by omega), nI_toInt (by omega)]
    · show (s : Int) * 8 = _
      omega
    · rw [nI_toInt (by omega)]; show _ ≤ _ * (8 : Int); omega
    · rw [nI_toInt (by omega)]; show _ * (8 : Int) < _; omega
  have hk : kin (nI s) 100 := (nI_kin (by omega)).mpr hs
  have hk2 : kin (nI (8 * s)) (800 + 1 - 8) := (nI_kin (by omega)).mpr (by omega)
  unfold f_X0_keep
  simp only [e8, nI_c (a := s) (by omega), nI_c (a := 8 * s) (by omega), s_b]
  rw [kg_t hk, kg_t hk, kg_t hk, kg_t hk, kg_t hk2, kg_t hk2]
  rfl
theorem x_filmBy {F : Nat} (hF : 2000 ≤ F) {σ : kS} {w : Nat} {n0 g : Nat → Int32} (hw : w < 6) (hn0 : ∀ k, k < 10 → σ.1 21 0 k = n0 k) (hg0 : ∀ c, c < 8 → σ.1 22 0 c = g c) (hy : wfY (yOf σ.1 (w + 2))) (hm : σ.1 40 w 0 = 0 ∨ σ.1 40 w 0 = 1 ∧ filmR (σ.1 40 w) (σ.1 41 w) (σ.1 42 w) (σ.1 43 w) (σ.1 44 w) (σ.1 45 w) (σ.1 46 w) (σ.1 47 w) n0 g (yOf σ.1 (w + 2))) :
    RI (f_X5_filmBy F (nI w) σ) (fun r σ' => r = nI w ∧ σ'.1 40 w 0 = 1 ∧ filmR (σ'.1 40 w) (σ'.1 41 w) (σ'.1 42 w) (σ'.1 43 w) (σ'.1 44 w) (σ'.1 45 w) (σ'.1 46 w) (σ'.1 47 w) n0 g (yOf σ.1 (w + 2)) ∧ FrM w σ σ') := by
  have ew : (nI w).toNatClampNeg = w := nI_c (by omega)
  have hkw : kin (nI w) 6 := (nI_kin (by omega)).mpr hw
  obtain ⟨y, ey0⟩ : ∃ y, yOf σ.1 (w + 2) = y := ⟨_, rfl⟩
  rw [ey0] at hy hm ⊢
  obtain ⟨n, en0⟩ : ∃ n, setS y (yn y) n0 = n := ⟨_, rfl⟩
  have hrun : ∀ s, runS n0 g y s = runN n g y s := fun s => by rw [← en0]; rfl
  unfold f_X5_filmBy f_X5_filmBy_b77
  rw [ew]
  refine n_g hkw (n_b (n_if (fun q => ?_) (fun q => ?_)))
  · refine n_bv x_load ?_
    rintro σ1 ⟨a1, a2, a3⟩
    have F1 : Fr sC σ σ1 := a3.l (by intro g hg k; simp at hg; rcases hg with rfl | rfl <;> rfl)
    refine n_g hkw (n_b ?_)
    have ey1 : yOf σ1.1 (w + 2) = y := (yOf_fr F1 sC_y).trans ey0
    have hst := x_start (F := F) hF (σ := σ1) (i := w + 2) (n := n0) (g := g) (by omega) (by rw [ey1]; exact hy) (fun k hk => (a1 k hk).trans (hn0 k hk)) (fun c hc => (a2 c hc).trans (hg0 c hc))
    rw [ey1, en0] at hst
    refine n_bv hst ?_
    rintro σ2 ⟨b1, b2, b3, b4⟩
    refine n_fix (fun N x σ' => ∃ s, x = (w, nI s) ∧ s ≤ 100 ∧ N = 100 - s ∧ flM σ'.1 (runN n g y s) ∧ (∀ k, k < 10 → σ'.1 35 0 k = n k) ∧ σ'.1 6 0 5 = nI (w + 2) ∧ (∀ t, t < s → σ'.1 41 w t = (runN n g y (t + 1)).1.1 ∧ σ'.1 42 w t = (runN n g y (t + 1)).1.2.1 ∧ σ'.1 43 w t = (runN n g y (t + 1)).1.2.2.1 ∧ σ'.1 44 w t = (runN n g y (t + 1)).1.2.2.2 ∧ ∀ c, c < 8 → σ'.1 45 w (8 * t + c) = (runN n g y (t + 1)).2.1 c ∧ σ'.1 46 w (8 * t + c) = (runN n g y (t + 1)).2.2.1 c) ∧ FrM w σ σ') ?_ F 100 _ _ (by omega) ⟨0, rfl, by omega, rfl, b1, b2, b3, fun t ht => absurd ht (by omega), FrM.of (F1.trans b4)⟩
    rintro rr N x σ' ⟨s, rfl, hs, rfl, hfl, h35, e5, hrec, hfr⟩ ih
    unfold f_X5_filmBy_b40 f_X5_filmBy_b77
    dsimp only
    refine n_if (fun q => ?_) (fun q => ?_)
    · have q : nI 100 ≤ nI s := q
      rw [nJ_le (by omega) (by omega)] at q
      have : s = 100 := by omega
      subst this
      obtain ⟨l1, l2, l3, l4, l5, l6, l7, l8⟩ := hfl
      have hl4 : flM (kU (kU (kU (kCp σ' 38 0 47 w 0 8) 40 w 8 (σ'.1 6 0 10)) 40 w 9 (σ'.1 6 0 11)) 40 w 10 (σ'.1 6 0 12)).1 (runN n g y 100) := ⟨l1, l2, l3, l4, l5, l6, l7, l8⟩
      have hend : f_X0_end F w σ' = some (.inl none, kU (kU (kU (kU (kU (kCp σ' 38 0 47 w 0 8) 40 w 8 (σ'.1 6 0 10)) 40 w 9 (σ'.1 6 0 11)) 40 w 10 (σ'.1 6 0 12)) 40 w 11 (lastS (runN n g y 100))) 40 w 0 1) := by
        unfold f_X0_end
        show kBi (f_X1_lastedSoFar F (kU (kU (kU (kCp σ' 38 0 47 w 0 8) 40 w 8 (σ'.1 6 0 10)) 40 w 9 (σ'.1 6 0 11)) 40 w 10 (σ'.1 6 0 12))) _ = _
        rw [x_lastedSoFar hl4]
        rfl
      rw [hend, s_bv]
      unfold filmR
      simp only [hrun]
      refine n_i ⟨rfl, kU_here, ⟨fun t ht => ?_, fun c hc => ?_, ?_, ?_, ?_, ?_⟩, ?_⟩
      · exact hrec t ht
      · show (if _ then σ'.1 38 0 (c - 0) else _) = _
        rw [if_pos ⟨rfl, rfl, by omega, by omega⟩]
        exact (l5 c hc).2.2
      · simp [kU_at]; exact l6
      · simp [kU_at]; exact l7
      · simp [kU_at]; exact l8
      · simp [kU_at]
      · exact (((((hfr.cp (by omega) (by omega)).u (by omega) (by omega)).u (by omega) (by omega)).u (by omega) (by omega)).u (by omega) (by omega)).u (by omega) (by omega)
    · have q : ¬ nI 100 ≤ nI s := q
      rw [nJ_le (by omega) (by omega)] at q
      rw [nI_s (a := s) (by omega)]
      have ey : yOf σ'.1 (w + 2) = y := by
        have e : ∀ g, 10 ≤ g → g ≤ 17 → σ'.1 g = σ.1 g := fun g h1 h2 => by funext i k; exact hfr.1 g i k (sC_y g h1 h2 k) (fun z => absurd z (by omega))
        rw [← ey0]
        unfold yOf
        rw [e 10 (by omega) (by omega), e 11 (by omega) (by omega), e 12 (by omega) (by omega), e 13 (by omega) (by omega), e 14 (by omega) (by omega), e 15 (by omega) (by omega), e 16 (by omega) (by omega), e 17 (by omega) (by omega)]
      have hp := x_pass (F := F) hF (σ := σ') (i := w + 2) (sec := nI s) (n := n) (r := runN n g y s) (by omega) e5 (by rw [ey]; exact hy) h35 hfl
      rw [ey] at hp
      refine n_bv hp ?_
      rintro σ3 ⟨p1, p2, p3, p4⟩
      rw [x_keep (by omega), s_bv]
      have hp1 : flM σ3.1 (runN n g y (s + 1)) := p1
      obtain ⟨l1, l2, l3, l4, l5, l6, l7, l8⟩ := p1
      refine ih (100 - (s + 1)) _ _ (by omega) ⟨s + 1, rfl, by omega, rfl, ⟨l1, l2, l3, l4, l5, l6, l7, l8⟩, fun k hk => (p3 k).trans (h35 k hk), p4.trans e5, fun t ht => ?_, ?_⟩
      · by_cases z : t = s
        · subst z
          simp only [kCp_at, kU_at]
          refine ⟨by simp; exact l1, by simp; exact l2, by simp; exact l3, by simp; exact l4, fun c hc => ⟨?_, ?_⟩⟩
          · simp [show c < 8 from hc]; exact (l5 c hc).1
          · simp [show c < 8 from hc]; exact (l5 c hc).2.1
        · obtain ⟨r1, r2, r3, r4, r5⟩ := hrec t (by omega)
          have k41 : ∀ g, 41 ≤ g → g ≤ 46 → ∀ k, σ3.1 g w k = σ'.1 g w k := fun g h1 h2 k => p2.1 g w k (by
            have h : g = 41 ∨ g = 42 ∨ g = 43 ∨ g = 44 ∨ g = 45 ∨ g = 46 := by omega
            rcases h with rfl | rfl | rfl | rfl | rfl | rfl <;> rfl)
          simp only [kCp_at, kU_at]
          refine ⟨by simp [z, k41 41 (by omega) (by omega)]; exact r1, by simp [z, k41 42 (by omega) (by omega)]; exact r2, by simp [z, k41 43 (by omega) (by omega)]; exact r3, by simp [z, k41 44 (by omega) (by omega)]; exact r4, fun c hc => ⟨?_, ?_⟩⟩
          · have z1 : ¬ (8 * s ≤ 8 * t + c ∧ 8 * t + c < 8 * s + 8) := by omega
            simp [z1, k41 45 (by omega) (by omega)]; exact (r5 c hc).1
          · have z1 : ¬ (8 * s ≤ 8 * t + c ∧ 8 * t + c < 8 * s + 8) := by omega
            simp [z1, k41 46 (by omega) (by omega)]; exact (r5 c hc).2
      · exact ((((((hfr.trans (FrM.of p2)).u (by omega) (by omega)).u (by omega) (by omega)).u (by omega) (by omega)).u (by omega) (by omega)).cp (by omega) (by omega)).cp (by omega) (by omega)
  · rcases hm with h | h
    · exact absurd h q
    · exact n_i ⟨rfl, h.1, h.2, FrM.of (Fr.refl σ)⟩
