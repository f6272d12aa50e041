/-! BURNT, by both. -/
theorem burntS_s {n gas rain charge : Nat → Int32} {y : yD} {b : Nat} : burntS n gas y rain charge (b + 1) = burntS n gas y rain charge b + (if (runS (up (up n 0 (rain b)) 2 (charge b)) gas y 100).2.2.2.2.1 = -1 then 0 else 1) := by
  rw [burntS]
theorem inv_bef {m : kM} (h : Inv m) : m 4 0 10 = m 48 0 44 ∧ m 48 0 44 = nI (m 48 0 44).toNatClampNeg ∧ (m 48 0 44).toNatClampNeg ≤ 10 ∧ (∀ b, b < 10 → m 30 0 b = m 84 b 0 ∧ m 31 0 b = m 84 b 1) ∧ ∀ b, b < 10 → rng (m 84 b 0) 0 99 ∧ rng (m 84 b 1) 0 999 := by
  obtain ⟨e1, e2⟩ := rng_nI h.1.2.2.1
  exact ⟨h.1.1.2.1, e1, by omega, h.1.1.2.2.2.2.2.2.1, h.1.2.2.2.2.2.2.2.1⟩
theorem v_burnt {F : Nat} (hF : 2000 ≤ F) {σ : kS} (h : Inv σ.1) {w : Nat} (hw6 : w < 6) (hw : nI w < σ.1 48 0 13) :
    RI (f_X5_burntBy F (nI w) σ) (fun r σ' => r = burntS (σ.1 61 0) (σ.1 62 0) (yOf σ.1 (w + 2)) (fun b => σ.1 84 b 0) (fun b => σ.1 84 b 1) (σ.1 48 0 44).toNatClampNeg ∧ Inv σ'.1 ∧ (∀ w', σ'.1 40 w' 0 = σ.1 40 w' 0) ∧ Fr sF σ σ') := by
  obtain ⟨ht, hr⟩ := inv_told h
  obtain ⟨n1, n2, n3⟩ := inv_n h
  obtain ⟨b1, b2, b3, b4, b5⟩ := inv_bef h
  have ew : (nI w).toNatClampNeg = w := nI_c (by omega)
  have hkw : kin (nI w) 6 := (nI_kin (by omega)).mpr hw6
  obtain ⟨N, hN⟩ : ∃ N, N = (σ.1 48 0 44).toNatClampNeg := ⟨_, rfl⟩
  rw [← hN] at b2 b3 ⊢
  obtain ⟨y, ey0⟩ : ∃ y, yOf σ.1 (w + 2) = y := ⟨_, rfl⟩
  have hy : wfY y := by rw [← ey0]; exact wfY_of (inv_why h hw6 hw)
  obtain ⟨B, hB⟩ : ∃ B, B = burntS (σ.1 61 0) (σ.1 62 0) y (fun b => σ.1 84 b 0) (fun b => σ.1 84 b 1) := ⟨_, rfl⟩
  rw [ey0, ← hB]
  unfold f_X5_burntBy
  rw [ew]
  refine n_g hkw (n_if (fun q => ?_) (fun q => ?_))
  · refine n_fix (fun n x σ' => ∃ j, x = (nI w, B j, nI j) ∧ j ≤ N ∧ n = N - j ∧ Fr sC σ σ') ?_ F N _ σ (by omega) ⟨0, by rw [hB]; rfl, by omega, rfl, Fr.refl σ⟩
    rintro rr n x σ' ⟨j, rfl, hj, rfl, hfr⟩ ih
    have e10 : σ'.1 4 0 10 = nI N := (hfr.1 4 0 10 rfl).trans (b1.trans b2)
    unfold f_X5_burntBy_b14 f_X5_burntBy_b98 f_X5_burntBy_b111
    simp only [ew, e10, nI_c (a := j) (by omega), nI_s (a := j) (by omega)]
    refine n_if (fun q1 => ?_) (fun q1 => ?_)
    · rw [nJ_le (by omega) (by omega)] at q1
      have : j = N := by omega
      subst this
      have f : Fr sF σ (kU σ' 8 0 w (B j)) := (sC_sF hfr).u rfl
      have e61 : (kU σ' 8 0 w (B j)).1 61 = σ.1 61 := by funext i k; exact f.1 61 i k rfl
      have e62 : (kU σ' 8 0 w (B j)).1 62 = σ.1 62 := by funext i k; exact f.1 62 i k rfl
      have e84 : (kU σ' 8 0 w (B j)).1 84 = σ.1 84 := by funext i k; exact f.1 84 i k rfl
      have ey : ∀ i, yOf (kU σ' 8 0 w (B j)).1 i = yOf σ.1 i := fun i => yOf_fr f sF_y
      have hM : ∀ g, 40 ≤ g → g ≤ 47 → (kU σ' 8 0 w (B j)).1 g = σ.1 g := fun g g1 g2 => by
        funext i k
        rw [kU_at, if_neg (fun z => by omega)]
        refine hfr.1 g i k ?_
        have hg : g = 40 ∨ g = 41 ∨ g = 42 ∨ g = 43 ∨ g = 44 ∨ g = 45 ∨ g = 46 ∨ g = 47 := by omega
        rcases hg with rfl | rfl | rfl | rfl | rfl | rfl | rfl | rfl <;> rfl
      refine n_g hkw (n_b (n_g hkw (n_i ⟨kU_here, Inv_sF f ?_ ?_ h, fun w' => by rw [hM 40 (by omega) (by omega)], f⟩)))
      · intro w' hw'
        have := h.2.2.2.2.2.1 w' hw'
        rw [hM 40 (by omega) (by omega), hM 41 (by omega) (by omega), hM 42 (by omega) (by omega), hM 43 (by omega) (by omega), hM 44 (by omega) (by omega), hM 45 (by omega) (by omega), hM 46 (by omega) (by omega), hM 47 (by omega) (by omega), e61, e62, ey, f.1 0 0 5 rfl]
        exact this
      · intro w' hw'
        have := h.2.2.2.2.2.2.1 w' hw'
        rw [e61, e62, e84, ey, f.1 0 0 5 rfl, f.1 48 0 44 rfl, ← hN]
        by_cases z : w' = w
        · subst z
          refine Or.inr ⟨by rw [ht]; exact hw, ?_⟩
          rw [kU_here, hB, ey0]
        · rw [kU_at, if_neg (fun q => z q.2.2), hfr.1 8 0 w' rfl]
          rw [← hN] at this
          exact this
    · rw [nJ_le (by omega) (by omega)] at q1
      have hk10 : kin (nI j) 10 := (nI_kin (by omega)).mpr (by omega)
      refine n_bv x_load ?_
      rintro σ1 ⟨l1, l2, l3⟩
      have F1 : Fr sC σ σ1 := hfr.trans (l3.l (by intro g hg k; simp at hg; rcases hg with rfl | rfl <;> rfl))
      refine n_g hk10 (n_b (n_g hk10 (n_b (n_g hkw (n_b ?_)))))
      obtain ⟨σ2, e2⟩ : ∃ σ2, σ2 = kU (kU σ1 35 0 0 (σ1.1 30 0 j)) 35 0 2 ((kU σ1 35 0 0 (σ1.1 30 0 j)).1 31 0 j) := ⟨_, rfl⟩
      rw [← e2]
      have F2 : Fr sC σ σ2 := by rw [e2]; exact (F1.u rfl).u rfl
      have ey2 : yOf σ2.1 (w + 2) = y := (yOf_fr F2 sC_y).trans ey0
      have hst := x_start (F := F) hF (σ := σ2) (i := w + 2) (n := up (up (σ.1 61 0) 0 (σ.1 84 j 0)) 2 (σ.1 84 j 1)) (g := σ.1 62 0) (by omega) (by rw [ey2]; exact hy) (fun k hk => by
        rw [e2, up_at, up_at]
        simp only [kU_at]
        by_cases z : k = 2
        · subst z; simp; exact (F1.1 31 0 j rfl).trans (b4 j (by omega)).2
        · by_cases z2 : k = 0
          · subst z2; simp; exact (F1.1 30 0 j rfl).trans (b4 j (by omega)).1
          · simp [z, z2]; exact ((l1 k hk).trans (hfr.1 21 0 k rfl)).trans (n1 k hk)) (fun c hc => by rw [e2]; exact ((l2 c hc).trans (hfr.1 22 0 c rfl)).trans (n2 c hc))
      rw [ey2] at hst
      refine n_bv hst ?_
      rintro σ3 ⟨c1, c2, c3, c4⟩
      have ey3 : yOf σ3.1 (w + 2) = y := (yOf_fr c4 sC_y).trans ey2
      refine n_bi (x_burns hF (by omega) c3 ey3 hy c2 c1) ?_
      rintro r σ4 ⟨d1, d2, d3⟩
      have F4 := (F2.trans c4).trans d3
      have hBj : B (j + 1) = B j + (if (runS (up (up (σ.1 61 0) 0 (σ.1 84 j 0)) 2 (σ.1 84 j 1)) (σ.1 62 0) y 100).2.2.2.2.1 = -1 then 0 else 1) := by rw [hB, burntS_s]
      have hBj : B (j + 1) = B j + r := by rw [hBj, d1, runS]
      refine n_if (fun q2 => ?_) (fun q2 => ?_)
      · refine ih (N - (j + 1)) _ _ (by omega) ⟨j + 1, ?_, by omega, rfl, F4⟩
        rw [hBj, q2, Int32.add_zero]
      · refine ih (N - (j + 1)) _ _ (by omega) ⟨j + 1, ?_, by omega, rfl, F4⟩
        have : r = 1 := by
          rcases ite_or (c := (runN (setS y (yn y) (up (up (σ.1 61 0) 0 (σ.1 84 j 0)) 2 (σ.1 84 j 1))) (σ.1 62 0) y 100).2.2.2.2.1 = -1) (0 : Int32) 1 with z | z
          · exact absurd (d1.trans z) q2
          · exact d1.trans z
        rw [hBj, this]
  · unfold f_X5_burntBy_b111
    rw [ew]
    refine n_g hkw (n_i ⟨?_, h, fun _ => rfl, Fr.refl _⟩)
    rcases h.2.2.2.2.2.2.1 w hw6 with z | z
    · exact absurd z q
    · rw [z.2, hB, ey0, hN]
/-- the reference's RUN and its chargeThen -/
def sB (g k : Nat) : Bool := sR g k || (Nat.beq g 48 && Nat.beq k 40)
def sB' (g k : Nat) : Bool := sR g k || (Nat.beq g 48 && (Nat.beq k 39 || Nat.beq k 40))
theorem sR_sB {σ σ' : kS} (h : Fr sR σ σ') : Fr sB σ σ' := h.sub (fun g k q => by
  have q : (sR g k || _) = false := q
  rw [Bool.or_eq_false_iff] at q
  exact q.1)
theorem sR_sB' {σ σ' : kS} (h : Fr sR σ σ') : Fr sB' σ σ' := h.sub (fun g k q => by
  have q : (sR g k || _) = false := q
  rw [Bool.or_eq_false_iff] at q
  exact q.1)
theorem Inv_sB {σ σ' : kS} (h : Fr sB σ σ') (hi : Inv σ.1) : Inv σ'.1 :=
  Inv_fr h (iGl_all (by refine ⟨?_, ?_, ?_, ?_, ?_, ?_, ?_, ?_, ?_, ?_, ?_, ?_, ?_, ?_, ?_, ?_, ?_, ?_, ?_, ?_, ?_, ?_, ?_, ?_, ?_, ?_, ?_, ?_, ?_, ?_, ?_, ?_, ?_, ?_, ?_, ?_, ?_, ?_, ?_, ?_, ?_, ?_, ?_, ?_⟩ <;> exact fun _ => rfl)) (by decide) (by decide) hi
theorem v_burntOf {F : Nat} (hF : 2000 ≤ F) {σ : kS} (h : Inv σ.1) {w : Nat} (hw6 : w < 6) (hw : nI w < σ.1 48 0 13) :
    RI (f_X6_burntOf F (nI w) σ) (fun r σ' => r = burntS (σ.1 61 0) (σ.1 62 0) (yOf σ.1 (w + 2)) (fun b => σ.1 84 b 0) (fun b => σ.1 84 b 1) (σ.1 48 0 44).toNatClampNeg ∧ Fr sB σ σ') := by
  obtain ⟨x1, x2, x3⟩ := inv_x h
  obtain ⟨n1, n2, n3⟩ := inv_n h
  obtain ⟨b1, b2, b3, b4, b5⟩ := inv_bef h
  have hok := rOK_inv h hw6 hw
  obtain ⟨N, hN⟩ : ∃ N, N = (σ.1 48 0 44).toNatClampNeg := ⟨_, rfl⟩
  rw [← hN] at b2 b3 ⊢
  obtain ⟨y, ey0⟩ : ∃ y, yOf σ.1 (w + 2) = y := ⟨_, rfl⟩
  obtain ⟨B, hB⟩ : ∃ B, B = burntS (σ.1 61 0) (σ.1 62 0) y (fun b => σ.1 84 b 0) (fun b => σ.1 84 b 1) := ⟨_, rfl⟩
  rw [ey0] at hok
  rw [ey0, ← hB]
  have ho5 := (rng_nI hok.2.2.1).2
  unfold f_X6_burntOf
  refine n_fix (fun n x σ' => ∃ j, x = (nI w, B j, nI j) ∧ j ≤ N ∧ n = N - j ∧ Fr sB' σ σ' ∧ ∀ i, i ≠ 0 → σ'.1 48 i 39 = σ.1 48 i 39) ?_ F N _ σ (by omega) ⟨0, by rw [hB]; rfl, by omega, rfl, Fr.refl σ, fun _ _ => rfl⟩
  rintro rr n x σ' ⟨j, rfl, hj, rfl, hfr, hi0⟩ ih
  have e44 : σ'.1 48 0 44 = nI N := (hfr.1 48 0 44 rfl).trans b2
  unfold f_X6_burntOf_b4 f_X6_burntOf_b55
  simp only [e44, nI_c (a := j) (by omega), nI_s (a := j) (by omega)]
  refine n_if (fun q1 => ?_) (fun q1 => ?_)
  · rw [nJ_le (by omega) (by omega)] at q1
    have : j = N := by omega
    subst this
    refine n_b (n_i ⟨rfl, ⟨fun g i k q => ?_, hfr.2⟩⟩)
    have q : (sR g k || (Nat.beq g 48 && Nat.beq k 40)) = false := q
    rw [Bool.or_eq_false_iff] at q
    by_cases z : g = 48 ∧ k = 39
    · obtain ⟨rfl, rfl⟩ := z
      by_cases zi : i = 0
      · subst zi
        rw [kU_here, x1]
      · rw [kU_at, if_neg (fun q => zi q.2.1)]
        exact hi0 i zi
    · rw [kU_at, if_neg (fun q => z ⟨q.1, q.2.2⟩)]
      refine hfr.1 g i k ?_
      show (sR g k || (Nat.beq g 48 && (Nat.beq k 39 || Nat.beq k 40))) = false
      rw [q.1]
      by_cases z1 : g = 48
      · have z2 : k ≠ 39 := fun e => z ⟨z1, e⟩
        subst z1
        rw [nb_f z2]
        exact q.2
      · rw [nb_f z1]; rfl
  · rw [nJ_le (by omega) (by omega)] at q1
    have hk10 : kin (nI j) 10 := (nI_kin (by omega)).mpr (by omega)
    have e84 : ∀ k, σ'.1 84 j k = σ.1 84 j k := fun k => hfr.1 84 j k rfl
    refine n_g hk10 (n_b (n_b (n_g hk10 (n_b (n_b ?_)))))
    obtain ⟨σ2, e2⟩ : ∃ σ2, σ2 = kU (kU σ' 48 0 39 (σ'.1 84 j 0)) 48 0 40 ((kU σ' 48 0 39 (σ'.1 84 j 0)).1 84 j 1) := ⟨_, rfl⟩
    rw [← e2]
    have F2 : Fr sB' σ σ2 := by rw [e2]; exact (hfr.u rfl).u rfl
    obtain ⟨r1, r2⟩ := b5 j (by omega)
    have hnow : nowS σ2.1 = up (up (σ.1 61 0) 0 (σ.1 84 j 0)) 2 (σ.1 84 j 1) := by
      have g39 : σ2.1 48 0 39 = σ.1 84 j 0 := by rw [e2]; simp [kU_at]; exact e84 0
      have g40 : σ2.1 48 0 40 = σ.1 84 j 1 := by rw [e2]; simp [kU_at]; exact e84 1
      unfold nowS
      rw [g39, g40, F2.1 48 0 41 rfl, x2, F2.1 48 0 42 rfl, x3, F2.1 48 0 45 rfl, optS_0 _ (by omega)]
      have e61 : σ2.1 61 0 = σ.1 61 0 := by funext k; exact F2.1 61 0 k rfl
      rw [e61]
      show rainS _ _ _ = _
      unfold rainS
      rw [if_neg]
      intro z
      have := r1.1
      rw [z] at this
      exact absurd this (by decide)
    have hrn : ∀ k, k < 10 → rng (up (up (σ.1 61 0) 0 (σ.1 84 j 0)) 2 (σ.1 84 j 1) k) (leastN k) (mostN k) := fun k hk => by
      rw [up_at, up_at]
      by_cases z : k = 2
      · subst z; simp; exact r2
      · by_cases z2 : k = 0
        · subst z2; simp; exact r1
        · simp [z, z2]; exact n3 k hk
    refine n_bv (v_runs hF (rOK_fr hok F2 (fun k => ⟨rfl, rfl, rfl, rfl⟩) rfl) hnow hrn) ?_
    rintro σ3 ⟨c1, c2⟩
    have e62 : σ2.1 62 0 = σ.1 62 0 := by funext k; exact F2.1 62 0 k rfl
    rw [e62] at c1
    have F3 := F2.trans (sR_sB' c2)
    have hi3 : ∀ i, i ≠ 0 → σ3.1 48 i 39 = σ.1 48 i 39 := fun i hi => (c2.1 48 i 39 rfl).trans (by rw [e2]; simp [kU_at, hi]; exact hi0 i hi)
    have hBj : B (j + 1) = B j + (if σ3.1 48 0 37 = -1 then 0 else 1) := by
      have : B (j + 1) = B j + (if (runS (up (up (σ.1 61 0) 0 (σ.1 84 j 0)) 2 (σ.1 84 j 1)) (σ.1 62 0) y 100).2.2.2.2.1 = -1 then 0 else 1) := by rw [hB, burntS_s]
      rw [this, c1.2.2.1, runS]
    refine n_if (fun q2 => ?_) (fun q2 => ?_)
    · refine n_b (ih (N - (j + 1)) _ _ (by omega) ⟨j + 1, ?_, by omega, rfl, F3, hi3⟩)
      rw [hBj, if_pos q2]
    · refine n_b (ih (N - (j + 1)) _ _ (by omega) ⟨j + 1, ?_, by omega, rfl, F3, hi3⟩)
      rw [hBj, if_neg q2]
