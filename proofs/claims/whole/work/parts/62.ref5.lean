/-! THE REFERENCE'S RUN. -/
def bitS (bits : Int32) (k : Nat) : Prop := (bits >>> (nI k &&& 31)) &&& 1 = 1
def optS (bits : Int32) (on ov : Nat → Int32) : Nat → (Nat → Int32) → Nat → Int32
  | 0, n => n
  | k + 1, n => if (bits >>> (nI k &&& 31)) &&& 1 = 1 then up (optS bits on ov k n) (on k).toNatClampNeg (ov k) else optS bits on ov k n
def rainS (rain charge : Int32) (n : Nat → Int32) : Nat → Int32 := if rain = -1 then n else up (up n 0 rain) 2 charge
def leadS (leads : Int32) (n : Nat → Int32) : Nat → Int32 := if leads = -1 then n else up n 1 leads
/-- the reference's numbers ahead of the WHY's sets -/
def nowS (m : kM) : Nat → Int32 := leadS (m 48 0 41) (rainS (m 48 0 39) (m 48 0 40) (optS (m 48 0 42) (fun k => m 86 k 0) (fun k => m 86 k 1) (m 48 0 45).toNatClampNeg (m 61 0)))
theorem r_b171 {F : Nat} (hF : 2000 ≤ F) {σ : kS} : RV (kFix (f_X6_begins_b171 F) F 0 σ) (fun σ' => (∀ c, c < 8 → σ'.1 64 0 c = σ.1 62 0 c ∧ σ'.1 65 0 c = 0 ∧ σ'.1 66 0 c = -1) ∧ σ'.1 48 0 37 = -1 ∧ σ'.1 48 0 38 = -1 ∧ σ'.1 48 0 36 = -1 ∧ Fr (fun g k => Nat.beq g 64 || Nat.beq g 65 || Nat.beq g 66 || (Nat.beq g 48 && (Nat.ble 36 k && Nat.ble k 38))) σ σ') := by
  refine n_fix (fun n x σ' => ∃ j, x = nI j ∧ j ≤ 8 ∧ n = 8 - j ∧ (∀ c, c < j → σ'.1 64 0 c = σ.1 62 0 c ∧ σ'.1 65 0 c = 0 ∧ σ'.1 66 0 c = -1) ∧ Fr (sL [64, 65, 66]) σ σ') ?_ F 8 _ σ (by omega) ⟨0, rfl, by omega, rfl, fun c hc => absurd hc (by omega), Fr.refl σ⟩
  rintro rr n x σ' ⟨j, rfl, hj, rfl, hI, hfr⟩ ih
  unfold f_X6_begins_b171
  simp only [nI_c (a := j) (by omega), nI_s (a := j) (by omega)]
  refine n_if (fun q => ?_) (fun q => ?_)
  · have q : nI 8 ≤ nI j := q
    rw [nJ_le (by omega) (by omega)] at q
    refine n_b (n_b (n_b (n_v ⟨fun c hc => hI c (by omega), ?_, ?_, ?_, ?_⟩)))
    · simp [kU_at]
    · simp [kU_at]
    · simp [kU_at]
    · exact (((hfr.l (by intro g hg k; simp at hg; rcases hg with rfl | rfl | rfl <;> rfl)).u rfl).u rfl).u rfl
  · have q : ¬ nI 8 ≤ nI j := q
    rw [nJ_le (by omega) (by omega)] at q
    have hk : kin (nI j) 8 := (nI_kin (by omega)).mpr (by omega)
    refine n_g hk (n_g hk (n_b (n_g hk (n_b (n_g hk (n_b (ih (8 - (j + 1)) _ _ (by omega) ⟨j + 1, rfl, by omega, rfl, fun c hc => ?_, ((hfr.u rfl).u rfl).u rfl⟩)))))))
    simp only [kU_at]
    by_cases k : c = j
    · subst k
      simp
      exact hfr.1 62 0 c rfl
    · simp [k]; exact hI c (by omega)
theorem r_begins {F : Nat} (hF : 2000 ≤ F) {σ : kS} {w : Nat} {y : yD} (hw : w < 6) (hY : whyR y (σ.1 57 0 w) (fun j => σ.1 56 (14 * w + j)) (σ.1 54 w)) (ho : rng (σ.1 48 0 45) 0 5) (hO : ∀ k, k < 5 → kin (σ.1 86 k 0) 10) :
    RV (f_X6_begins F (nI w) σ) (fun σ' => (∀ k, k < 10 → σ'.1 63 0 k = setS y (yn y) (nowS σ.1) k) ∧ rfM σ'.1 (begS (setS y (yn y) (nowS σ.1)) (σ.1 62 0)) ∧ Fr sR σ σ') := by
  have ew : (nI w).toNatClampNeg = w := nI_c (by omega)
  have hkw : kin (nI w) 6 := (nI_kin (by omega)).mpr hw
  obtain ⟨hn, en⟩ := why_n hY
  have hy := wfY_of hY
  obtain ⟨eo, ho5⟩ := rng_nI ho
  obtain ⟨ops, hops⟩ : ∃ x, x = (σ.1 48 0 45).toNatClampNeg := ⟨_, rfl⟩
  rw [← hops] at eo ho5
  have f63 : ∀ σ', Fr (sL [63]) σ σ' → Fr sR σ σ' := fun σ' h => h.l (by intro g hg k; simp at hg; subst hg; rfl)
  -- the sets
  have hsets : ∀ σ1 : kS, Fr (sL [63]) σ σ1 → (∀ k, k < 10 → σ1.1 63 0 k = nowS σ.1 k) → Rn (f_X6_begins_b121 F (nI w) σ1) (fun v σ' => v = none ∧ (∀ k, k < 10 → σ'.1 63 0 k = setS y (yn y) (nowS σ.1) k) ∧ rfM σ'.1 (begS (setS y (yn y) (nowS σ.1)) (σ.1 62 0)) ∧ Fr sR σ σ') := by
    intro σ1 f1 a1
    unfold f_X6_begins_b121
    refine n_fix (fun N x σ' => ∃ j, x = (nI w, nI j) ∧ j ≤ yn y ∧ N = yn y - j ∧ (∀ k, k < 10 → σ'.1 63 0 k = setS y j (nowS σ.1) k) ∧ Fr (sL [63]) σ σ') ?_ F (yn y) _ _ (by omega) ⟨0, rfl, by omega, rfl, a1, f1⟩
    rintro rr N x σ' ⟨j, rfl, hj, rfl, hI, hfr⟩ ih
    have e57 : σ'.1 57 0 w = nI (yn y) := (hfr.1 57 0 w rfl).trans en
    unfold f_X6_begins_b123 f_X6_begins_b163
    simp only [ew, e57]
    refine n_g hkw (n_if (fun q1 => ?_) (fun q1 => ?_))
    · rw [nJ_le (by omega) (by omega)] at q1
      have : j = yn y := by omega
      subst this
      refine rv_mono (r_b171 hF) ?_
      rintro σ2 ⟨b1, b2, b3, b4, f2⟩
      refine ⟨fun k hk => (f2.1 63 0 k rfl).trans (hI k hk), ⟨fun c hc => ⟨(b1 c hc).1.trans (hfr.1 62 0 c rfl), (b1 c hc).2⟩, b2, b3, b4⟩, (f63 _ hfr).trans (f2.sub ?_)⟩
      intro g k z
      by_cases z1 : g = 64
      · subst z1; cases z
      by_cases z2 : g = 65
      · subst z2; cases z
      by_cases z3 : g = 66
      · subst z3; cases z
      by_cases z4 : g = 48
      · subst z4; exact z
      show (Nat.beq g 64 || Nat.beq g 65 || Nat.beq g 66 || (Nat.beq g 48 && _)) = false
      rw [nb_f z1, nb_f z2, nb_f z3, nb_f z4]
      rfl
    · rw [nJ_le (by omega) (by omega)] at q1
      rw [nI_14 hw (by omega), nI_c (by omega), nI_s (by omega)]
      have hR := why_at hY (j := j) (by omega)
      have e56 : ∀ k, σ'.1 56 (14 * w + j) k = σ.1 56 (14 * w + j) k := fun k => hfr.1 56 _ k rfl
      refine n_g ((nI_kin (by omega)).mpr (by omega)) (n_b ?_)
      simp only [e56]
      have hnew : setS y (j + 1) (nowS σ.1) = if yk y j = -19 then up (setS y j (nowS σ.1)) (yt y j) (ya y j) else setS y j (nowS σ.1) := rfl
      obtain ⟨h1, h2⟩ := hR
      refine n_if (fun q2 => ?_) (fun q2 => ?_)
      · have h2 := (h2.resolve_left (by
          rintro h
          rw [h.2.1] at q2; exact absurd q2 (by decide))).resolve_left (by
          rintro h
          rw [h.2.1] at q2; exact absurd q2 (by decide))
        obtain ⟨b1, b2, b3, b4, b5⟩ := h2
        have hkt : kin (σ.1 56 (14 * w + j) 1) 10 := ⟨b4.1, by have := b4.2; omega⟩
        have ht : (σ.1 56 (14 * w + j) 1).toNatClampNeg = yt y j := by rw [h1]; rfl
        refine n_g hkt (n_b (ih (yn y - (j + 1)) _ _ (by omega) ⟨j + 1, rfl, by omega, rfl, fun k hk => ?_, hfr.u rfl⟩))
        rw [ht, hnew, if_pos b1, up_at, kU_at, b3]
        by_cases z : k = yt y j
        · simp [z]
        · simp [z]; exact hI k hk
      · refine ih (yn y - (j + 1)) _ _ (by omega) ⟨j + 1, rfl, by omega, rfl, fun k hk => ?_, hfr⟩
        rw [hnew, if_neg]
        · exact hI k hk
        · intro z
          rcases h2 with h | h | h
          · exact absurd (z.symm.trans h.1) (by decide)
          · exact absurd (z.symm.trans h.1) (by decide)
          · exact q2 h.2.1
  -- leads and rain
  obtain ⟨o1, ho1⟩ : ∃ x, x = optS (σ.1 48 0 42) (fun k => σ.1 86 k 0) (fun k => σ.1 86 k 1) ops (σ.1 61 0) := ⟨_, rfl⟩
  have hnow : nowS σ.1 = leadS (σ.1 48 0 41) (rainS (σ.1 48 0 39) (σ.1 48 0 40) o1) := by rw [ho1, hops]; rfl
  have hlead : ∀ σ1 : kS, Fr (sL [63]) σ σ1 → (∀ k, k < 10 → σ1.1 63 0 k = rainS (σ.1 48 0 39) (σ.1 48 0 40) o1 k) → Rn (f_X6_begins_b103 F (nI w) σ1) (fun v σ' => v = none ∧ (∀ k, k < 10 → σ'.1 63 0 k = setS y (yn y) (nowS σ.1) k) ∧ rfM σ'.1 (begS (setS y (yn y) (nowS σ.1)) (σ.1 62 0)) ∧ Fr sR σ σ') := by
    intro σ1 f1 a1
    unfold f_X6_begins_b103
    rw [f1.1 48 0 41 rfl]
    refine n_if (fun q => hsets σ1 f1 (fun k hk => ?_)) (fun q => n_b (hsets _ (f1.u rfl) (fun k hk => ?_)))
    · rw [hnow]; unfold leadS; rw [if_pos q]; exact a1 k hk
    · rw [hnow]; unfold leadS; rw [if_neg q, up_at, kU_at]
      by_cases z : k = 1
      · simp [z]
      · simp [z]; exact a1 k hk
  -- the numbers, the options
  unfold f_X6_begins
  refine n_fix (fun N x σ' => ∃ j, x = (nI w, nI j) ∧ j ≤ 10 ∧ N = 10 - j ∧ (∀ k, k < j → σ'.1 63 0 k = σ.1 61 0 k) ∧ Fr (sL [63]) σ σ') ?_ F 10 _ _ (by omega) ⟨0, rfl, by omega, rfl, fun k hk => absurd hk (by omega), Fr.refl σ⟩
  rintro rr N x σ' ⟨j, rfl, hj, rfl, hI, hfr⟩ ih
  unfold f_X6_begins_b2
  simp only [nI_c (a := j) (by omega), nI_s (a := j) (by omega)]
  refine n_if (fun q => ?_) (fun q => ?_)
  · have q : nI 10 ≤ nI j := q
    rw [nJ_le (by omega) (by omega)] at q
    refine n_fix (fun N x σ' => ∃ j, x = (nI w, nI j) ∧ j ≤ ops ∧ N = ops - j ∧ (∀ k, k < 10 → σ'.1 63 0 k = optS (σ.1 48 0 42) (fun k => σ.1 86 k 0) (fun k => σ.1 86 k 1) j (σ.1 61 0) k) ∧ Fr (sL [63]) σ σ') ?_ F ops _ _ (by omega) ⟨0, rfl, by omega, rfl, fun k hk => hI k (by omega), hfr⟩
    rintro rr N x σ' ⟨j, rfl, hj, rfl, hI, hfr⟩ ih
    have e45 : σ'.1 48 0 45 = nI ops := (hfr.1 48 0 45 rfl).trans eo
    have e42 : σ'.1 48 0 42 = σ.1 48 0 42 := hfr.1 48 0 42 rfl
    have e86 : ∀ k, σ'.1 86 j k = σ.1 86 j k := fun k => hfr.1 86 j k rfl
    unfold f_X6_begins_b28 f_X6_begins_b69
    simp only [nI_c (a := j) (by omega), nI_s (a := j) (by omega), e45, e42]
    refine n_if (fun q1 => ?_) (fun q1 => ?_)
    · rw [nJ_le (by omega) (by omega)] at q1
      have : j = ops := by omega
      subst this
      rw [← ho1] at hI
      rw [hfr.1 48 0 39 rfl]
      refine n_if (fun q2 => hlead σ' hfr (fun k hk => ?_)) (fun q2 => n_b (n_b (hlead _ ((hfr.u rfl).u rfl) (fun k hk => ?_))))
      · unfold rainS; rw [if_pos q2]; exact hI k hk
      · unfold rainS; rw [if_neg q2, up_at, up_at]
        simp only [kU_at]
        by_cases z : k = 2
        · simp [z]; exact hfr.1 48 0 40 rfl
        · by_cases z2 : k = 0
          · simp [z2]
          · simp [z, z2]; exact hI k hk
    · rw [nJ_le (by omega) (by omega)] at q1
      have hk5 : kin (nI j) 5 := (nI_kin (by omega)).mpr (by omega)
      have hnew : optS (σ.1 48 0 42) (fun k => σ.1 86 k 0) (fun k => σ.1 86 k 1) (j + 1) (σ.1 61 0) = if (σ.1 48 0 42 >>> (nI j &&& 31)) &&& 1 = 1 then up (optS (σ.1 48 0 42) (fun k => σ.1 86 k 0) (fun k => σ.1 86 k 1) j (σ.1 61 0)) (σ.1 86 j 0).toNatClampNeg (σ.1 86 j 1) else optS (σ.1 48 0 42) (fun k => σ.1 86 k 0) (fun k => σ.1 86 k 1) j (σ.1 61 0) := rfl
      refine n_if (fun q2 => ?_) (fun q2 => ?_)
      · refine n_g hk5 (n_b (n_g hk5 (n_b ?_)))
        rw [e86, e86]
        refine n_g (hO j (by omega)) (n_b (ih (ops - (j + 1)) _ _ (by omega) ⟨j + 1, rfl, by omega, rfl, fun k hk => ?_, hfr.u rfl⟩))
        rw [hnew, if_pos q2, up_at, kU_at]
        by_cases z : k = (σ.1 86 j 0).toNatClampNeg
        · simp [z]
        · simp [z]; exact hI k hk
      · refine ih (ops - (j + 1)) _ _ (by omega) ⟨j + 1, rfl, by omega, rfl, fun k hk => ?_, hfr⟩
        rw [hnew, if_neg q2]; exact hI k hk
  · have q : ¬ nI 10 ≤ nI j := q
    rw [nJ_le (by omega) (by omega)] at q
    have hk : kin (nI j) 10 := (nI_kin (by omega)).mpr (by omega)
    refine n_g hk (n_g hk (n_b (ih (10 - (j + 1)) _ _ (by omega) ⟨j + 1, rfl, by omega, rfl, fun c hc => ?_, hfr.u rfl⟩)))
    rw [kU_at]
    by_cases k : c = j
    · subst k
      simp
      exact hfr.1 61 0 c rfl
    · simp [k]; exact hI c (by omega)
/-- what the reference holds behind a RUN -/
def refR (m : kM) (n g : Nat → Int32) (y : yD) : Prop := (∀ s, s < 100 → m 75 0 s = (runN n g y (s + 1)).1.1 ∧ m 76 0 s = (runN n g y (s + 1)).1.2.1 ∧ m 77 0 s = (runN n g y (s + 1)).1.2.2.1 ∧ m 78 0 s = (runN n g y (s + 1)).1.2.2.2 ∧ ∀ c, c < 8 → m 68 s c = (runN n g y (s + 1)).2.1 c ∧ m 70 s c = (runN n g y (s + 1)).2.2.1 c) ∧ (∀ c, c < 8 → m 66 0 c = (runN n g y 100).2.2.2.1 c) ∧ m 48 0 37 = (runN n g y 100).2.2.2.2.1 ∧ m 48 0 38 = (runN n g y 100).2.2.2.2.2.1 ∧ m 48 0 36 = (runN n g y 100).2.2.2.2.2.2
theorem FrS.fr {s : Nat} {σ σ' : kS} (h : FrS s σ σ') : Fr sR σ σ' := ⟨fun g i k q => h.1 g i k (Or.inl q), h.2⟩
theorem r_runs {F : Nat} (hF : 2000 ≤ F) {σ : kS} {w : Nat} {y : yD} {n : Nat → Int32} (hw : w < 6) (hY : whyR y (σ.1 57 0 w) (fun j => σ.1 56 (14 * w + j)) (σ.1 54 w)) (ho : rng (σ.1 48 0 45) 0 5) (hO : ∀ k, k < 5 → kin (σ.1 86 k 0) 10) (hn : n = setS y (yn y) (nowS σ.1)) (hn5 : 1 ≤ (n 5).toInt) :
    RV (f_X6_runs F (nI w) σ) (fun σ' => refR σ'.1 n (σ.1 62 0) y ∧ Fr sR σ σ') := by
  unfold f_X6_runs
  refine n_bv (r_begins hF hw hY ho hO) ?_
  rw [← hn]
  rintro σ1 ⟨a1, a2, f1⟩
  obtain ⟨g, hg⟩ : ∃ g, g = σ.1 62 0 := ⟨_, rfl⟩
  rw [← hg] at a2 ⊢
  refine n_b (n_b (n_b ?_))
  rw [a1 2 (by omega), a1 9 (by omega)]
  have hY1 : ∀ σ', Fr sR σ σ' → whyR y (σ'.1 57 0 w) (fun j => σ'.1 56 (14 * w + j)) (σ'.1 54 w) := fun σ' f => by
    have e57 : σ'.1 57 0 w = σ.1 57 0 w := f.1 57 0 w rfl
    have e56 : σ'.1 56 = σ.1 56 := by funext i k; exact f.1 56 i k rfl
    have e54 : σ'.1 54 = σ.1 54 := by funext i k; exact f.1 54 i k rfl
    rw [e57, e56, e54]; exact hY
  have hfin : ∀ N, N = 100 → ∀ σ' : kS, (∀ t, t < N → σ'.1 75 0 t = (runN n g y (t + 1)).1.1 ∧ σ'.1 76 0 t = (runN n g y (t + 1)).1.2.1 ∧ σ'.1 77 0 t = (runN n g y (t + 1)).1.2.2.1 ∧ σ'.1 78 0 t = (runN n g y (t + 1)).1.2.2.2 ∧ ∀ c, c < 8 → σ'.1 68 t c = (runN n g y (t + 1)).2.1 c ∧ σ'.1 70 t c = (runN n g y (t + 1)).2.2.1 c) → rfM σ'.1 (runN n g y N) → Fr sR σ σ' → refR σ'.1 n g y ∧ Fr sR σ σ' := by
    rintro N rfl σ' h1 ⟨h2, h3, h4, h5⟩ h6
    exact ⟨⟨h1, fun c hc => (h2 c hc).2.2, h3, h4, h5⟩, h6⟩
  refine n_fix (fun N x σ' => ∃ s, x = (nI w, (runN n g y s).1.1, (runN n g y s).1.2.1, (runN n g y s).1.2.2.1, (runN n g y s).1.2.2.2, nI s) ∧ s ≤ 100 ∧ N = 100 - s ∧ rfM σ'.1 (runN n g y s) ∧ (∀ k, k < 10 → σ'.1 63 0 k = n k) ∧ (∀ t, t < s → σ'.1 75 0 t = (runN n g y (t + 1)).1.1 ∧ σ'.1 76 0 t = (runN n g y (t + 1)).1.2.1 ∧ σ'.1 77 0 t = (runN n g y (t + 1)).1.2.2.1 ∧ σ'.1 78 0 t = (runN n g y (t + 1)).1.2.2.2 ∧ ∀ c, c < 8 → σ'.1 68 t c = (runN n g y (t + 1)).2.1 c ∧ σ'.1 70 t c = (runN n g y (t + 1)).2.2.1 c) ∧ Fr sR σ σ') ?_ F 100 _ _ (by omega) ⟨0, rfl, by omega, rfl, a2, a1, fun t ht => absurd ht (by omega), f1⟩
  rintro rr N x σ' ⟨s, rfl, hs, rfl, hr, h63, hrec, hfr⟩ ih
  by_cases hs1 : s = 100
  · unfold f_X6_runs_b34
    dsimp only
    refine n_t (by rw [hs1]; decide) (n_v (hfin s hs1 σ' hrec hr hfr))
  · have hJ : (runN n g y s).2.2.2.2.1 ≠ nI s := by
      have h0 : (runN n g y 0).2.2.2.2.1 = -1 := rfl
      have := runN_first_at h0 s (by omega)
      rw [Nat.zero_add] at this
      rcases this with z | ⟨u, u1, u2, z⟩
      · rw [z]; intro q; have q := i_eq.mp q; rw [nI_toInt (by omega)] at q; have q : (-1 : Int) = s := q; omega
      · rw [z]; intro q; rw [nI_inj (by omega) (by omega)] at q; omega
    refine r_second hF hw (by omega) (hY1 σ' hfr) h63 hn5 hr (runN_fire (wfY_of hY) s (by omega)) hJ ?_
    intro σ2 b1 b2 b3
    have e : passS n y (nI s) (runN n g y s) = runN n g y (s + 1) := rfl
    rw [e] at b1 b3 ⊢
    refine ih (100 - (s + 1)) _ _ (by omega) ⟨s + 1, rfl, by omega, rfl, b1, fun k hk => (b2.1 63 0 k (Or.inr (Or.inl rfl))).trans (h63 k hk), fun t ht => ?_, hfr.trans b2.fr⟩
    by_cases z : t = s
    · subst z
      exact b3
    · obtain ⟨c1, c2, c3, c4, c5⟩ := hrec t (by omega)
      refine ⟨(b2.1 75 0 t (Or.inr (Or.inr (Or.inr ⟨by omega, z⟩)))).trans c1, (b2.1 76 0 t (Or.inr (Or.inr (Or.inr ⟨by omega, z⟩)))).trans c2, (b2.1 77 0 t (Or.inr (Or.inr (Or.inr ⟨by omega, z⟩)))).trans c3, (b2.1 78 0 t (Or.inr (Or.inr (Or.inr ⟨by omega, z⟩)))).trans c4, fun c hc => ⟨(b2.1 68 t c (Or.inr (Or.inr (Or.inl ⟨by omega, z⟩)))).trans (c5 c hc).1, (b2.1 70 t c (Or.inr (Or.inr (Or.inl ⟨by omega, z⟩)))).trans (c5 c hc).2⟩⟩
