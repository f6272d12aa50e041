/-! THE CLASS'S SECOND. -/
theorem nb_f {a b : Nat} (h : a ≠ b) : Nat.beq a b = false := by
  cases e : Nat.beq a b
  · rfl
  · exact absurd (Nat.eq_of_beq_eq_true e) h
def flM (m : kM) (r : rS) : Prop := m 6 0 6 = r.1.1 ∧ m 6 0 7 = r.1.2.1 ∧ m 6 0 8 = r.1.2.2.1 ∧ m 6 0 9 = r.1.2.2.2 ∧ (∀ c, c < 8 → m 36 0 c = r.2.1 c ∧ m 37 0 c = r.2.2.1 c ∧ m 38 0 c = r.2.2.2.1 c) ∧ m 6 0 10 = r.2.2.2.2.1 ∧ m 6 0 11 = r.2.2.2.2.2.1 ∧ m 6 0 12 = r.2.2.2.2.2.2
theorem rng_nI {x : Int32} {b : Int} (h : rng x 0 b) : x = nI x.toNatClampNeg ∧ (x.toNatClampNeg : Int) ≤ b := by
  have h1 := h.1
  have h2 := h.2
  have h3 := i_rng x
  rw [c_of]
  refine ⟨?_, by omega⟩
  rw [i_eq, nI_toInt (by omega)]
  omega
theorem yn_le {y : yD} (h : wfY y) : yn y ≤ 14 ∧ y.1 = nI (yn y) := by
  obtain ⟨h1, h2⟩ := rng_nI h.1
  exact ⟨by have : ((yn y : Nat) : Int) ≤ 14 := h2; omega, h1⟩
theorem yOf_fr {S : Nat → Nat → Bool} {σ σ' : kS} {i : Nat} (h : Fr S σ σ') (hs : ∀ g, 10 ≤ g → g ≤ 17 → ∀ k, S g k = false) : yOf σ'.1 i = yOf σ.1 i := by
  have e : ∀ g, 10 ≤ g → g ≤ 17 → σ'.1 g = σ.1 g := fun g h1 h2 => by funext i k; exact h.1 g i k (hs g h1 h2 k)
  unfold yOf
  rw [e 10 (by omega) (by omega), e 11 (by omega) (by omega), e 12 (by omega) (by omega), e 13 (by omega) (by omega), e 14 (by omega) (by omega), e 15 (by omega) (by omega), e 16 (by omega) (by omega), e 17 (by omega) (by omega)]
theorem x_leak {F : Nat} (hF : 2000 ≤ F) {σ : kS} {i : Nat} {sec : Int32} (hi : i < 8) (h5 : σ.1 6 0 5 = nI i) (hy : wfY (yOf σ.1 i)) (g m : Nat → Int32) (hg : ∀ c, c < 8 → σ.1 36 0 c = g c ∧ σ.1 37 0 c = m c) :
    RV (f_X1_leak F sec σ) (fun σ' => (∀ c, c < 8 → σ'.1 36 0 c = (leakS (yOf σ.1 i) sec (yn (yOf σ.1 i)) (g, m)).1 c ∧ σ'.1 37 0 c = (leakS (yOf σ.1 i) sec (yn (yOf σ.1 i)) (g, m)).2 c) ∧ Fr (sL [36, 37]) σ σ') := by
  have ei : (nI i).toNatClampNeg = i := nI_c (by omega)
  have hki : i < kCnt 10 := hi
  let y := yOf σ.1 i
  obtain ⟨hn, en⟩ := yn_le hy
  have hn : yn y ≤ 14 := hn
  refine n_fix (fun n x σ' => ∃ j, x = (sec, nI j) ∧ j ≤ yn y ∧ n = yn y - j ∧ (∀ c, c < 8 → σ'.1 36 0 c = (leakS y sec j (g, m)).1 c ∧ σ'.1 37 0 c = (leakS y sec j (g, m)).2 c) ∧ Fr (sL [36, 37]) σ σ') ?_ F (yn y) _ σ (by omega) ⟨0, rfl, by omega, rfl, hg, Fr.refl σ⟩
  rintro rr n x σ' ⟨j, rfl, hj, rfl, hI, hfr⟩ ih
  have e5 : σ'.1 6 0 5 = nI i := (hfr.1 6 0 5 rfl).trans h5
  have e10 : σ'.1 10 i 0 = nI (yn y) := (hfr.1 10 i 0 rfl).trans en
  have e11 : σ'.1 11 i j = yk y j := hfr.1 11 i j rfl
  have e12 : σ'.1 12 i j = y.2.2.1 j := hfr.1 12 i j rfl
  have e13 : σ'.1 13 i j = ya y j := hfr.1 13 i j rfl
  have e14 : σ'.1 14 i j = yf y j := hfr.1 14 i j rfl
  have ej : (nI j).toNatClampNeg = j := nI_c (by omega)
  unfold f_X1_leak_b2 f_X1_leak_b92
  simp only [e5, ei, ej, s_b, e10, e11, e12, e13, e14]
  refine n_g hki (n_if (fun q => ?_) (fun q => ?_))
  · rw [nJ_le (by omega) (by omega)] at q
    have : j = yn y := by omega
    subst this
    exact n_v ⟨hI, hfr⟩
  rw [nJ_le (by omega) (by omega)] at q
  have hkj : kin (nI j) 14 := (nI_kin (by omega)).mpr (by omega)
  have es : nI j + 1 = nI (j + 1) := nI_s (by omega)
  have hstay : (¬ (yk y j = -17 ∧ ¬ sec < yf y j)) → Rn (rr (sec, nI j + 1) σ') _ := fun hc => ih (yn y - (j + 1)) _ σ' (by omega) ⟨j + 1, by rw [es], by omega, rfl, fun c hc' => by
    have e : leakS y sec (j + 1) (g, m) = leakS y sec j (g, m) := by
      show (if _ then _ else _) = _
      rw [if_neg hc]
    rw [e]; exact hI c hc', hfr⟩
  refine n_g hki (n_g hkj (n_if (fun q1 => ?_) (fun q1 => hstay (fun h => q1 h.1))))
  refine n_g hki (n_g hkj (n_if (fun q2 => hstay (fun h => h.2 q2)) (fun q2 => ?_)))
  have ht : rng (y.2.2.1 j) 0 7 := by
    rcases hy.2 j (by show j < yn y; omega) with h | h | h
    · exact h.2
    · exact absurd (q1.symm.trans h.1) (by decide)
    · exact absurd (q1.symm.trans h.1) (by decide)
  obtain ⟨et, ht8⟩ := rng_nI ht
  have hkt : kin (y.2.2.1 j) 8 := by
    have h0 := ht.1; have := ht.2
    exact ⟨h0, by omega⟩
  refine n_g hki (n_g hkj (n_g hki (n_g hkj (n_g hkt (n_g hkt (n_g hkt (n_g hkt (n_g hkt ?_))))))))
  have htc : yt y j < 8 := by have : ((yt y j : Nat) : Int) ≤ 7 := ht8; omega
  have hIt := hI _ htc
  refine ih (yn y - (j + 1)) _ _ (by omega) ⟨j + 1, by rw [es], by omega, rfl, fun c hc => ?_, (hfr.u rfl).u rfl⟩
  have e : leakS y sec (j + 1) (g, m) = (fun q : (Nat → Int32) × (Nat → Int32) => (up q.1 (yt y j) (q.1 (yt y j) - kmin (ya y j) (q.1 (yt y j))), up q.2 (yt y j) (q.2 (yt y j) + kmin (ya y j) (q.1 (yt y j))))) (leakS y sec j (g, m)) := by
    show (if _ then _ else _) = _
    rw [if_pos ⟨q1, q2⟩]
  rw [e]
  show _ = up _ (yt y j) _ c ∧ _ = up _ (yt y j) _ c
  have hIc := hI c hc
  have ec : (y.2.2.1 j).toNatClampNeg = yt y j := rfl
  rw [ec]
  simp only [kU_at, up_at]
  by_cases k : c = yt y j
  · subst k
    simp [hIt.1, hIt.2]
  · simp [k, hIc.1, hIc.2]
theorem nmS_cg {sec gap wet hgt : Int32} {g m f g' m' f' : Nat → Int32} {c : Nat} (h1 : g c = g' c) (h2 : m c = m' c) (h3 : f c = f' c) : nmS sec gap wet hgt g m f c = nmS sec gap wet hgt g' m' f' c := by
  funext k
  unfold nmS
  rw [h1, h2, h3]
def sP (g k : Nat) : Bool := Nat.beq g 38 || Nat.beq g 39 || (Nat.beq g 6 && (Nat.beq k 10 || Nat.beq k 11))
theorem x_spark {F : Nat} (hF : 2000 ≤ F) {σ : kS} {i : Nat} {sec : Int32} (hi : i < 8) (h5 : σ.1 6 0 5 = nI i) (hy : wfY (yOf σ.1 i)) (g m f : Nat → Int32) {a b : Int32} (hg : ∀ c, c < 8 → σ.1 36 0 c = g c ∧ σ.1 37 0 c = m c ∧ σ.1 38 0 c = f c) (ha : σ.1 6 0 10 = a) (hb : σ.1 6 0 11 = b) :
    RV (f_X1_spark F sec σ) (fun σ' => (fun p : (Nat → Int32) × Int32 × Int32 => (∀ c, c < 8 → σ'.1 38 0 c = p.1 c) ∧ σ'.1 6 0 10 = p.2.1 ∧ σ'.1 6 0 11 = p.2.2) (sparkS (yOf σ.1 i) sec (σ.1 6 0 7 - σ.1 6 0 8) (σ.1 6 0 6) (σ.1 6 0 9) g m (yn (yOf σ.1 i)) (f, a, b)) ∧ Fr sP σ σ') := by
  have ei : (nI i).toNatClampNeg = i := nI_c (by omega)
  have hki : i < kCnt 10 := hi
  let y := yOf σ.1 i
  let sp := sparkS y sec (σ.1 6 0 7 - σ.1 6 0 8) (σ.1 6 0 6) (σ.1 6 0 9) g m
  obtain ⟨hn, en⟩ := yn_le hy
  have hn : yn y ≤ 14 := hn
  refine n_fix (fun n x σ' => ∃ j, x = (sec, nI j) ∧ j ≤ yn y ∧ n = yn y - j ∧ ((∀ c, c < 8 → σ'.1 38 0 c = (sp j (f, a, b)).1 c) ∧ σ'.1 6 0 10 = (sp j (f, a, b)).2.1 ∧ σ'.1 6 0 11 = (sp j (f, a, b)).2.2) ∧ Fr sP σ σ') ?_ F (yn y) _ σ (by omega) ⟨0, rfl, by omega, rfl, ⟨fun c hc => (hg c hc).2.2, ha, hb⟩, Fr.refl σ⟩
  rintro rr n x σ' ⟨j, rfl, hj, rfl, ⟨hI1, hI2, hI3⟩, hfr⟩ ih
  have e5 : σ'.1 6 0 5 = nI i := (hfr.1 6 0 5 rfl).trans h5
  have e10 : σ'.1 10 i 0 = nI (yn y) := (hfr.1 10 i 0 rfl).trans en
  have e11 : σ'.1 11 i j = yk y j := hfr.1 11 i j rfl
  have e12 : σ'.1 12 i j = y.2.2.1 j := hfr.1 12 i j rfl
  have ej : (nI j).toNatClampNeg = j := nI_c (by omega)
  unfold f_X1_spark_b2 f_X1_spark_b106
  simp only [e5, ei, ej, s_b, e10, e11, e12]
  refine n_g hki (n_if (fun q => ?_) (fun q => ?_))
  · rw [nJ_le (by omega) (by omega)] at q
    have : j = yn y := by omega
    subst this
    exact n_v ⟨⟨hI1, hI2, hI3⟩, hfr⟩
  rw [nJ_le (by omega) (by omega)] at q
  have hjn : j < yn y := by omega
  have hkj : kin (nI j) 14 := (nI_kin (by omega)).mpr (by omega)
  have es : nI j + 1 = nI (j + 1) := nI_s (by omega)
  have hsp : sp (j + 1) (f, a, b) = (fun q : (Nat → Int32) × Int32 × Int32 => if yk y j = -18 ∧ q.1 (yt y j) = -1 ∧ 0 < m (yt y j) ∧ condS (nmS sec (σ.1 6 0 7 - σ.1 6 0 8) (σ.1 6 0 6) (σ.1 6 0 9) g m q.1 (yt y j)) (codeOf (yc y) (ys y j) (ye y j)) = true then (up q.1 (yt y j) sec, if q.2.1 = -1 ∨ q.2.1 = sec ∧ nI (yt y j) < q.2.2 then (sec, nI (yt y j)) else q.2) else q) (sp j (f, a, b)) := rfl
  have hstay : ∀ σ'' : kS, Fr (sL [39]) σ' σ'' → (¬ (yk y j = -18 ∧ (sp j (f, a, b)).1 (yt y j) = -1 ∧ 0 < m (yt y j) ∧ condS (nmS sec (σ.1 6 0 7 - σ.1 6 0 8) (σ.1 6 0 6) (σ.1 6 0 9) g m (sp j (f, a, b)).1 (yt y j)) (codeOf (yc y) (ys y j) (ye y j)) = true)) → Rn (rr (sec, nI j + 1) σ'') _ := fun σ'' hf2 hc => ih (yn y - (j + 1)) _ σ'' (by omega) ⟨j + 1, by rw [es], by omega, rfl, by
    have e : sp (j + 1) (f, a, b) = sp j (f, a, b) := by
      rw [hsp]
      show (if _ then _ else _) = _
      rw [if_neg hc]
    rw [e, hf2.1 6 0 10 rfl, hf2.1 6 0 11 rfl]
    exact ⟨fun c hc => (hf2.1 38 0 c rfl).trans (hI1 c hc), hI2, hI3⟩, hfr.trans (hf2.l (by intro g hg k; simp at hg; subst hg; rfl))⟩
  refine n_g hki (n_g hkj (n_g hki (n_g hkj (n_if (fun q1 => ?_) (fun q1 => hstay σ' (Fr.refl _) (fun h => q1 h.1))))))
  have hq := hy.2 j hjn
  have hq2 : rng (y.2.2.1 j) 0 7 ∧ 0 ≤ (y.2.2.2.2.2.1 j).toInt ∧ (y.2.2.2.2.2.1 j).toInt ≤ (y.2.2.2.2.2.2.1 j).toInt ∧ (y.2.2.2.2.2.2.1 j).toInt ≤ 300 ∧ (∀ k, ys y j ≤ k → k < ye y j → rng (yc y k) (-16) 9999) ∧ wfS 18 (codeOf (yc y) (ys y j) (ye y j)) := by
    rcases hq with h | h | h
    · exact absurd (q1.symm.trans h.1) (by decide)
    · exact h.2
    · exact absurd (q1.symm.trans h.1) (by decide)
  obtain ⟨ht, hs1, hs2, hs3, hs4, hs5⟩ := hq2
  obtain ⟨et, ht8⟩ := rng_nI ht
  have hkt : kin (y.2.2.1 j) 8 := by
    have h0 := ht.1; have := ht.2
    exact ⟨h0, by omega⟩
  have htc : yt y j < 8 := by have : ((yt y j : Nat) : Int) ≤ 7 := ht8; omega
  have ec : (y.2.2.1 j).toNatClampNeg = yt y j := rfl
  have et : y.2.2.1 j = nI (yt y j) := et
  have e37 : σ'.1 37 0 (yt y j) = m (yt y j) := (hfr.1 37 0 _ rfl).trans (hg _ htc).2.1
  have e38 : σ'.1 38 0 (yt y j) = (sp j (f, a, b)).1 (yt y j) := hI1 _ htc
  rw [ec]
  refine n_g hkt (n_if (fun q2 => ?_) (fun q2 => hstay σ' (Fr.refl _) (fun h => q2 (by rw [e38]; exact h.2.1))))
  refine n_g hkt (n_if (fun q3 => hstay σ' (Fr.refl _) (fun h => absurd h.2.2.1 (by rw [← e37]; exact Int32.not_lt.mpr q3))) (fun q3 => ?_))
  have es1 := rng_nI (x := y.2.2.2.2.2.1 j) ⟨hs1, Int.le_trans hs2 hs3⟩
  have es2 := rng_nI (x := y.2.2.2.2.2.2.1 j) ⟨Int.le_trans hs1 hs2, hs3⟩
  have hab : ys y j ≤ ye y j := by
    show Int.toNat _ ≤ Int.toNat _
    omega
  have hb3 : ye y j ≤ 300 := by have := es2.2; show (y.2.2.2.2.2.2.1 j).toNatClampNeg ≤ 300; omega
  have e17 : σ'.1 17 i = yc y := by funext k; exact hfr.1 17 i k rfl
  have hh := x_holds (F := F) hF (σ := σ') (i := i) (j := j) (c := yt y j) (a := ys y j) (b := ye y j) (sec := sec) hi e5 (by omega) htc (e12.trans et) ((hfr.1 15 i j rfl).trans es1.1) ((hfr.1 16 i j rfl).trans es2.1) hab hb3 (by rw [e17]; exact hs4) (by rw [e17]; exact hs5)
  refine n_bi hh ?_
  rintro r σ2 ⟨hr, hf2⟩
  have hnm : condS (nmS sec (σ'.1 6 0 7 - σ'.1 6 0 8) (σ'.1 6 0 6) (σ'.1 6 0 9) (σ'.1 36 0) (σ'.1 37 0) (σ'.1 38 0) (yt y j)) (codeOf (σ'.1 17 i) (ys y j) (ye y j)) = condS (nmS sec (σ.1 6 0 7 - σ.1 6 0 8) (σ.1 6 0 6) (σ.1 6 0 9) g m (sp j (f, a, b)).1 (yt y j)) (codeOf (yc y) (ys y j) (ye y j)) := by
    rw [e17, hfr.1 6 0 7 rfl, hfr.1 6 0 8 rfl, hfr.1 6 0 6 rfl, hfr.1 6 0 9 rfl, nmS_cg ((hfr.1 36 0 _ rfl).trans (hg _ htc).1) e37 e38]
  rw [hnm] at hr
  refine n_if (fun q4 => hstay σ2 hf2 (fun h => ?_)) (fun q4 => ?_)
  · rw [if_pos h.2.2.2] at hr
    rw [hr] at q4
    exact absurd q4 (by decide)
  have hcd : condS (nmS sec (σ.1 6 0 7 - σ.1 6 0 8) (σ.1 6 0 6) (σ.1 6 0 9) g m (sp j (f, a, b)).1 (yt y j)) (codeOf (yc y) (ys y j) (ye y j)) = true := by
    by_cases z : condS (nmS sec (σ.1 6 0 7 - σ.1 6 0 8) (σ.1 6 0 6) (σ.1 6 0 9) g m (sp j (f, a, b)).1 (yt y j)) (codeOf (yc y) (ys y j) (ye y j)) = true
    · exact z
    · rw [if_neg z] at hr
      exact absurd hr q4
  have hnew : sp (j + 1) (f, a, b) = (up (sp j (f, a, b)).1 (yt y j) sec, if (sp j (f, a, b)).2.1 = -1 ∨ (sp j (f, a, b)).2.1 = sec ∧ nI (yt y j) < (sp j (f, a, b)).2.2 then (sec, nI (yt y j)) else (sp j (f, a, b)).2) := by
    rw [hsp]
    show (if _ then _ else _) = _
    rw [if_pos ⟨q1, by rw [← e38]; exact q2, by rw [← e37]; exact Int32.not_le.mp q3, hcd⟩]
  have hfin : ∀ σ3 : kS, Fr sP σ σ3 → (∀ c, c < 8 → σ3.1 38 0 c = (sp (j + 1) (f, a, b)).1 c) → σ3.1 6 0 10 = (sp (j + 1) (f, a, b)).2.1 → σ3.1 6 0 11 = (sp (j + 1) (f, a, b)).2.2 → Rn (rr (sec, nI j + 1) σ3) _ := fun σ3 z1 z2 z3 z4 => ih (yn y - (j + 1)) _ σ3 (by omega) ⟨j + 1, by rw [es], by omega, rfl, ⟨z2, z3, z4⟩, z1⟩
  have hf3 : Fr sP σ σ2 := hfr.trans (hf2.l (by intro g hg k; simp at hg; subst hg; rfl))
  have h38 : ∀ c, c < 8 → (kU σ2 38 0 (yt y j) sec).1 38 0 c = (sp (j + 1) (f, a, b)).1 c := fun c hc => by
    rw [hnew]
    show _ = up _ _ _ c
    simp only [kU_at, up_at]
    by_cases k : c = yt y j
    · simp [k]
    · simp [k]
      exact (hf2.1 38 0 c rfl).trans (hI1 c hc)
  have f10 : (kU σ2 38 0 (yt y j) sec).1 6 0 10 = (sp j (f, a, b)).2.1 := (hf2.1 6 0 10 rfl).trans hI2
  have f11 : (kU σ2 38 0 (yt y j) sec).1 6 0 11 = (sp j (f, a, b)).2.2 := (hf2.1 6 0 11 rfl).trans hI3
  refine n_g hkt ?_
  rw [f10, f11]
  have hset : ((sp j (f, a, b)).2.1 = -1 ∨ (sp j (f, a, b)).2.1 = sec ∧ nI (yt y j) < (sp j (f, a, b)).2.2) → Rn (f_X1_spark_b96 F rr sec (nI j) (y.2.2.1 j) (kU σ2 38 0 (yt y j) sec)) _ := fun hc => by
    refine hfin _ (((hf3.u rfl).u rfl).u rfl) (fun c hc' => (h38 c hc')) ?_ ?_
    · rw [hnew, if_pos hc]; rfl
    · rw [hnew, if_pos hc, et]; rfl
  have hno : (¬ ((sp j (f, a, b)).2.1 = -1 ∨ (sp j (f, a, b)).2.1 = sec ∧ nI (yt y j) < (sp j (f, a, b)).2.2)) → Rn (rr (sec, nI j + 1) (kU σ2 38 0 (yt y j) sec)) _ := fun hc => by
    refine hfin _ (hf3.u rfl) h38 ?_ ?_
    · rw [hnew, if_neg hc]; exact f10
    · rw [hnew, if_neg hc]; exact f11
  refine n_if (fun z => hset (Or.inl z)) (fun z => n_if (fun z2 => n_if (fun z3 => hno (fun h => ?_)) (fun z3 => hset (Or.inr ⟨z2, by rw [← et]; exact Int32.not_le.mp z3⟩))) (fun z2 => hno (fun h => ?_)))
  · rcases h with h | h
    · exact z h
    · rw [et] at z3; exact absurd h.2 (Int32.not_lt.mpr z3)
  · rcases h with h | h
    · exact z h
    · exact z2 h.1
theorem x_spreads_lo {F : Nat} {a sec : Int32} {σ : kS} (h : a < 0 ∨ 8 ≤ a) : f_X1_spreads F a sec σ = some (.inl (some (.int 0)), σ) := by
  unfold f_X1_spreads f_X1_spreads_b41 f_X1_spreads_b42
  by_cases q : a < 0
  · rw [if_pos q]; rfl
  · rw [if_neg q, if_pos (h.resolve_left q)]; rfl
theorem x_spreads {F : Nat} {c : Nat} {sec : Int32} {σ : kS} (hc : c < 8) : f_X1_spreads F (nI c) sec σ = some (.inl (some (.int (if σ.1 38 0 c ≠ -1 ∧ σ.1 35 0 5 ≤ sec - σ.1 38 0 c then 1 else 0))), σ) := by
  unfold f_X1_spreads f_X1_spreads_b41 f_X1_spreads_b42
  have hk : kin (nI c) 8 := (nI_kin (by omega)).mpr hc
  have ec : (nI c).toNatClampNeg = c := nI_c (by omega)
  rw [ec, if_neg (nI_nneg (by omega)), if_neg (by show ¬ nI 8 ≤ nI c; rw [nJ_le (by omega) (by omega)]; omega), kg_t hk, kg_t hk]
  by_cases q : σ.1 38 0 c = -1
  · rw [if_pos q, if_neg (fun z => z.1 q)]; rfl
  · rw [if_neg q]
    by_cases q2 : sec - σ.1 38 0 c < σ.1 35 0 5
    · rw [if_pos q2, if_neg (fun z => absurd q2 (Int32.not_lt.mpr z.2))]; rfl
    · rw [if_neg q2, if_pos ⟨q, Int32.not_lt.mp q2⟩]; rfl
theorem spreadS_hi {sp sec : Int32} {f : Nat → Int32} : ∀ (j : Nat) {c : Nat}, j ≤ c → spreadS sp sec j f c = f c
  | 0, c, _ => rfl
  | j + 1, c, h => by
    show (if _ then up _ _ _ else _) c = _
    split
    · rw [up_at, if_neg (by omega)]; exact spreadS_hi j (by omega)
    · exact spreadS_hi j (by omega)
theorem x_spread {F : Nat} (hF : 2000 ≤ F) {σ : kS} {sec : Int32} (f : Nat → Int32) (hf : ∀ c, c < 8 → σ.1 38 0 c = f c) :
    RV (f_X1_spread F sec σ) (fun σ' => (∀ c, c < 8 → σ'.1 38 0 c = spreadS (σ.1 35 0 5) sec 8 f c) ∧ Fr (sL [38]) σ σ') := by
  refine n_fix (fun n x σ' => ∃ j, x = (sec, nI j) ∧ j ≤ 8 ∧ n = 8 - j ∧ (∀ c, c < 8 → σ'.1 38 0 c = spreadS (σ.1 35 0 5) sec j f c) ∧ Fr (sL [38]) σ σ') ?_ F 8 _ σ (by omega) ⟨0, rfl, by omega, rfl, hf, Fr.refl σ⟩
  rintro rr n x σ' ⟨j, rfl, hj, rfl, hI, hfr⟩ ih
  have ej : (nI j).toNatClampNeg = j := nI_c (by omega)
  have es : nI j + 1 = nI (j + 1) := nI_s (by omega)
  have e35 : σ'.1 35 0 5 = σ.1 35 0 5 := hfr.1 35 0 5 rfl
  unfold f_X1_spread_b2 f_X1_spread_b47
  simp only [ej]
  refine n_if (fun q => ?_) (fun q => ?_)
  · have q : nI 8 ≤ nI j := q
    rw [nJ_le (by omega) (by omega)] at q
    have : j = 8 := by omega
    subst this
    exact n_v ⟨hI, hfr⟩
  have q : ¬ nI 8 ≤ nI j := q
  rw [nJ_le (by omega) (by omega)] at q
  have hkj : kin (nI j) 8 := (nI_kin (by omega)).mpr (by omega)
  let q0 := spreadS (σ.1 35 0 5) sec j f
  have hnew : spreadS (σ.1 35 0 5) sec (j + 1) f = if q0 j = -1 ∧ ((0 < j ∧ q0 (j - 1) ≠ -1 ∧ σ.1 35 0 5 ≤ sec - q0 (j - 1)) ∨ (j < 7 ∧ q0 (j + 1) ≠ -1 ∧ σ.1 35 0 5 ≤ sec - q0 (j + 1))) then up q0 j sec else q0 := rfl
  have hstay : (¬ (q0 j = -1 ∧ ((0 < j ∧ q0 (j - 1) ≠ -1 ∧ σ.1 35 0 5 ≤ sec - q0 (j - 1)) ∨ (j < 7 ∧ q0 (j + 1) ≠ -1 ∧ σ.1 35 0 5 ≤ sec - q0 (j + 1))))) → Rn (rr (sec, nI j + 1) σ') _ := fun hc => ih (8 - (j + 1)) _ σ' (by omega) ⟨j + 1, by rw [es], by omega, rfl, fun c hc' => by rw [hnew, if_neg hc]; exact hI c hc', hfr⟩
  have hgo : (q0 j = -1 ∧ ((0 < j ∧ q0 (j - 1) ≠ -1 ∧ σ.1 35 0 5 ≤ sec - q0 (j - 1)) ∨ (j < 7 ∧ q0 (j + 1) ≠ -1 ∧ σ.1 35 0 5 ≤ sec - q0 (j + 1)))) → Rn (f_X1_spread_b40 F rr sec (nI j) σ') (fun v σ' => v = none ∧ (∀ c, c < 8 → σ'.1 38 0 c = spreadS (σ.1 35 0 5) sec 8 f c) ∧ Fr (sL [38]) σ σ') := fun hc => by
    unfold f_X1_spread_b40 f_X1_spread_b47
    simp only [ej]
    refine n_g hkj (ih (8 - (j + 1)) _ _ (by omega) ⟨j + 1, by rw [es], by omega, rfl, fun c hc' => ?_, hfr.u rfl⟩)
    rw [hnew, if_pos hc, up_at, kU_at]
    by_cases k : c = j
    · simp [k]
    · simp [k]; exact hI c hc'
  refine n_g hkj (n_if (fun q1 => ?_) (fun q1 => hstay (fun h => q1 (by rw [hI j (by omega)]; exact h.1))))
  rw [hI j (by omega)] at q1
  have hr1 : f_X1_spreads F (nI j - 1) sec σ' = some (.inl (some (.int (if 0 < j ∧ q0 (j - 1) ≠ -1 ∧ σ.1 35 0 5 ≤ sec - q0 (j - 1) then 1 else 0))), σ') := by
    by_cases k : 0 < j
    · rw [nI_p (by omega) (by omega), x_spreads (by omega), e35, hI (j - 1) (by omega)]
      by_cases z : spreadS (σ.1 35 0 5) sec j f (j - 1) ≠ -1 ∧ σ.1 35 0 5 ≤ sec - spreadS (σ.1 35 0 5) sec j f (j - 1)
      · rw [if_pos z, if_pos ⟨k, z⟩]
      · rw [if_neg z, if_neg (fun h => z h.2)]
    · have : j = 0 := by omega
      subst this
      rw [x_spreads_lo (Or.inl (by decide)), if_neg (fun h => k h.1)]
  have hr2 : f_X1_spreads F (nI j + 1) sec σ' = some (.inl (some (.int (if j < 7 ∧ q0 (j + 1) ≠ -1 ∧ σ.1 35 0 5 ≤ sec - q0 (j + 1) then 1 else 0))), σ') := by
    rw [es]
    by_cases k : j < 7
    · rw [x_spreads (by omega), e35, hI (j + 1) (by omega)]
      by_cases z : spreadS (σ.1 35 0 5) sec j f (j + 1) ≠ -1 ∧ σ.1 35 0 5 ≤ sec - spreadS (σ.1 35 0 5) sec j f (j + 1)
      · rw [if_pos z, if_pos ⟨k, z⟩]
      · rw [if_neg z, if_neg (fun h => z h.2)]
    · have : j = 7 := by omega
      subst this
      rw [x_spreads_lo (Or.inr (by decide)), if_neg (fun h => k h.1)]
  rw [hr1, s_bi]
  by_cases z1 : 0 < j ∧ q0 (j - 1) ≠ -1 ∧ σ.1 35 0 5 ≤ sec - q0 (j - 1)
  · rw [if_pos z1]
    exact n_if (fun h => absurd h (by decide)) (fun _ => hgo ⟨q1, Or.inl z1⟩)
  · rw [if_neg z1]
    refine n_if (fun _ => ?_) (fun h => absurd rfl h)
    rw [hr2, s_bi]
    by_cases z2 : j < 7 ∧ q0 (j + 1) ≠ -1 ∧ σ.1 35 0 5 ≤ sec - q0 (j + 1)
    · rw [if_pos z2]
      exact n_if (fun h => absurd h (by decide)) (fun _ => hgo ⟨q1, Or.inr z2⟩)
    · rw [if_neg z2]
      exact n_if (fun _ => hstay (fun h => h.2.elim z1 z2)) (fun h => absurd rfl h)
theorem x_burn {F : Nat} (hF : 2000 ≤ F) {σ : kS} (g m f : Nat → Int32) (hg : ∀ c, c < 8 → σ.1 36 0 c = g c ∧ σ.1 37 0 c = m c ∧ σ.1 38 0 c = f c) :
    RV (f_X1_burn F σ) (fun σ' => (∀ c, c < 8 → σ'.1 36 0 c = burnG f (σ.1 35 0 6) g c ∧ σ'.1 37 0 c = burnM f m c) ∧ Fr (sL [36, 37]) σ σ') := by
  refine n_fix (fun n x σ' => ∃ j, x = nI j ∧ j ≤ 8 ∧ n = 8 - j ∧ (∀ c, c < 8 → (c < j → σ'.1 36 0 c = burnG f (σ.1 35 0 6) g c ∧ σ'.1 37 0 c = burnM f m c) ∧ (j ≤ c → σ'.1 36 0 c = g c ∧ σ'.1 37 0 c = m c)) ∧ Fr (sL [36, 37]) σ σ') ?_ F 8 _ σ (by omega) ⟨0, rfl, by omega, rfl, fun c hc => ⟨fun h => absurd h (by omega), fun _ => ⟨(hg c hc).1, (hg c hc).2.1⟩⟩, Fr.refl σ⟩
  rintro rr n x σ' ⟨j, rfl, hj, rfl, hI, hfr⟩ ih
  have ej : (nI j).toNatClampNeg = j := nI_c (by omega)
  have es : nI j + 1 = nI (j + 1) := nI_s (by omega)
  have e35 : σ'.1 35 0 6 = σ.1 35 0 6 := hfr.1 35 0 6 rfl
  unfold f_X1_burn_b2 f_X1_burn_b49
  simp only [ej, s_b, e35]
  refine n_if (fun q => ?_) (fun q => ?_)
  · have q : nI 8 ≤ nI j := q
    rw [nJ_le (by omega) (by omega)] at q
    have : j = 8 := by omega
    subst this
    exact n_v ⟨fun c hc => (hI c hc).1 hc, hfr⟩
  have q : ¬ nI 8 ≤ nI j := q
  rw [nJ_le (by omega) (by omega)] at q
  have hj8 : j < 8 := by omega
  have hkj : kin (nI j) 8 := (nI_kin (by omega)).mpr (by omega)
  have e38 : σ'.1 38 0 j = f j := (hfr.1 38 0 j rfl).trans (hg j hj8).2.2
  have e36 := ((hI j hj8).2 (Nat.le_refl _)).1
  have e37 := ((hI j hj8).2 (Nat.le_refl _)).2
  rw [e38, e36]
  refine n_g hkj (n_if (fun q1 => ?_) (fun q1 => ?_))
  · refine ih (8 - (j + 1)) _ σ' (by omega) ⟨j + 1, by rw [es], by omega, rfl, fun c hc => ⟨fun h => ?_, fun h => (hI c hc).2 (by omega)⟩, hfr⟩
    by_cases k : c = j
    · subst k
      unfold burnG burnM
      rw [if_neg (fun z => z.2 q1), if_neg (fun z => z.2 q1)]
      exact ⟨e36, e37⟩
    · exact (hI c hc).1 (by omega)
  · refine n_g hkj (n_g hkj (n_g hkj (ih (8 - (j + 1)) _ _ (by omega) ⟨j + 1, by rw [es], by omega, rfl, fun c hc => ⟨fun h => ?_, fun h => ?_⟩, (hfr.u rfl).u rfl⟩)))
    · simp only [kU_at]
      by_cases k : c = j
      · subst k
        simp [burnG, burnM, hj8, q1]
      · simp [k]
        exact (hI c hc).1 (by omega)
    · simp only [kU_at]
      have k : ¬ c = j := by omega
      simp [k]
      exact (hI c hc).2 (by omega)
theorem sumS_cg {f g : Nat → Int32} : ∀ {n : Nat}, (∀ c, c < n → f c = g c) → sumS f n = sumS g n
  | 0, _ => rfl
  | n + 1, h => by
    show sumS f n + f n = sumS g n + g n
    rw [sumS_cg (fun c hc => h c (by omega)), h n (by omega)]
def sK (g k : Nat) : Bool := Nat.beq g 6 && (Nat.beq k 9 || Nat.beq k 12)
theorem x_sink {F : Nat} (hF : 2000 ≤ F) {σ : kS} {sec : Int32} :
    RV (f_X1_sink F sec σ) (fun σ' => σ'.1 6 0 9 = (if sumS (σ.1 36 0) 8 < σ.1 35 0 7 then kmax 0 (σ.1 6 0 9 - σ.1 35 0 8) else σ.1 6 0 9) ∧ σ'.1 6 0 12 = (if sumS (σ.1 36 0) 8 < σ.1 35 0 7 ∧ (if sumS (σ.1 36 0) 8 < σ.1 35 0 7 then kmax 0 (σ.1 6 0 9 - σ.1 35 0 8) else σ.1 6 0 9) = 0 ∧ σ.1 6 0 12 = -1 then sec else σ.1 6 0 12) ∧ Fr sK σ σ') := by
  refine n_fix (fun n x σ' => ∃ j, x = (sec, sumS (σ.1 36 0) j, nI j) ∧ j ≤ 8 ∧ n = 8 - j ∧ σ' = σ) ?_ F 8 _ σ (by omega) ⟨0, rfl, by omega, rfl, rfl⟩
  rintro rr n x σ' ⟨j, rfl, hj, rfl, rfl⟩ ih
  have ej : (nI j).toNatClampNeg = j := nI_c (by omega)
  have es : nI j + 1 = nI (j + 1) := nI_s (by omega)
  unfold f_X1_sink_b4 f_X1_sink_b76
  simp only [ej, s_b]
  refine n_if (fun q => ?_) (fun q => ?_)
  · have q : nI 8 ≤ nI j := q
    rw [nJ_le (by omega) (by omega)] at q
    have : j = 8 := by omega
    subst this
    refine n_if (fun q1 => n_v ?_) (fun q1 => ?_)
    · have q2 := Int32.not_lt.mpr q1
      rw [if_neg q2, if_neg (fun z => q2 z.1)]
      exact ⟨rfl, rfl, Fr.refl _⟩
    · have q2 := Int32.not_le.mp q1
      rw [if_pos q2]
      refine n_if (fun q3 => n_if (fun q4 => n_v ?_) (fun q4 => n_v ?_)) (fun q3 => n_v ?_)
      · rw [if_pos ⟨q2, q3, q4⟩]
        exact ⟨rfl, rfl, ((Fr.refl _).u rfl).u rfl⟩
      · rw [if_neg (fun z => q4 z.2.2)]
        exact ⟨rfl, rfl, (Fr.refl _).u rfl⟩
      · rw [if_neg (fun z => q3 z.2.1)]
        exact ⟨rfl, rfl, (Fr.refl _).u rfl⟩
  · have q : ¬ nI 8 ≤ nI j := q
    rw [nJ_le (by omega) (by omega)] at q
    refine n_g ((nI_kin (by omega)).mpr (by omega)) (ih (8 - (j + 1)) _ _ (by omega) ⟨j + 1, by rw [es]; rfl, by omega, rfl, rfl⟩)
theorem x_pass {F : Nat} (hF : 2000 ≤ F) {σ : kS} {i : Nat} {sec : Int32} {n : Nat → Int32} {r : rS} (hi : i < 8) (h5 : σ.1 6 0 5 = nI i) (hy : wfY (yOf σ.1 i)) (hn : ∀ k, k < 10 → σ.1 35 0 k = n k) (hr : flM σ.1 r) :
    RV (f_X1_pass F sec σ) (fun σ' => flM σ'.1 (passS n (yOf σ.1 i) sec r) ∧ Fr sC σ σ' ∧ (∀ k, σ'.1 35 0 k = σ.1 35 0 k) ∧ σ'.1 6 0 5 = σ.1 6 0 5) := by
  obtain ⟨r1, r2, r3, r4, r5, r6, r7, r8⟩ := hr
  let y := yOf σ.1 i
  let wet := r.1.1 + n 0
  let sf := if n 1 ≤ wet then (kmax 0 (r.1.2.1 - n 4), kmax 0 (r.1.2.2.1 - n 3)) else (r.1.2.1, r.1.2.2.1)
  let gm := leakS y sec (yn y) (r.2.1, r.2.2.1)
  let p := sparkS y sec (sf.1 - sf.2) wet r.1.2.2.2 gm.1 gm.2 (yn y) (r.2.2.2.1, r.2.2.2.2.1, r.2.2.2.2.2.1)
  have hend : ∀ (σ4 : kS) (fire gas mixed : Nat → Int32), Fr sC σ σ4 → (∀ k, σ4.1 35 0 k = σ.1 35 0 k) → σ4.1 6 0 5 = σ.1 6 0 5 → σ4.1 6 0 6 = wet → σ4.1 6 0 7 = sf.1 → σ4.1 6 0 8 = sf.2 → σ4.1 6 0 9 = r.1.2.2.2 → σ4.1 6 0 10 = p.2.1 → σ4.1 6 0 11 = p.2.2 → σ4.1 6 0 12 = r.2.2.2.2.2.2 → (∀ c, c < 8 → σ4.1 36 0 c = gas c ∧ σ4.1 37 0 c = mixed c ∧ σ4.1 38 0 c = fire c) → fire = (if p.2.1 = -1 then p.1 else spreadS (n 5) sec 8 p.1) → gas = (if p.2.1 = -1 then gm.1 else burnG fire (n 6) gm.1) → mixed = (if p.2.1 = -1 then gm.2 else burnM fire gm.2) → Rn (f_X1_pass_b93 F sec σ4) (fun v σ' => v = none ∧ flM σ'.1 (passS n y sec r) ∧ Fr sC σ σ' ∧ (∀ k, σ'.1 35 0 k = σ.1 35 0 k) ∧ σ'.1 6 0 5 = σ.1 6 0 5) := by
    intro σ4 fire gas mixed t1 t2 t3 t4 t5 t6 t7 t8 t9 t10 t11 t12 t13 t14
    unfold f_X1_pass_b93
    refine n_bv (x_sink hF) ?_
    rintro σ5 ⟨u1, u2, u3⟩
    have e7 : σ4.1 35 0 7 = n 7 := (t2 7).trans (hn 7 (by omega))
    have e8 : σ4.1 35 0 8 = n 8 := (t2 8).trans (hn 8 (by omega))
    have es : sumS (σ4.1 36 0) 8 = sumS gas 8 := sumS_cg (fun c hc => (t11 c hc).1)
    rw [es, e7, e8, t7] at u1 u2
    rw [t10] at u2
    refine n_v ⟨?_, t1.trans (u3.sub (by
      intro g k q
      by_cases z : g = 6
      · subst z; cases q
      · show (Nat.beq g 6 && _) = false
        rw [show Nat.beq g 6 = false from nb_f z]; rfl)), fun k => (u3.1 35 0 k rfl).trans (t2 k), (u3.1 6 0 5 rfl).trans t3⟩
    have hpass : passS n y sec r = ((wet, sf.1, sf.2, if sumS gas 8 < n 7 then kmax 0 (r.1.2.2.2 - n 8) else r.1.2.2.2), gas, mixed, fire, p.2.1, p.2.2, if sumS gas 8 < n 7 ∧ (if sumS gas 8 < n 7 then kmax 0 (r.1.2.2.2 - n 8) else r.1.2.2.2) = 0 ∧ r.2.2.2.2.2.2 = -1 then sec else r.2.2.2.2.2.2) := by
      rw [t14, t13, t12]
      rfl
    rw [hpass]
    exact ⟨(u3.1 6 0 6 rfl).trans t4, (u3.1 6 0 7 rfl).trans t5, (u3.1 6 0 8 rfl).trans t6, u1, fun c hc => ⟨(u3.1 36 0 c rfl).trans (t11 c hc).1, (u3.1 37 0 c rfl).trans (t11 c hc).2.1, (u3.1 38 0 c rfl).trans (t11 c hc).2.2⟩, (u3.1 6 0 10 rfl).trans t8, (u3.1 6 0 11 rfl).trans t9, u2⟩
  have hmid : ∀ σ1 : kS, Fr (fun g k => Nat.beq g 6 && (Nat.beq k 6 || (Nat.beq k 7 || Nat.beq k 8))) σ σ1 → σ1.1 6 0 6 = wet → σ1.1 6 0 7 = sf.1 → σ1.1 6 0 8 = sf.2 → Rn (f_X1_pass_b66 F sec σ1) (fun v σ' => v = none ∧ flM σ'.1 (passS n y sec r) ∧ Fr sC σ σ' ∧ (∀ k, σ'.1 35 0 k = σ.1 35 0 k) ∧ σ'.1 6 0 5 = σ.1 6 0 5) := by
    intro σ1 f1 a1 a2 a3
    have ey : yOf σ1.1 i = y := yOf_fr f1 (fun g h1 h2 k => by
      have : Nat.beq g 6 = false := nb_f (by omega)
      simp [this])
    unfold f_X1_pass_b66
    have hl := x_leak (F := F) hF (σ := σ1) (i := i) (sec := sec) hi ((f1.1 6 0 5 rfl).trans h5) (by rw [ey]; exact hy) r.2.1 r.2.2.1 (fun c hc => ⟨(f1.1 36 0 c rfl).trans (r5 c hc).1, (f1.1 37 0 c rfl).trans (r5 c hc).2.1⟩)
    rw [ey] at hl
    refine n_bv hl ?_
    rintro σ2 ⟨b1, f2⟩
    have ey2 : yOf σ2.1 i = y := (yOf_fr f2 (fun g h1 h2 k => by
      have : ¬ g ∈ [36, 37] := by simp; omega
      show List.contains _ _ = false
      simpa using this)).trans ey
    have hs := x_spark (F := F) hF (σ := σ2) (i := i) (sec := sec) hi ((f2.1 6 0 5 rfl).trans ((f1.1 6 0 5 rfl).trans h5)) (by rw [ey2]; exact hy) gm.1 gm.2 r.2.2.2.1 (a := r.2.2.2.2.1) (b := r.2.2.2.2.2.1) (fun c hc => ⟨(b1 c hc).1, (b1 c hc).2, (f2.1 38 0 c rfl).trans ((f1.1 38 0 c rfl).trans (r5 c hc).2.2)⟩) ((f2.1 6 0 10 rfl).trans ((f1.1 6 0 10 rfl).trans r6)) ((f2.1 6 0 11 rfl).trans ((f1.1 6 0 11 rfl).trans r7))
    rw [ey2, f2.1 6 0 7 rfl, f2.1 6 0 8 rfl, f2.1 6 0 6 rfl, f2.1 6 0 9 rfl, a1, a2, a3, f1.1 6 0 9 rfl, r4] at hs
    refine n_bv hs ?_
    rintro σ3 ⟨⟨c1, c2, c3⟩, f3⟩
    have F1 : Fr sC σ σ1 := f1.sub (by
      intro g k q
      by_cases z : g = 6
      · subst z; cases q
      · show (Nat.beq g 6 && _) = false
        rw [show Nat.beq g 6 = false from nb_f z]; rfl)
    have F2 : Fr sC σ1 σ2 := f2.l (by intro g hg k; simp at hg; rcases hg with rfl | rfl <;> rfl)
    have F3 : Fr sC σ2 σ3 := f3.sub (by
      intro g k q
      by_cases z : g = 6
      · subst z; cases q
      by_cases z1 : g = 38
      · subst z1; cases q
      by_cases z2 : g = 39
      · subst z2; cases q
      show (Nat.beq g 38 || Nat.beq g 39 || (Nat.beq g 6 && _)) = false
      rw [show Nat.beq g 6 = false from nb_f z, show Nat.beq g 38 = false from nb_f z1, show Nat.beq g 39 = false from nb_f z2]; rfl)
    have F123 := (F1.trans F2).trans F3
    have g35 : ∀ k, σ3.1 35 0 k = σ.1 35 0 k := fun k => (f3.1 35 0 k rfl).trans ((f2.1 35 0 k rfl).trans (f1.1 35 0 k rfl))
    have g5 : σ3.1 6 0 5 = σ.1 6 0 5 := (f3.1 6 0 5 rfl).trans ((f2.1 6 0 5 rfl).trans (f1.1 6 0 5 rfl))
    have g6 : σ3.1 6 0 6 = wet := (f3.1 6 0 6 rfl).trans ((f2.1 6 0 6 rfl).trans a1)
    have g7 : σ3.1 6 0 7 = sf.1 := (f3.1 6 0 7 rfl).trans ((f2.1 6 0 7 rfl).trans a2)
    have g8 : σ3.1 6 0 8 = sf.2 := (f3.1 6 0 8 rfl).trans ((f2.1 6 0 8 rfl).trans a3)
    have g9 : σ3.1 6 0 9 = r.1.2.2.2 := (f3.1 6 0 9 rfl).trans ((f2.1 6 0 9 rfl).trans ((f1.1 6 0 9 rfl).trans r4))
    have g12 : σ3.1 6 0 12 = r.2.2.2.2.2.2 := (f3.1 6 0 12 rfl).trans ((f2.1 6 0 12 rfl).trans ((f1.1 6 0 12 rfl).trans r8))
    have g36 : ∀ c, c < 8 → σ3.1 36 0 c = gm.1 c ∧ σ3.1 37 0 c = gm.2 c ∧ σ3.1 38 0 c = p.1 c := fun c hc => ⟨(f3.1 36 0 c rfl).trans (b1 c hc).1, (f3.1 37 0 c rfl).trans (b1 c hc).2, c1 c hc⟩
    have c2 : σ3.1 6 0 10 = p.2.1 := c2
    refine n_if (fun q => ?_) (fun q => ?_)
    · rw [c2] at q
      exact hend σ3 p.1 gm.1 gm.2 F123 g35 g5 g6 g7 g8 g9 c2 c3 g12 g36 (by rw [if_pos q]) (by rw [if_pos q]) (by rw [if_pos q])
    · rw [c2] at q
      have hsp := x_spread (F := F) hF (σ := σ3) (sec := sec) p.1 c1
      rw [g35, hn 5 (by omega)] at hsp
      refine n_bv hsp ?_
      rintro σ4 ⟨d1, f4⟩
      have hbu := x_burn (F := F) hF (σ := σ4) gm.1 gm.2 (spreadS (n 5) sec 8 p.1) (fun c hc => ⟨(f4.1 36 0 c rfl).trans (g36 c hc).1, (f4.1 37 0 c rfl).trans (g36 c hc).2.1, d1 c hc⟩)
      rw [f4.1 35 0 6 rfl, g35, hn 6 (by omega)] at hbu
      refine n_bv hbu ?_
      rintro σ5 ⟨d2, f5⟩
      have F4 : Fr sC σ3 σ4 := f4.l (by intro g hg k; simp at hg; subst hg; rfl)
      have F5 : Fr sC σ4 σ5 := f5.l (by intro g hg k; simp at hg; rcases hg with rfl | rfl <;> rfl)
      have k6 : ∀ k, σ5.1 6 0 k = σ3.1 6 0 k := fun k => (f5.1 6 0 k rfl).trans (f4.1 6 0 k rfl)
      exact hend σ5 (spreadS (n 5) sec 8 p.1) (burnG (spreadS (n 5) sec 8 p.1) (n 6) gm.1) (burnM (spreadS (n 5) sec 8 p.1) gm.2) ((F123.trans F4).trans F5) (fun k => (f5.1 35 0 k rfl).trans ((f4.1 35 0 k rfl).trans (g35 k))) ((k6 5).trans g5) ((k6 6).trans g6) ((k6 7).trans g7) ((k6 8).trans g8) ((k6 9).trans g9) ((k6 10).trans c2) ((k6 11).trans c3) ((k6 12).trans g12) (fun c hc => ⟨(d2 c hc).1, (d2 c hc).2, (f5.1 38 0 c rfl).trans (d1 c hc)⟩) (by rw [if_neg q]) (by rw [if_neg q]) (by rw [if_neg q])
  unfold f_X1_pass
  have e0 : (kU σ 6 0 6 (σ.1 6 0 6 + σ.1 35 0 0)).1 6 0 6 = wet := by
    rw [kU_here, r1, hn 0 (by omega)]
  have e1 : (kU σ 6 0 6 (σ.1 6 0 6 + σ.1 35 0 0)).1 35 0 1 = n 1 := hn 1 (by omega)
  rw [s_b, e0, e1]
  refine n_if (fun q => ?_) (fun q => ?_)
  · have hs : sf = (r.1.2.1, r.1.2.2.1) := if_neg (Int32.not_le.mpr q)
    refine hmid _ ((Fr.refl _).u rfl) e0 ?_ ?_
    · rw [hs]; exact r2
    · rw [hs]; exact r3
  · have hs : sf = (kmax 0 (r.1.2.1 - n 4), kmax 0 (r.1.2.2.1 - n 3)) := if_pos (Int32.not_lt.mp q)
    refine hmid _ ((((Fr.refl _).u rfl).u rfl).u rfl) e0 ?_ ?_
    · rw [hs]
      show kmax 0 (σ.1 6 0 7 - σ.1 35 0 4) = _
      rw [r2, hn 4 (by omega)]
    · rw [hs]
      show kmax 0 (σ.1 6 0 8 - σ.1 35 0 3) = _
      rw [r3, hn 3 (by omega)]
