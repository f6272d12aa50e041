/-! THE CLASS'S FLIGHT FROM ITS START. -/
theorem kCp_at {σ : kS} {gs is gd id dp n g i k : Nat} : (kCp σ gs is gd id dp n).1 g i k = if g = gd ∧ i = id ∧ dp ≤ k ∧ k < dp + n then σ.1 gs is (k - dp) else σ.1 g i k := rfl
theorem Fr.cp {S : Nat → Nat → Bool} {σ σ' : kS} {gs is gd id dp n : Nat} (h : Fr S σ σ') (q : ∀ k, S gd k = true) : Fr S σ (kCp σ' gs is gd id dp n) := by
  refine ⟨fun g i k e => ?_, h.2⟩
  rw [kCp_at, if_neg]
  · exact h.1 g i k e
  · rintro ⟨rfl, -⟩
    rw [q] at e
    cases e
theorem x_load {F : Nat} {σ : kS} : RV (f_X1_load F 0 σ) (fun σ' => (∀ k, k < 10 → σ'.1 35 0 k = σ.1 21 0 k) ∧ (∀ c, c < 8 → σ'.1 36 0 c = σ.1 22 0 c) ∧ Fr (sL [35, 36]) σ σ') := by
  unfold f_X1_load
  refine n_v ⟨fun k hk => ?_, fun c hc => ?_, ((Fr.refl σ).cp (fun _ => rfl)).cp (fun _ => rfl)⟩
  · rw [kCp_at, if_neg (by simp), kCp_at, if_pos (by omega)]; rfl
  · rw [kCp_at, if_pos (by omega), kCp_at, if_neg (by simp)]; rfl
theorem x_fillM {F : Nat} (hF : 2000 ≤ F) {σ : kS} {v : Int32} : RV (f_J7_fill_F_mixed F v σ) (fun σ' => (∀ c, c < 8 → σ'.1 37 0 c = v) ∧ Fr (sL [37]) σ σ') := by
  refine n_fix (fun n x σ' => ∃ j, x = (v, nI j, 8) ∧ j ≤ 8 ∧ n = 8 - j ∧ (∀ c, c < j → σ'.1 37 0 c = v) ∧ Fr (sL [37]) σ σ') ?_ F 8 _ σ (by omega) ⟨0, rfl, by omega, rfl, fun c hc => absurd hc (by omega), Fr.refl σ⟩
  rintro rr n x σ' ⟨j, rfl, hj, rfl, hI, hfr⟩ ih
  unfold f_J7_fill_F_mixed_b5
  simp only [nI_c (a := j) (by omega), s_b, nI_s (a := j) (by omega)]
  refine n_if (fun q => ?_) (fun q => ?_)
  · have q : nI 8 ≤ nI j := q
    rw [nJ_le (by omega) (by omega)] at q
    exact n_v ⟨fun c hc => hI c (by omega), hfr⟩
  · have q : ¬ nI 8 ≤ nI j := q
    rw [nJ_le (by omega) (by omega)] at q
    refine n_g ((nI_kin (by omega)).mpr (by omega)) (ih (8 - (j + 1)) _ _ (by omega) ⟨j + 1, rfl, by omega, rfl, fun c hc => ?_, hfr.u rfl⟩)
    rw [kU_at]
    by_cases k : c = j
    · simp [k]
    · simp [k]; exact hI c (by omega)
theorem x_fillB {F : Nat} (hF : 2000 ≤ F) {σ : kS} {v : Int32} : RV (f_J7_fill_F_began F v σ) (fun σ' => (∀ c, c < 8 → σ'.1 38 0 c = v) ∧ Fr (sL [38]) σ σ') := by
  refine n_fix (fun n x σ' => ∃ j, x = (v, nI j, 8) ∧ j ≤ 8 ∧ n = 8 - j ∧ (∀ c, c < j → σ'.1 38 0 c = v) ∧ Fr (sL [38]) σ σ') ?_ F 8 _ σ (by omega) ⟨0, rfl, by omega, rfl, fun c hc => absurd hc (by omega), Fr.refl σ⟩
  rintro rr n x σ' ⟨j, rfl, hj, rfl, hI, hfr⟩ ih
  unfold f_J7_fill_F_began_b5
  simp only [nI_c (a := j) (by omega), s_b, nI_s (a := j) (by omega)]
  refine n_if (fun q => ?_) (fun q => ?_)
  · have q : nI 8 ≤ nI j := q
    rw [nJ_le (by omega) (by omega)] at q
    exact n_v ⟨fun c hc => hI c (by omega), hfr⟩
  · have q : ¬ nI 8 ≤ nI j := q
    rw [nJ_le (by omega) (by omega)] at q
    refine n_g ((nI_kin (by omega)).mpr (by omega)) (ih (8 - (j + 1)) _ _ (by omega) ⟨j + 1, rfl, by omega, rfl, fun c hc => ?_, hfr.u rfl⟩)
    rw [kU_at]
    by_cases k : c = j
    · simp [k]
    · simp [k]; exact hI c (by omega)
theorem x_fillK {F : Nat} (hF : 2000 ≤ F) {σ : kS} {v : Int32} : RV (f_J7_fill_S_knownBurnt F v σ) (fun σ' => (∀ c, c < 6 → σ'.1 8 0 c = v) ∧ Fr (sL [8]) σ σ') := by
  refine n_fix (fun n x σ' => ∃ j, x = (v, nI j, 6) ∧ j ≤ 6 ∧ n = 6 - j ∧ (∀ c, c < j → σ'.1 8 0 c = v) ∧ Fr (sL [8]) σ σ') ?_ F 6 _ σ (by omega) ⟨0, rfl, by omega, rfl, fun c hc => absurd hc (by omega), Fr.refl σ⟩
  rintro rr n x σ' ⟨j, rfl, hj, rfl, hI, hfr⟩ ih
  unfold f_J7_fill_S_knownBurnt_b5
  simp only [nI_c (a := j) (by omega), s_b, nI_s (a := j) (by omega)]
  refine n_if (fun q => ?_) (fun q => ?_)
  · have q : nI 6 ≤ nI j := q
    rw [nJ_le (by omega) (by omega)] at q
    exact n_v ⟨fun c hc => hI c (by omega), hfr⟩
  · have q : ¬ nI 6 ≤ nI j := q
    rw [nJ_le (by omega) (by omega)] at q
    refine n_g ((nI_kin (by omega)).mpr (by omega)) (ih (6 - (j + 1)) _ _ (by omega) ⟨j + 1, rfl, by omega, rfl, fun c hc => ?_, hfr.u rfl⟩)
    rw [kU_at]
    by_cases k : c = j
    · simp [k]
    · simp [k]; exact hI c (by omega)
theorem x_start {F : Nat} (hF : 2000 ≤ F) {σ : kS} {i : Nat} {n g : Nat → Int32} (hi : i < 8) (hy : wfY (yOf σ.1 i)) (hn : ∀ k, k < 10 → σ.1 35 0 k = n k) (hg : ∀ c, c < 8 → σ.1 36 0 c = g c) :
    RV (f_X1_start F i σ) (fun σ' => flM σ'.1 (begS (setS (yOf σ.1 i) (yn (yOf σ.1 i)) n) g) ∧ (∀ k, k < 10 → σ'.1 35 0 k = setS (yOf σ.1 i) (yn (yOf σ.1 i)) n k) ∧ σ'.1 6 0 5 = nI i ∧ Fr sC σ σ') := by
  have ei : (nI i).toNatClampNeg = i := nI_c (by omega)
  have hki : i < kCnt 10 := hi
  let y := yOf σ.1 i
  obtain ⟨hyn, en⟩ := yn_le hy
  have hyn : yn y ≤ 14 := hyn
  unfold f_X1_start
  refine n_b ?_
  refine n_fix (fun k x σ' => ∃ j, x = nI j ∧ j ≤ yn y ∧ k = yn y - j ∧ (∀ k, k < 10 → σ'.1 35 0 k = setS y j n k) ∧ (∀ c, c < 8 → σ'.1 36 0 c = g c) ∧ σ'.1 6 0 5 = nI i ∧ Fr sC σ σ') ?_ F (yn y) _ _ (by omega) ⟨0, rfl, by omega, rfl, fun k hk => hn k hk, fun c hc => hg c hc, kU_here, (Fr.refl σ).u rfl⟩
  rintro rr k x σ' ⟨j, rfl, hj, rfl, hI, hIg, e5, hfr⟩ ih
  have e10 : σ'.1 10 i 0 = nI (yn y) := (hfr.1 10 i 0 rfl).trans en
  have e11 : σ'.1 11 i j = yk y j := hfr.1 11 i j rfl
  have e12 : σ'.1 12 i j = y.2.2.1 j := hfr.1 12 i j rfl
  have e13 : σ'.1 13 i j = ya y j := hfr.1 13 i j rfl
  have ej : (nI j).toNatClampNeg = j := nI_c (by omega)
  have es : nI j + 1 = nI (j + 1) := nI_s (by omega)
  unfold f_X1_start_b7 f_X1_start_b55
  simp only [e5, ei, ej, e10, e11, e12, e13, es]
  refine n_g hki (n_b (n_if (fun q => ?_) (fun q => ?_)))
  · rw [e10, nJ_le (by omega) (by omega)] at q
    have : j = yn y := by omega
    subst this
    refine n_b (n_b (n_b (n_b ?_)))
    refine n_bv (x_fillM hF) ?_
    rintro σ1 ⟨a1, f1⟩
    refine n_bv (x_fillB hF) ?_
    rintro σ2 ⟨a2, f2⟩
    refine n_b (n_b (n_b (n_v ?_)))
    have h35 : ∀ k, σ2.1 35 0 k = σ'.1 35 0 k := fun k => (f2.1 35 0 k rfl).trans (f1.1 35 0 k rfl)
    have h36 : ∀ k, σ2.1 36 0 k = σ'.1 36 0 k := fun k => (f2.1 36 0 k rfl).trans (f1.1 36 0 k rfl)
    refine ⟨⟨?_, ?_, ?_, ?_, fun c hc => ⟨(h36 c).trans (hIg c hc), (f2.1 37 0 c rfl).trans (a1 c hc), a2 c hc⟩, rfl, rfl, rfl⟩, fun k hk => (h35 k).trans (hI k hk), ?_, ?_⟩
    · exact (f2.1 6 0 6 rfl).trans (f1.1 6 0 6 rfl)
    · exact ((f2.1 6 0 7 rfl).trans (f1.1 6 0 7 rfl)).trans (hI 2 (by omega))
    · exact ((f2.1 6 0 8 rfl).trans (f1.1 6 0 8 rfl)).trans (hI 2 (by omega))
    · exact ((f2.1 6 0 9 rfl).trans (f1.1 6 0 9 rfl)).trans (hI 9 (by omega))
    · exact ((f2.1 6 0 5 rfl).trans (f1.1 6 0 5 rfl)).trans e5
    · have G1 := f1.l (T := sC) (by intro g hg k; simp at hg; subst hg; rfl)
      have G2 := f2.l (T := sC) (by intro g hg k; simp at hg; subst hg; rfl)
      exact ((((((((hfr.u (g := 6) rfl).u rfl).u rfl).u rfl).trans G1).trans G2).u rfl).u rfl).u rfl
  rw [e10, nJ_le (by omega) (by omega)] at q
  have hkj : kin (nI j) 14 := (nI_kin (by omega)).mpr (by omega)
  have hnew : setS y (j + 1) n = if yk y j = -19 then up (setS y j n) (yt y j) (ya y j) else setS y j n := rfl
  refine n_g hki (n_b (n_g hkj (n_if (fun q1 => ?_) (fun q1 => ?_))))
  · rw [e11] at q1
    have ht : rng (y.2.2.1 j) 0 9 := by
      rcases hy.2 j (by show j < yn y; omega) with h | h | h
      · exact absurd (q1.symm.trans h.1) (by decide)
      · exact absurd (q1.symm.trans h.1) (by decide)
      · exact h.2.1
    have hkt : kin (y.2.2.1 j) 10 := by
      have h0 := ht.1; have := ht.2
      exact ⟨h0, by omega⟩
    have htc : yt y j < 10 := kin_lt hkt
    refine n_g hki (n_b (n_g hkj (n_g hki (n_b (n_g hkj (n_g (by rw [e12]; exact hkt) (n_b ?_)))))))
    refine ih (yn y - (j + 1)) _ _ (by omega) ⟨j + 1, rfl, by omega, rfl, fun k hk => ?_, fun c hc => hIg c hc, e5, hfr.u rfl⟩
    rw [hnew, if_pos q1, up_at, kU_at, e12, e13]
    have ec : (y.2.2.1 j).toNatClampNeg = yt y j := rfl
    rw [ec]
    by_cases z : k = yt y j
    · simp [z]
    · simp [z]; exact hI k hk
  · exact ih (yn y - (j + 1)) _ _ (by omega) ⟨j + 1, rfl, by omega, rfl, fun k hk => by rw [hnew, if_neg (by rw [← e11]; exact q1)]; exact hI k hk, hIg, e5, hfr⟩
/-! what stays so in a RUN -/
theorem sparkS_first {y : yD} {sec gap wet hgt : Int32} {g m : Nat → Int32} {p : (Nat → Int32) × Int32 × Int32} : ∀ j, ((sparkS y sec gap wet hgt g m j p).2.1 = p.2.1 ∧ ((sparkS y sec gap wet hgt g m j p).2.2 = p.2.2 ∨ p.2.1 = sec)) ∨ (p.2.1 = -1 ∧ (sparkS y sec gap wet hgt g m j p).2.1 = sec)
  | 0 => Or.inl ⟨rfl, Or.inl rfl⟩
  | j + 1 => by
    have ih := sparkS_first (y := y) (sec := sec) (gap := gap) (wet := wet) (hgt := hgt) (g := g) (m := m) (p := p) j
    generalize hq : sparkS y sec gap wet hgt g m j p = q at ih
    have e : sparkS y sec gap wet hgt g m (j + 1) p = (fun q : (Nat → Int32) × Int32 × Int32 => if yk y j = -18 ∧ q.1 (yt y j) = -1 ∧ 0 < m (yt y j) ∧ condS (nmS sec gap wet hgt g m q.1 (yt y j)) (codeOf (yc y) (ys y j) (ye y j)) = true then (up q.1 (yt y j) sec, if q.2.1 = -1 ∨ q.2.1 = sec ∧ nI (yt y j) < q.2.2 then (sec, nI (yt y j)) else q.2) else q) q := by rw [← hq]; rfl
    rw [e]
    dsimp only
    split
    · split
      · rename_i h
        rcases h with h | h
        · rcases ih with ⟨i1, i2⟩ | ⟨i1, i2⟩
          · exact Or.inr ⟨i1 ▸ h, rfl⟩
          · exact Or.inr ⟨i1, rfl⟩
        · rcases ih with ⟨i1, i2⟩ | ⟨i1, i2⟩
          · exact Or.inl ⟨by rw [← i1, h.1], Or.inr (by rw [← i1, h.1])⟩
          · exact Or.inr ⟨i1, rfl⟩
      · exact ih
    · exact ih
theorem runN_first {n g : Nat → Int32} {y : yD} (s : Nat) (hs : s < 1000) : ((runN n g y s).2.2.2.2.1 ≠ -1 → (runN n g y (s + 1)).2.2.2.2.1 = (runN n g y s).2.2.2.2.1) ∧ ((runN n g y s).2.2.2.2.1 = -1 → (runN n g y (s + 1)).2.2.2.2.1 = -1 ∨ (runN n g y (s + 1)).2.2.2.2.1 = nI s) := by
  generalize hr : runN n g y s = r
  have e : runN n g y (s + 1) = passS n y (nI s) r := by rw [← hr]; rfl
  rw [e]
  have h := sparkS_first (y := y) (sec := nI s) (gap := (if n 1 ≤ r.1.1 + n 0 then (kmax 0 (r.1.2.1 - n 4), kmax 0 (r.1.2.2.1 - n 3)) else (r.1.2.1, r.1.2.2.1)).1 - (if n 1 ≤ r.1.1 + n 0 then (kmax 0 (r.1.2.1 - n 4), kmax 0 (r.1.2.2.1 - n 3)) else (r.1.2.1, r.1.2.2.1)).2) (wet := r.1.1 + n 0) (hgt := r.1.2.2.2) (g := (leakS y (nI s) (yn y) (r.2.1, r.2.2.1)).1) (m := (leakS y (nI s) (yn y) (r.2.1, r.2.2.1)).2) (p := (r.2.2.2.1, r.2.2.2.2.1, r.2.2.2.2.2.1)) (yn y)
  refine ⟨fun hne => ?_, fun he => ?_⟩
  · rcases h with h | h
    · exact h.1
    · exact absurd h.1 hne
  · rcases h with h | h
    · exact Or.inl (h.1.trans he)
    · exact Or.inr h.2
theorem runN_first_st {n g : Nat → Int32} {y : yD} {s : Nat} (h : (runN n g y s).2.2.2.2.1 ≠ -1) : ∀ d, s + d < 1000 → (runN n g y (s + d)).2.2.2.2.1 = (runN n g y s).2.2.2.2.1
  | 0, _ => rfl
  | d + 1, hd => by
    have ih := runN_first_st h d (by omega)
    have := (runN_first (n := n) (g := g) (y := y) (s + d) (by omega)).1 (by rw [ih]; exact h)
    exact this.trans ih
theorem runN_first_at {n g : Nat → Int32} {y : yD} {s : Nat} (h : (runN n g y s).2.2.2.2.1 = -1) : ∀ d, s + d < 1000 → (runN n g y (s + d)).2.2.2.2.1 = -1 ∨ ∃ u, s ≤ u ∧ u < s + d ∧ (runN n g y (s + d)).2.2.2.2.1 = nI u
  | 0, _ => Or.inl h
  | d + 1, hd => by
    rcases runN_first_at h d (by omega) with ih | ⟨u, u1, u2, ih⟩
    · rcases (runN_first (n := n) (g := g) (y := y) (s + d) (by omega)).2 ih with a | a
      · exact Or.inl a
      · exact Or.inr ⟨s + d, by omega, by omega, a⟩
    · refine Or.inr ⟨u, u1, by omega, ?_⟩
      have := (runN_first (n := n) (g := g) (y := y) (s + d) (by omega)).1 (by rw [ih]; intro z; have z := i_eq.mp z; rw [nI_toInt (by omega)] at z; have z : (u : Int) = -1 := z; omega)
      exact this.trans ih
theorem ite_or {c : Prop} [Decidable c] {α : Type} (a b : α) : (if c then a else b) = a ∨ (if c then a else b) = b := by
  by_cases h : c
  · exact Or.inl (if_pos h)
  · exact Or.inr (if_neg h)
theorem runN_down {n g : Nat → Int32} {y : yD} (s : Nat) : ((runN n g y s).2.2.2.2.2.2 ≠ -1 → (runN n g y (s + 1)).2.2.2.2.2.2 = (runN n g y s).2.2.2.2.2.2) ∧ ((runN n g y s).2.2.2.2.2.2 = -1 → (runN n g y (s + 1)).2.2.2.2.2.2 = -1 ∨ (runN n g y (s + 1)).2.2.2.2.2.2 = nI s) := by
  generalize hr : runN n g y s = r
  have e : runN n g y (s + 1) = passS n y (nI s) r := by rw [← hr]; rfl
  rw [e]
  unfold passS
  simp only [kb]
  refine ⟨fun hne => ?_, fun he => ?_⟩
  · rw [if_neg (fun z => hne z.2.2)]
  · exact (ite_or _ _).elim Or.inr (fun h => Or.inl (h.trans he))
theorem runN_down_st {n g : Nat → Int32} {y : yD} {s : Nat} (h : (runN n g y s).2.2.2.2.2.2 ≠ -1) : ∀ d, (runN n g y (s + d)).2.2.2.2.2.2 = (runN n g y s).2.2.2.2.2.2
  | 0 => rfl
  | d + 1 => by
    have ih := runN_down_st h d
    have := (runN_down (n := n) (g := g) (y := y) (s + d)).1 (by rw [ih]; exact h)
    exact this.trans ih
theorem runN_down_lt {n g : Nat → Int32} {y : yD} : ∀ s, s < 1000 → (runN n g y s).2.2.2.2.2.2 = -1 ∨ ∃ u, u < s ∧ (runN n g y s).2.2.2.2.2.2 = nI u
  | 0, _ => Or.inl rfl
  | s + 1, hs => by
    rcases runN_down_lt (n := n) (g := g) (y := y) s (by omega) with ih | ⟨u, u1, ih⟩
    · rcases (runN_down (n := n) (g := g) (y := y) s).2 ih with a | a
      · exact Or.inl a
      · exact Or.inr ⟨s, by omega, a⟩
    · refine Or.inr ⟨u, by omega, ?_⟩
      have := (runN_down (n := n) (g := g) (y := y) s).1 (by rw [ih]; intro z; have z := i_eq.mp z; rw [nI_toInt (by omega)] at z; have z : (u : Int) = -1 := z; omega)
      exact this.trans ih
theorem lastS_st {n g : Nat → Int32} {y : yD} {s : Nat} (hs : s ≤ 100) (h : (runN n g y s).2.2.2.2.2.2 ≠ -1) : lastS (runN n g y s) = lastS (runN n g y 100) := by
  obtain ⟨d, he⟩ : ∃ d, s + d = 100 := ⟨100 - s, by omega⟩
  rw [← he]
  have hd := runN_down_st h d
  unfold lastS
  rw [hd]
  by_cases q : (runN n g y s).2.2.2.2.1 = -1
  · rw [if_pos (Or.inl q)]
    rcases runN_first_at q d (by omega) with a | ⟨u, u1, u2, a⟩
    · rw [if_pos (Or.inl a)]
    · rw [if_pos]
      refine Or.inr (Or.inr ?_)
      rcases runN_down_lt (n := n) (g := g) (y := y) s (by omega) with b | ⟨v, v1, b⟩
      · exact absurd b h
      · rw [a, b, nJ_lt (by omega) (by omega)]; omega
  · rw [runN_first_st q d (by omega)]
