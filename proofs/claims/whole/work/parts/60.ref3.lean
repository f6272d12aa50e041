/-! THE REFERENCE'S SECOND, its loops. -/
def bgS (f : Nat → Int32) (sec : Int32) : Nat → Int32 × Int32 → Int32 × Int32
  | 0, p => p
  | j + 1, p => if f j ≠ -1 ∧ (bgS f sec j p).1 = -1 then (sec, nI j) else bgS f sec j p
theorem bgS_ne {f : Nat → Int32} {sec : Int32} {p : Int32 × Int32} (h : p.1 ≠ -1) : ∀ j, bgS f sec j p = p
  | 0 => rfl
  | j + 1 => by
    have ih := bgS_ne (f := f) (sec := sec) h j
    show (if _ then _ else _) = _
    rw [ih, if_neg (fun z => h z.2)]
theorem bgS_none {f : Nat → Int32} {sec : Int32} {p : Int32 × Int32} (h : ∀ c, c < 8 → f c = -1) : ∀ j, j ≤ 8 → bgS f sec j p = p
  | 0, _ => rfl
  | j + 1, hj => by
    have ih := bgS_none (f := f) (sec := sec) (p := p) h j (by omega)
    show (if _ then _ else _) = _
    rw [ih, if_neg (fun z => z.1 (h j (by omega)))]
theorem bgS_at {f : Nat → Int32} {sec : Int32} {p : Int32 × Int32} {c0 : Nat} (hs : sec ≠ -1) (hp : p.1 = -1) (h0 : f c0 ≠ -1) (hl : ∀ c, c < c0 → f c = -1) : ∀ j, (j ≤ c0 → bgS f sec j p = p) ∧ (c0 < j → bgS f sec j p = (sec, nI c0))
  | 0 => ⟨fun _ => rfl, fun h => absurd h (by omega)⟩
  | j + 1 => by
    have ih := bgS_at (f := f) (sec := sec) (p := p) hs hp h0 hl j
    refine ⟨fun h => ?_, fun h => ?_⟩
    · show (if _ then _ else _) = _
      rw [ih.1 (by omega), if_neg (fun z => z.1 (hl j (by omega)))]
    · show (if _ then _ else _) = _
      by_cases k : j = c0
      · subst k
        rw [ih.1 (by omega), if_pos ⟨h0, hp⟩]
      · rw [ih.2 (by omega), if_neg (fun z => hs z.2)]
theorem ref_first {y : yD} (hy : wfY y) {sec gap wet hgt sp : Int32} {g m f : Nat → Int32} {a b : Int32} (hs : sec ≠ -1) (hsp : 1 ≤ sp.toInt) (hf : a = -1 → ∀ c, c < 8 → f c = -1) (ha : a ≠ sec) :
    bgS (spreadS sp sec 8 (sparkS y sec gap wet hgt g m (yn y) (f, a, b)).1) sec 8 (a, b) = (sparkS y sec gap wet hgt g m (yn y) (f, a, b)).2 ∧ ((sparkS y sec gap wet hgt g m (yn y) (f, a, b)).2.1 = -1 → ∀ c, c < 8 → spreadS sp sec 8 (sparkS y sec gap wet hgt g m (yn y) (f, a, b)).1 c = (sparkS y sec gap wet hgt g m (yn y) (f, a, b)).1 c ∧ spreadS sp sec 8 (sparkS y sec gap wet hgt g m (yn y) (f, a, b)).1 c = -1) := by
  by_cases h : a = -1
  · subst h
    rcases sparkS_all hy (gap := gap) (wet := wet) (hgt := hgt) (g := g) (m := m) (b := b) hs (hf rfl) (yn y) (Nat.le_refl _) with ⟨i1, i2⟩ | ⟨c0, i0, i1, i2, i3, i4⟩
    · have hid := spread_id hsp (sec := sec) (fun c hc => Or.inl (i2 c hc)) 8 (Nat.le_refl _)
      refine ⟨?_, fun _ c hc => ⟨hid c hc, (hid c hc).trans (i2 c hc)⟩⟩
      rw [bgS_none (fun c hc => (hid c hc).trans (i2 c hc)) 8 (Nat.le_refl _), i1]
    · have hid := spread_id hsp (sec := sec) i4 8 (Nat.le_refl _)
      refine ⟨?_, fun z => absurd z (by rw [i1]; exact hs)⟩
      rw [(bgS_at hs rfl (by rw [hid c0 i0, i2]; exact hs) (fun c hc => (hid c (by omega)).trans (i3 c hc)) 8).2 i0, i1]
  · have hh := sparkS_first (y := y) (sec := sec) (gap := gap) (wet := wet) (hgt := hgt) (g := g) (m := m) (p := (f, a, b)) (yn y)
    have e : (sparkS y sec gap wet hgt g m (yn y) (f, a, b)).2 = (a, b) := by
      rcases hh with ⟨h1, h2⟩ | ⟨h1, h2⟩
      · rcases h2 with h2 | h2
        · exact Prod.ext h1 h2
        · exact absurd h2 ha
      · exact absurd h1 h
    refine ⟨by rw [bgS_ne h, e], fun z => ?_⟩
    rw [e] at z
    exact absurd z h
theorem r_beside {F : Nat} {j : Nat} {sec : Int32} {σ : kS} (hj : j < 8) : f_X6_isBeside F (nI j) sec σ = some (.inl (some (.int (if (0 < j ∧ σ.1 66 0 (j - 1) ≠ -1 ∧ σ.1 63 0 5 ≤ sec - σ.1 66 0 (j - 1)) ∨ (j < 7 ∧ σ.1 66 0 (j + 1) ≠ -1 ∧ σ.1 63 0 5 ≤ sec - σ.1 66 0 (j + 1)) then 1 else 0))), σ) := by
  have e2 : f_X6_isBeside_b40 F (nI j) sec 0 σ = some (.inl (some (.int (if j < 7 ∧ σ.1 66 0 (j + 1) ≠ -1 ∧ σ.1 63 0 5 ≤ sec - σ.1 66 0 (j + 1) then 1 else 0))), σ) := by
    unfold f_X6_isBeside_b40 f_X6_isBeside_b86 f_X6_isBeside_b82 f_X6_isBeside_b87
    rw [if_pos rfl, nI_s (by omega), nI_c (by omega)]
    by_cases k : j < 7
    · have hk : kin (nI (j + 1)) 8 := (nI_kin (by omega)).mpr (by omega)
      rw [if_neg (by show ¬ nI 7 ≤ nI j; rw [nJ_le (by omega) (by omega)]; omega), kg_t hk, kg_t hk]
      by_cases q : σ.1 66 0 (j + 1) = -1
      · rw [if_pos q, if_neg (fun z => z.2.1 q)]; rfl
      · rw [if_neg q]
        by_cases q2 : sec - σ.1 66 0 (j + 1) < σ.1 63 0 5
        · rw [if_pos q2, if_neg (fun z => absurd q2 (Int32.not_lt.mpr z.2.2))]; rfl
        · rw [if_neg q2, if_pos ⟨k, q, Int32.not_lt.mp q2⟩]; rfl
    · rw [if_pos (by show nI 7 ≤ nI j; rw [nJ_le (by omega) (by omega)]; omega), if_neg (fun z => k z.1)]; rfl
  unfold f_X6_isBeside f_X6_isBeside_b39
  by_cases k : 0 < j
  · have hk : kin (nI (j - 1)) 8 := (nI_kin (by omega)).mpr (by omega)
    rw [if_neg (by show ¬ nI j ≤ nI 0; rw [nJ_le (by omega) (by omega)]; omega), nI_p (by omega) (by omega), nI_c (by omega), kg_t hk, kg_t hk, e2]
    by_cases q : σ.1 66 0 (j - 1) = -1
    · rw [if_pos q]
      by_cases z : j < 7 ∧ σ.1 66 0 (j + 1) ≠ -1 ∧ σ.1 63 0 5 ≤ sec - σ.1 66 0 (j + 1)
      · rw [if_pos z, if_pos (Or.inr z)]
      · rw [if_neg z, if_neg (fun h => h.elim (fun h => h.2.1 q) z)]
    · rw [if_neg q]
      by_cases q2 : sec - σ.1 66 0 (j - 1) < σ.1 63 0 5
      · rw [if_pos q2]
        by_cases z : j < 7 ∧ σ.1 66 0 (j + 1) ≠ -1 ∧ σ.1 63 0 5 ≤ sec - σ.1 66 0 (j + 1)
        · rw [if_pos z, if_pos (Or.inr z)]
        · rw [if_neg z, if_neg (fun h => h.elim (fun h => absurd q2 (Int32.not_lt.mpr h.2.2)) z)]
      · rw [if_neg q2, if_pos (Or.inl ⟨k, q, Int32.not_lt.mp q2⟩)]
        rfl
  · rw [if_pos (by show nI j ≤ nI 0; rw [nJ_le (by omega) (by omega)]; omega), e2]
    by_cases z : j < 7 ∧ σ.1 66 0 (j + 1) ≠ -1 ∧ σ.1 63 0 5 ≤ sec - σ.1 66 0 (j + 1)
    · rw [if_pos z, if_pos (Or.inr z)]
    · rw [if_neg z, if_neg (fun h => h.elim (fun h => k h.1) z)]
theorem nI_14 {w j : Nat} (hw : w < 6) (hj : j < 14) : (14 * nI w) + nI j = nI (14 * w + j) := by
  have e1 : (14 * nI w).toInt = 14 * (w : Int) := by
    rw [i_mul, nI_toInt (by omega)]
    · rfl
    · rw [nI_toInt (by omega)]; show _ ≤ (14 : Int) * _; omega
    · rw [nI_toInt (by omega)]; show (14 : Int) * _ < _; omega
  rw [i_eq, i_add, e1, nI_toInt (by omega), nI_toInt (by omega)]
  · omega
  · rw [e1, nI_toInt (by omega)]; omega
  · rw [e1, nI_toInt (by omega)]; omega
theorem r_b91 {F : Nat} (hF : 2000 ≤ F) {σ : kS} {w : Nat} {y : yD} {x2 x3 x4 x5 sec : Int32} {rr : (Int32 × Int32 × Int32 × Int32 × Int32 × Int32) → kS → Option kR} {Q : Option Value → kS → Prop} (hw : w < 6) (hY : whyR y (σ.1 57 0 w) (fun j => σ.1 56 (14 * w + j)) (σ.1 54 w)) (q : (Nat → Int32) × (Nat → Int32)) (hg : ∀ c, c < 8 → σ.1 64 0 c = q.1 c ∧ σ.1 65 0 c = q.2 c)
    (hnx : ∀ σ', (∀ c, c < 8 → σ'.1 64 0 c = (leakS y sec (yn y) q).1 c ∧ σ'.1 65 0 c = (leakS y sec (yn y) q).2 c) → Fr (sL [64, 65]) σ σ' → Rn (kFix (f_X6_runs_b162 F rr) F (nI w, x2, x3, x4, x5, sec, 0) (kU (kU (kU (kU σ' 60 0 0 sec) 60 0 1 (x3 - x4)) 60 0 2 x2) 60 0 3 x5)) Q) :
    Rn (kFix (f_X6_runs_b91 F rr) F (nI w, x2, x3, x4, x5, sec, 0) σ) Q := by
  obtain ⟨hn, en⟩ := why_n hY
  have ew : (nI w).toNatClampNeg = w := nI_c (by omega)
  have hkw : kin (nI w) 6 := (nI_kin (by omega)).mpr hw
  refine n_fix (fun N x σ' => ∃ j, x = (nI w, x2, x3, x4, x5, sec, nI j) ∧ j ≤ yn y ∧ N = yn y - j ∧ (∀ c, c < 8 → σ'.1 64 0 c = (leakS y sec j q).1 c ∧ σ'.1 65 0 c = (leakS y sec j q).2 c) ∧ Fr (sL [64, 65]) σ σ') ?_ F (yn y) _ _ (by omega) ⟨0, rfl, by omega, rfl, hg, Fr.refl σ⟩
  rintro r2 N x σ' ⟨j, rfl, hj, rfl, hI, hfr⟩ ih
  have e57 : σ'.1 57 0 w = nI (yn y) := (hfr.1 57 0 w rfl).trans en
  unfold f_X6_runs_b91
  simp only [ew, e57]
  refine n_g hkw (n_if (fun q1 => ?_) (fun q1 => ?_))
  · rw [nJ_le (by omega) (by omega)] at q1
    have : j = yn y := by omega
    subst this
    exact hnx σ' hI hfr
  · rw [nJ_le (by omega) (by omega)] at q1
    rw [nI_14 hw (by omega), nI_c (by omega), nI_s (by omega)]
    refine n_g ((nI_kin (by omega)).mpr (by omega)) (n_b ?_)
    have hR := why_at hY (j := j) (by omega)
    have e56 : σ'.1 56 (14 * w + j) = σ.1 56 (14 * w + j) := by funext k; exact hfr.1 56 _ k rfl
    refine n_bv (r_leaks (y := y) (j := j) (code := σ.1 54 w) (by rw [e56]; exact hR) _ hI) ?_
    rintro σ2 ⟨p1, p2⟩
    exact ih (yn y - (j + 1)) _ _ (by omega) ⟨j + 1, rfl, by omega, rfl, p1, hfr.trans p2⟩
theorem r_b162 {F : Nat} (hF : 2000 ≤ F) {σ : kS} {w : Nat} {y : yD} {x2 x3 x4 x5 sec gap wet hgt : Int32} {rr : (Int32 × Int32 × Int32 × Int32 × Int32 × Int32) → kS → Option kR} {Q : Option Value → kS → Prop} (hw : w < 6) (hY : whyR y (σ.1 57 0 w) (fun j => σ.1 56 (14 * w + j)) (σ.1 54 w)) (g m : Nat → Int32) (p : (Nat → Int32) × Int32 × Int32) (hg : ∀ c, c < 8 → σ.1 64 0 c = g c ∧ σ.1 65 0 c = m c ∧ σ.1 66 0 c = p.1 c) (hn0 : σ.1 60 0 0 = sec) (hn1 : σ.1 60 0 1 = gap) (hn2 : σ.1 60 0 2 = wet) (hn3 : σ.1 60 0 3 = hgt)
    (hnx : ∀ σ', (∀ c, c < 8 → σ'.1 66 0 c = (sparkS y sec gap wet hgt g m (yn y) p).1 c) → Fr (sL [59, 60, 66]) σ σ' → Rn (kFix (f_X6_runs_b201 F rr) F (nI w, x2, x3, x4, x5, sec, 0) σ') Q) :
    Rn (kFix (f_X6_runs_b162 F rr) F (nI w, x2, x3, x4, x5, sec, 0) σ) Q := by
  obtain ⟨hn, en⟩ := why_n hY
  have ew : (nI w).toNatClampNeg = w := nI_c (by omega)
  have hkw : kin (nI w) 6 := (nI_kin (by omega)).mpr hw
  refine n_fix (fun N x σ' => ∃ j, x = (nI w, x2, x3, x4, x5, sec, nI j) ∧ j ≤ yn y ∧ N = yn y - j ∧ (∀ c, c < 8 → σ'.1 66 0 c = (sparkS y sec gap wet hgt g m j p).1 c) ∧ Fr sQ σ σ') ?_ F (yn y) _ _ (by omega) ⟨0, rfl, by omega, rfl, fun c hc => (hg c hc).2.2, Fr.refl σ⟩
  rintro r2 N x σ' ⟨j, rfl, hj, rfl, hI, hfr⟩ ih
  have e57 : σ'.1 57 0 w = nI (yn y) := (hfr.1 57 0 w rfl).trans en
  unfold f_X6_runs_b162
  simp only [ew, e57]
  refine n_g hkw (n_if (fun q1 => ?_) (fun q1 => ?_))
  · rw [nJ_le (by omega) (by omega)] at q1
    have : j = yn y := by omega
    subst this
    refine hnx σ' hI (hfr.sub ?_)
    intro g k z
    show (Nat.beq g 59 || Nat.beq g 66 || (Nat.beq g 60 && Nat.ble 4 k)) = false
    have z : ¬ g ∈ [59, 60, 66] := by simpa [sL] using z
    simp at z
    rw [nb_f z.1, nb_f z.2.1, nb_f z.2.2]
    rfl
  · rw [nJ_le (by omega) (by omega)] at q1
    rw [nI_14 hw (by omega), nI_c (by omega), nI_s (by omega)]
    refine n_g ((nI_kin (by omega)).mpr (by omega)) (n_b ?_)
    have hR := why_at hY (j := j) (by omega)
    have e56 : σ'.1 56 (14 * w + j) = σ.1 56 (14 * w + j) := by funext k; exact hfr.1 56 _ k rfl
    have e54 : σ'.1 54 w = σ.1 54 w := by funext k; exact hfr.1 54 _ k rfl
    refine n_bv (r_sparks (y := y) (j := j) (gap := gap) (wet := wet) (hgt := hgt) hF hw (by rw [e56, e54]; exact hR) g m (sparkS y sec gap wet hgt g m j p).1 (fun c hc => ⟨(hfr.1 64 0 c rfl).trans (hg c hc).1, (hfr.1 65 0 c rfl).trans (hg c hc).2.1, hI c hc⟩) ((hfr.1 60 0 0 rfl).trans hn0) ((hfr.1 60 0 1 rfl).trans hn1) ((hfr.1 60 0 2 rfl).trans hn2) ((hfr.1 60 0 3 rfl).trans hn3)) ?_
    rintro σ2 ⟨p1, p2⟩
    exact ih (yn y - (j + 1)) _ _ (by omega) ⟨j + 1, rfl, by omega, rfl, fun c hc => by rw [sparkS_1]; exact p1 c hc, hfr.trans p2⟩
theorem r_b201 {F : Nat} (hF : 2000 ≤ F) {σ : kS} {x1 x2 x3 x4 x5 sec : Int32} {rr : (Int32 × Int32 × Int32 × Int32 × Int32 × Int32) → kS → Option kR} {Q : Option Value → kS → Prop} (f : Nat → Int32) (hf : ∀ c, c < 8 → σ.1 66 0 c = f c)
    (hnx : ∀ σ', (∀ c, c < 8 → σ'.1 66 0 c = spreadS (σ.1 63 0 5) sec 8 f c) → Fr (sL [66]) σ σ' → Rn (kFix (f_X6_runs_b251 F rr) F (x1, x2, x3, x4, x5, sec, 0, 0) σ') Q) :
    Rn (kFix (f_X6_runs_b201 F rr) F (x1, x2, x3, x4, x5, sec, 0) σ) Q := by
  refine n_fix (fun n x σ' => ∃ j, x = (x1, x2, x3, x4, x5, sec, nI j) ∧ j ≤ 8 ∧ n = 8 - j ∧ (∀ c, c < 8 → σ'.1 66 0 c = spreadS (σ.1 63 0 5) sec j f c) ∧ Fr (sL [66]) σ σ') ?_ F 8 _ σ (by omega) ⟨0, rfl, by omega, rfl, hf, Fr.refl σ⟩
  rintro r2 n x σ' ⟨j, rfl, hj, rfl, hI, hfr⟩ ih
  have ej : (nI j).toNatClampNeg = j := nI_c (by omega)
  have es : nI j + 1 = nI (j + 1) := nI_s (by omega)
  have e63 : σ'.1 63 0 5 = σ.1 63 0 5 := hfr.1 63 0 5 rfl
  unfold f_X6_runs_b201 f_X6_runs_b239
  simp only [ej, es]
  refine n_if (fun q => ?_) (fun q => ?_)
  · have q : nI 8 ≤ nI j := q
    rw [nJ_le (by omega) (by omega)] at q
    have : j = 8 := by omega
    subst this
    exact hnx σ' hI hfr
  have q : ¬ nI 8 ≤ nI j := q
  rw [nJ_le (by omega) (by omega)] at q
  have hkj : kin (nI j) 8 := (nI_kin (by omega)).mpr (by omega)
  have hnew : spreadS (σ.1 63 0 5) sec (j + 1) f = (fun q0 : Nat → Int32 => if q0 j = -1 ∧ ((0 < j ∧ q0 (j - 1) ≠ -1 ∧ σ.1 63 0 5 ≤ sec - q0 (j - 1)) ∨ (j < 7 ∧ q0 (j + 1) ≠ -1 ∧ σ.1 63 0 5 ≤ sec - q0 (j + 1))) then up q0 j sec else q0) (spreadS (σ.1 63 0 5) sec j f) := rfl
  generalize spreadS (σ.1 63 0 5) sec j f = q0 at hI hnew
  dsimp only at hnew
  have hbe : f_X6_isBeside F (nI j) sec σ' = some (.inl (some (.int (if (0 < j ∧ q0 (j - 1) ≠ -1 ∧ σ.1 63 0 5 ≤ sec - q0 (j - 1)) ∨ (j < 7 ∧ q0 (j + 1) ≠ -1 ∧ σ.1 63 0 5 ≤ sec - q0 (j + 1)) then 1 else 0))), σ') := by
    rw [r_beside (by omega), e63]
    have e1 : ((0 < j ∧ σ'.1 66 0 (j - 1) ≠ -1 ∧ σ.1 63 0 5 ≤ sec - σ'.1 66 0 (j - 1)) ∨ (j < 7 ∧ σ'.1 66 0 (j + 1) ≠ -1 ∧ σ.1 63 0 5 ≤ sec - σ'.1 66 0 (j + 1))) ↔ ((0 < j ∧ q0 (j - 1) ≠ -1 ∧ σ.1 63 0 5 ≤ sec - q0 (j - 1)) ∨ (j < 7 ∧ q0 (j + 1) ≠ -1 ∧ σ.1 63 0 5 ≤ sec - q0 (j + 1))) := by
      refine or_congr ?_ ?_
      · rw [hI (j - 1) (by omega)]
      · refine and_congr_right fun h => ?_
        rw [hI (j + 1) (by omega)]
    by_cases z : ((0 < j ∧ q0 (j - 1) ≠ -1 ∧ σ.1 63 0 5 ≤ sec - q0 (j - 1)) ∨ (j < 7 ∧ q0 (j + 1) ≠ -1 ∧ σ.1 63 0 5 ≤ sec - q0 (j + 1)))
    · rw [if_pos z, if_pos (e1.mpr z)]
    · rw [if_neg z, if_neg (fun h => z (e1.mp h))]
  rw [hI j (by omega)]
  refine n_g hkj (n_if (fun q1 => ?_) (fun q1 => ?_))
  · rw [hbe, s_bi]
    by_cases z : ((0 < j ∧ q0 (j - 1) ≠ -1 ∧ σ.1 63 0 5 ≤ sec - q0 (j - 1)) ∨ (j < 7 ∧ q0 (j + 1) ≠ -1 ∧ σ.1 63 0 5 ≤ sec - q0 (j + 1)))
    · rw [if_pos z]
      refine n_f (by decide) (n_g hkj (n_b (ih (8 - (j + 1)) _ _ (by omega) ⟨j + 1, rfl, by omega, rfl, fun c hc => ?_, hfr.u rfl⟩)))
      rw [hnew, if_pos ⟨q1, z⟩, up_at, kU_at]
      by_cases k : c = j
      · simp [k]
      · simp [k]; exact hI c hc
    · rw [if_neg z]
      refine n_t rfl (ih (8 - (j + 1)) _ _ (by omega) ⟨j + 1, rfl, by omega, rfl, fun c hc => ?_, hfr⟩)
      rw [hnew, if_neg (fun h => z h.2)]
      exact hI c hc
  · refine ih (8 - (j + 1)) _ _ (by omega) ⟨j + 1, rfl, by omega, rfl, fun c hc => ?_, hfr⟩
    rw [hnew, if_neg (fun h => q1 h.1)]
    exact hI c hc
