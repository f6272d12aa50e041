/-! THE REFERENCE'S SECOND, its pieces. -/
def rowR (y : yD) (j : Nat) (r : Nat → Int32) (code : Nat → Int32) : Prop := r 1 = y.2.2.1 j ∧
  ((yk y j = -17 ∧ r 0 = 0 ∧ r 2 = ya y j ∧ r 3 = yf y j ∧ rng (r 1) 0 7 ∧ rng (r 2) 0 99 ∧ rng (r 3) 0 99) ∨
   (yk y j = -18 ∧ r 0 = 1 ∧ r 2 = y.2.2.2.2.2.1 j ∧ r 3 = y.2.2.2.2.2.2.1 j ∧ rng (r 1) 0 7 ∧ 0 ≤ (r 2).toInt ∧ (r 2).toInt ≤ (r 3).toInt ∧ (r 3).toInt ≤ 300 ∧ (∀ k, ys y j ≤ k → k < ye y j → code k = trC (yc y k) ∧ rng (yc y k) (-16) 9999) ∧ wfS 18 (codeOf (yc y) (ys y j) (ye y j))) ∨
   (yk y j = -19 ∧ r 0 = 2 ∧ r 2 = ya y j ∧ rng (r 1) 0 9 ∧ rng (r 2) (leastN (yt y j)) (mostN (yt y j))))
theorem why_n {y : yD} {many : Int32} {row : Nat → Nat → Int32} {code : Nat → Int32} (h : whyR y many row code) : yn y ≤ 14 ∧ many = nI (yn y) := by
  obtain ⟨h1, h2⟩ := yn_le (wfY_of h)
  exact ⟨h1, by rw [← h.1]; exact h2⟩
theorem why_at {y : yD} {many : Int32} {row : Nat → Nat → Int32} {code : Nat → Int32} (h : whyR y many row code) {j : Nat} (hj : j < yn y) : rowR y j (row j) code := by
  obtain ⟨h1, h2⟩ := why_n h
  exact h.2.2 j (by omega) (by rw [h2, nJ_lt (by omega) (by omega)]; exact hj)
def leakT (y : yD) (sec : Int32) (j : Nat) (q : (Nat → Int32) × (Nat → Int32)) : (Nat → Int32) × (Nat → Int32) := if yk y j = -17 ∧ ¬ sec < yf y j then (up q.1 (yt y j) (q.1 (yt y j) - kmin (ya y j) (q.1 (yt y j))), up q.2 (yt y j) (q.2 (yt y j) + kmin (ya y j) (q.1 (yt y j)))) else q
theorem r_leaks {F : Nat} {σ : kS} {a j : Nat} {y : yD} {code : Nat → Int32} {sec : Int32} (hR : rowR y j (σ.1 56 a) code) (q : (Nat → Int32) × (Nat → Int32)) (hg : ∀ c, c < 8 → σ.1 64 0 c = q.1 c ∧ σ.1 65 0 c = q.2 c) :
    RV (f_X6_leaks F a sec σ) (fun σ' => (∀ c, c < 8 → σ'.1 64 0 c = (leakT y sec j q).1 c ∧ σ'.1 65 0 c = (leakT y sec j q).2 c) ∧ Fr (sL [64, 65]) σ σ') := by
  obtain ⟨h1, h2⟩ := hR
  unfold f_X6_leaks f_X6_leaks_b13
  refine n_if (fun q0 => ?_) (fun q0 => ?_)
  · have h2 := h2.resolve_right (by
      rintro (h | h)
      · rw [h.2.1] at q0; exact absurd q0 (by decide)
      · rw [h.2.1] at q0; exact absurd q0 (by decide))
    obtain ⟨b1, b2, b3, b4, b5, b6, b7⟩ := h2
    refine n_if (fun q1 => ?_) (fun q1 => ?_)
    · rw [b4] at q1
      have hkt : kin (σ.1 56 a 1) 8 := ⟨b5.1, by have := b5.2; omega⟩
      have ht : (σ.1 56 a 1).toNatClampNeg = yt y j := by rw [h1]; rfl
      have htc : yt y j < 8 := by rw [← ht]; exact kin_lt hkt
      refine n_g hkt ?_
      rw [r_less, s_bi]
      refine n_b (n_g hkt (n_g hkt (n_b (n_b (n_g hkt (n_g hkt (n_b (n_v ⟨fun c hc => ?_, ((Fr.refl σ).u rfl).u rfl⟩))))))))
      have e : leakT y sec j q = (up q.1 (yt y j) (q.1 (yt y j) - kmin (ya y j) (q.1 (yt y j))), up q.2 (yt y j) (q.2 (yt y j) + kmin (ya y j) (q.1 (yt y j)))) := if_pos ⟨b1, Int32.not_lt.mpr q1⟩
      rw [e]
      dsimp only
      rw [up_at, up_at]
      have e1 : (kU σ 64 0 (σ.1 56 a 1).toNatClampNeg (σ.1 64 0 (σ.1 56 a 1).toNatClampNeg - kmin (σ.1 56 a 2) (σ.1 64 0 (σ.1 56 a 1).toNatClampNeg))).1 56 a 1 = σ.1 56 a 1 := rfl
      rw [e1, ht, b3, (hg _ htc).1]
      simp only [kU_at]
      by_cases k : c = yt y j
      · subst k
        simp [(hg _ htc).2]
      · simp [k, (hg c hc).1, (hg c hc).2]
    · have e : leakT y sec j q = q := if_neg (fun z => q1 (by rw [b4]; exact Int32.not_lt.mp z.2))
      rw [e]
      exact n_v ⟨hg, Fr.refl σ⟩
  · have e : leakT y sec j q = q := if_neg (fun z => by
      rcases h2 with h | h | h
      · exact q0 h.2.1
      · exact absurd (z.1.symm.trans h.1) (by decide)
      · exact absurd (z.1.symm.trans h.1) (by decide))
    rw [e]
    exact n_v ⟨hg, Fr.refl σ⟩
def sparkT (y : yD) (sec gap wet hgt : Int32) (g m : Nat → Int32) (j : Nat) (f : Nat → Int32) : Nat → Int32 := if yk y j = -18 ∧ f (yt y j) = -1 ∧ 0 < m (yt y j) ∧ condS (nmS sec gap wet hgt g m f (yt y j)) (codeOf (yc y) (ys y j) (ye y j)) = true then up f (yt y j) sec else f
theorem sparkS_1 {y : yD} {sec gap wet hgt : Int32} {g m : Nat → Int32} {j : Nat} {p : (Nat → Int32) × Int32 × Int32} : (sparkS y sec gap wet hgt g m (j + 1) p).1 = sparkT y sec gap wet hgt g m j (sparkS y sec gap wet hgt g m j p).1 := by
  show (if _ then _ else _ : (Nat → Int32) × Int32 × Int32).1 = _
  unfold sparkT
  by_cases h : yk y j = -18 ∧ (sparkS y sec gap wet hgt g m j p).1 (yt y j) = -1 ∧ 0 < m (yt y j) ∧ condS (nmS sec gap wet hgt g m (sparkS y sec gap wet hgt g m j p).1 (yt y j)) (codeOf (yc y) (ys y j) (ye y j)) = true
  · rw [if_pos h, if_pos h]
  · rw [if_neg h, if_neg h]
def sQ (g k : Nat) : Bool := Nat.beq g 59 || Nat.beq g 66 || (Nat.beq g 60 && Nat.ble 4 k)
theorem r_sparks {F : Nat} (hF : 2000 ≤ F) {σ : kS} {w a j : Nat} {y : yD} {sec gap wet hgt : Int32} (hw : w < 6) (hR : rowR y j (σ.1 56 a) (σ.1 54 w)) (g m f : Nat → Int32) (hg : ∀ c, c < 8 → σ.1 64 0 c = g c ∧ σ.1 65 0 c = m c ∧ σ.1 66 0 c = f c) (hn0 : σ.1 60 0 0 = sec) (hn1 : σ.1 60 0 1 = gap) (hn2 : σ.1 60 0 2 = wet) (hn3 : σ.1 60 0 3 = hgt) :
    RV (f_X6_sparks F (nI w) a sec σ) (fun σ' => (∀ c, c < 8 → σ'.1 66 0 c = sparkT y sec gap wet hgt g m j f c) ∧ Fr sQ σ σ') := by
  obtain ⟨h1, h2⟩ := hR
  unfold f_X6_sparks
  refine n_if (fun q0 => ?_) (fun q0 => ?_)
  · have h2 := (h2.resolve_left (by
      rintro h
      rw [h.2.1] at q0; exact absurd q0 (by decide))).resolve_right (by
      rintro h
      rw [h.2.1] at q0; exact absurd q0 (by decide))
    obtain ⟨b1, b2, b3, b4, b5, b6, b7, b8, b9, b10⟩ := h2
    have hkt : kin (σ.1 56 a 1) 8 := ⟨b5.1, by have := b5.2; omega⟩
    have ht : (σ.1 56 a 1).toNatClampNeg = yt y j := by rw [h1]; rfl
    have htc : yt y j < 8 := by rw [← ht]; exact kin_lt hkt
    obtain ⟨g1, g2, g3⟩ := hg _ htc
    have es1 := rng_nI (x := σ.1 56 a 2) ⟨b6, Int.le_trans b7 b8⟩
    have es2 := rng_nI (x := σ.1 56 a 3) ⟨Int.le_trans b6 b7, b8⟩
    have ea : (σ.1 56 a 2).toNatClampNeg = ys y j := by rw [b3]; rfl
    have eb : (σ.1 56 a 3).toNatClampNeg = ye y j := by rw [b4]; rfl
    rw [ea] at es1
    rw [eb] at es2
    have hab : ys y j ≤ ye y j := by
      rw [← ea, ← eb, c_of, c_of]
      omega
    have hb3 : ye y j ≤ 300 := by have := es2.2; omega
    have hlast : ∀ (t : Int32) (σ1 : kS), σ1 = kU (kU σ 60 0 4 (m (yt y j))) 60 0 5 (g (yt y j)) → t = (if f (yt y j) = -1 then 0 else 1) → Rn (f_X6_sparks_b59 F (nI w) a sec 6 t σ1) (fun v σ' => v = none ∧ (∀ c, c < 8 → σ'.1 66 0 c = sparkT y sec gap wet hgt g m j f c) ∧ Fr sQ σ σ') := by
      rintro t σ1 rfl et
      unfold f_X6_sparks_b59 f_X6_sparks_b106
      refine n_g (by decide) (n_b ?_)
      obtain ⟨σ2, e2⟩ : ∃ σ2, σ2 = kU (kU (kU σ 60 0 4 (m (yt y j))) 60 0 5 (g (yt y j))) 60 0 6 t := ⟨_, rfl⟩
      have fr2 : Fr sQ σ σ2 := by rw [e2]; exact (((Fr.refl σ).u rfl).u rfl).u rfl
      have h56 : ∀ k, σ2.1 56 a k = σ.1 56 a k := fun k => fr2.1 56 a k rfl
      show Rn (kBi (f_X6_holds F (nI w) ((kU (kU (kU σ 60 0 4 (m (yt y j))) 60 0 5 (g (yt y j))) 60 0 6 t).1 56 a 2) ((kU (kU (kU σ 60 0 4 (m (yt y j))) 60 0 5 (g (yt y j))) 60 0 6 t).1 56 a 3) (kU (kU (kU σ 60 0 4 (m (yt y j))) 60 0 5 (g (yt y j))) 60 0 6 t)) _) _
      rw [← e2, h56, h56, es1.1, es2.1]
      have hh := r_holds (F := F) hF (σ := σ2) (w := w) (a := ys y j) (b := ye y j) (f := yc y) (nm := nmS sec gap wet hgt g m f (yt y j)) hw hab hb3 (fun k p q => by rw [fr2.1 54 w k rfl]; exact b9 k p q) b10 (by
        intro k hk
        have hk : k = 0 ∨ k = 1 ∨ k = 2 ∨ k = 3 ∨ k = 4 ∨ k = 5 ∨ k = 6 := by omega
        rcases hk with rfl | rfl | rfl | rfl | rfl | rfl | rfl
        · rw [e2]; exact hn0
        · rw [e2]; exact hn1
        · rw [e2]; exact hn2
        · rw [e2]; exact hn3
        · rw [e2]; rfl
        · rw [e2]; rfl
        · rw [e2]; exact et)
      refine n_bi hh ?_
      rintro r σ3 ⟨hr, f3⟩
      have F3 : Fr sQ σ σ3 := fr2.trans (f3.l (by intro g hg k; simp at hg; subst hg; rfl))
      have h56' : ∀ k, σ3.1 56 a k = σ.1 56 a k := fun k => F3.1 56 a k rfl
      have e66 : ∀ c, c < 8 → σ3.1 66 0 c = f c := fun c hc => (f3.1 66 0 c rfl).trans (by rw [e2]; exact (hg c hc).2.2)
      have e65 : σ3.1 65 0 (yt y j) = m (yt y j) := (F3.1 65 0 _ rfl).trans g2
      have hstay : (¬ (yk y j = -18 ∧ f (yt y j) = -1 ∧ 0 < m (yt y j) ∧ condS (nmS sec gap wet hgt g m f (yt y j)) (codeOf (yc y) (ys y j) (ye y j)) = true)) → Rn (some (Sum.inl none, σ3)) (fun v σ' => v = none ∧ (∀ c, c < 8 → σ'.1 66 0 c = sparkT y sec gap wet hgt g m j f c) ∧ Fr sQ σ σ') := fun hc => n_v ⟨fun c hc' => by unfold sparkT; rw [if_neg hc]; exact e66 c hc', F3⟩
      simp only [h56', ht]
      refine n_if (fun q1 => hstay (fun z => ?_)) (fun q1 => n_g hkt ?_)
      · rw [if_pos z.2.2.2] at hr
        rw [hr] at q1
        exact absurd q1 (by decide)
      have hcd : condS (nmS sec gap wet hgt g m f (yt y j)) (codeOf (yc y) (ys y j) (ye y j)) = true := by
        by_cases z : condS (nmS sec gap wet hgt g m f (yt y j)) (codeOf (yc y) (ys y j) (ye y j)) = true
        · exact z
        · rw [if_neg z] at hr
          exact absurd hr q1
      rw [e65, e66 _ htc]
      refine n_if (fun q2 => hstay (fun z => absurd z.2.2.1 (Int32.not_lt.mpr q2))) (fun q2 => n_g hkt (n_if (fun q3 => n_g hkt (n_b (n_v ⟨fun c hc => ?_, F3.u rfl⟩))) (fun q3 => hstay (fun z => q3 z.2.1))))
      unfold sparkT
      rw [if_pos ⟨b1, q3, Int32.not_le.mp q2, hcd⟩, up_at, kU_at]
      by_cases k : c = yt y j
      · simp [k]
      · simp [k]; exact e66 c hc
    refine n_g hkt (n_b (n_g hkt (n_b (n_g hkt ?_))))
    show Rn (if σ.1 66 0 (σ.1 56 a 1).toNatClampNeg = -1 then f_X6_sparks_b59 F (nI w) a sec 6 0 (kU (kU σ 60 0 4 (σ.1 65 0 (σ.1 56 a 1).toNatClampNeg)) 60 0 5 (σ.1 64 0 (σ.1 56 a 1).toNatClampNeg)) else f_X6_sparks_b59 F (nI w) a sec 6 1 (kU (kU σ 60 0 4 (σ.1 65 0 (σ.1 56 a 1).toNatClampNeg)) 60 0 5 (σ.1 64 0 (σ.1 56 a 1).toNatClampNeg))) _
    rw [ht, g3, g2, g1]
    refine n_if (fun q1 => hlast 0 _ rfl (by rw [if_pos q1])) (fun q1 => hlast 1 _ rfl (by rw [if_neg q1]))
  · refine n_v ⟨fun c hc => ?_, Fr.refl σ⟩
    unfold sparkT
    rw [if_neg]
    · exact (hg c hc).2.2
    · rintro ⟨z, -⟩
      rcases h2 with h | h | h
      · exact absurd (z.symm.trans h.1) (by decide)
      · exact q0 h.2.1
      · exact absurd (z.symm.trans h.1) (by decide)
/-! the first fire -/
theorem sparkS_all {y : yD} (hy : wfY y) {sec gap wet hgt : Int32} {g m f : Nat → Int32} {b : Int32} (hs : sec ≠ -1) (hf : ∀ c, c < 8 → f c = -1) : ∀ j, j ≤ yn y → ((sparkS y sec gap wet hgt g m j (f, -1, b)).2 = (-1, b) ∧ ∀ c, c < 8 → (sparkS y sec gap wet hgt g m j (f, -1, b)).1 c = -1) ∨ ∃ c0, c0 < 8 ∧ (sparkS y sec gap wet hgt g m j (f, -1, b)).2 = (sec, nI c0) ∧ (sparkS y sec gap wet hgt g m j (f, -1, b)).1 c0 = sec ∧ (∀ c, c < c0 → (sparkS y sec gap wet hgt g m j (f, -1, b)).1 c = -1) ∧ ∀ c, c < 8 → (sparkS y sec gap wet hgt g m j (f, -1, b)).1 c = -1 ∨ (sparkS y sec gap wet hgt g m j (f, -1, b)).1 c = sec
  | 0, _ => Or.inl ⟨rfl, hf⟩
  | j + 1, hj => by
    have ih := sparkS_all hy (gap := gap) (wet := wet) (hgt := hgt) (g := g) (m := m) (b := b) hs hf j (by omega)
    generalize hq : sparkS y sec gap wet hgt g m j (f, -1, b) = q at ih
    have e : sparkS y sec gap wet hgt g m (j + 1) (f, -1, b) = (fun q : (Nat → Int32) × Int32 × Int32 => if yk y j = -18 ∧ q.1 (yt y j) = -1 ∧ 0 < m (yt y j) ∧ condS (nmS sec gap wet hgt g m q.1 (yt y j)) (codeOf (yc y) (ys y j) (ye y j)) = true then (up q.1 (yt y j) sec, if q.2.1 = -1 ∨ q.2.1 = sec ∧ nI (yt y j) < q.2.2 then (sec, nI (yt y j)) else q.2) else q) q := by rw [← hq]; rfl
    rw [e]
    dsimp only
    by_cases h : yk y j = -18 ∧ q.1 (yt y j) = -1 ∧ 0 < m (yt y j) ∧ condS (nmS sec gap wet hgt g m q.1 (yt y j)) (codeOf (yc y) (ys y j) (ye y j)) = true
    · rw [if_pos h]
      dsimp only
      have htc : yt y j < 8 := by
        rcases hy.2 j (by omega) with z | z | z
        · exact absurd (h.1.symm.trans z.1) (by decide)
        · have h1 := z.2.1.1
          have h2 := z.2.1.2
          show (y.2.2.1 j).toInt.toNat < 8
          omega
        · exact absurd (h.1.symm.trans z.1) (by decide)
      rcases ih with ⟨i1, i2⟩ | ⟨c0, i0, i1, i2, i3, i4⟩
      · refine Or.inr ⟨yt y j, htc, by rw [i1, if_pos (Or.inl rfl)], by rw [up_at, if_pos rfl], fun c hc => by rw [up_at, if_neg (by omega)]; exact i2 c (by omega), fun c hc => ?_⟩
        rw [up_at]
        by_cases k : c = yt y j
        · rw [if_pos k]; exact Or.inr rfl
        · rw [if_neg k]; exact Or.inl (i2 c hc)
      · have hall : ∀ c, c < 8 → up q.1 (yt y j) sec c = -1 ∨ up q.1 (yt y j) sec c = sec := fun c hc => by
          rw [up_at]
          by_cases k : c = yt y j
          · rw [if_pos k]; exact Or.inr rfl
          · rw [if_neg k]; exact i4 c hc
        have hne : yt y j ≠ c0 := fun z => hs (by rw [← i2, ← z]; exact h.2.1)
        rw [i1]
        dsimp only
        by_cases k : yt y j < c0
        · refine Or.inr ⟨yt y j, htc, by rw [if_pos (Or.inr ⟨rfl, by rw [nJ_lt (by omega) (by omega)]; exact k⟩)], by rw [up_at, if_pos rfl], fun c hc => by rw [up_at, if_neg (by omega)]; exact i3 c (by omega), hall⟩
        · refine Or.inr ⟨c0, i0, ?_, by rw [up_at, if_neg (fun z => hne z.symm)]; exact i2, fun c hc => by rw [up_at, if_neg (by omega)]; exact i3 c hc, hall⟩
          rw [if_neg]
          rintro (z | z)
          · exact hs z
          · rw [nJ_lt (by omega) (by omega)] at z; exact k z.2
    · rw [if_neg h]
      exact ih
theorem spread_id {sp sec : Int32} {f : Nat → Int32} (hsp : 1 ≤ sp.toInt) (hf : ∀ c, c < 8 → f c = -1 ∨ f c = sec) : ∀ j, j ≤ 8 → ∀ c, c < 8 → spreadS sp sec j f c = f c
  | 0, _, c, _ => rfl
  | j + 1, hj, c, hc => by
    have ih := spread_id hsp hf j (by omega)
    have hno : ∀ k, k < 8 → ¬ (spreadS sp sec j f k ≠ -1 ∧ sp ≤ sec - spreadS sp sec j f k) := fun k hk z => by
      rw [ih k hk] at z
      rcases hf k hk with h | h
      · exact z.1 h
      · have z2 := z.2
        rw [h, i_le] at z2
        rw [show sec - sec = 0 from by rw [i_eq, Int32.toInt_sub]; simp] at z2
        have z2 : sp.toInt ≤ 0 := z2
        omega
    show (if _ then up _ _ _ else _) c = _
    rw [if_neg]
    · exact ih c hc
    · rintro ⟨-, z | z⟩
      · exact hno (j - 1) (by omega) z.2
      · exact hno (j + 1) (by omega) z.2
theorem runN_fire {n g : Nat → Int32} {y : yD} (hy : wfY y) : ∀ s, s < 1000 → (runN n g y s).2.2.2.2.1 = -1 → ∀ c, c < 8 → (runN n g y s).2.2.2.1 c = -1
  | 0, _, _, c, _ => rfl
  | s + 1, hs, h, c, hc => by
    have h0 : (runN n g y s).2.2.2.2.1 = -1 := by
      by_cases z : (runN n g y s).2.2.2.2.1 = -1
      · exact z
      · exact absurd (((runN_first (n := n) (g := g) (y := y) s (by omega)).1 z).symm.trans h) z
    have ih := runN_fire hy s (by omega) h0
    generalize hr : runN n g y s = r at h0 ih
    have e : runN n g y (s + 1) = passS n y (nI s) r := by rw [← hr]; rfl
    rw [e] at h ⊢
    have hs1 : nI s ≠ -1 := fun z => by have z := i_eq.mp z; rw [nI_toInt (by omega)] at z; have z : (s : Int) = -1 := z; omega
    have hall := sparkS_all hy (sec := nI s) (gap := (if n 1 ≤ r.1.1 + n 0 then (kmax 0 (r.1.2.1 - n 4), kmax 0 (r.1.2.2.1 - n 3)) else (r.1.2.1, r.1.2.2.1)).1 - (if n 1 ≤ r.1.1 + n 0 then (kmax 0 (r.1.2.1 - n 4), kmax 0 (r.1.2.2.1 - n 3)) else (r.1.2.1, r.1.2.2.1)).2) (wet := r.1.1 + n 0) (hgt := r.1.2.2.2) (g := (leakS y (nI s) (yn y) (r.2.1, r.2.2.1)).1) (m := (leakS y (nI s) (yn y) (r.2.1, r.2.2.1)).2) (b := r.2.2.2.2.2.1) hs1 ih (yn y) (Nat.le_refl _)
    unfold passS at h ⊢
    simp only [kb] at h ⊢
    rw [h0] at h ⊢
    rcases hall with ⟨i1, i2⟩ | ⟨c0, i0, i1, i2, i3, i4⟩
    · rw [i1]
      rw [if_pos rfl]
      exact i2 c hc
    · rw [i1] at h
      exact absurd h hs1
