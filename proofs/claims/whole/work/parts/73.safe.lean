/-! SAFE, LEAST, ALL. -/
def opN (m : kM) (bits : Int32) : Nat → Int32 := optS bits (fun k => m 86 k 0) (fun k => m 86 k 1) (m 48 0 45).toNatClampNeg (m 61 0)
def sfS (m : kM) (bits sec : Int32) (w : Nat) : Prop := lastS (runS (opN m bits) (m 62 0) (yOf m (w + 2)) 100) = -1 ∨ sec ≤ lastS (runS (opN m bits) (m 62 0) (yOf m (w + 2)) 100)
theorem sfS_cg {m m' : kM} {bits sec : Int32} {w : Nat} (h1 : m' 61 = m 61) (h2 : m' 62 = m 62) (h3 : yOf m' (w + 2) = yOf m (w + 2)) (h4 : m' 86 = m 86) (h5 : m' 48 0 45 = m 48 0 45) : sfS m' bits sec w ↔ sfS m bits sec w := by
  unfold sfS opN
  rw [h1, h2, h3, h4, h5]
theorem inv_opt {m : kM} (h : Inv m) : ∃ N, N ≤ 5 ∧ N = (m 48 0 45).toNatClampNeg ∧ m 48 0 45 = nI N ∧ m 4 0 13 = nI N ∧ (∀ r, r < 5 → m 32 0 r = m 86 r 0 ∧ m 33 0 r = m 86 r 1 ∧ m 34 0 r = m 86 r 2) ∧ ∀ r, r < 5 → rng (m 86 r 0) 0 9 ∧ rng (m 86 r 1) (leastN (m 86 r 0).toNatClampNeg) (mostN (m 86 r 0).toNatClampNeg) ∧ rng (m 86 r 2) 0 999 := by
  obtain ⟨e1, e2⟩ := rng_nI h.1.2.2.2.1
  exact ⟨_, by omega, rfl, e1, h.1.1.2.2.1.trans e1, h.1.1.2.2.2.2.2.2.2, h.1.2.2.2.2.2.2.2.2⟩
theorem optS_rng {bits : Int32} {on ov n : Nat → Int32} (hn : ∀ k, k < 10 → rng (n k) (leastN k) (mostN k)) (ho : ∀ r, r < 5 → rng (ov r) (leastN (on r).toNatClampNeg) (mostN (on r).toNatClampNeg)) : ∀ j, j ≤ 5 → ∀ k, k < 10 → rng (optS bits on ov j n k) (leastN k) (mostN k)
  | 0, _, k, hk => hn k hk
  | j + 1, hj, k, hk => by
    have ih := optS_rng (bits := bits) hn ho j (by omega)
    have e : optS bits on ov (j + 1) n = if (bits >>> (nI j &&& 31)) &&& 1 = 1 then up (optS bits on ov j n) (on j).toNatClampNeg (ov j) else optS bits on ov j n := rfl
    rw [e]
    by_cases z : (bits >>> (nI j &&& 31)) &&& 1 = 1
    · rw [if_pos z, up_at]
      by_cases q : k = (on j).toNatClampNeg
      · rw [if_pos q, q]; exact ho j (by omega)
      · rw [if_neg q]; exact ih k hk
    · rw [if_neg z]; exact ih k hk
theorem c_apply {F : Nat} (hF : 2000 ≤ F) {σ : kS} {N : Nat} {bits : Int32} {on ov n : Nat → Int32} (hN5 : N ≤ 5) (hN : σ.1 4 0 13 = nI N) (h1 : ∀ r, r < 5 → σ.1 32 0 r = on r ∧ σ.1 33 0 r = ov r) (h2 : ∀ r, r < 5 → rng (on r) 0 9) (hn : ∀ k, k < 10 → σ.1 35 0 k = n k) :
    RV (f_X2_applyOptions F 0 bits σ) (fun σ' => (∀ k, k < 10 → σ'.1 35 0 k = optS bits on ov N n k) ∧ Fr (sL [35]) σ σ') := by
  unfold f_X2_applyOptions
  refine n_fix (fun m x σ' => ∃ j, x = (0, bits, nI j) ∧ j ≤ N ∧ m = N - j ∧ (∀ k, k < 10 → σ'.1 35 0 k = optS bits on ov j n k) ∧ Fr (sL [35]) σ σ') ?_ F N _ σ (by omega) ⟨0, rfl, by omega, rfl, hn, Fr.refl σ⟩
  rintro rr m x σ' ⟨j, rfl, hj, rfl, hI, hfr⟩ ih
  have e13 : σ'.1 4 0 13 = nI N := (hfr.1 4 0 13 rfl).trans hN
  unfold f_X2_applyOptions_b2 f_X2_applyOptions_b49
  dsimp only
  rw [e13, nI_c (by omega), nI_s (by omega)]
  have e : optS bits on ov (j + 1) n = if (bits >>> (nI j &&& 31)) &&& 1 = 1 then up (optS bits on ov j n) (on j).toNatClampNeg (ov j) else optS bits on ov j n := rfl
  refine n_if (fun q => ?_) (fun q => ?_)
  · rw [nJ_le (by omega) (by omega)] at q
    have : j = N := by omega
    subst this
    exact n_v ⟨hI, hfr⟩
  · rw [nJ_le (by omega) (by omega)] at q
    have hkj : kin (nI j) 5 := (nI_kin (by omega)).mpr (by omega)
    have e32 : σ'.1 32 0 j = on j := (hfr.1 32 0 j rfl).trans (h1 j (by omega)).1
    have e33 : σ'.1 33 0 j = ov j := (hfr.1 33 0 j rfl).trans (h1 j (by omega)).2
    obtain ⟨r1, r2⟩ := h2 j (by omega)
    refine n_g hkj (n_b ?_)
    rw [e32, e33]
    refine n_if (fun q1 => ?_) (fun q1 => ih (N - (j + 1)) _ _ (by omega) ⟨j + 1, rfl, by omega, rfl, fun k hk => by rw [e, if_neg q1]; exact hI k hk, hfr⟩)
    refine n_f (by rw [i_lt]; show ¬ (on j).toInt < 0; omega) (n_f (by rw [i_le]; show ¬ (10 : Int) ≤ (on j).toInt; omega) (n_g hkj (n_g ⟨r1, by omega⟩ (n_b (ih (N - (j + 1)) _ _ (by omega) ⟨j + 1, rfl, by omega, rfl, fun k hk => ?_, hfr.u rfl⟩)))))
    rw [e, if_pos q1, up_at, kU_at]
    by_cases z : k = (on j).toNatClampNeg
    · simp [z]
    · simp [z]; exact hI k hk
theorem c_areSafe {F : Nat} (hF : 2000 ≤ F) {σ : kS} (h : Inv σ.1) {f E : Nat} {x2 bits sec : Int32} {T : Nat} (hT : σ.1 48 0 13 = nI T) (hT6 : T ≤ 6) (hE : E ≤ T) (hfE : f ≤ E) (hx : ∀ v, v ≤ 6 → (x2 < nI v ↔ E ≤ v)) :
    RI (f_X5_areSafe F (nI f) x2 bits sec σ) (fun r σ' => (r = 1 ∧ (∀ v, f ≤ v → v < E → sfS σ.1 bits sec v) ∨ r = 0 ∧ ¬ ∀ v, f ≤ v → v < E → sfS σ.1 bits sec v) ∧ Fr sC σ σ') := by
  obtain ⟨n1, n2, n3⟩ := inv_n h
  obtain ⟨N, hN5, hN0, hN, hN4, o1, o2⟩ := inv_opt h
  unfold f_X5_areSafe
  refine n_fix (fun m x σ' => ∃ v, x = (x2, bits, sec, nI v) ∧ f ≤ v ∧ v ≤ E ∧ m = E - v ∧ (∀ u, f ≤ u → u < v → sfS σ.1 bits sec u) ∧ Fr sC σ σ') ?_ F (E - f) _ σ (by omega) ⟨f, rfl, by omega, hfE, rfl, fun u h1 h2 => absurd h1 (by omega), Fr.refl σ⟩
  rintro rr m x σ' ⟨v, rfl, hfv, hv, rfl, hI, hfr⟩ ih
  unfold f_X5_areSafe_b3 f_X5_areSafe_b73
  dsimp only
  refine n_if (fun q => ?_) (fun q => ?_)
  · rw [hx v (by omega)] at q
    exact n_i ⟨Or.inl ⟨rfl, fun u h1 h2 => hI u h1 (by omega)⟩, hfr⟩
  rw [hx v (by omega)] at q
  have hv6 : v < 6 := by omega
  have hkv : kin (nI v) 6 := (nI_kin (by omega)).mpr hv6
  have hvt : nI v < σ.1 48 0 13 := by rw [hT, nJ_lt (by omega) (by omega)]; omega
  refine n_bv x_load ?_
  rintro σ1 ⟨l1, l2, l3⟩
  have F1 : Fr sC σ σ1 := hfr.trans (l3.l (by intro g hg k; simp at hg; rcases hg with rfl | rfl <;> rfl))
  refine n_bv (c_apply hF (n := σ.1 61 0) (on := fun k => σ.1 86 k 0) (ov := fun k => σ.1 86 k 1) hN5 ((F1.1 4 0 13 rfl).trans hN4) (fun r hr => ⟨(F1.1 32 0 r rfl).trans (o1 r hr).1, (F1.1 33 0 r rfl).trans (o1 r hr).2.1⟩) (fun r hr => (o2 r hr).1) (fun k hk => ((l1 k hk).trans (hfr.1 21 0 k rfl)).trans (n1 k hk))) ?_
  rintro σ2 ⟨a1, a2⟩
  have F2 : Fr sC σ σ2 := F1.trans (a2.l (by intro g hg k; simp at hg; subst hg; rfl))
  rw [nI_c (by omega), nI_s (by omega)]
  refine n_g hkv (n_b ?_)
  have ey2 : yOf σ2.1 (v + 2) = yOf σ.1 (v + 2) := yOf_fr F2 sC_y
  have hy := wfY_of (inv_why h hv6 hvt)
  have hop : opN σ.1 bits = optS bits (fun k => σ.1 86 k 0) (fun k => σ.1 86 k 1) N (σ.1 61 0) := by unfold opN; rw [hN0]
  rw [← hop] at a1
  have hst := x_start (F := F) hF (σ := σ2) (i := v + 2) (n := opN σ.1 bits) (g := σ.1 62 0) (by omega) (by rw [ey2]; exact hy) a1 (fun c hc => (a2.1 36 0 c rfl).trans (((l2 c hc).trans (hfr.1 22 0 c rfl)).trans (n2 c hc)))
  rw [ey2] at hst
  refine n_bv hst ?_
  rintro σ3 ⟨b1, b2, b3, b4⟩
  have ey3 : yOf σ3.1 (v + 2) = yOf σ.1 (v + 2) := (yOf_fr b4 sC_y).trans ey2
  refine n_bi (x_lasts hF (by omega) b3 ey3 hy b2 b1) ?_
  rintro r σ4 ⟨d1, d2⟩
  have F4 := (F2.trans b4).trans d2
  have hr : r = lastS (runS (opN σ.1 bits) (σ.1 62 0) (yOf σ.1 (v + 2)) 100) := by rw [d1, runS]
  have hgo : sfS σ.1 bits sec v → Rn (rr (x2, bits, sec, nI (v + 1)) σ4) _ := fun z => ih (E - (v + 1)) _ _ (by omega) ⟨v + 1, rfl, by omega, by omega, rfl, fun u h1 h2 => by
    by_cases k : u = v
    · subst k; exact z
    · exact hI u h1 (by omega), F4⟩
  refine n_if (fun q1 => hgo (Or.inl (by rw [← hr]; exact q1))) (fun q1 => n_if (fun q2 => hgo (Or.inr (by rw [← hr]; exact q2))) (fun q2 => n_i ⟨Or.inr ⟨rfl, fun z => ?_⟩, F4⟩))
  rcases z v hfv (by omega) with k | k
  · rw [← hr] at k; exact q1 k
  · rw [← hr] at k; exact q2 k
theorem m_isSafe {F : Nat} (hF : 2000 ≤ F) {σ : kS} (h : Inv σ.1) {w : Nat} {bits sec : Int32} (hw6 : w < 6) (hw : nI w < σ.1 48 0 13) :
    RI (f_X6_isSafe F (nI w) bits sec σ) (fun r σ' => (r = 1 ∧ sfS σ.1 bits sec w ∨ r = 0 ∧ ¬ sfS σ.1 bits sec w) ∧ Fr sR σ σ') := by
  obtain ⟨x1, x2, x3⟩ := inv_x h
  obtain ⟨n1, n2, n3⟩ := inv_n h
  obtain ⟨N, hN5, hN0, hN, hN4, o1, o2⟩ := inv_opt h
  unfold f_X6_isSafe
  refine n_b ?_
  obtain ⟨σ1, e1⟩ : ∃ σ1, σ1 = kU σ 48 0 42 bits := ⟨_, rfl⟩
  rw [← e1]
  have f1 : Fr (fun g k => Nat.beq g 48 && Nat.beq k 42) σ σ1 := by rw [e1]; exact (Fr.refl σ).u rfl
  have hnow : nowS σ1.1 = opN σ.1 bits := by
    unfold nowS opN
    have e42 : σ1.1 48 0 42 = bits := by rw [e1]; exact kU_here
    have e86 : σ1.1 86 = σ.1 86 := by funext i k; exact f1.1 86 i k rfl
    have e61 : σ1.1 61 = σ.1 61 := by funext i k; exact f1.1 61 i k rfl
    rw [f1.1 48 0 41 rfl, f1.1 48 0 39 rfl, f1.1 48 0 45 rfl, x1, x2, e42, e86, e61]
    rfl
  have hrn : ∀ k, k < 10 → rng (opN σ.1 bits k) (leastN k) (mostN k) := by
    unfold opN
    rw [← hN0]
    exact optS_rng n3 (fun r hr => (o2 r hr).2.1) N hN5
  refine n_bv (v_runs hF (rOK_fr (rOK_inv h hw6 hw) f1 (fun k => ⟨rfl, rfl, rfl, rfl⟩) rfl) hnow hrn) ?_
  rintro σ2 ⟨c1, c2⟩
  have e62 : σ1.1 62 0 = σ.1 62 0 := by funext k; exact f1.1 62 0 k rfl
  rw [e62] at c1
  refine n_b ?_
  obtain ⟨σ3, e3⟩ : ∃ σ3, σ3 = kU σ2 48 0 42 0 := ⟨_, rfl⟩
  rw [← e3]
  have f3 : Fr sR σ σ3 := by
    refine ⟨fun g i k q => ?_, by rw [e3]; exact c2.2.trans f1.2⟩
    rw [e3, kU_at]
    by_cases z : g = 48 ∧ i = 0 ∧ k = 42
    · obtain ⟨rfl, rfl, rfl⟩ := z
      rw [if_pos ⟨rfl, rfl, rfl⟩, x3]
    · rw [if_neg z, c2.1 g i k q, e1, kU_at, if_neg z]
  have hl : f_X6_lasted F σ3 = some (.inl (some (.int (lastS (runS (opN σ.1 bits) (σ.1 62 0) (yOf σ.1 (w + 2)) 100)))), σ3) := by
    rw [runS]
    refine m_lasted ?_ ?_
    · rw [e3, kU_k (by decide)]; exact c1.2.2.1
    · rw [e3, kU_k (by decide)]; exact c1.2.2.2.2
  rw [hl, s_bi, hl, s_bi]
  unfold f_X6_isSafe_b31 f_X6_isSafe_b36
  refine n_if (fun q1 => n_g rfl (n_i ⟨Or.inl ⟨rfl, Or.inl q1⟩, f3⟩)) (fun q1 => n_if (fun q2 => n_g rfl (n_i ⟨Or.inr ⟨rfl, fun z => ?_⟩, f3⟩)) (fun q2 => n_g rfl (n_i ⟨Or.inl ⟨rfl, Or.inr (Int32.not_lt.mp q2)⟩, f3⟩)))
  rcases z with z | z
  · exact q1 z
  · exact absurd q2 (Int32.not_lt.mpr z)
theorem sfS_R {σ σ' : kS} (h : Fr sR σ σ') {bits sec : Int32} {w : Nat} : sfS σ'.1 bits sec w ↔ sfS σ.1 bits sec w :=
  sfS_cg (by funext i k; exact h.1 61 i k rfl) (by funext i k; exact h.1 62 i k rfl) (yOf_fr h sR_y) (by funext i k; exact h.1 86 i k rfl) (h.1 48 0 45 rfl)
theorem sfS_C {σ σ' : kS} (h : Fr sC σ σ') {bits sec : Int32} {w : Nat} : sfS σ'.1 bits sec w ↔ sfS σ.1 bits sec w :=
  sfS_cg (by funext i k; exact h.1 61 i k rfl) (by funext i k; exact h.1 62 i k rfl) (yOf_fr h sC_y) (by funext i k; exact h.1 86 i k rfl) (h.1 48 0 45 rfl)
theorem sfS_ent {σ : kS} {v : Int64} {bits sec : Int32} {w : Nat} : sfS (ent σ v).1 bits sec w ↔ sfS σ.1 bits sec w :=
  sfS_cg (ent_1 (by decide)) (ent_1 (by decide)) ent_y (ent_1 (by decide)) (ent_48 (by decide))
theorem m_safeAll {F : Nat} (hF : 2000 ≤ F) {σ : kS} (h : Inv σ.1) {bits sec : Int32} {T : Nat} (hT : σ.1 48 0 13 = nI T) (hT6 : T ≤ 6) :
    RI (f_X6_isSafeAll F (-1) bits sec σ) (fun r σ' => (r = 1 ∧ (∀ v, 0 ≤ v → v < T → sfS σ.1 bits sec v) ∨ r = 0 ∧ ¬ ∀ v, 0 ≤ v → v < T → sfS σ.1 bits sec v) ∧ Fr sR σ σ') := by
  unfold f_X6_isSafeAll
  refine n_t rfl ?_
  refine n_fix (fun m x σ' => ∃ v, x = (bits, sec, nI v) ∧ v ≤ T ∧ m = T - v ∧ (∀ u, u < v → sfS σ.1 bits sec u) ∧ Fr sR σ σ') ?_ F T _ σ (by omega) ⟨0, rfl, by omega, rfl, fun u h2 => absurd h2 (by omega), Fr.refl σ⟩
  rintro rr m x σ' ⟨v, rfl, hv, rfl, hI, hfr⟩ ih
  have e13 : σ'.1 48 0 13 = nI T := (hfr.1 48 0 13 rfl).trans hT
  unfold f_X6_isSafeAll_b16
  dsimp only
  rw [e13]
  refine n_if (fun q => ?_) (fun q => ?_)
  · rw [nJ_le (by omega) (by omega)] at q
    exact n_i ⟨Or.inl ⟨rfl, fun u _ h2 => hI u (by omega)⟩, hfr⟩
  · rw [nJ_le (by omega) (by omega)] at q
    refine n_bi (m_isSafe hF (Inv_sR hfr h) (by omega) (by rw [e13, nJ_lt (by omega) (by omega)]; omega)) ?_
    rintro r σ1 ⟨hr, f1⟩
    rw [nI_s (by omega)]
    rw [sfS_R hfr] at hr
    rcases hr with ⟨rfl, z⟩ | ⟨rfl, z⟩
    · refine n_f (by decide) (ih (T - (v + 1)) _ _ (by omega) ⟨v + 1, rfl, by omega, rfl, fun u hu => ?_, hfr.trans f1⟩)
      by_cases k : u = v
      · subst k; exact z
      · exact hI u (by omega)
    · exact n_t rfl (n_i ⟨Or.inr ⟨rfl, fun k => z (k v (by omega) (by omega))⟩, hfr.trans f1⟩)
def coS (bits : Int32) (oc : Nat → Int32) : Nat → Int32
  | 0 => 0
  | k + 1 => coS bits oc k + (if (bits >>> (nI k &&& 31)) &&& 1 = 1 then oc k else 0)
theorem c_cost {F : Nat} (hF : 2000 ≤ F) {σ : kS} {N : Nat} {bits : Int32} {oc : Nat → Int32} (hN5 : N ≤ 5) (hN : σ.1 4 0 13 = nI N) (h1 : ∀ r, r < 5 → σ.1 34 0 r = oc r) : f_X2_costOf F 0 bits σ = some (.inl (some (.int (coS bits oc N))), σ) := by
  refine ri_same ?_
  unfold f_X2_costOf
  refine n_fix (fun m x σ' => ∃ j, x = (0, bits, coS bits oc j, nI j) ∧ j ≤ N ∧ m = N - j ∧ σ' = σ) ?_ F N _ σ (by omega) ⟨0, rfl, by omega, rfl, rfl⟩
  rintro rr m x σ' ⟨j, rfl, hj, rfl, rfl⟩ ih
  unfold f_X2_costOf_b4 f_X2_costOf_b30
  dsimp only
  rw [hN, nI_c (by omega), nI_s (by omega)]
  have e : coS bits oc (j + 1) = coS bits oc j + (if (bits >>> (nI j &&& 31)) &&& 1 = 1 then oc j else 0) := rfl
  refine n_if (fun q => ?_) (fun q => ?_)
  · rw [nJ_le (by omega) (by omega)] at q
    have : j = N := by omega
    subst this
    exact n_i ⟨rfl, rfl⟩
  · rw [nJ_le (by omega) (by omega)] at q
    refine n_if (fun q1 => n_g ((nI_kin (by omega)).mpr (by omega)) (n_b ?_)) (fun q1 => ih (N - (j + 1)) _ _ (by omega) ⟨j + 1, by rw [e, if_neg q1, Int32.add_zero], by omega, rfl, rfl⟩)
    rw [h1 j (by omega)]
    exact ih (N - (j + 1)) _ _ (by omega) ⟨j + 1, by rw [e, if_pos q1], by omega, rfl, rfl⟩
/-- the search for the least -/
def lsR (S : Nat → Prop) (C : Nat → Int32) : Nat → Int32 × Int32 → Prop
  | 0, p => p = (-1, 0)
  | b + 1, p => ∃ q, lsR S C b q ∧ (((q.1 = -1 ∨ C b < q.2) ∧ S b) → p = (nI b, C b)) ∧ (¬ ((q.1 = -1 ∨ C b < q.2) ∧ S b) → p = q)
theorem lsR_u {S : Nat → Prop} {C : Nat → Int32} : ∀ {n : Nat} {p p' : Int32 × Int32}, lsR S C n p → lsR S C n p' → p = p'
  | 0, p, p', h, h' => h.trans h'.symm
  | n + 1, p, p', ⟨q, h1, h2, h3⟩, ⟨q', h1', h2', h3'⟩ => by
    have e := lsR_u h1 h1'
    subst e
    by_cases z : (q.1 = -1 ∨ C n < q.2) ∧ S n
    · rw [h2 z, h2' z]
    · rw [h3 z, h3' z]
theorem lsR_cg {S S' : Nat → Prop} {C : Nat → Int32} (hS : ∀ b, S b ↔ S' b) : ∀ {n : Nat} {p : Int32 × Int32}, lsR S C n p → lsR S' C n p
  | 0, p, h => h
  | n + 1, p, ⟨q, h1, h2, h3⟩ => ⟨q, lsR_cg hS h1, fun z => h2 ⟨z.1, (hS n).mpr z.2⟩, fun z => h3 (fun k => z ⟨k.1, (hS n).mp k.2⟩)⟩
theorem shl_eq {N : Nat} (hN : N ≤ 5) : (1 : Int32) <<< (nI N &&& 31) = nI (2 ^ N) ∧ 2 ^ N ≤ 32 := by
  have : N = 0 ∨ N = 1 ∨ N = 2 ∨ N = 3 ∨ N = 4 ∨ N = 5 := by omega
  rcases this with rfl | rfl | rfl | rfl | rfl | rfl <;> decide
theorem c_least {F : Nat} (hF : 2000 ≤ F) {σ : kS} (h : Inv σ.1) {f E : Nat} {x2 sec : Int32} {T N : Nat} (hT : σ.1 48 0 13 = nI T) (hT6 : T ≤ 6) (hE : E ≤ T) (hfE : f ≤ E) (hx : ∀ v, v ≤ 6 → (x2 < nI v ↔ E ≤ v)) (hN5 : N ≤ 5) (hN4 : σ.1 4 0 13 = nI N) :
    RI (f_X5_leastFor F (nI f) x2 sec σ) (fun r σ' => (∃ c, lsR (fun b => ∀ v, f ≤ v → v < E → sfS σ.1 (nI b) sec v) (fun b => coS (nI b) (fun k => σ.1 86 k 2) N) (2 ^ N) (r, c)) ∧ Fr sC σ σ') := by
  obtain ⟨es, e32⟩ := shl_eq hN5
  obtain ⟨-, -, -, -, -, o1, o2⟩ := inv_opt h
  obtain ⟨M, hM⟩ : ∃ M, M = 2 ^ N := ⟨_, rfl⟩
  rw [← hM] at es e32 ⊢
  unfold f_X5_leastFor
  refine n_fix (fun m x σ' => ∃ b p, x = (nI f, x2, sec, p.1, p.2, nI b) ∧ b ≤ M ∧ m = M - b ∧ lsR (fun b => ∀ v, f ≤ v → v < E → sfS σ.1 (nI b) sec v) (fun b => coS (nI b) (fun k => σ.1 86 k 2) N) b p ∧ Fr sC σ σ') ?_ F M _ σ (by omega) ⟨0, (-1, 0), rfl, by omega, rfl, rfl, Fr.refl σ⟩
  rintro rr m x σ' ⟨b, p, rfl, hb, rfl, hI, hfr⟩ ih
  have e13 : σ'.1 4 0 13 = nI N := (hfr.1 4 0 13 rfl).trans hN4
  unfold f_X5_leastFor_b9
  dsimp only
  rw [e13, es, c_cost (oc := fun k => σ.1 86 k 2) hF hN5 e13 (fun r hr => (hfr.1 34 0 r rfl).trans (o1 r hr).2.2), s_bi]
  refine n_if (fun q => ?_) (fun q => ?_)
  · rw [nJ_le (by omega) (by omega)] at q
    have : b = M := by omega
    subst this
    exact n_i ⟨⟨p.2, hI⟩, hfr⟩
  rw [nJ_le (by omega) (by omega)] at q
  have hsk : ∀ σ1, Fr sC σ σ1 → ¬ ((p.1 = -1 ∨ coS (nI b) (fun k => σ.1 86 k 2) N < p.2) ∧ ∀ v, f ≤ v → v < E → sfS σ.1 (nI b) sec v) → Rn (f_X5_leastFor_b67 F rr (nI f) x2 sec p.1 p.2 (nI b) σ1) (fun v σ' => ∃ r, v = some (Value.int r) ∧ (∃ c, lsR (fun b => ∀ v, f ≤ v → v < E → sfS σ.1 (nI b) sec v) (fun b => coS (nI b) (fun k => σ.1 86 k 2) N) M (r, c)) ∧ Fr sC σ σ') := fun σ1 f1 z => by
    unfold f_X5_leastFor_b67
    rw [nI_s (by omega)]
    exact ih (M - (b + 1)) _ _ (by omega) ⟨b + 1, p, rfl, by omega, rfl, ⟨p, hI, fun k => absurd k z, fun _ => rfl⟩, f1⟩
  have hdo : (p.1 = -1 ∨ coS (nI b) (fun k => σ.1 86 k 2) N < p.2) → Rn (f_X5_leastFor_b47 F rr (nI f) x2 sec p.1 p.2 (nI b) (coS (nI b) (fun k => σ.1 86 k 2) N) σ') (fun v σ' => ∃ r, v = some (Value.int r) ∧ (∃ c, lsR (fun b => ∀ v, f ≤ v → v < E → sfS σ.1 (nI b) sec v) (fun b => coS (nI b) (fun k => σ.1 86 k 2) N) M (r, c)) ∧ Fr sC σ σ') := fun z => by
    unfold f_X5_leastFor_b47
    refine n_bi (c_areSafe hF (Inv_sC hfr h) (E := E) ((hfr.1 48 0 13 rfl).trans hT) hT6 hE hfE hx) ?_
    rintro r σ1 ⟨hr, f1⟩
    simp only [sfS_C hfr] at hr
    rcases hr with ⟨rfl, k⟩ | ⟨rfl, k⟩
    · refine n_f (by decide) ?_
      unfold f_X5_leastFor_b67
      rw [nI_s (by omega)]
      exact ih (M - (b + 1)) _ _ (by omega) ⟨b + 1, (nI b, coS (nI b) (fun k => σ.1 86 k 2) N), rfl, by omega, rfl, ⟨p, hI, fun _ => rfl, fun k2 => absurd ⟨z, k⟩ k2⟩, hfr.trans f1⟩
    · exact n_t rfl (hsk σ1 (hfr.trans f1) (fun k2 => k k2.2))
  refine n_if (fun q1 => hdo (Or.inl q1)) (fun q1 => n_if (fun q2 => hsk σ' hfr (fun k => k.1.elim q1 (fun k => absurd k (Int32.not_lt.mpr q2)))) (fun q2 => hdo (Or.inr (Int32.not_le.mp q2))))
theorem m_least {F : Nat} (hF : 2000 ≤ F) {σ : kS} (h : Inv σ.1) {x1 sec : Int32} {N : Nat} {S : Nat → Prop} (hN5 : N ≤ 5) (hN : σ.1 48 0 45 = nI N) (hS : ∀ (b : Nat) (σ' : kS), b < 32 → Fr sR σ σ' → RI (f_X6_isSafeAll F x1 (nI b) sec σ') (fun r σ2 => (r = 1 ∧ S b ∨ r = 0 ∧ ¬ S b) ∧ Fr sR σ' σ2)) :
    RI (f_X6_leastOf F x1 sec σ) (fun r σ' => (∃ c, lsR S (fun b => coS (nI b) (fun k => σ.1 86 k 2) N) (2 ^ N) (r, c)) ∧ Fr sR σ σ') := by
  obtain ⟨es, e32⟩ := shl_eq hN5
  obtain ⟨M, hM⟩ : ∃ M, M = 2 ^ N := ⟨_, rfl⟩
  rw [← hM] at es e32 ⊢
  unfold f_X6_leastOf
  refine n_fix (fun m x σ' => ∃ b p, x = (x1, sec, p.1, p.2, nI b) ∧ b ≤ M ∧ m = M - b ∧ lsR S (fun b => coS (nI b) (fun k => σ.1 86 k 2) N) b p ∧ Fr sR σ σ') ?_ F M _ σ (by omega) ⟨0, (-1, 0), rfl, by omega, rfl, rfl, Fr.refl σ⟩
  rintro rr m x σ' ⟨b, p, rfl, hb, rfl, hI, hfr⟩ ih
  have e45 : σ'.1 48 0 45 = nI N := (hfr.1 48 0 45 rfl).trans hN
  unfold f_X6_leastOf_b8
  dsimp only
  rw [e45, es]
  refine n_if (fun q => ?_) (fun q => ?_)
  · rw [nJ_le (by omega) (by omega)] at q
    have : b = M := by omega
    subst this
    exact n_i ⟨⟨p.2, hI⟩, hfr⟩
  rw [nJ_le (by omega) (by omega)] at q
  refine n_fix (fun m x σ2 => ∃ j, x = (x1, sec, p.1, p.2, nI b, coS (nI b) (fun k => σ.1 86 k 2) j, nI j) ∧ j ≤ N ∧ m = N - j ∧ σ2 = σ') ?_ F N _ σ' (by omega) ⟨0, rfl, by omega, rfl, rfl⟩
  rintro r2 m x σ2 ⟨j, rfl, hj, rfl, rfl⟩ ih2
  unfold f_X6_leastOf_b25 f_X6_leastOf_b60
  dsimp only
  rw [e45, nI_c (by omega), nI_s (a := j) (by omega)]
  have e : coS (nI b) (fun k => σ.1 86 k 2) (j + 1) = coS (nI b) (fun k => σ.1 86 k 2) j + (if (nI b >>> (nI j &&& 31)) &&& 1 = 1 then σ.1 86 j 2 else 0) := rfl
  refine n_if (fun q1 => ?_) (fun q1 => ?_)
  · rw [nJ_le (by omega) (by omega)] at q1
    have : j = N := by omega
    subst this
    have hsk : ∀ σ1, Fr sR σ σ1 → ¬ ((p.1 = -1 ∨ coS (nI b) (fun k => σ.1 86 k 2) j < p.2) ∧ S b) → Rn (f_X6_leastOf_b102 F rr x1 sec p.1 p.2 (nI b) σ1) (fun v σ' => ∃ r, v = some (Value.int r) ∧ (∃ c, lsR S (fun b => coS (nI b) (fun k => σ.1 86 k 2) j) M (r, c)) ∧ Fr sR σ σ') := fun σ1 f1 z => by
      unfold f_X6_leastOf_b102
      rw [nI_s (by omega)]
      exact ih (M - (b + 1)) _ _ (by omega) ⟨b + 1, p, rfl, by omega, rfl, ⟨p, hI, fun k => absurd k z, fun _ => rfl⟩, f1⟩
    have hdo : (p.1 = -1 ∨ coS (nI b) (fun k => σ.1 86 k 2) j < p.2) → Rn (f_X6_leastOf_b81 F rr x1 sec p.1 p.2 (nI b) (coS (nI b) (fun k => σ.1 86 k 2) j) σ2) (fun v σ' => ∃ r, v = some (Value.int r) ∧ (∃ c, lsR S (fun b => coS (nI b) (fun k => σ.1 86 k 2) j) M (r, c)) ∧ Fr sR σ σ') := fun z => by
      unfold f_X6_leastOf_b81
      refine n_bi (hS b σ2 (by omega) hfr) ?_
      rintro r σ1 ⟨hr, f1⟩
      rcases hr with ⟨rfl, k⟩ | ⟨rfl, k⟩
      · refine n_f (by decide) ?_
        unfold f_X6_leastOf_b102
        rw [nI_s (by omega)]
        exact ih (M - (b + 1)) _ _ (by omega) ⟨b + 1, (nI b, coS (nI b) (fun k => σ.1 86 k 2) j), rfl, by omega, rfl, ⟨p, hI, fun _ => rfl, fun k2 => absurd ⟨z, k⟩ k2⟩, hfr.trans f1⟩
      · exact n_t rfl (hsk σ1 (hfr.trans f1) (fun k2 => k k2.2))
    exact n_if (fun q2 => hdo (Or.inl q2)) (fun q2 => n_if (fun q3 => hsk σ2 hfr (fun k => k.1.elim q2 (fun k => absurd k (Int32.not_lt.mpr q3)))) (fun q3 => hdo (Or.inr (Int32.not_le.mp q3))))
  · rw [nJ_le (by omega) (by omega)] at q1
    refine n_if (fun q2 => n_g ((nI_kin (by omega)).mpr (by omega)) (n_b (n_b ?_))) (fun q2 => n_b (ih2 (N - (j + 1)) _ _ (by omega) ⟨j + 1, by rw [e, if_neg q2], by omega, rfl, rfl⟩))
    rw [hfr.1 86 j 2 rfl]
    exact ih2 (N - (j + 1)) _ _ (by omega) ⟨j + 1, by rw [e, if_pos q2], by omega, rfl, rfl⟩
theorem one_x {w : Nat} (hw : w < 6) : ∀ v, v ≤ 6 → (nI w < nI v ↔ w + 1 ≤ v) := fun v hv => by
  rw [nJ_lt (by omega) (by omega)]; omega
theorem g_safe' {F : Nat} (hF : 2000 ≤ F) (a1 a2 a3 : Int32) : Good (q_safe F a1 a2 a3) := by
  intro nx σ h
  obtain ⟨ht, hr⟩ := inv_told h
  obtain ⟨T, hT6, hT, hT5⟩ := inv_T h
  obtain ⟨N, hN5, hN0, hN, hN4, o1, o2⟩ := inv_opt h
  by_cases c1 : 0 ≤ a1 ∧ a1 < σ.1 48 0 13
  · have c1' : 0 ≤ a1 ∧ a1 < σ.1 0 0 5 := by rw [ht]; exact c1
    by_cases c2 : 0 ≤ a2 ∧ a2 ≤ (1 <<< (nI N &&& 31)) - 1
    · by_cases c3 : 0 ≤ a3 ∧ a3 ≤ 99
      · obtain ⟨w, hw6, rfl⟩ := nI_ex (n := 6) (kin_of (n := 6) c1.1 c1.2 hr.2)
        have hwT : w < T := by have := c1.2; rw [hT, nJ_lt (by omega) (by omega)] at this; exact this
        obtain ⟨r, σ1, e1, hr1, f1⟩ := ri_get (c_areSafe hF h (f := w) (E := w + 1) (x2 := nI w) (bits := a2) (sec := a3) hT hT6 (by omega) (by omega) (one_x hw6))
        have hr1 : r = 1 ∧ sfS σ.1 a2 a3 w ∨ r = 0 ∧ ¬ sfS σ.1 a2 a3 w := hr1.imp (fun z => ⟨z.1, z.2 w (by omega) (by omega)⟩) (fun z => ⟨z.1, fun k => z.2 (fun v h1 h2 => by rw [show v = w by omega]; exact k)⟩)
        have hr01 : r = 0 ∨ r = 1 := hr1.elim (fun z => Or.inr z.1) (fun z => Or.inl z.1)
        have i1 := Inv_sC f1 h
        have e13 : σ1.1 48 0 13 = σ.1 48 0 13 := f1.1 48 0 13 rfl
        have hcl : f_X5_safe F (nI w) a2 a3 σ = some (.inl (some (.int r)), σ1) := by
          unfold f_X5_safe
          rw [t_why, if_pos c1', s_bv, hN4, t_bits (by omega), if_pos c2, s_bv, t_with, if_pos c3, s_bv, e1, s_bi, kg_t (b_01 hr01)]
        refine top_b (k := 0) (σ2 := kUL σ1 90 0 0 (if r = 0 then 0 else 1)) (by
          unfold w_safe; rw [hcl, s_hi]
          by_cases z : r = 0
          · rw [if_pos z, if_pos z]; rfl
          · rw [if_neg z, if_neg z]; rfl) ?_
        unfold f_X6_safe
        simp only [s_b, e_whyU (σ := σ1) (by rw [e13]; exact hr), s_bi, if10, f_X6_safe_b19, z_bad0 rfl, if0, if_true, x_in, f_X6_safe_b58, e13, if_pos c1, if1]
        rw [ent_48 (by decide), f1.1 48 0 45 rfl, hN, if_pos c2, if_pos c3]
        refine n_bi (m_isSafe hF (ent_inv i1) hw6 (by rw [ent_48 (by decide), e13]; exact c1.2)) ?_
        rintro r4 σ4 ⟨h4, f4⟩
        rw [sfS_ent, sfS_C f1] at h4
        have hrr : r4 = r := by
          rcases h4 with ⟨k1, k2⟩ | ⟨k1, k2⟩ <;> rcases hr1 with ⟨l1, l2⟩ | ⟨l1, l2⟩
          · rw [k1, l1]
          · exact absurd k2 l2
          · exact absurd l2 k2
          · rw [k1, l1]
        rw [hrr]
        refine n_g (b_01 hr01) (n_i ⟨Inv_sR f4 (ent_inv i1), (f4.1 48 0 0 rfl).trans z_thr, fun _ => ?_⟩)
        rw [f4.2, ent_2]
      · have hcl : f_X5_safe F a1 a2 a3 σ = some (.inr "java/lang/IllegalArgumentException", σ) := by
          unfold f_X5_safe
          rw [t_why, if_pos c1', s_bv, hN4, t_bits (by omega), if_pos c2, s_bv, t_with, if_neg c3, s_xv]
        refine top_b (k := 2) (σ2 := σ) (by unfold w_safe; rw [hcl]; rfl) ?_
        unfold f_X6_safe
        simp only [s_b, e_why (σ := σ) hr, s_bi, if10, f_X6_safe_b19, z_bad0 rfl, if0, if_true, x_in, f_X6_safe_b53, f_X6_safe_b58, if_pos c1, if1]
        rw [kU_k (by decide), hN, if_pos c2, if_neg c3]
        simp only [z_bad1 two_ne, s_bi, if1, f_X6_safe_b65]
        exact n_i ⟨thr_inv h, z_thr, fun z => absurd z two_ne⟩
    · have hcl : f_X5_safe F a1 a2 a3 σ = some (.inr "java/lang/IllegalArgumentException", σ) := by
        unfold f_X5_safe
        rw [t_why, if_pos c1', s_bv, hN4, t_bits (by omega), if_neg c2, s_xv]
      refine top_b (k := 2) (σ2 := σ) (by unfold w_safe; rw [hcl]; rfl) ?_
      unfold f_X6_safe
      simp only [s_b, e_why (σ := σ) hr, s_bi, if10, f_X6_safe_b19, z_bad0 rfl, if0, if_true, x_in, f_X6_safe_b53, f_X6_safe_b58, if_pos c1, if1]
      rw [kU_k (by decide), hN, if_neg c2]
      simp only [z_bad1 two_ne, s_bi, if1, f_X6_safe_b65]
      exact n_i ⟨thr_inv h, z_thr, fun z => absurd z two_ne⟩
  · have c1' : ¬ (0 ≤ a1 ∧ a1 < σ.1 0 0 5) := by rw [ht]; exact c1
    have hcl : f_X5_safe F a1 a2 a3 σ = some (.inr "java/util/NoSuchElementException", σ) := by
      unfold f_X5_safe
      rw [t_why, if_neg c1', s_xv]
    refine top_b (k := 1) (σ2 := σ) (by unfold w_safe; rw [hcl]; rfl) ?_
    unfold f_X6_safe
    simp only [s_b, e_why (σ := σ) hr, s_bi, if10, f_X6_safe_b19, if_neg c1, z_bad1 one_ne, if1, f_X6_safe_b65, if0, if_true]
    exact n_i ⟨thr_inv h, z_thr, fun z => absurd z one_ne⟩
theorem g_least' {F : Nat} (hF : 2000 ≤ F) (a1 a2 : Int32) : Good (q_least F a1 a2) := by
  intro nx σ h
  obtain ⟨ht, hr⟩ := inv_told h
  obtain ⟨T, hT6, hT, hT5⟩ := inv_T h
  obtain ⟨N, hN5, hN0, hN, hN4, o1, o2⟩ := inv_opt h
  by_cases c1 : 0 ≤ a1 ∧ a1 < σ.1 48 0 13
  · have c1' : 0 ≤ a1 ∧ a1 < σ.1 0 0 5 := by rw [ht]; exact c1
    by_cases c3 : 0 ≤ a2 ∧ a2 ≤ 99
    · obtain ⟨w, hw6, rfl⟩ := nI_ex (n := 6) (kin_of (n := 6) c1.1 c1.2 hr.2)
      have hwT : w < T := by have := c1.2; rw [hT, nJ_lt (by omega) (by omega)] at this; exact this
      obtain ⟨r, σ1, e1, ⟨cc, hr1⟩, f1⟩ := ri_get (c_least hF h (f := w) (E := w + 1) (x2 := nI w) (sec := a2) hT hT6 (by omega) (by omega) (one_x hw6) hN5 hN4)
      have i1 := Inv_sC f1 h
      have e13 : σ1.1 48 0 13 = σ.1 48 0 13 := f1.1 48 0 13 rfl
      have hcl : f_X5_least F (nI w) a2 σ = some (.inl (some (.int r)), σ1) := by
        unfold f_X5_least
        rw [t_why, if_pos c1', s_bv, t_with, if_pos c3, s_bv, e1, s_bi]
      refine top_i (k := 0) (σ2 := kUL σ1 90 0 0 r.toInt64) (by unfold w_least; rw [hcl]; rfl) ?_
      unfold f_X6_least
      simp only [s_b, e_whyU (σ := σ1) (by rw [e13]; exact hr), s_bi, if10, f_X6_least_b19, z_bad0 rfl, if0, if_true, x_in, f_X6_least_b42, e13, if_pos c1, if_pos c3, if1]
      refine n_bi (m_least hF (ent_inv i1) (N := N) (S := fun b => sfS σ.1 (nI b) a2 w) hN5 (by rw [ent_48 (by decide), f1.1 48 0 45 rfl]; exact hN) ?_) ?_
      · intro b σ' hb f'
        unfold f_X6_isSafeAll
        refine n_f (by intro z; have z := i_eq.mp z; rw [nI_toInt (by omega)] at z; have z : (w : Int) = -1 := z; omega) ?_
        refine n_bi (m_isSafe hF (Inv_sR f' (ent_inv i1)) hw6 (by rw [f'.1 48 0 13 rfl, ent_48 (by decide), e13]; exact c1.2)) ?_
        rintro r' σ2 ⟨h2, f2⟩
        rw [sfS_R f', sfS_ent, sfS_C f1] at h2
        exact n_g (b_01 (h2.elim (fun z => Or.inr z.1) (fun z => Or.inl z.1))) (n_i ⟨h2, f2⟩)
      · rintro r4 σ4 ⟨⟨c4, h4⟩, f4⟩
        refine n_i ⟨Inv_sR f4 (ent_inv i1), (f4.1 48 0 0 rfl).trans z_thr, fun _ => ?_⟩
        rw [f4.2, ent_2]
        have e86 : (ent σ1 r.toInt64).1 86 = σ.1 86 := by
          rw [ent_1 (by decide)]
          funext i k; exact f1.1 86 i k rfl
        rw [e86] at h4
        have hh := lsR_u (lsR_cg (fun b => ⟨fun z => z w (by omega) (by omega), fun k v h1 h2 => by rw [show v = w by omega]; exact k⟩) hr1) h4
        rw [(Prod.mk.inj hh).1]
    · have hcl : f_X5_least F a1 a2 σ = some (.inr "java/lang/IllegalArgumentException", σ) := by
        unfold f_X5_least
        rw [t_why, if_pos c1', s_bv, t_with, if_neg c3, s_xv]
      refine top_i (k := 2) (σ2 := σ) (by unfold w_least; rw [hcl]; rfl) ?_
      unfold f_X6_least
      simp only [s_b, e_why (σ := σ) hr, s_bi, if10, f_X6_least_b19, z_bad0 rfl, if0, if_true, x_in, f_X6_least_b42, if_pos c1, if_neg c3, if1, z_bad1 two_ne, f_X6_least_b49]
      exact n_i ⟨thr_inv h, z_thr, fun z => absurd z two_ne⟩
  · have c1' : ¬ (0 ≤ a1 ∧ a1 < σ.1 0 0 5) := by rw [ht]; exact c1
    have hcl : f_X5_least F a1 a2 σ = some (.inr "java/util/NoSuchElementException", σ) := by
      unfold f_X5_least
      rw [t_why, if_neg c1', s_xv]
    refine top_i (k := 1) (σ2 := σ) (by unfold w_least; rw [hcl]; rfl) ?_
    unfold f_X6_least
    simp only [s_b, e_why (σ := σ) hr, s_bi, if10, f_X6_least_b19, if_neg c1, z_bad1 one_ne, if1, f_X6_least_b49, if0, if_true]
    exact n_i ⟨thr_inv h, z_thr, fun z => absurd z one_ne⟩
theorem g_all' {F : Nat} (hF : 2000 ≤ F) (a1 : Int32) : Good (q_all F a1) := by
  intro nx σ h
  obtain ⟨ht, hr⟩ := inv_told h
  obtain ⟨T, hT6, hT, hT5⟩ := inv_T h
  obtain ⟨N, hN5, hN0, hN, hN4, o1, o2⟩ := inv_opt h
  by_cases c3 : 0 ≤ a1 ∧ a1 ≤ 99
  · have hx : ∀ v, v ≤ 6 → (nI T - 1 < nI v ↔ T ≤ v) := fun v hv => by
      rw [i_lt, i_sub, nI_toInt (by omega), nI_toInt (by omega)]
      · show (T : Int) - 1 < _ ↔ _
        omega
      · rw [nI_toInt (by omega)]; show _ ≤ (T : Int) - 1; omega
      · rw [nI_toInt (by omega)]; show (T : Int) - 1 < _; omega
    obtain ⟨r, σ1, e1, ⟨cc, hr1⟩, f1⟩ := ri_get (c_least hF h (f := 0) (E := T) (x2 := nI T - 1) (sec := a1) hT hT6 (by omega) (by omega) hx hN5 hN4)
    have i1 := Inv_sC f1 h
    have hcl : f_X5_all F a1 σ = some (.inl (some (.int r)), σ1) := by
      unfold f_X5_all
      rw [t_with, if_pos c3, s_bv, hT5, show (0 : Int32) = nI 0 from rfl, e1, s_bi]
    refine top_i (k := 0) (σ2 := kUL σ1 90 0 0 r.toInt64) (by unfold w_all; rw [hcl]; rfl) ?_
    unfold f_X6_all
    simp only [s_b, s_bi, if10, f_X6_all_b21, z_bad0 rfl, if0, if_true, x_in, if_pos c3, if1]
    refine n_bi (m_least hF (ent_inv i1) (N := N) (S := fun b => ∀ v, 0 ≤ v → v < T → sfS σ.1 (nI b) a1 v) hN5 (by rw [ent_48 (by decide), f1.1 48 0 45 rfl]; exact hN) ?_) ?_
    · intro b σ' hb f'
      refine ri_mono (m_safeAll hF (Inv_sR f' (ent_inv i1)) (T := T) (by rw [f'.1 48 0 13 rfl, ent_48 (by decide), f1.1 48 0 13 rfl]; exact hT) hT6) ?_
      rintro r' σ2 ⟨h2, f2⟩
      simp only [sfS_R f', sfS_ent, sfS_C f1] at h2
      exact ⟨h2, f2⟩
    · rintro r4 σ4 ⟨⟨c4, h4⟩, f4⟩
      refine n_i ⟨Inv_sR f4 (ent_inv i1), (f4.1 48 0 0 rfl).trans z_thr, fun _ => ?_⟩
      rw [f4.2, ent_2]
      have e86 : (ent σ1 r.toInt64).1 86 = σ.1 86 := by
        rw [ent_1 (by decide)]
        funext i k; exact f1.1 86 i k rfl
      rw [e86] at h4
      rw [(Prod.mk.inj (lsR_u hr1 h4)).1]
  · have hcl : f_X5_all F a1 σ = some (.inr "java/lang/IllegalArgumentException", σ) := by
      unfold f_X5_all
      rw [t_with, if_neg c3, s_xv]
    refine top_i (k := 1) (σ2 := σ) (by unfold w_all; rw [hcl]; rfl) ?_
    unfold f_X6_all
    simp only [s_b, s_bi, if10, f_X6_all_b21, x_in, if_neg c3, z_bad1 one_ne, if1, if0, if_true]
    exact n_i ⟨thr_inv h, z_thr, fun z => absurd z one_ne⟩
