/-! READING A RUN, by both. -/
theorem ri_same {o : Option kR} {v : Int32} {σ : kS} (h : RI o (fun r σ' => r = v ∧ σ' = σ)) : o = some (.inl (some (.int v)), σ) := by
  obtain ⟨r, σ', rfl, rfl, rfl⟩ := ri_get h
  rfl
theorem nI_8 {s c : Nat} (hs : s < 100) (hc : c < 8) : nI s * 8 + nI c = nI (8 * s + c) := by
  have e8 : nI s * 8 = nI (8 * s) := by
    rw [i_eq, i_mul, nI_toInt (by omega), nI_toInt (by omega)]
    · show (s : Int) * 8 = _
      omega
    · rw [nI_toInt (by omega)]; show _ ≤ _ * (8 : Int); omega
    · rw [nI_toInt (by omega)]; show _ * (8 : Int) < _; omega
  rw [e8, i_eq, i_add, nI_toInt (by omega), nI_toInt (by omega), nI_toInt (by omega)]
  · omega
  · rw [nI_toInt (by omega), nI_toInt (by omega)]; omega
  · rw [nI_toInt (by omega), nI_toInt (by omega)]; omega
def hvS (f : Nat → Int32) : Nat → Int32
  | 0 => 0
  | c + 1 => hvS f c + (if 4 ≤ c then -(f c) else f c)
def litI (f sec : Int32) : Int32 := if f = -1 then 0 else if sec < f then 0 else 1
theorem litI_01 {f sec : Int32} : litI f sec = 0 ∨ litI f sec = 1 := by
  unfold litI
  by_cases h : f = -1
  · rw [if_pos h]; exact Or.inl rfl
  · rw [if_neg h]
    by_cases h2 : sec < f
    · rw [if_pos h2]; exact Or.inl rfl
    · rw [if_neg h2]; exact Or.inr rfl
theorem b_01 {x : Int32} (h : x = 0 ∨ x = 1) : narrow .boolean (.int x) = .int x := by
  rcases h with rfl | rfl <;> rfl
def ltS (f : Nat → Int32) (sec : Int32) : Nat → Int32
  | 0 => 0
  | c + 1 => ltS f sec c + litI (f c) sec
def ahS (f : Nat → Int32) (c : Nat) : Nat → Int32
  | 0 => 0
  | d + 1 => ahS f c d + (if f d ≠ -1 ∧ (f d < f c ∨ f d = f c ∧ d < c) then 1 else 0)
section RD
variable {F : Nat} (hF : 2000 ≤ F) {σ : kS} {w s : Nat} (hs : s < 100)
theorem c_gap (hs : s < 100) : f_X0_gapAt F w (nI s) σ = some (.inl (some (.int (σ.1 42 w s - σ.1 43 w s))), σ) := by
  have hk : kin (nI s) 100 := (nI_kin (by omega)).mpr hs
  unfold f_X0_gapAt
  rw [kg_t hk, kg_t hk, nI_c (by omega)]
theorem c_allGas (hF : 2000 ≤ F) (hs : s < 100) {G : Nat → Int32} (hG : ∀ c, c < 8 → σ.1 45 w (8 * s + c) = G c) : f_X0_allGasAt F w (nI s) σ = some (.inl (some (.int (sumS G 8))), σ) := by
  refine ri_same ?_
  refine n_fix (fun n x σ' => ∃ j, x = (w, nI s, sumS G j, nI j) ∧ j ≤ 8 ∧ n = 8 - j ∧ σ' = σ) ?_ F 8 _ σ (by omega) ⟨0, rfl, by omega, rfl, rfl⟩
  rintro rr n x σ' ⟨j, rfl, hj, rfl, rfl⟩ ih
  unfold f_X0_allGasAt_b4
  dsimp only
  refine n_if (fun q => ?_) (fun q => ?_)
  · have q : nI 8 ≤ nI j := q
    rw [nJ_le (by omega) (by omega)] at q
    have : j = 8 := by omega
    subst this
    exact n_i ⟨rfl, rfl⟩
  · have q : ¬ nI 8 ≤ nI j := q
    rw [nJ_le (by omega) (by omega)] at q
    rw [nI_8 hs (by omega), nI_c (by omega), hG j (by omega), nI_s (by omega)]
    exact n_g ((nI_kin (by omega)).mpr (by omega)) (n_b (ih (8 - (j + 1)) _ _ (by omega) ⟨j + 1, rfl, by omega, rfl, rfl⟩))
theorem c_heavy (hF : 2000 ≤ F) (hs : s < 100) {G : Nat → Int32} (hG : ∀ c, c < 8 → σ.1 45 w (8 * s + c) = G c) : f_X0_heavyAt F w (nI s) σ = some (.inl (some (.int (hvS G 8))), σ) := by
  refine ri_same ?_
  refine n_fix (fun n x σ' => ∃ j, x = (w, nI s, hvS G j, nI j) ∧ j ≤ 8 ∧ n = 8 - j ∧ σ' = σ) ?_ F 8 _ σ (by omega) ⟨0, rfl, by omega, rfl, rfl⟩
  rintro rr n x σ' ⟨j, rfl, hj, rfl, rfl⟩ ih
  unfold f_X0_heavyAt_b4 f_X0_heavyAt_b37
  dsimp only
  refine n_if (fun q => ?_) (fun q => ?_)
  · have q : nI 8 ≤ nI j := q
    rw [nJ_le (by omega) (by omega)] at q
    have : j = 8 := by omega
    subst this
    exact n_i ⟨rfl, rfl⟩
  · have q : ¬ nI 8 ≤ nI j := q
    rw [nJ_le (by omega) (by omega)] at q
    rw [nI_8 hs (by omega), nI_c (by omega), hG j (by omega), nI_s (by omega)]
    refine n_g ((nI_kin (by omega)).mpr (by omega)) (n_b (n_if (fun q1 => n_b (ih (8 - (j + 1)) _ _ (by omega) ⟨j + 1, ?_, by omega, rfl, rfl⟩)) (fun q1 => n_b (ih (8 - (j + 1)) _ _ (by omega) ⟨j + 1, ?_, by omega, rfl, rfl⟩))))
    · have q1 : nI 4 ≤ nI j := q1
      rw [nJ_le (by omega) (by omega)] at q1
      show _ = (w, nI s, hvS G j + (if 4 ≤ j then -(G j) else G j), nI (j + 1))
      rw [if_pos q1]
    · have q1 : ¬ nI 4 ≤ nI j := q1
      rw [nJ_le (by omega) (by omega)] at q1
      show _ = (w, nI s, hvS G j + (if 4 ≤ j then -(G j) else G j), nI (j + 1))
      rw [if_neg q1]
theorem c_lit {c : Nat} {sec : Int32} (hc : c < 8) : f_X0_hasFireAt F w (nI c) sec σ = some (.inl (some (.int (litI (σ.1 47 w c) sec))), σ) := by
  have hk : kin (nI c) 8 := (nI_kin (by omega)).mpr hc
  unfold f_X0_hasFireAt f_X0_hasFireAt_b24 f_X0_hasFireAt_b25 litI
  rw [kg_t hk, kg_t hk, nI_c (by omega)]
  by_cases q : σ.1 47 w c = -1
  · rw [if_pos q, if_pos q]; rfl
  · rw [if_neg q, if_neg q]
    by_cases q2 : sec < σ.1 47 w c
    · rw [if_pos q2, if_pos q2]; rfl
    · rw [if_neg q2, if_neg q2]; rfl
theorem c_fires (hF : 2000 ≤ F) {sec : Int32} : f_X0_firesAt F w sec σ = some (.inl (some (.int (ltS (σ.1 47 w) sec 8))), σ) := by
  refine ri_same ?_
  refine n_fix (fun n x σ' => ∃ j, x = (w, sec, ltS (σ.1 47 w) sec j, nI j) ∧ j ≤ 8 ∧ n = 8 - j ∧ σ' = σ) ?_ F 8 _ σ (by omega) ⟨0, rfl, by omega, rfl, rfl⟩
  rintro rr n x σ' ⟨j, rfl, hj, rfl, rfl⟩ ih
  unfold f_X0_firesAt_b4 f_X0_firesAt_b22
  dsimp only
  refine n_if (fun q => ?_) (fun q => ?_)
  · have q : nI 8 ≤ nI j := q
    rw [nJ_le (by omega) (by omega)] at q
    have : j = 8 := by omega
    subst this
    exact n_i ⟨rfl, rfl⟩
  · have q : ¬ nI 8 ≤ nI j := q
    rw [nJ_le (by omega) (by omega)] at q
    rw [c_lit (by omega), s_bi, nI_s (by omega)]
    have e : ltS (σ'.1 47 w) sec (j + 1) = ltS (σ'.1 47 w) sec j + litI (σ'.1 47 w j) sec := rfl
    refine n_if (fun q1 => ih (8 - (j + 1)) _ _ (by omega) ⟨j + 1, ?_, by omega, rfl, rfl⟩) (fun q1 => ih (8 - (j + 1)) _ _ (by omega) ⟨j + 1, ?_, by omega, rfl, rfl⟩)
    · rw [e, q1, Int32.add_zero]
    · rw [e, litI_01.resolve_left q1]
theorem c_ahead (hF : 2000 ≤ F) {c : Nat} (hc : c < 8) : f_X0_firesAhead F w (nI c) σ = some (.inl (some (.int (ahS (σ.1 47 w) c 8))), σ) := by
  have hkc : kin (nI c) 8 := (nI_kin (by omega)).mpr hc
  refine ri_same ?_
  refine n_fix (fun n x σ' => ∃ j, x = (w, nI c, ahS (σ.1 47 w) c j, nI j) ∧ j ≤ 8 ∧ n = 8 - j ∧ σ' = σ) ?_ F 8 _ σ (by omega) ⟨0, rfl, by omega, rfl, rfl⟩
  rintro rr n x σ' ⟨j, rfl, hj, rfl, rfl⟩ ih
  unfold f_X0_firesAhead_b4 f_X0_firesAhead_b45 f_X0_firesAhead_b49
  dsimp only
  refine n_if (fun q => ?_) (fun q => ?_)
  · have q : nI 8 ≤ nI j := q
    rw [nJ_le (by omega) (by omega)] at q
    have : j = 8 := by omega
    subst this
    exact n_i ⟨rfl, rfl⟩
  · have q : ¬ nI 8 ≤ nI j := q
    rw [nJ_le (by omega) (by omega)] at q
    have hkj : kin (nI j) 8 := (nI_kin (by omega)).mpr (by omega)
    rw [nI_c (by omega), nI_c (by omega)]
    have e : ahS (σ'.1 47 w) c (j + 1) = ahS (σ'.1 47 w) c j + (if σ'.1 47 w j ≠ -1 ∧ (σ'.1 47 w j < σ'.1 47 w c ∨ σ'.1 47 w j = σ'.1 47 w c ∧ j < c) then 1 else 0) := rfl
    have h0 : (¬ (σ'.1 47 w j < σ'.1 47 w c ∨ σ'.1 47 w j = σ'.1 47 w c ∧ j < c)) → Rn (f_X0_firesAhead_b50 F rr w (nI c) (ahS (σ'.1 47 w) c j) (nI j) 0 σ') _ := fun hn => by
      unfold f_X0_firesAhead_b50 f_X0_firesAhead_b70
      rw [nI_c (by omega), nI_s (by omega)]
      refine n_g hkj (n_if (fun _ => ih (8 - (j + 1)) _ _ (by omega) ⟨j + 1, ?_, by omega, rfl, rfl⟩) (fun _ => n_t rfl (ih (8 - (j + 1)) _ _ (by omega) ⟨j + 1, ?_, by omega, rfl, rfl⟩)))
      · rw [e, if_neg (fun z => hn z.2), Int32.add_zero]
      · rw [e, if_neg (fun z => hn z.2), Int32.add_zero]
    have h1 : (σ'.1 47 w j < σ'.1 47 w c ∨ σ'.1 47 w j = σ'.1 47 w c ∧ j < c) → Rn (f_X0_firesAhead_b50 F rr w (nI c) (ahS (σ'.1 47 w) c j) (nI j) 1 σ') _ := fun hn => by
      unfold f_X0_firesAhead_b50 f_X0_firesAhead_b70
      rw [nI_c (by omega), nI_s (by omega)]
      refine n_g hkj (n_if (fun q1 => ih (8 - (j + 1)) _ _ (by omega) ⟨j + 1, ?_, by omega, rfl, rfl⟩) (fun q1 => n_f (by decide) (ih (8 - (j + 1)) _ _ (by omega) ⟨j + 1, ?_, by omega, rfl, rfl⟩)))
      · rw [e, if_neg (fun z => z.1 q1), Int32.add_zero]
      · rw [e, if_pos ⟨q1, hn⟩]
    refine n_g hkj (n_g hkc (n_if (fun q1 => h1 (Or.inl q1)) (fun q1 => n_g hkj (n_g hkc (n_if (fun q2 => n_if (fun q3 => h0 ?_) (fun q3 => h1 ?_)) (fun q2 => h0 ?_))))))
    · rw [nJ_le (by omega) (by omega)] at q3
      exact fun z => z.elim q1 (fun z => by omega)
    · rw [nJ_le (by omega) (by omega)] at q3
      exact Or.inr ⟨q2, by omega⟩
    · exact fun z => z.elim q1 (fun z => q2 z.1)
/-! the reference's -/
theorem m_allGas (hF : 2000 ≤ F) (hs : s < 100) {G : Nat → Int32} (hG : ∀ c, c < 8 → σ.1 68 s c = G c) : f_X6_allGas F (nI s) σ = some (.inl (some (.int (sumS G 8))), σ) := by
  have hks : kin (nI s) 100 := (nI_kin (by omega)).mpr hs
  refine ri_same ?_
  refine n_fix (fun n x σ' => ∃ j, x = (nI s, sumS G j, nI j) ∧ j ≤ 8 ∧ n = 8 - j ∧ σ' = σ) ?_ F 8 _ σ (by omega) ⟨0, rfl, by omega, rfl, rfl⟩
  rintro rr n x σ' ⟨j, rfl, hj, rfl, rfl⟩ ih
  unfold f_X6_allGas_b4
  dsimp only
  refine n_if (fun q => ?_) (fun q => ?_)
  · have q : nI 8 ≤ nI j := q
    rw [nJ_le (by omega) (by omega)] at q
    have : j = 8 := by omega
    subst this
    exact n_i ⟨rfl, rfl⟩
  · have q : ¬ nI 8 ≤ nI j := q
    rw [nJ_le (by omega) (by omega)] at q
    rw [nI_c (by omega), nI_c (by omega), nI_s (by omega)]
    refine n_g hks (n_b (n_g ((nI_kin (by omega)).mpr (by omega)) (n_b ?_)))
    rw [hG j (by omega)]
    exact ih (8 - (j + 1)) _ _ (by omega) ⟨j + 1, rfl, by omega, rfl, rfl⟩
theorem m_heavy (hF : 2000 ≤ F) (hs : s < 100) {G : Nat → Int32} (hG : ∀ c, c < 8 → σ.1 68 s c = G c) : f_X6_heavy F (nI s) σ = some (.inl (some (.int (hvS G 8))), σ) := by
  have hks : kin (nI s) 100 := (nI_kin (by omega)).mpr hs
  refine ri_same ?_
  refine n_fix (fun n x σ' => ∃ j, x = (nI s, hvS G j, nI j) ∧ j ≤ 8 ∧ n = 8 - j ∧ σ' = σ) ?_ F 8 _ σ (by omega) ⟨0, rfl, by omega, rfl, rfl⟩
  rintro rr n x σ' ⟨j, rfl, hj, rfl, rfl⟩ ih
  unfold f_X6_heavy_b4 f_X6_heavy_b36
  dsimp only
  refine n_if (fun q => ?_) (fun q => ?_)
  · have q : nI 8 ≤ nI j := q
    rw [nJ_le (by omega) (by omega)] at q
    have : j = 8 := by omega
    subst this
    exact n_i ⟨rfl, rfl⟩
  · have q : ¬ nI 8 ≤ nI j := q
    rw [nJ_le (by omega) (by omega)] at q
    have hkj : kin (nI j) 8 := (nI_kin (by omega)).mpr (by omega)
    rw [nI_c (by omega), nI_c (by omega), nI_s (by omega)]
    refine n_if (fun q1 => n_g hks (n_b (n_g hkj (n_b ?_)))) (fun q1 => n_g hks (n_b (n_g hkj (n_b ?_))))
    · have q1 : nI 4 ≤ nI j := q1
      rw [nJ_le (by omega) (by omega)] at q1
      rw [hG j (by omega)]
      refine ih (8 - (j + 1)) _ _ (by omega) ⟨j + 1, ?_, by omega, rfl, rfl⟩
      show _ = (nI s, hvS G j + (if 4 ≤ j then -(G j) else G j), nI (j + 1))
      rw [if_pos q1]
    · have q1 : ¬ nI 4 ≤ nI j := q1
      rw [nJ_le (by omega) (by omega)] at q1
      rw [hG j (by omega)]
      refine ih (8 - (j + 1)) _ _ (by omega) ⟨j + 1, ?_, by omega, rfl, rfl⟩
      show _ = (nI s, hvS G j + (if 4 ≤ j then -(G j) else G j), nI (j + 1))
      rw [if_neg q1]
theorem m_lit {c : Nat} {sec : Int32} (hc : c < 8) : f_X6_isLit F (nI c) sec σ = some (.inl (some (.int (litI (σ.1 66 0 c) sec))), σ) := by
  have hk : kin (nI c) 8 := (nI_kin (by omega)).mpr hc
  unfold f_X6_isLit f_X6_isLit_b24 f_X6_isLit_b25 litI
  rw [kg_t hk, kg_t hk, nI_c (by omega)]
  by_cases q : σ.1 66 0 c = -1
  · rw [if_pos q, if_pos q]; rfl
  · rw [if_neg q, if_neg q]
    by_cases q2 : sec < σ.1 66 0 c
    · rw [if_pos q2, if_pos q2]; rfl
    · rw [if_neg q2, if_neg q2]; rfl
theorem m_lasted {r : rS} (h1 : σ.1 48 0 37 = r.2.2.2.2.1) (h2 : σ.1 48 0 36 = r.2.2.2.2.2.2) : f_X6_lasted F σ = some (.inl (some (.int (lastS r))), σ) := by
  unfold f_X6_lasted f_X6_lasted_b27 f_X6_lasted_b40 lastS
  rw [h1, h2]
  by_cases q1 : r.2.2.2.2.1 = -1
  · rw [if_pos q1, if_pos (Or.inl q1)]
  rw [if_neg q1]
  by_cases q2 : r.2.2.2.2.2.2 = -1
  · rw [if_pos q2, if_pos (Or.inr (Or.inl q2))]
  rw [if_neg q2]
  by_cases q3 : r.2.2.2.2.1 ≤ r.2.2.2.2.2.2
  · rw [if_pos q3, if_neg (fun h => h.elim q1 (fun h => h.elim q2 (Int32.not_lt.mpr q3)))]
  · rw [if_neg q3, if_pos (Or.inr (Or.inr (Int32.not_le.mp q3)))]
def nearI (a v : Int32) : Int32 := if a ≠ -1 ∧ v - 1 ≤ a ∧ a ≤ v + 1 then 1 else 0
theorem c_near {a v : Int32} : f_X5_isNear F a v σ = some (.inl (some (.int (nearI a v))), σ) := by
  unfold f_X5_isNear f_X5_isNear_b23 f_X5_isNear_b24 nearI
  by_cases q1 : a = -1
  · rw [if_pos q1, if_neg (fun z => z.1 q1)]; rfl
  rw [if_neg q1]
  by_cases q2 : a < v - 1
  · rw [if_pos q2, if_neg (fun z => absurd q2 (Int32.not_lt.mpr z.2.1))]; rfl
  rw [if_neg q2]
  by_cases q3 : v + 1 < a
  · rw [if_pos q3, if_neg (fun z => absurd q3 (Int32.not_lt.mpr z.2.2))]; rfl
  · rw [if_neg q3, if_pos ⟨q1, Int32.not_lt.mp q2, Int32.not_lt.mp q3⟩]; rfl
theorem m_near {a v : Int32} : f_X6_isNear F a v σ = some (.inl (some (.int (nearI a v))), σ) := by
  unfold f_X6_isNear f_X6_isNear_b22 f_X6_isNear_b23 nearI
  by_cases q1 : a = -1
  · rw [if_pos q1, if_neg (fun z => z.1 q1)]; rfl
  rw [if_neg q1, x_in, s_bi, if10]
  by_cases q2 : v - 1 ≤ a ∧ a ≤ v + 1
  · rw [if_pos q2, if_pos ⟨q1, q2⟩]; rfl
  · rw [if_neg q2, if_neg (fun z => q2 z.2)]; rfl
end RD
theorem nearI_01 {a v : Int32} : nearI a v = 0 ∨ nearI a v = 1 := by
  unfold nearI
  exact (ite_or _ _).symm
def soI (kind v lit bc down heavy lasted gap : Int32) : Int32 := if kind = 0 then (if lit = (if v = 1 then 1 else 0) then 1 else 0) else if kind = 1 then (if bc = v then 1 else 0) else if kind = 2 then nearI down v else if kind = 3 then (if heavy < v then 0 else 1) else if kind = 4 then nearI lasted v else (if gap < v then 0 else 1)
theorem soI_01 {kind v lit bc down heavy lasted gap : Int32} : soI kind v lit bc down heavy lasted gap = 0 ∨ soI kind v lit bc down heavy lasted gap = 1 := by
  unfold soI
  by_cases h : kind = 0
  · rw [if_pos h]; exact (ite_or _ _).symm
  rw [if_neg h]
  by_cases h : kind = 1
  · rw [if_pos h]; exact (ite_or _ _).symm
  rw [if_neg h]
  by_cases h : kind = 2
  · rw [if_pos h]; exact nearI_01
  rw [if_neg h]
  by_cases h : kind = 3
  · rw [if_pos h]; exact ite_or _ _
  rw [if_neg h]
  by_cases h : kind = 4
  · rw [if_pos h]; exact nearI_01
  rw [if_neg h]; exact ite_or _ _
/-- whether a ROW is so, by a RUN -/
def soS (n g : Nat → Int32) (y : yD) (kind sec cell v : Int32) : Int32 := soI kind v (litI ((runS n g y 100).2.2.2.1 cell.toNatClampNeg) sec) (runS n g y 100).2.2.2.2.2.1 (runS n g y 100).2.2.2.2.2.2 (hvS (runS n g y (sec.toNatClampNeg + 1)).2.1 8) (lastS (runS n g y 100)) ((runS n g y (sec.toNatClampNeg + 1)).1.2.1 - (runS n g y (sec.toNatClampNeg + 1)).1.2.2.1)
theorem c_isSo {F : Nat} (hF : 2000 ≤ F) {σ : kS} {w r : Nat} {n g : Nat → Int32} {y : yD} (hr : r < 10) (hsec : rng (σ.1 25 0 r) 0 99) (hcell : rng (σ.1 26 0 r) 0 7) (fm : filmR (σ.1 40 w) (σ.1 41 w) (σ.1 42 w) (σ.1 43 w) (σ.1 44 w) (σ.1 45 w) (σ.1 46 w) (σ.1 47 w) n g y) : f_X5_isSo F w (nI r) σ = some (.inl (some (.int (soS n g y (σ.1 24 0 r) (σ.1 25 0 r) (σ.1 26 0 r) (σ.1 27 0 r)))), σ) := by
  obtain ⟨f1, f2, f3, f4, f5, f6⟩ := fm
  have hkr : kin (nI r) 10 := (nI_kin (by omega)).mpr hr
  obtain ⟨es, hs⟩ := rng_nI hsec
  obtain ⟨ec, hc⟩ := rng_nI hcell
  unfold f_X5_isSo f_X5_isSo_b89 f_X5_isSo_b97 f_X5_isSo_b112 f_X5_isSo_b138 f_X5_isSo_b164 soS
  rw [nI_c (by omega)]
  generalize σ.1 24 0 r = kind
  generalize σ.1 27 0 r = v
  generalize σ.1 25 0 r = sec at es hs hsec
  generalize σ.1 26 0 r = cell at ec hc hcell
  obtain ⟨s, hs0⟩ : ∃ s, s = sec.toNatClampNeg := ⟨_, rfl⟩
  obtain ⟨c, hc0⟩ : ∃ c, c = cell.toNatClampNeg := ⟨_, rfl⟩
  rw [← hs0] at es hs
  rw [← hc0] at ec hc
  rw [← hs0, ← hc0]
  obtain ⟨g1, g2, g3, g4, g5⟩ := f1 s (by omega)
  simp only [kg_t hkr, s_b]
  unfold soI
  by_cases h : kind = 0
  · rw [if_pos h, if_pos h, ec, c_lit (by omega), s_bi, f2 c (by omega)]
    by_cases z : v = 1
    · rw [if_pos z, if_pos z]
      rcases litI_01 (f := (runS n g y 100).2.2.2.1 c) (sec := sec) with q | q
      · rw [q]; rfl
      · rw [q]; rfl
    · rw [if_neg z, if_neg z]
      rcases litI_01 (f := (runS n g y 100).2.2.2.1 c) (sec := sec) with q | q
      · rw [q]; rfl
      · rw [q]; rfl
  rw [if_neg h, if_neg h]
  by_cases h : kind = 1
  · rw [if_pos h, if_pos h, f4]
    by_cases z : (runS n g y 100).2.2.2.2.2.1 = v
    · rw [if_pos z, if_pos z]; rfl
    · rw [if_neg z, if_neg z]; rfl
  rw [if_neg h, if_neg h]
  by_cases h : kind = 2
  · rw [if_pos h, if_pos h, f5, c_near, s_bi, kg_t (b_01 nearI_01)]
  rw [if_neg h, if_neg h]
  by_cases h : kind = 3
  · rw [if_pos h, if_pos h, es, c_heavy hF (by omega) (fun c hc => (g5 c hc).1), s_bi]
    by_cases z : hvS (runS n g y (s + 1)).2.1 8 < v
    · rw [if_pos z, if_pos z]; rfl
    · rw [if_neg z, if_neg z]; rfl
  rw [if_neg h, if_neg h]
  by_cases h : kind = 4
  · rw [if_pos h, if_pos h, f6, c_near, s_bi, kg_t (b_01 nearI_01)]
  rw [if_neg h, if_neg h, es, c_gap (by omega), s_bi, g2, g3]
  by_cases z : (runS n g y (s + 1)).1.2.1 - (runS n g y (s + 1)).1.2.2.1 < v
  · rw [if_pos z, if_pos z]; rfl
  · rw [if_neg z, if_neg z]; rfl
theorem m_isSo {F : Nat} (hF : 2000 ≤ F) {σ : kS} {r : Nat} {n0 g : Nat → Int32} {y : yD} (hr : r < 10) (hsec : rng (σ.1 82 r 1) 0 99) (hcell : rng (σ.1 82 r 2) 0 7) (rf : refR σ.1 (setS y (yn y) n0) g y) : f_X6_isSo F (nI r) σ = some (.inl (some (.int (soS n0 g y (σ.1 82 r 0) (σ.1 82 r 1) (σ.1 82 r 2) (σ.1 82 r 3)))), σ) := by
  have hrun : ∀ s, runS n0 g y s = runN (setS y (yn y) n0) g y s := fun s => by rw [runS]
  obtain ⟨f1, f2, f3, f4, f5⟩ := rf
  have hkr : kin (nI r) 10 := (nI_kin (by omega)).mpr hr
  obtain ⟨es, hs⟩ := rng_nI hsec
  obtain ⟨ec, hc⟩ := rng_nI hcell
  unfold f_X6_isSo f_X6_isSo_b83 f_X6_isSo_b91 f_X6_isSo_b105 f_X6_isSo_b129 f_X6_isSo_b161 soS
  simp only [hrun]
  rw [nI_c (by omega)]
  simp only [kg_t hkr, s_b]
  generalize σ.1 82 r 0 = kind
  generalize σ.1 82 r 3 = v
  generalize σ.1 82 r 1 = sec at es hs hsec
  generalize σ.1 82 r 2 = cell at ec hc hcell
  obtain ⟨s, hs0⟩ : ∃ s, s = sec.toNatClampNeg := ⟨_, rfl⟩
  obtain ⟨c, hc0⟩ : ∃ c, c = cell.toNatClampNeg := ⟨_, rfl⟩
  rw [← hs0] at es hs
  rw [← hc0] at ec hc
  rw [← hs0, ← hc0]
  obtain ⟨g1, g2, g3, g4, g5⟩ := f1 s (by omega)
  generalize setS y (yn y) n0 = n at f1 f2 f3 f4 f5 g1 g2 g3 g4 g5
  unfold soI
  by_cases h : kind = 0
  · rw [if_pos h, if_pos h, ec, m_lit (by omega), s_bi, f2 c (by omega)]
    by_cases z : v = 1
    · rw [if_pos z, if_pos z]
      rcases litI_01 (f := (runN n g y 100).2.2.2.1 c) (sec := sec) with q | q
      · rw [q]; rfl
      · rw [q]; rfl
    · rw [if_neg z, if_neg z]
      rcases litI_01 (f := (runN n g y 100).2.2.2.1 c) (sec := sec) with q | q
      · rw [q]; rfl
      · rw [q]; rfl
  rw [if_neg h, if_neg h]
  by_cases h : kind = 1
  · rw [if_pos h, if_pos h, f4]
    by_cases z : (runN n g y 100).2.2.2.2.2.1 = v
    · rw [if_pos z, if_pos z]; rfl
    · rw [if_neg z, if_neg z]; rfl
  rw [if_neg h, if_neg h]
  by_cases h : kind = 2
  · rw [if_pos h, if_pos h, f5, m_near, s_bi, kg_t (b_01 nearI_01)]
  rw [if_neg h, if_neg h]
  by_cases h : kind = 3
  · rw [if_pos h, if_pos h, es, m_heavy hF (by omega) (fun c hc => (g5 c hc).1), s_bi]
    by_cases z : hvS (runN n g y (s + 1)).2.1 8 < v
    · rw [if_pos z, if_pos z]; rfl
    · rw [if_neg z, if_neg z]; rfl
  rw [if_neg h, if_neg h]
  by_cases h : kind = 4
  · rw [if_pos h, if_pos h, m_lasted f3 f5, s_bi, m_near, s_bi, kg_t (b_01 nearI_01)]
  have hks : kin sec 100 := by rw [es]; exact (nI_kin (by omega)).mpr (by omega)
  rw [if_neg h, if_neg h, kg_t hks, kg_t hks, g2, g3]
  by_cases z : (runN n g y (s + 1)).1.2.1 - (runN n g y (s + 1)).1.2.2.1 < v
  · rw [if_pos z, if_pos z]; rfl
  · rw [if_neg z, if_neg z]; rfl
