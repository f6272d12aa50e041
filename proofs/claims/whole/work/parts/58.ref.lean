/-! THE REFERENCE'S SECOND. -/
theorem n_t {c : Prop} [Decidable c] {a b : Option kR} {Q : Option Value → kS → Prop} (h : c) (k : Rn a Q) : Rn (if c then a else b) Q := by
  rw [if_pos h]; exact k
theorem n_f {c : Prop} [Decidable c] {a b : Option kR} {Q : Option Value → kS → Prop} (h : ¬ c) (k : Rn b Q) : Rn (if c then a else b) Q := by
  rw [if_neg h]; exact k
theorem r_less {F : Nat} {a b : Int32} {σ : kS} : f_X6_less F a b σ = some (.inl (some (.int (kmin a b))), σ) := by
  unfold f_X6_less f_X6_less_b10 kmin
  by_cases h : b ≤ a
  · rw [if_pos h]
    by_cases h2 : b < a
    · rw [if_pos h2]
    · rw [if_neg h2]
      have : a = b := by
        rw [i_le] at h
        rw [i_lt] at h2
        rw [i_eq]; omega
      rw [this]
  · rw [if_neg h, if_neg (fun q => h (by rw [i_lt] at q; rw [i_le]; omega))]
theorem r_more {F : Nat} {a b : Int32} {σ : kS} : f_X6_more F a b σ = some (.inl (some (.int (kmax a b))), σ) := by
  unfold f_X6_more f_X6_more_b10 kmax
  by_cases h : a ≤ b
  · rw [if_pos h]
    by_cases h2 : a < b
    · rw [if_pos h2]
    · rw [if_neg h2]
      have : a = b := by
        rw [i_le] at h
        rw [i_lt] at h2
        rw [i_eq]; omega
      rw [this]
  · rw [if_neg h, if_neg (fun q => h (by rw [i_lt] at q; rw [i_le]; omega))]
theorem r_worked {F : Nat} {c l r : Int32} {σ : kS} (h : rng c (-16) (-9)) : f_X6_worked F (trC c) l r σ = some (.inl (some (.int (joinS c l r))), σ) := by
  have h1 := h.1
  have h2 := h.2
  have hc : c = -9 ∨ c = -10 ∨ c = -11 ∨ c = -12 ∨ c = -13 ∨ c = -14 ∨ c = -15 ∨ c = -16 := by
    simp only [i_eq]
    show c.toInt = -9 ∨ c.toInt = -10 ∨ c.toInt = -11 ∨ c.toInt = -12 ∨ c.toInt = -13 ∨ c.toInt = -14 ∨ c.toInt = -15 ∨ c.toInt = -16
    omega
  rcases hc with rfl | rfl | rfl | rfl | rfl | rfl | rfl | rfl
  · rfl
  · rfl
  · show (if r ≤ l then some _ else some _) = some (Sum.inl (some (Value.int (if l < r then 1 else 0))), σ)
    by_cases q : r ≤ l
    · rw [if_pos q, if_neg (Int32.not_lt.mpr q)]
    · rw [if_neg q, if_pos (Int32.not_le.mp q)]
  · show (if l ≤ r then some _ else some _) = some (Sum.inl (some (Value.int (if r < l then 1 else 0))), σ)
    by_cases q : l ≤ r
    · rw [if_pos q, if_neg (Int32.not_lt.mpr q)]
    · rw [if_neg q, if_pos (Int32.not_le.mp q)]
  · show (if l = r then some _ else some _) = some (Sum.inl (some (Value.int (if l = r then 1 else 0))), σ)
    by_cases q : l = r
    · rw [if_pos q, if_pos q]
    · rw [if_neg q, if_neg q]
  · rfl
  · rfl
  · rfl
theorem trC_num {c : Int32} (h : rng c 0 9999) : trC c = c := if_pos (by rw [i_le]; exact h.1)
theorem trC_nam {c : Int32} (h : rng c (-7) (-1)) : trC c = 9999 - c ∧ (trC c).toInt = 9999 - c.toInt := by
  have h1 := h.1
  have h2 := h.2
  have e : trC c = 9999 - c := by
    unfold trC
    rw [if_neg (by rw [i_le]; show ¬ (0 : Int) ≤ _; omega), if_pos (by rw [i_le]; exact h1)]
  refine ⟨e, ?_⟩
  rw [e, i_sub]
  · rfl
  · show _ ≤ (9999 : Int) - _; omega
  · show (9999 : Int) - _ < _; omega
theorem trC_op {c : Int32} (h : rng c (-16) (-9)) : 10020 ≤ trC c ∧ trC c ≠ 10033 := by
  have h1 := h.1
  have h2 := h.2
  have hc : c = -9 ∨ c = -10 ∨ c = -11 ∨ c = -12 ∨ c = -13 ∨ c = -14 ∨ c = -15 ∨ c = -16 := by
    simp only [i_eq]
    show c.toInt = -9 ∨ c.toInt = -10 ∨ c.toInt = -11 ∨ c.toInt = -12 ∨ c.toInt = -13 ∨ c.toInt = -14 ∨ c.toInt = -15 ∨ c.toInt = -16
    omega
  rcases hc with rfl | rfl | rfl | rfl | rfl | rfl | rfl | rfl <;> decide
theorem r_holds {F : Nat} (hF : 2000 ≤ F) {σ : kS} {w a b : Nat} {f : Nat → Int32} {nm : Int32 → Int32} (hw6 : w < 6) (hab : a ≤ b) (hb : b ≤ 300) (hr : ∀ k, a ≤ k → k < b → σ.1 54 w k = trC (f k) ∧ rng (f k) (-16) 9999) (hw : wfS 18 (codeOf f a b)) (hnm : ∀ k, k < 7 → σ.1 60 0 k = nm (-1 - nI k)) :
    RI (f_X6_holds F (nI w) (nI a) (nI b) σ) (fun r σ' => r = (if condS nm (codeOf f a b) = true then 1 else 0) ∧ Fr (sL [59]) σ σ') := by
  have ew : (nI w).toNatClampNeg = w := nI_c (by omega)
  have hkw : kin (nI w) 6 := (nI_kin (by omega)).mpr hw6
  unfold f_X6_holds
  refine n_fix (fun n x σ' => ∃ k, x = (nI w, nI b, nI (evN nm f a k).length, nI (a + k)) ∧ k ≤ b - a ∧ n = b - a - k ∧ stk (σ'.1 59 0) (evN nm f a k) ∧ Fr (sL [59]) σ σ') ?_ F (b - a) _ σ (by omega) ⟨0, rfl, by omega, by omega, trivial, Fr.refl σ⟩
  rintro rr n x σ' ⟨k, rfl, hk, rfl, hst, hfr⟩ ih
  have eak : (nI (a + k)).toNatClampNeg = a + k := nI_c (by omega)
  unfold f_X6_holds_b6
  simp only [ew, s_b, eak]
  refine n_if (fun q => ?_) (fun q => ?_)
  · rw [nJ_le (by omega) (by omega)] at q
    have ek : k = b - a := by omega
    subst ek
    obtain ⟨v, hv, hcd⟩ := wf_end hw nm
    rw [hv] at hst
    have hv0 : σ'.1 59 0 0 = v := hst.1
    rw [hv0, hcd]
    refine n_if (fun q => ?_) (fun q => ?_)
    · unfold f_X6_holds_b153
      refine n_g rfl ?_
      refine n_i ⟨?_, hfr⟩
      rw [if_pos (by simpa using q)]
    · unfold f_X6_holds_b153
      refine n_g rfl ?_
      refine n_i ⟨?_, hfr⟩
      rw [if_neg (by simpa using q)]
  · rw [nJ_le (by omega) (by omega)] at q
    have hkb : k < b - a := by omega
    obtain ⟨w1, w2, w3⟩ := wf_at hw nm hkb
    obtain ⟨hr1, hr2⟩ := hr (a + k) (by omega) (by omega)
    have e54 : σ'.1 54 w (a + k) = trC (f (a + k)) := (hfr.1 54 w _ rfl).trans hr1
    have eak1 : nI (a + k) + 1 = nI (a + (k + 1)) := nI_s (by omega)
    have hnx : ∀ (L : Nat) (σ'' : kS), L = (evN nm f a (k + 1)).length → stk (σ''.1 59 0) (evN nm f a (k + 1)) → Fr (sL [59]) σ σ'' → Rn (rr (nI w, nI b, nI L, nI (a + k) + 1) σ'') _ := fun L σ'' hL hs hf => ih (b - a - (k + 1)) _ σ'' (by omega) ⟨k + 1, by rw [hL, eak1], by omega, rfl, hs, hf⟩
    rw [e54]
    refine n_g hkw (n_g ((nI_kin (by omega)).mpr (by omega)) ?_)
    have r1 := hr2.1
    have r2 := hr2.2
    have eL : (nI (evN nm f a k).length).toNatClampNeg = (evN nm f a k).length := nI_c (by omega)
    have hkL : kin (nI (evN nm f a k).length) 120 := (nI_kin (by omega)).mpr (by omega)
    have eL1 : nI (evN nm f a k).length + 1 = nI ((evN nm f a k).length + 1) := nI_s (by omega)
    have hgo : ∀ v, -7 ≤ f (a + k) → v = (if 0 ≤ f (a + k) then f (a + k) else nm (f (a + k))) → Rn (f_X6_holds_b61 F rr (nI w) (nI b) (nI (evN nm f a k).length) (nI (a + k)) (nI (evN nm f a k).length) v σ') (fun v σ' => ∃ r, v = some (Value.int r) ∧ (r = if condS nm (codeOf f a b) = true then 1 else 0) ∧ Fr (sL [59]) σ σ') := by
      intro v q7 hv
      have hop : evN nm f a (k + 1) = v :: evN nm f a k := by
        show opS nm (f (a + k)) (evN nm f a k) = _
        unfold opS
        rw [if_pos q7, hv]
      unfold f_X6_holds_b61 f_X6_holds_b132
      simp only [eL, s_b, eL1]
      refine n_g hkL (hnx _ _ (by rw [hop]; rfl) ?_ (hfr.u rfl))
      rw [hop]
      exact stk_p hst
    by_cases c1 : 0 ≤ (f (a + k)).toInt
    · have et := trC_num (c := f (a + k)) ⟨c1, r2⟩
      rw [et]
      refine n_if (fun q1 => absurd q1 ?_) (fun _ => n_if (fun q1 => absurd q1 ?_) (fun _ => hgo _ ?_ ?_))
      · rw [i_le]; show ¬ (10020 : Int) ≤ _; omega
      · rw [i_le]; show ¬ (10000 : Int) ≤ _; omega
      · rw [i_le]; show (-7 : Int) ≤ _; omega
      · rw [if_pos (by rw [i_le]; exact c1)]
    by_cases c2 : -7 ≤ (f (a + k)).toInt
    · obtain ⟨et, et2⟩ := trC_nam (c := f (a + k)) ⟨c2, by omega⟩
      have e3 : (trC (f (a + k)) - 10000).toInt = -1 - (f (a + k)).toInt := by
        rw [i_sub, et2]
        · show 9999 - _ - (10000 : Int) = _; omega
        · rw [et2]; show _ ≤ 9999 - _ - (10000 : Int); omega
        · rw [et2]; show 9999 - _ - (10000 : Int) < _; omega
      have hk3 : kin (trC (f (a + k)) - 10000) 7 := by
        show 0 ≤ Int32.toInt _ ∧ Int32.toInt _ < ((7 : Nat) : Int)
        rw [e3]; omega
      refine n_if (fun q1 => absurd q1 ?_) (fun _ => n_if (fun _ => n_g hk3 (hgo _ ?_ ?_)) (fun q1 => absurd ?_ q1))
      · rw [i_le, et2]; show ¬ (10020 : Int) ≤ _; omega
      · rw [i_le]; exact c2
      · rw [if_neg (by rw [i_le]; exact c1), hfr.1 60 0 _ rfl, hnm _ (kin_lt hk3)]
        refine congrArg nm ?_
        rw [← (rng_nI (x := trC (f (a + k)) - 10000) (b := 6) ⟨hk3.1, by rw [e3]; omega⟩).1, i_eq, i_sub, e3]
        · show (-1 : Int) - (-1 - _) = _; omega
        · rw [e3]; show _ ≤ (-1 : Int) - (-1 - _); omega
        · rw [e3]; show (-1 : Int) - (-1 - _) < _; omega
      · rw [i_le, et2]; show (10000 : Int) ≤ _; omega
    have q7 : ¬ (-7 ≤ f (a + k)) := by rw [i_le]; exact c2
    by_cases c3 : f (a + k) = -8
    · rw [c3, show trC (-8) = 10033 from rfl]
      refine n_t (by decide) (n_t rfl ?_)
      rw [if_neg q7, if_pos c3] at w3
      have hop : evN nm f a (k + 1) = opS nm (f (a + k)) (evN nm f a k) := rfl
      unfold opS at hop
      rw [if_neg q7, if_pos c3] at hop
      match hE : evN nm f a k, hst, w3, hop with
      | x :: t, hst, _, hop =>
        have hop : evN nm f a (k + 1) = (1 - x) :: t := hop
        rw [hE] at w1
        have hl : t.length < 18 := w1
        have e1 : nI (x :: t).length - 1 = nI t.length := nI_p (a := t.length + 1) (by omega) (by omega)
        have e2 : (nI t.length).toNatClampNeg = t.length := nI_c (by omega)
        have hk1 : kin (nI t.length) 120 := (nI_kin (by omega)).mpr (by omega)
        have hx : σ'.1 59 0 t.length = x := hst.1
        simp only [e1, e2, hx]
        refine n_g hk1 (n_g hk1 ?_)
        refine hnx _ _ (by rw [hop]; rfl) ?_ (hfr.u rfl)
        rw [hop]
        exact stk_p hst.2
    · have hcr : rng (f (a + k)) (-16) (-9) := by
        refine ⟨r1, ?_⟩
        have : (f (a + k)).toInt ≠ -8 := fun z => c3 (i_eq.mpr z)
        omega
      obtain ⟨t1, t2⟩ := trC_op hcr
      refine n_if (fun _ => n_if (fun q1 => absurd q1 t2) (fun _ => ?_)) (fun q1 => absurd t1 q1)
      rw [if_neg q7, if_neg c3] at w3
      have hop : evN nm f a (k + 1) = opS nm (f (a + k)) (evN nm f a k) := rfl
      unfold opS at hop
      rw [if_neg q7, if_neg c3] at hop
      match hE : evN nm f a k, hst, w3, hop with
      | [x], _, w3, _ => exfalso; simp at w3
      | y :: x :: t, hst, _, hop =>
        have hop : evN nm f a (k + 1) = joinS (f (a + k)) x y :: t := hop
        rw [hE] at w1
        have hl : t.length + 1 < 18 := w1
        have e1 : nI (y :: x :: t).length + (-1) = nI (t.length + 1) := nI_m (a := t.length + 2) (by omega) (by omega)
        have e1' : nI (t.length + 1) - 1 = nI t.length := nI_p (a := t.length + 1) (by omega) (by omega)
        have e2 : (nI t.length).toNatClampNeg = t.length := nI_c (by omega)
        have e2' : (nI (t.length + 1)).toNatClampNeg = t.length + 1 := nI_c (by omega)
        have hk1 : kin (nI t.length) 120 := (nI_kin (by omega)).mpr (by omega)
        have hk2 : kin (nI (t.length + 1)) 120 := (nI_kin (by omega)).mpr (by omega)
        have hy : σ'.1 59 0 (t.length + 1) = y := hst.1
        have hx : σ'.1 59 0 t.length = x := hst.2.1
        simp only [e1, e1', e2, e2', hx, hy, r_worked hcr, s_bi]
        refine n_g hk1 (n_g hk2 (n_g hk1 ?_))
        refine hnx _ _ (by rw [hop]; rfl) ?_ (hfr.u rfl)
        rw [hop]
        exact stk_p hst.2.2
