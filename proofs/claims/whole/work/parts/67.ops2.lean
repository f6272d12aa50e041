/-! CALLS THAT ASK A RUN, more. -/
theorem pre_film {F : Nat} (hF : 2000 ≤ F) {σ : kS} (h : Inv σ.1) {a : Int32} (c1 : 0 ≤ a ∧ a < σ.1 48 0 13) : ∃ w σ1, w < 6 ∧ a = nI w ∧ kin (nI w) 6 ∧ f_X5_filmBy F (nI w) σ = some (.inl (some (.int (nI w))), σ1) ∧ Inv σ1.1 ∧ σ1.1 48 0 13 = σ.1 48 0 13 ∧ σ1.1 40 w 0 = 1 ∧ filmR (σ1.1 40 w) (σ1.1 41 w) (σ1.1 42 w) (σ1.1 43 w) (σ1.1 44 w) (σ1.1 45 w) (σ1.1 46 w) (σ1.1 47 w) (σ1.1 61 0) (σ1.1 62 0) (yOf σ1.1 (w + 2)) ∧ (∀ w', w' < 6 → σ.1 40 w' 0 = 1 → σ1.1 40 w' 0 = 1) ∧ Fr sF σ σ1 := by
  obtain ⟨ht, hr⟩ := inv_told h
  obtain ⟨w, hw6, rfl⟩ := nI_ex (n := 6) (kin_of (n := 6) c1.1 c1.2 hr.2)
  obtain ⟨r, σ1, e1, rfl, i1, m1, m2, f1⟩ := ri_get (v_film hF h hw6 c1.2)
  exact ⟨w, σ1, hw6, rfl, (nI_kin (by omega)).mpr hw6, e1, i1, f1.1 48 0 13 rfl, m1, inv_film i1 hw6 m1, m2, f1⟩
theorem r_nI {a : Int32} {b : Nat} (h : 0 ≤ a ∧ a ≤ nI b) (hb : b < 2147483648) : ∃ j, j ≤ b ∧ a = nI j := by
  rw [i_le, i_le, nI_toInt hb] at h
  have h1 : 0 ≤ a.toInt := h.1
  obtain ⟨j, hj, e⟩ := nI_ex (x := a) (n := b + 1) ⟨h1, by omega⟩
  exact ⟨j, by omega, e⟩
theorem top_b {F : Nat} {nx : kS → Option kR} {wv : Option kR} {mo : kS → Option kR} {k : Int32} {σ2 : kS} (hw : wv = some (.inl (some (.int k)), σ2)) (hm : RI (mo σ2) (fun b σ4 => Inv σ4.1 ∧ σ4.1 48 0 0 = k ∧ (k = 0 → σ4.2 90 0 0 = (if b = 0 then 0 else 1)))) : ∃ σ', Inv σ'.1 ∧ kBhi wv (fun c1 σ2 => kBhi (mo σ2) (fun c3 σ4 => kBhi (f_X6_thrown F σ4) (fun c5 σ6 => (if c5 = c1 then ((if c1 = 0 then ((if c3 = 0 then ((if (lg_cmp (σ6.2 90 0 0) (0 : Int64)) = 0 then (nx σ6) else (none))) else ((if (lg_cmp (σ6.2 90 0 0) (1 : Int64)) = 0 then (nx σ6) else (none))))) else (nx σ6))) else (none))) kNo) kNo) kNo = nx σ' := by
  obtain ⟨b, σ4, e, h1, h2, h3⟩ := ri_get hm
  refine ⟨σ4, h1, ?_⟩
  rw [hw]
  show kBhi (mo σ2) _ _ = _
  rw [e]
  show (if σ4.1 48 0 0 = k then (if k = 0 then (if b = 0 then (if lg_cmp (σ4.2 90 0 0) 0 = 0 then nx σ4 else none) else (if lg_cmp (σ4.2 90 0 0) 1 = 0 then nx σ4 else none)) else nx σ4) else none) = _
  rw [if_pos h2]
  by_cases h0 : k = 0
  · rw [if_pos h0]
    by_cases hb : b = 0
    · rw [if_pos hb, if_pos (x_cmp (by rw [h3 h0, if_pos hb]))]
    · rw [if_neg hb, if_pos (x_cmp (by rw [h3 h0, if_neg hb]))]
  · rw [if_neg h0]
theorem top_l {F : Nat} {nx : kS → Option kR} {wv : Option kR} {mo : kS → Option kR} {k : Int32} {σ2 : kS} (hw : wv = some (.inl (some (.int k)), σ2)) (hm : RLo (mo σ2) (fun b σ4 => Inv σ4.1 ∧ σ4.1 48 0 0 = k ∧ (k = 0 → σ4.2 90 0 0 = b))) : ∃ σ', Inv σ'.1 ∧ kBhi wv (fun c1 σ2 => kBhl (mo σ2) (fun c3 σ4 => kBhi (f_X6_thrown F  σ4) (fun c5 σ6 => (if c5 = c1 then ((if c1 = 0 then ((if (lg_cmp (σ6.2 90 0 0) c3) = 0 then (nx σ6) else (none))) else (nx σ6))) else (none))) kNo) kNo) kNo = nx σ' := by
  obtain ⟨b, σ4, e, h1, h2, h3⟩ := rl_get hm
  refine ⟨σ4, h1, ?_⟩
  rw [hw]
  show kBhl (mo σ2) _ _ = _
  rw [e]
  show (if σ4.1 48 0 0 = k then (if k = 0 then (if lg_cmp (σ4.2 90 0 0) b = 0 then nx σ4 else none) else nx σ4) else none) = _
  rw [if_pos h2]
  by_cases h0 : k = 0
  · rw [if_pos h0, if_pos (x_cmp (h3 h0))]
  · rw [if_neg h0]
theorem top_p {nx : kS → Option kR} {wv : Option kR} {mo : kS → Option kR} {k : Int32} {σ2 : kS} (hw : wv = some (.inl (some (.int k)), σ2)) (hm : RI (mo σ2) (fun b σ4 => Inv σ4.1 ∧ k = b)) : ∃ σ', Inv σ'.1 ∧ kBhi wv (fun c1 σ2 => kBhi (mo σ2) (fun c3 σ4 => (if c1 = c3 then (nx σ4) else (none))) kNo) kNo = nx σ' := by
  obtain ⟨b, σ4, e, h1, h2⟩ := ri_get hm
  refine ⟨σ4, h1, ?_⟩
  rw [hw]
  show kBhi (mo σ2) _ _ = _
  rw [e]
  show (if k = b then nx σ4 else none) = _
  rw [if_pos h2]
theorem m_fires {F : Nat} (hF : 2000 ≤ F) {σ : kS} {sec a3 : Int32} {Q : Option Value → kS → Prop} (hnx : ∀ rr, Rn (f_X6_state_b72 F rr (sec, a3, ltS (σ.1 66 0) sec 8, 8) σ) Q) : Rn (kFix (f_X6_state_b72 F) F (sec, a3, 0, 0) σ) Q := by
  refine n_fix (fun n x σ' => ∃ j, x = (sec, a3, ltS (σ.1 66 0) sec j, nI j) ∧ j ≤ 8 ∧ n = 8 - j ∧ σ' = σ) ?_ F 8 _ σ (by omega) ⟨0, rfl, by omega, rfl, rfl⟩
  rintro rr n x σ' ⟨j, rfl, hj, rfl, rfl⟩ ih
  by_cases k8 : j = 8
  · subst k8
    exact hnx rr
  · unfold f_X6_state_b72 f_X6_state_b96
    dsimp only
    refine n_f (by show ¬ nI 8 ≤ nI j; rw [nJ_le (by omega) (by omega)]; omega) ?_
    rw [m_lit (by omega), s_bi, nI_s (by omega)]
    have e : ltS (σ'.1 66 0) sec (j + 1) = ltS (σ'.1 66 0) sec j + litI (σ'.1 66 0 j) sec := rfl
    refine n_if (fun q1 => n_b (ih (8 - (j + 1)) _ _ (by omega) ⟨j + 1, ?_, by omega, rfl, rfl⟩)) (fun q1 => n_b (ih (8 - (j + 1)) _ _ (by omega) ⟨j + 1, ?_, by omega, rfl, rfl⟩))
    · rw [e, q1]
    · rw [e, litI_01.resolve_left q1]
theorem ltS_cg {f g : Nat → Int32} {sec : Int32} : ∀ {n : Nat}, (∀ c, c < n → f c = g c) → ltS f sec n = ltS g sec n
  | 0, _ => rfl
  | n + 1, h => by
    show ltS f sec n + litI (f n) sec = ltS g sec n + litI (g n) sec
    rw [ltS_cg (fun c hc => h c (by omega)), h n (by omega)]
theorem g_state' {F : Nat} (hF : 2000 ≤ F) (a1 a2 a3 : Int32) : Good (q_state F a1 a2 a3) := by
  intro nx σ h
  obtain ⟨ht, hr⟩ := inv_told h
  by_cases c1 : 0 ≤ a1 ∧ a1 < σ.1 48 0 13
  · by_cases c2 : 0 ≤ a2 ∧ a2 ≤ 99
    · have c1' : 0 ≤ a1 ∧ a1 < σ.1 0 0 5 := by rw [ht]; exact c1
      obtain ⟨w, σ1, hw6, rfl, hkw, e1, i1, e13, m1, fm, m2, f1⟩ := pre_film hF h c1
      obtain ⟨s, hs, rfl⟩ := r_nI (b := 99) c2 (by omega)
      have hks : kin (nI s) 100 := (nI_kin (by omega)).mpr (by omega)
      have es : (nI s).toNatClampNeg = s := nI_c (by omega)
      by_cases c3 : 0 ≤ a3 ∧ a3 ≤ 7
      · obtain ⟨k, hk, rfl⟩ := r_nI (b := 7) c3 (by omega)
        obtain ⟨f1, f2, f3, f4, f5, f6⟩ := fm
        obtain ⟨p1, p2, p3, p4, p5⟩ := f1 s (by omega)
        have hgo : ∀ v : Int32, f_X5_state F (nI w) (nI s) (nI k) σ = some (.inl (some (.int v)), σ1) → (∀ σ4 : kS, refR σ4.1 (setS (yOf σ1.1 (w + 2)) (yn (yOf σ1.1 (w + 2))) (σ1.1 61 0)) (σ1.1 62 0) (yOf σ1.1 (w + 2)) → ∀ rr, RI (f_X6_state_b72 F rr (nI s, nI k, ltS (σ4.1 66 0) (nI s) 8, 8) σ4) (fun b σ5 => b = v ∧ σ5 = σ4)) → ∃ σ', Inv σ'.1 ∧ q_state F (nI w) (nI s) (nI k) nx σ = nx σ' := by
          intro v hcl hre
          refine top_i (k := 0) (σ2 := kUL σ1 90 0 0 v.toInt64) (by unfold w_state; rw [hcl]; rfl) ?_
          unfold f_X6_state
          simp only [s_b, e_whyU (σ := σ1) (by rw [e13]; exact hr), s_bi, if10, f_X6_state_b19, z_bad0 rfl, if0, if_true, x_in, f_X6_state_b52, if_pos c2, if_pos c3, e13, if_pos c1]
          refine n_bv (e_runs hF i1 hw6 (by rw [e13]; exact c1.2)) ?_
          rintro σ4 ⟨g1, g2, g3, g4, g5⟩
          refine m_fires hF (fun rr => ri_mono (hre σ4 g1 rr) ?_)
          rintro b σ5 ⟨rfl, rfl⟩
          exact ⟨g2, g4, fun _ => g5⟩
        have hk8 : k = 0 ∨ k = 1 ∨ k = 2 ∨ k = 3 ∨ k = 4 ∨ k = 5 ∨ k = 6 ∨ k = 7 := by omega
        rcases hk8 with rfl | rfl | rfl | rfl | rfl | rfl | rfl | rfl
        · refine hgo (σ1.1 41 w s) ?_ ?_
          · unfold f_X5_state
            rw [t_why, if_pos c1', s_bv, t_with, if_pos c2, s_bv, e1, s_br hkw, nI_c (a := w) (by omega), if_pos (by decide), kg_t hks, es]
          · intro σ4 rf rr
            obtain ⟨q1, q2, q3, q4, q5⟩ := rf.1 s (by omega)
            unfold f_X6_state_b72
            dsimp only
            refine n_t (by decide) (n_t rfl (n_g hks (n_i ⟨?_, rfl⟩)))
            rw [es, q1, p1, runS]
        · refine hgo (σ1.1 42 w s) ?_ ?_
          · unfold f_X5_state
            rw [t_why, if_pos c1', s_bv, t_with, if_pos c2, s_bv, e1, s_br hkw, nI_c (a := w) (by omega), if_neg (by decide), if_pos (by decide), kg_t hks, es]
          · intro σ4 rf rr
            obtain ⟨q1, q2, q3, q4, q5⟩ := rf.1 s (by omega)
            unfold f_X6_state_b72
            dsimp only
            refine n_t (by decide) (n_f (by decide) (n_t rfl (n_g hks (n_i ⟨?_, rfl⟩))))
            rw [es, q2, p2, runS]
        · refine hgo (σ1.1 43 w s) ?_ ?_
          · unfold f_X5_state
            rw [t_why, if_pos c1', s_bv, t_with, if_pos c2, s_bv, e1, s_br hkw, nI_c (a := w) (by omega), if_neg (by decide), if_neg (by decide), if_pos (by decide), kg_t hks, es]
          · intro σ4 rf rr
            obtain ⟨q1, q2, q3, q4, q5⟩ := rf.1 s (by omega)
            unfold f_X6_state_b72
            dsimp only
            refine n_t (by decide) (n_f (by decide) (n_f (by decide) (n_t rfl (n_g hks (n_i ⟨?_, rfl⟩)))))
            rw [es, q3, p3, runS]
        · refine hgo (σ1.1 42 w s - σ1.1 43 w s) ?_ ?_
          · unfold f_X5_state
            rw [t_why, if_pos c1', s_bv, t_with, if_pos c2, s_bv, e1, s_br hkw, nI_c (a := w) (by omega), if_neg (by decide), if_neg (by decide), if_neg (by decide), if_pos (by decide), c_gap (by omega), s_bi]
          · intro σ4 rf rr
            obtain ⟨q1, q2, q3, q4, q5⟩ := rf.1 s (by omega)
            unfold f_X6_state_b72
            dsimp only
            refine n_t (by decide) (n_f (by decide) (n_f (by decide) (n_f (by decide) (n_t rfl (n_g hks (n_g hks (n_i ⟨?_, rfl⟩)))))))
            rw [es, q2, q3, p2, p3, runS]
        · refine hgo (σ1.1 44 w s) ?_ ?_
          · unfold f_X5_state
            rw [t_why, if_pos c1', s_bv, t_with, if_pos c2, s_bv, e1, s_br hkw, nI_c (a := w) (by omega), if_neg (by decide), if_neg (by decide), if_neg (by decide), if_neg (by decide), if_pos (by decide), kg_t hks, es]
          · intro σ4 rf rr
            obtain ⟨q1, q2, q3, q4, q5⟩ := rf.1 s (by omega)
            unfold f_X6_state_b72
            dsimp only
            refine n_t (by decide) (n_f (by decide) (n_f (by decide) (n_f (by decide) (n_f (by decide) (n_t rfl (n_g hks (n_i ⟨?_, rfl⟩)))))))
            rw [es, q4, p4, runS]
        · refine hgo (sumS (runS (σ1.1 61 0) (σ1.1 62 0) (yOf σ1.1 (w + 2)) (s + 1)).2.1 8) ?_ ?_
          · unfold f_X5_state
            rw [t_why, if_pos c1', s_bv, t_with, if_pos c2, s_bv, e1, s_br hkw, nI_c (a := w) (by omega), if_neg (by decide), if_neg (by decide), if_neg (by decide), if_neg (by decide), if_neg (by decide), if_pos (by decide), c_allGas hF (by omega) (fun c hc => (p5 c hc).1), s_bi]
          · intro σ4 rf rr
            obtain ⟨q1, q2, q3, q4, q5⟩ := rf.1 s (by omega)
            unfold f_X6_state_b72
            dsimp only
            refine n_t (by decide) (n_f (by decide) (n_f (by decide) (n_f (by decide) (n_f (by decide) (n_f (by decide) (n_t rfl ?_))))))
            rw [m_allGas hF (by omega) (fun c hc => (q5 c hc).1), s_bi, runS]
            exact n_i ⟨rfl, rfl⟩
        · refine hgo (hvS (runS (σ1.1 61 0) (σ1.1 62 0) (yOf σ1.1 (w + 2)) (s + 1)).2.1 8) ?_ ?_
          · unfold f_X5_state
            rw [t_why, if_pos c1', s_bv, t_with, if_pos c2, s_bv, e1, s_br hkw, nI_c (a := w) (by omega), if_neg (by decide), if_neg (by decide), if_neg (by decide), if_neg (by decide), if_neg (by decide), if_neg (by decide), if_pos (by decide), c_heavy hF (by omega) (fun c hc => (p5 c hc).1), s_bi]
          · intro σ4 rf rr
            obtain ⟨q1, q2, q3, q4, q5⟩ := rf.1 s (by omega)
            unfold f_X6_state_b72
            dsimp only
            refine n_t (by decide) (n_f (by decide) (n_f (by decide) (n_f (by decide) (n_f (by decide) (n_f (by decide) (n_f (by decide) (n_t rfl ?_)))))))
            rw [m_heavy hF (by omega) (fun c hc => (q5 c hc).1), s_bi, runS]
            exact n_i ⟨rfl, rfl⟩
        · refine hgo (ltS (σ1.1 47 w) (nI s) 8) ?_ ?_
          · unfold f_X5_state
            rw [t_why, if_pos c1', s_bv, t_with, if_pos c2, s_bv, e1, s_br hkw, nI_c (a := w) (by omega), if_neg (by decide), if_neg (by decide), if_neg (by decide), if_neg (by decide), if_neg (by decide), if_neg (by decide), if_neg (by decide), if_pos (by decide), c_fires hF, s_bi]
          · intro σ4 rf rr
            unfold f_X6_state_b72
            dsimp only
            refine n_t (by decide) (n_f (by decide) (n_f (by decide) (n_f (by decide) (n_f (by decide) (n_f (by decide) (n_f (by decide) (n_f (by decide) (n_i ⟨?_, rfl⟩))))))))
            refine ltS_cg (fun c hc => ?_)
            rw [rf.2.1 c hc, f2 c hc, runS]
      · have hcl : f_X5_state F (nI w) (nI s) a3 σ = some (.inr "java/lang/IllegalArgumentException", σ1) := by
          unfold f_X5_state
          rw [t_why, if_pos c1', s_bv, t_with, if_pos c2, s_bv, e1, s_br hkw, if_neg, if_neg, if_neg, if_neg, if_neg, if_neg, if_neg, if_neg]
          all_goals (intro z; subst z; exact c3 (by decide))
        refine top_i (k := 2) (σ2 := σ1) (by unfold w_state; rw [hcl]; rfl) ?_
        unfold f_X6_state
        simp only [s_b, e_why (σ := σ1) (by rw [e13]; exact hr), s_bi, if10, f_X6_state_b19, z_bad0 rfl, if0, if_true, x_in, f_X6_state_b47, f_X6_state_b52, if_pos c2, if_neg c3, e13, if_pos c1, z_bad1 two_ne, if1, if_neg two_ne, f_X6_state_b59]
        exact n_i ⟨thr_inv i1, z_thr, fun z => absurd z two_ne⟩
    · have c1' : 0 ≤ a1 ∧ a1 < σ.1 0 0 5 := by rw [ht]; exact c1
      have hcl : f_X5_state F a1 a2 a3 σ = some (.inr "java/lang/IllegalArgumentException", σ) := by
        unfold f_X5_state
        rw [t_why, if_pos c1', s_bv, t_with, if_neg c2, s_xv]
      refine top_i (k := 2) (σ2 := σ) (by unfold w_state; rw [hcl]; rfl) ?_
      unfold f_X6_state
      simp only [s_b, e_why (σ := σ) hr, s_bi, if10, f_X6_state_b19, z_bad0 rfl, if0, if_true, x_in, f_X6_state_b47, f_X6_state_b52, if_neg c2, if_pos c1, z_bad1 two_ne, if1, if_neg two_ne, f_X6_state_b59]
      exact n_i ⟨thr_inv h, z_thr, fun z => absurd z two_ne⟩
  · have c1' : ¬ (0 ≤ a1 ∧ a1 < σ.1 0 0 5) := by rw [ht]; exact c1
    have hcl : f_X5_state F a1 a2 a3 σ = some (.inr "java/util/NoSuchElementException", σ) := by
      unfold f_X5_state
      rw [t_why, if_neg c1', s_xv]
    refine top_i (k := 1) (σ2 := σ) (by unfold w_state; rw [hcl]; rfl) ?_
    unfold f_X6_state
    simp only [s_b, e_why (σ := σ) hr, s_bi, if10, f_X6_state_b19, if_neg c1, z_bad1 one_ne, if1, f_X6_state_b59]
    exact n_i ⟨thr_inv h, z_thr, fun z => absurd z one_ne⟩
