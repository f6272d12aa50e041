/-! CALLS THAT ASK A RUN. -/
theorem s_br {r : Int32} {σ : kS} {f : Nat → kS → Option kR} (h : kin r 6) : kBr (some (.inl (some (.int r)), σ)) f = f r.toNatClampNeg σ := kg_t h
theorem top_i {F : Nat} {nx : kS → Option kR} {wv : Option kR} {mo : kS → Option kR} {k : Int32} {σ2 : kS} (hw : wv = some (.inl (some (.int k)), σ2)) (hm : RI (mo σ2) (fun b σ4 => Inv σ4.1 ∧ σ4.1 48 0 0 = k ∧ (k = 0 → σ4.2 90 0 0 = b.toInt64))) : ∃ σ', Inv σ'.1 ∧ kBhi wv (fun c1 σ2 => kBhi (mo σ2) (fun c3 σ4 => kBhi (f_X6_thrown F σ4) (fun c5 σ6 => (if c5 = c1 then ((if c1 = 0 then ((if (lg_cmp (σ6.2 90 0 0) (c3).toInt64) = 0 then (nx σ6) else (none))) else (nx σ6))) else (none))) kNo) kNo) kNo = nx σ' := by
  obtain ⟨b, σ4, e, h1, h2, h3⟩ := ri_get hm
  exact ⟨σ4, h1, q_iF hw e h2 h3⟩
/-- the state in which the reference begins -/
abbrev ent (σ : kS) (v : Int64) : kS := kU (kUL σ 90 0 0 v) 48 0 0 0
theorem ent_inv {σ : kS} {v : Int64} (h : Inv σ.1) : Inv (ent σ v).1 := Inv_thr (σ := kUL σ 90 0 0 v) h
theorem ent_1 {σ : kS} {v : Int64} {g : Nat} (h : g ≠ 48) : (ent σ v).1 g = σ.1 g := kU_g h
theorem ent_48 {σ : kS} {v : Int64} {k : Nat} (h : k ≠ 0) : (ent σ v).1 48 0 k = σ.1 48 0 k := kU_k h
theorem ent_2 {σ : kS} {v : Int64} : (ent σ v).2 90 0 0 = v := by
  simp [kU, kUL]
theorem ent_y {σ : kS} {v : Int64} {i : Nat} : yOf (ent σ v).1 i = yOf σ.1 i := by
  unfold yOf
  rw [ent_1 (by decide), ent_1 (by decide), ent_1 (by decide), ent_1 (by decide), ent_1 (by decide), ent_1 (by decide), ent_1 (by decide), ent_1 (by decide)]
theorem i_runs {F : Nat} (hF : 2000 ≤ F) {σ : kS} (h : Inv σ.1) {w : Nat} (hw6 : w < 6) (hw : nI w < σ.1 48 0 13) : RV (f_X6_runs F (nI w) σ) (fun σ4 => refR σ4.1 (setS (yOf σ.1 (w + 2)) (yn (yOf σ.1 (w + 2))) (σ.1 61 0)) (σ.1 62 0) (yOf σ.1 (w + 2)) ∧ Inv σ4.1 ∧ Fr sR σ σ4) := by
  refine rv_mono (v_runs hF (rOK_inv h hw6 hw) (now_inv h) (inv_n h).2.2) ?_
  rintro σ4 ⟨h1, h2⟩
  exact ⟨h1, Inv_sR h2 h, h2⟩
theorem e_runs {F : Nat} (hF : 2000 ≤ F) {σ : kS} (h : Inv σ.1) {w : Nat} (hw6 : w < 6) (hw : nI w < σ.1 48 0 13) {v : Int64} : RV (f_X6_runs F (nI w) (ent σ v)) (fun σ4 => refR σ4.1 (setS (yOf σ.1 (w + 2)) (yn (yOf σ.1 (w + 2))) (σ.1 61 0)) (σ.1 62 0) (yOf σ.1 (w + 2)) ∧ Inv σ4.1 ∧ Fr sR (ent σ v) σ4 ∧ σ4.1 48 0 0 = 0 ∧ σ4.2 90 0 0 = v) := by
  refine rv_mono (i_runs hF (ent_inv h) hw6 (by rw [ent_48 (by decide)]; exact hw)) ?_
  rintro σ4 ⟨h1, h2, h3⟩
  rw [ent_1 (by decide), ent_1 (by decide), ent_y] at h1
  exact ⟨h1, h2, h3, (h3.1 48 0 0 rfl).trans z_thr, by rw [h3.2]; exact ent_2⟩
theorem thr_inv {σ : kS} {k : Int32} (h : Inv σ.1) : Inv (kU (kU σ 48 0 0 0) 48 0 0 k).1 := Inv_thr (Inv_thr h)
theorem e_why {F : Nat} {a : Int32} {σ : kS} (h : rng (σ.1 48 0 13) 0 6) : f_X6_isWhy F a (kU σ 48 0 0 0) = some (.inl (some (.int (if 0 ≤ a ∧ a < σ.1 48 0 13 then 1 else 0))), kU σ 48 0 0 0) := x_isWhy F a (σ := kU σ 48 0 0 0) h
theorem e_whyU {F : Nat} {a : Int32} {σ : kS} {v : Int64} (h : rng (σ.1 48 0 13) 0 6) : f_X6_isWhy F a (kU (kUL σ 90 0 0 v) 48 0 0 0) = some (.inl (some (.int (if 0 ≤ a ∧ a < σ.1 48 0 13 then 1 else 0))), kU (kUL σ 90 0 0 v) 48 0 0 0) := e_why (σ := kUL σ 90 0 0 v) h
theorem one_ne : (1 : Int32) ≠ 0 := by decide
theorem two_ne : (2 : Int32) ≠ 0 := by decide
theorem three_ne : (3 : Int32) ≠ 0 := by decide
theorem g_run' {F : Nat} (hF : 2000 ≤ F) (a1 a2 : Int32) : Good (q_run F a1 a2) := by
  intro nx σ h
  obtain ⟨ht, hr⟩ := inv_told h
  by_cases c1 : 0 ≤ a1 ∧ a1 < σ.1 48 0 13
  · obtain ⟨w, hw6, rfl⟩ := nI_ex (n := 6) (kin_of (n := 6) c1.1 c1.2 hr.2)
    have c1' : 0 ≤ nI w ∧ nI w < σ.1 0 0 5 := by rw [ht]; exact c1
    obtain ⟨r, σ1, e1, rfl, i1, m1, m2, f1⟩ := ri_get (v_film hF h hw6 c1.2)
    have hkw : kin (nI w) 6 := (nI_kin (by omega)).mpr hw6
    have e13 : σ1.1 48 0 13 = σ.1 48 0 13 := f1.1 48 0 13 rfl
    have fm := inv_film i1 hw6 m1
    by_cases c2 : 0 ≤ a2 ∧ a2 ≤ 3
    · have hcl : ∃ v, f_X5_run F (nI w) a2 σ = some (.inl (some (.int v)), σ1) ∧ v = (if a2 = 0 then σ1.1 40 w 8 else if a2 = 1 then σ1.1 40 w 9 else if a2 = 2 then σ1.1 40 w 10 else σ1.1 40 w 11) := by
        refine ⟨_, ?_, rfl⟩
        unfold f_X5_run
        rw [t_why, if_pos c1', s_bv, e1, s_br hkw, nI_c (by omega)]
        by_cases z0 : a2 = 0
        · rw [if_pos z0, if_pos z0]
        by_cases z1 : a2 = 1
        · rw [if_neg z0, if_pos z1, if_neg z0, if_pos z1]
        by_cases z2 : a2 = 2
        · rw [if_neg z0, if_neg z1, if_pos z2, if_neg z0, if_neg z1, if_pos z2]
        have z3 : a2 = 3 := by
          rw [i_le, i_le] at c2
          rw [i_eq] at z0 z1 z2 ⊢
          have d1 : 0 ≤ a2.toInt := c2.1
          have d2 : a2.toInt ≤ 3 := c2.2
          have d3 : a2.toInt ≠ 0 := z0
          have d4 : a2.toInt ≠ 1 := z1
          have d5 : a2.toInt ≠ 2 := z2
          show a2.toInt = 3
          omega
        rw [if_neg z0, if_neg z1, if_neg z2, if_pos z3, if_neg z0, if_neg z1, if_neg z2]
      obtain ⟨v, hcl, hv⟩ := hcl
      refine top_i (k := 0) (σ2 := kUL σ1 90 0 0 v.toInt64) (by unfold w_run; rw [hcl]; rfl) ?_
      unfold f_X6_run
      simp only [s_b, e_whyU (σ := σ1) (by rw [e13]; exact hr), s_bi, if10, f_X6_run_b19, z_bad0 rfl, if0, if_true, x_in, f_X6_run_b41, if_pos c2, e13, if_pos c1]
      refine n_bv (e_runs hF i1 hw6 (by rw [e13]; exact c1.2)) ?_
      rintro σ4 ⟨g1, g2, g3, g4, g5⟩
      obtain ⟨f1, f2, f3, f4, f5, f6⟩ := fm
      obtain ⟨r1, r2, r3, r4, r5⟩ := g1
      unfold f_X6_run_b94
      rw [f3, f4, f5, f6] at hv
      by_cases z0 : a2 = 0
      · rw [if_pos z0]
        rw [if_pos z0] at hv
        exact n_i ⟨g2, g4, fun _ => by rw [g5, hv, r3, runS]⟩
      rw [if_neg z0]
      rw [if_neg z0] at hv
      by_cases z1 : a2 = 1
      · rw [if_pos z1]
        rw [if_pos z1] at hv
        exact n_i ⟨g2, g4, fun _ => by rw [g5, hv, r4, runS]⟩
      rw [if_neg z1]
      rw [if_neg z1] at hv
      by_cases z2 : a2 = 2
      · rw [if_pos z2]
        rw [if_pos z2] at hv
        exact n_i ⟨g2, g4, fun _ => by rw [g5, hv, r5, runS]⟩
      rw [if_neg z2]
      rw [if_neg z2] at hv
      rw [m_lasted r3 r5, s_bi]
      exact n_i ⟨g2, g4, fun _ => by rw [g5, hv, runS]⟩
    · have hcl : f_X5_run F (nI w) a2 σ = some (.inr "java/lang/IllegalArgumentException", σ1) := by
        unfold f_X5_run
        rw [t_why, if_pos c1', s_bv, e1, s_br hkw, nI_c (by omega), if_neg, if_neg, if_neg, if_neg]
        · intro z; subst z; exact c2 (by decide)
        · intro z; subst z; exact c2 (by decide)
        · intro z; subst z; exact c2 (by decide)
        · intro z; subst z; exact c2 (by decide)
      refine top_i (k := 2) (σ2 := σ1) (by unfold w_run; rw [hcl]; rfl) ?_
      unfold f_X6_run
      simp only [s_b, e_why (σ := σ1) (by rw [e13]; exact hr), s_bi, if10, f_X6_run_b19, z_bad0 rfl, if0, if_true, x_in, f_X6_run_b41, if_neg c2, e13, if_pos c1, z_bad1 two_ne, if1, if_neg two_ne, f_X6_run_b48]
      exact n_i ⟨thr_inv i1, z_thr, fun z => absurd z two_ne⟩
  · have c1' : ¬ (0 ≤ a1 ∧ a1 < σ.1 0 0 5) := by rw [ht]; exact c1
    have hcl : f_X5_run F a1 a2 σ = some (.inr "java/util/NoSuchElementException", σ) := by
      unfold f_X5_run
      rw [t_why, if_neg c1', s_xv]
    refine top_i (k := 1) (σ2 := σ) (by unfold w_run; rw [hcl]; rfl) ?_
    unfold f_X6_run
    simp only [s_b, e_why (σ := σ) hr, s_bi, if10, f_X6_run_b19, if_neg c1, z_bad1 one_ne, if1, f_X6_run_b48]
    exact n_i ⟨thr_inv h, z_thr, fun z => absurd z one_ne⟩
