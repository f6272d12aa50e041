/-! CELL, SAYS, BURNT, ORDER. -/
theorem g_cell' {F : Nat} (hF : 2000 ≤ F) (a1 a2 a3 a4 : Int32) : Good (q_cell F a1 a2 a3 a4) := by
  intro nx σ h
  obtain ⟨ht, hr⟩ := inv_told h
  by_cases c1 : 0 ≤ a1 ∧ a1 < σ.1 48 0 13
  · have c1' : 0 ≤ a1 ∧ a1 < σ.1 0 0 5 := by rw [ht]; exact c1
    by_cases c3 : 0 ≤ a3 ∧ a3 ≤ 7
    · by_cases c2 : 0 ≤ a2 ∧ a2 ≤ 99
      · by_cases c4 : 0 ≤ a4 ∧ a4 ≤ 2
        · obtain ⟨w, σ1, hw6, rfl, hkw, e1, i1, e13, m1, fm, m2, f1⟩ := pre_film hF h c1
          obtain ⟨s, hs, rfl⟩ := r_nI (b := 99) c2 (by omega)
          obtain ⟨c, hc, rfl⟩ := r_nI (b := 7) c3 (by omega)
          have hks : kin (nI s) 100 := (nI_kin (by omega)).mpr (by omega)
          have hkc : kin (nI c) 8 := (nI_kin (by omega)).mpr (by omega)
          have hkp : kin (nI (8 * s + c)) 800 := (nI_kin (by omega)).mpr (by omega)
          have es : (nI s).toNatClampNeg = s := nI_c (by omega)
          have ec : (nI c).toNatClampNeg = c := nI_c (by omega)
          obtain ⟨f1, f2, f3, f4, f5, f6⟩ := fm
          obtain ⟨p1, p2, p3, p4, p5⟩ := f1 s (by omega)
          have hcl : ∃ v, f_X5_cell F (nI w) (nI s) (nI c) a4 σ = some (.inl (some (.int v)), σ1) ∧ v = (if a4 = 2 then (if litI (σ1.1 47 w c) (nI s) = 0 then -1 else σ1.1 47 w c) else if a4 = 0 then σ1.1 45 w (8 * s + c) else σ1.1 46 w (8 * s + c)) := by
            refine ⟨_, ?_, rfl⟩
            unfold f_X5_cell f_X5_cell_b57 f_X5_cell_b90
            rw [t_why, if_pos c1', s_bv, t_cell, if_pos c3, s_bv, t_with, if_pos c2, s_bv, t_with, if_pos c4, s_bv, e1, s_br hkw, nI_c (a := w) (by omega), c_lit (by omega), s_bi, nI_8 (by omega) (by omega), ec, kg_t hkc, s_b, kg_t hkp, kg_t hkp, nI_c (a := 8 * s + c) (by omega)]
            by_cases z : a4 = 2
            · rw [if_pos z, if_pos z]
              by_cases z2 : litI (σ1.1 47 w c) (nI s) = 0
              · rw [if_pos z2, if_pos z2]
              · rw [if_neg z2, if_neg z2]
            · rw [if_neg z, if_neg z]
              by_cases z2 : a4 = 0
              · rw [if_pos z2, if_pos z2]
              · rw [if_neg z2, if_neg z2]
          obtain ⟨v, hcl, hv⟩ := hcl
          refine top_i (k := 0) (σ2 := kUL σ1 90 0 0 v.toInt64) (by unfold w_cell; rw [hcl]; rfl) ?_
          unfold f_X6_cell
          simp only [s_b, e_whyU (σ := σ1) (by rw [e13]; exact hr), s_bi, if10, f_X6_cell_b19, z_bad0 rfl, if0, if_true, x_in, f_X6_cell_b42, f_X6_cell_b75, if_pos c2, if_pos c3, if_pos c4, e13, if_pos c1]
          refine n_bv (e_runs hF i1 hw6 (by rw [e13]; exact c1.2)) ?_
          rintro σ4 ⟨g1, g2, g3, g4, g5⟩
          obtain ⟨r1, r2, r3, r4, r5⟩ := g1
          obtain ⟨q1, q2, q3, q4, q5⟩ := r1 s (by omega)
          unfold f_X6_cell_b141
          rw [es, ec, m_lit (by omega), s_bi]
          rw [f2 c (by omega), (p5 c (by omega)).1, (p5 c (by omega)).2] at hv
          by_cases z0 : a4 = 0
          · refine n_t z0 (n_g hks (n_g hkc (n_i ⟨g2, g4, fun _ => ?_⟩)))
            rw [g5, hv, if_neg (by rw [z0]; decide), if_pos z0, (q5 c (by omega)).1, runS]
          refine n_f z0 ?_
          by_cases z1 : a4 = 1
          · refine n_t z1 (n_g hks (n_g hkc (n_i ⟨g2, g4, fun _ => ?_⟩)))
            rw [g5, hv, if_neg (by rw [z1]; decide), if_neg z0, (q5 c (by omega)).2, runS]
          refine n_f z1 ?_
          have z2 : a4 = 2 := by
            rw [i_le, i_le] at c4
            rw [i_eq] at z0 z1 ⊢
            have d1 : 0 ≤ a4.toInt := c4.1
            have d2 : a4.toInt ≤ 2 := c4.2
            have d3 : a4.toInt ≠ 0 := z0
            have d4 : a4.toInt ≠ 1 := z1
            show a4.toInt = 2
            omega
          rw [if_pos z2, runS] at hv
          rw [r2 c (by omega)]
          refine n_if (fun z3 => n_i ⟨g2, g4, fun _ => ?_⟩) (fun z3 => n_g hkc (n_i ⟨g2, g4, fun _ => ?_⟩))
          · rw [g5, hv, if_pos z3]
          · rw [g5, hv, if_neg z3]
        · have hcl : f_X5_cell F a1 a2 a3 a4 σ = some (.inr "java/lang/IllegalArgumentException", σ) := by
            unfold f_X5_cell
            rw [t_why, if_pos c1', s_bv, t_cell, if_pos c3, s_bv, t_with, if_pos c2, s_bv, t_with, if_neg c4, s_xv]
          refine top_i (k := 3) (σ2 := σ) (by unfold w_cell; rw [hcl]; rfl) ?_
          unfold f_X6_cell
          simp only [s_b, e_why (σ := σ) hr, s_bi, if10, f_X6_cell_b19, z_bad0 rfl, if0, if_true, x_in, f_X6_cell_b42, f_X6_cell_b70, f_X6_cell_b75, if_pos c2, if_pos c3, if_neg c4, if_pos c1, z_bad1 three_ne, if1, if_neg three_ne, f_X6_cell_b82]
          exact n_i ⟨thr_inv h, z_thr, fun z => absurd z three_ne⟩
      · have hcl : f_X5_cell F a1 a2 a3 a4 σ = some (.inr "java/lang/IllegalArgumentException", σ) := by
          unfold f_X5_cell
          rw [t_why, if_pos c1', s_bv, t_cell, if_pos c3, s_bv, t_with, if_neg c2, s_xv]
        refine top_i (k := 3) (σ2 := σ) (by unfold w_cell; rw [hcl]; rfl) ?_
        unfold f_X6_cell
        simp only [s_b, e_why (σ := σ) hr, s_bi, if10, f_X6_cell_b19, z_bad0 rfl, if0, if_true, x_in, f_X6_cell_b42, f_X6_cell_b70, f_X6_cell_b75, if_neg c2, if_pos c3, if_pos c1, z_bad1 three_ne, if1, if_neg three_ne, f_X6_cell_b82]
        exact n_i ⟨thr_inv h, z_thr, fun z => absurd z three_ne⟩
    · have hcl : f_X5_cell F a1 a2 a3 a4 σ = some (.inr "java/lang/IndexOutOfBoundsException", σ) := by
        unfold f_X5_cell
        rw [t_why, if_pos c1', s_bv, t_cell, if_neg c3, s_xv]
      refine top_i (k := 2) (σ2 := σ) (by unfold w_cell; rw [hcl]; rfl) ?_
      unfold f_X6_cell
      simp only [s_b, e_why (σ := σ) hr, s_bi, if10, f_X6_cell_b19, z_bad0 rfl, if0, if_true, x_in, f_X6_cell_b42, if_neg c3, if_pos c1, z_bad1 two_ne, if1, if_neg two_ne, f_X6_cell_b82]
      exact n_i ⟨thr_inv h, z_thr, fun z => absurd z two_ne⟩
  · have c1' : ¬ (0 ≤ a1 ∧ a1 < σ.1 0 0 5) := by rw [ht]; exact c1
    have hcl : f_X5_cell F a1 a2 a3 a4 σ = some (.inr "java/util/NoSuchElementException", σ) := by
      unfold f_X5_cell
      rw [t_why, if_neg c1', s_xv]
    refine top_i (k := 1) (σ2 := σ) (by unfold w_cell; rw [hcl]; rfl) ?_
    unfold f_X6_cell
    simp only [s_b, e_why (σ := σ) hr, s_bi, if10, f_X6_cell_b19, if_neg c1, z_bad1 one_ne, if1, f_X6_cell_b82]
    exact n_i ⟨thr_inv h, z_thr, fun z => absurd z one_ne⟩
theorem g_burnt' {F : Nat} (hF : 2000 ≤ F) (a1 : Int32) : Good (q_burnt F a1) := by
  intro nx σ h
  obtain ⟨ht, hr⟩ := inv_told h
  by_cases c1 : 0 ≤ a1 ∧ a1 < σ.1 48 0 13
  · have c1' : 0 ≤ a1 ∧ a1 < σ.1 0 0 5 := by rw [ht]; exact c1
    obtain ⟨w, hw6, rfl⟩ := nI_ex (n := 6) (kin_of (n := 6) c1.1 c1.2 hr.2)
    obtain ⟨v, σ1, e1, hv, i1, m1, f1⟩ := ri_get (v_burnt hF h hw6 c1.2)
    have e13 : σ1.1 48 0 13 = σ.1 48 0 13 := f1.1 48 0 13 rfl
    have hcl : f_X5_burnt F (nI w) σ = some (.inl (some (.int v)), σ1) := by
      unfold f_X5_burnt
      rw [t_why, if_pos c1', s_bv, e1, s_bi]
    refine top_i (k := 0) (σ2 := kUL σ1 90 0 0 v.toInt64) (by unfold w_burnt; rw [hcl]; rfl) ?_
    unfold f_X6_burnt
    simp only [s_b, e_whyU (σ := σ1) (by rw [e13]; exact hr), s_bi, if10, f_X6_burnt_b19, z_bad0 rfl, if0, if_true, e13, if_pos c1]
    refine n_bi (v_burntOf hF (ent_inv i1) hw6 (by rw [ent_48 (by decide), e13]; exact c1.2)) ?_
    rintro r σ4 ⟨hr4, f4⟩
    refine n_i ⟨Inv_sB f4 (ent_inv i1), (f4.1 48 0 0 rfl).trans z_thr, fun _ => ?_⟩
    rw [f4.2, ent_2, hr4, hv, ent_1 (by decide), ent_1 (by decide), ent_1 (by decide), ent_y, ent_48 (by decide)]
    have e61 : σ1.1 61 = σ.1 61 := by funext i k; exact f1.1 61 i k rfl
    have e62 : σ1.1 62 = σ.1 62 := by funext i k; exact f1.1 62 i k rfl
    have e84 : σ1.1 84 = σ.1 84 := by funext i k; exact f1.1 84 i k rfl
    rw [e61, e62, e84, yOf_fr f1 sF_y, f1.1 48 0 44 rfl]
  · have c1' : ¬ (0 ≤ a1 ∧ a1 < σ.1 0 0 5) := by rw [ht]; exact c1
    have hcl : f_X5_burnt F a1 σ = some (.inr "java/util/NoSuchElementException", σ) := by
      unfold f_X5_burnt
      rw [t_why, if_neg c1', s_xv]
    refine top_i (k := 1) (σ2 := σ) (by unfold w_burnt; rw [hcl]; rfl) ?_
    unfold f_X6_burnt
    simp only [s_b, e_why (σ := σ) hr, s_bi, if10, f_X6_burnt_b19, if_neg c1, z_bad1 one_ne, if1]
    exact n_i ⟨thr_inv h, z_thr, fun z => absurd z one_ne⟩
theorem inv_rows {m : kM} (h : Inv m) : m 4 0 3 = m 48 0 43 ∧ rng (m 48 0 43) 0 10 ∧ (∀ r, r < 10 → m 24 0 r = m 82 r 0 ∧ m 25 0 r = m 82 r 1 ∧ m 26 0 r = m 82 r 2 ∧ m 27 0 r = m 82 r 3 ∧ m 28 0 r = m 82 r 4 ∧ m 29 0 r = m 82 r 5) ∧ ∀ r, r < 10 → rng (m 82 r 0) 0 5 ∧ rng (m 82 r 1) 0 99 ∧ rng (m 82 r 2) 0 7 ∧ rng (m 82 r 3) (-9999) 9999 ∧ rng (m 82 r 4) 0 8 ∧ rng (m 82 r 5) 0 99 := ⟨h.1.1.1, h.1.2.1, h.1.1.2.2.2.2.2.1, h.1.2.2.2.2.2.2.1⟩
theorem i_isSo {F : Nat} (hF : 2000 ≤ F) {σ : kS} (h : Inv σ.1) {w r : Nat} (hw6 : w < 6) (hr : r < 10) (hm : σ.1 40 w 0 = 1) : f_X5_isSo F w (nI r) σ = some (.inl (some (.int (soS (σ.1 61 0) (σ.1 62 0) (yOf σ.1 (w + 2)) (σ.1 82 r 0) (σ.1 82 r 1) (σ.1 82 r 2) (σ.1 82 r 3)))), σ) := by
  obtain ⟨-, -, r3, r4⟩ := inv_rows h
  obtain ⟨e0, e1, e2, e3, -⟩ := r3 r hr
  obtain ⟨-, k1, k2, -⟩ := r4 r hr
  rw [c_isSo hF hr (by rw [e1]; exact k1) (by rw [e2]; exact k2) (inv_film h hw6 hm), e0, e1, e2, e3]
theorem g_says' {F : Nat} (hF : 2000 ≤ F) (a1 a2 : Int32) : Good (q_says F a1 a2) := by
  intro nx σ h
  obtain ⟨ht, hr⟩ := inv_told h
  obtain ⟨t1, t2, t3, t4⟩ := inv_rows h
  by_cases c1 : 0 ≤ a1 ∧ a1 < σ.1 48 0 13
  · have c1' : 0 ≤ a1 ∧ a1 < σ.1 0 0 5 := by rw [ht]; exact c1
    by_cases c2 : 0 ≤ a2 ∧ a2 < σ.1 48 0 43
    · have c2' : 0 ≤ a2 ∧ a2 < σ.1 4 0 3 := by rw [t1]; exact c2
      have c2p : 0 ≤ a2 ∧ a2 ≤ σ.1 48 0 43 - 1 := ⟨c2.1, (le_pred ⟨t2.1, Int.le_trans t2.2 (by decide)⟩).mpr c2.2⟩
      obtain ⟨w, σ1, hw6, rfl, hkw, e1, i1, e13, m1, fm, m2, f1⟩ := pre_film hF h c1
      obtain ⟨r, hr10, rfl⟩ := nI_ex (n := 10) (kin_of (n := 10) c2.1 c2.2 t2.2)
      have e43 : σ1.1 48 0 43 = σ.1 48 0 43 := f1.1 48 0 43 rfl
      obtain ⟨v, hv⟩ : ∃ v, v = soS (σ1.1 61 0) (σ1.1 62 0) (yOf σ1.1 (w + 2)) (σ1.1 82 r 0) (σ1.1 82 r 1) (σ1.1 82 r 2) (σ1.1 82 r 3) := ⟨_, rfl⟩
      have hv01 : v = 0 ∨ v = 1 := by rw [hv]; exact soI_01
      have hcl : f_X5_says F (nI w) (nI r) σ = some (.inl (some (.int v)), σ1) := by
        unfold f_X5_says
        rw [t_why, if_pos c1', s_bv, t_row, if_pos c2', s_bv, e1, s_br hkw, nI_c (a := w) (by omega), i_isSo hF i1 hw6 hr10 m1, s_bi, ← hv, kg_t (b_01 hv01)]
      refine top_b (k := 0) (σ2 := kUL σ1 90 0 0 (if v = 0 then 0 else 1)) (by
        unfold w_says; rw [hcl, s_hi]
        by_cases z : v = 0
        · rw [if_pos z, if_pos z]; rfl
        · rw [if_neg z, if_neg z]; rfl) ?_
      unfold f_X6_says
      simp only [s_b, e_whyU (σ := σ1) (by rw [e13]; exact hr), s_bi, if10, f_X6_says_b19, z_bad0 rfl, if0, if_true, x_in, f_X6_says_b46, e13, if_pos c1, if1]
      rw [if_pos (by rw [ent_48 (by decide), e43]; exact c2p)]
      refine n_bv (e_runs hF i1 hw6 (by rw [e13]; exact c1.2)) ?_
      rintro σ4 ⟨g1, g2, g3, g4, g5⟩
      obtain ⟨-, -, -, t4'⟩ := inv_rows g2
      obtain ⟨-, k1, k2, -⟩ := t4' r hr10
      rw [m_isSo hF hr10 k1 k2 g1, s_bi]
      have e82 : σ4.1 82 = σ1.1 82 := by
        funext i k
        rw [g3.1 82 i k rfl, ent_1 (by decide)]
      rw [e82, ← hv]
      exact n_g (b_01 hv01) (n_i ⟨g2, g4, fun _ => g5⟩)
    · have c2' : ¬ (0 ≤ a2 ∧ a2 < σ.1 4 0 3) := by rw [t1]; exact c2
      have c2p : ¬ (0 ≤ a2 ∧ a2 ≤ σ.1 48 0 43 - 1) := fun z => c2 ⟨z.1, (le_pred ⟨t2.1, Int.le_trans t2.2 (by decide)⟩).mp z.2⟩
      have hcl : f_X5_says F a1 a2 σ = some (.inr "java/lang/IndexOutOfBoundsException", σ) := by
        unfold f_X5_says
        rw [t_why, if_pos c1', s_bv, t_row, if_neg c2', s_xv]
      refine top_b (k := 2) (σ2 := σ) (by unfold w_says; rw [hcl]; rfl) ?_
      unfold f_X6_says
      simp only [s_b, e_why (σ := σ) hr, s_bi, if10, f_X6_says_b19, z_bad0 rfl, if0, if_true, x_in, f_X6_says_b46, if_pos c1, if1]
      rw [if_neg (by rw [kU_k (by decide)]; exact c2p)]
      simp only [z_bad1 two_ne, s_bi, if1, f_X6_says_b53]
      exact n_i ⟨thr_inv h, z_thr, fun z => absurd z two_ne⟩
  · have c1' : ¬ (0 ≤ a1 ∧ a1 < σ.1 0 0 5) := by rw [ht]; exact c1
    have hcl : f_X5_says F a1 a2 σ = some (.inr "java/util/NoSuchElementException", σ) := by
      unfold f_X5_says
      rw [t_why, if_neg c1', s_xv]
    refine top_b (k := 1) (σ2 := σ) (by unfold w_says; rw [hcl]; rfl) ?_
    unfold f_X6_says
    simp only [s_b, e_why (σ := σ) hr, s_bi, if10, f_X6_says_b19, if_neg c1, z_bad1 one_ne, if1, f_X6_says_b53]
    exact n_i ⟨thr_inv h, z_thr, fun z => absurd z one_ne⟩
def ordS (f : Nat → Int32) (k : Int32) : Nat → Int32
  | 0 => -1
  | n + 1 => if f (7 - n) ≠ -1 ∧ ahS f (7 - n) 8 = k then nI (7 - n) else ordS f k n
theorem ahS_cg {f g : Nat → Int32} {c : Nat} (hc : c < 8) (h : ∀ d, d < 8 → f d = g d) : ∀ n, n ≤ 8 → ahS f c n = ahS g c n
  | 0, _ => rfl
  | n + 1, hn => by
    show ahS f c n + _ = ahS g c n + _
    rw [ahS_cg hc h n (by omega), h n (by omega), h c hc]
theorem ordS_cg {f g : Nat → Int32} {k : Int32} (h : ∀ d, d < 8 → f d = g d) : ∀ n, n ≤ 8 → ordS f k n = ordS g k n
  | 0, _ => rfl
  | n + 1, hn => by
    show (if _ then _ else _) = (if _ then _ else _)
    rw [ordS_cg h n (by omega), h (7 - n) (by omega), ahS_cg (by omega) h 8 (by omega)]
theorem c_order {F : Nat} (hF : 2000 ≤ F) {σ : kS} {w : Nat} {k : Int32} : kFix (f_X5_order_b14 F) F (k, w, 0) σ = some (.inl (some (.int (ordS (σ.1 47 w) k 8))), σ) := by
  refine ri_same ?_
  refine n_fix (fun n x σ' => ∃ j, x = (k, w, nI j) ∧ j ≤ 8 ∧ n = 8 - j ∧ σ' = σ ∧ ordS (σ.1 47 w) k 8 = ordS (σ.1 47 w) k (8 - j)) ?_ F 8 _ σ (by omega) ⟨0, rfl, by omega, rfl, rfl, rfl⟩
  rintro rr n x σ' ⟨j, rfl, hj, rfl, rfl, ho⟩ ih
  unfold f_X5_order_b14 f_X5_order_b45
  dsimp only
  refine n_if (fun q => ?_) (fun q => ?_)
  · have q : nI 8 ≤ nI j := q
    rw [nJ_le (by omega) (by omega)] at q
    have : j = 8 := by omega
    subst this
    exact n_i ⟨by rw [ho]; rfl, rfl⟩
  · have q : ¬ nI 8 ≤ nI j := q
    rw [nJ_le (by omega) (by omega)] at q
    rw [nI_c (by omega), nI_s (by omega), c_ahead hF (by omega), s_bi]
    have e : ordS (σ'.1 47 w) k (8 - j) = if σ'.1 47 w j ≠ -1 ∧ ahS (σ'.1 47 w) j 8 = k then nI j else ordS (σ'.1 47 w) k (8 - (j + 1)) := by
      rw [show 8 - j = (7 - j) + 1 from by omega]
      show (if _ then _ else _) = _
      rw [show 7 - (7 - j) = j from by omega, show 8 - (j + 1) = 7 - j from by omega]
    rw [e] at ho
    have hgo : ¬ (σ'.1 47 w j ≠ -1 ∧ ahS (σ'.1 47 w) j 8 = k) → Rn (rr (k, w, nI (j + 1)) σ') _ := fun z => ih (8 - (j + 1)) _ _ (by omega) ⟨j + 1, rfl, by omega, rfl, rfl, by rw [ho, if_neg z]⟩
    refine n_g ((nI_kin (by omega)).mpr (by omega)) (n_if (fun q1 => hgo (fun z => z.1 q1)) (fun q1 => n_if (fun q2 => n_i ⟨?_, rfl⟩) (fun q2 => hgo (fun z => q2 z.2))))
    rw [ho, if_pos ⟨q1, q2⟩]
theorem m_order {F : Nat} (hF : 2000 ≤ F) {σ : kS} {k : Int32} : kFix (f_X6_order_b35 F) F (k, 0) σ = some (.inl (some (.int (ordS (σ.1 66 0) k 8))), σ) := by
  refine ri_same ?_
  refine n_fix (fun n x σ' => ∃ j, x = (k, nI j) ∧ j ≤ 8 ∧ n = 8 - j ∧ σ' = σ ∧ ordS (σ.1 66 0) k 8 = ordS (σ.1 66 0) k (8 - j)) ?_ F 8 _ σ (by omega) ⟨0, rfl, by omega, rfl, rfl, rfl⟩
  rintro rr n x σ' ⟨j, rfl, hj, rfl, rfl, ho⟩ ih
  unfold f_X6_order_b35
  dsimp only
  refine n_if (fun q => ?_) (fun q => ?_)
  · have q : nI 8 ≤ nI j := q
    rw [nJ_le (by omega) (by omega)] at q
    have : j = 8 := by omega
    subst this
    exact n_i ⟨by rw [ho]; rfl, rfl⟩
  have q : ¬ nI 8 ≤ nI j := q
  rw [nJ_le (by omega) (by omega)] at q
  have e : ordS (σ'.1 66 0) k (8 - j) = if σ'.1 66 0 j ≠ -1 ∧ ahS (σ'.1 66 0) j 8 = k then nI j else ordS (σ'.1 66 0) k (8 - (j + 1)) := by
    rw [show 8 - j = (7 - j) + 1 from by omega]
    show (if _ then _ else _) = _
    rw [show 7 - (7 - j) = j from by omega, show 8 - (j + 1) = 7 - j from by omega]
  rw [e] at ho
  have hgo : ¬ (σ'.1 66 0 j ≠ -1 ∧ ahS (σ'.1 66 0) j 8 = k) → Rn (rr (k, nI (j + 1)) σ') (fun v σ_1 => ∃ r, v = some (Value.int r) ∧ r = ordS (σ'.1 66 0) k 8 ∧ σ_1 = σ') := fun z => ih (8 - (j + 1)) _ _ (by omega) ⟨j + 1, rfl, by omega, rfl, rfl, by rw [ho, if_neg z]⟩
  have hkc : kin (nI j) 8 := (nI_kin (by omega)).mpr (by omega)
  refine n_fix (fun n x σ1 => ∃ d, x = (k, nI j, ahS (σ'.1 66 0) j d, nI d) ∧ d ≤ 8 ∧ n = 8 - d ∧ σ1 = σ') ?_ F 8 _ σ' (by omega) ⟨0, rfl, by omega, rfl, rfl⟩
  rintro r2 n x σ1 ⟨d, rfl, hd, rfl, rfl⟩ ih2
  unfold f_X6_order_b47 f_X6_order_b137 f_X6_order_b109 f_X6_order_b105 f_X6_order_b110
  dsimp only
  rw [nI_c (a := j) (by omega), nI_c (a := d) (by omega), nI_s (a := j) (by omega), nI_s (a := d) (by omega)]
  refine n_if (fun q1 => ?_) (fun q1 => ?_)
  · have q1 : nI 8 ≤ nI d := q1
    rw [nJ_le (by omega) (by omega)] at q1
    have : d = 8 := by omega
    subst this
    refine n_g hkc (n_if (fun q2 => hgo (fun z => z.1 q2)) (fun q2 => n_if (fun q3 => n_i ⟨?_, rfl⟩) (fun q3 => hgo (fun z => q3 z.2))))
    rw [ho, if_pos ⟨q2, q3⟩]
  · have q1 : ¬ nI 8 ≤ nI d := q1
    rw [nJ_le (by omega) (by omega)] at q1
    have hkd : kin (nI d) 8 := (nI_kin (by omega)).mpr (by omega)
    have e2 : ahS (σ1.1 66 0) j (d + 1) = ahS (σ1.1 66 0) j d + (if σ1.1 66 0 d ≠ -1 ∧ (σ1.1 66 0 d < σ1.1 66 0 j ∨ σ1.1 66 0 d = σ1.1 66 0 j ∧ d < j) then 1 else 0) := rfl
    have h0 : ¬ (σ1.1 66 0 d ≠ -1 ∧ (σ1.1 66 0 d < σ1.1 66 0 j ∨ σ1.1 66 0 d = σ1.1 66 0 j ∧ d < j)) → Rn (r2 (k, nI j, ahS (σ1.1 66 0) j d + 0, nI (d + 1)) σ1) _ := fun z => ih2 (8 - (d + 1)) _ _ (by omega) ⟨d + 1, by rw [e2, if_neg z], by omega, rfl, rfl⟩
    have h1 : (σ1.1 66 0 d ≠ -1 ∧ (σ1.1 66 0 d < σ1.1 66 0 j ∨ σ1.1 66 0 d = σ1.1 66 0 j ∧ d < j)) → Rn (r2 (k, nI j, ahS (σ1.1 66 0) j d + 1, nI (d + 1)) σ1) _ := fun z => ih2 (8 - (d + 1)) _ _ (by omega) ⟨d + 1, by rw [e2, if_pos z], by omega, rfl, rfl⟩
    refine n_g hkd (n_if (fun q2 => n_b (h0 (fun z => z.1 q2))) (fun q2 => n_g hkd (n_g hkc (n_if (fun q3 => n_b (h1 ⟨q2, Or.inl q3⟩)) (fun q3 => n_g hkd (n_g hkc (n_if (fun q4 => n_if (fun q5 => n_b (h0 ?_)) (fun q5 => n_b (h1 ?_))) (fun q4 => n_b (h0 ?_)))))))))
    · rw [nJ_le (by omega) (by omega)] at q5
      exact fun z => z.2.elim q3 (fun z => by omega)
    · rw [nJ_le (by omega) (by omega)] at q5
      exact ⟨q2, Or.inr ⟨q4, by omega⟩⟩
    · exact fun z => z.2.elim q3 (fun z => q4 z.1)
theorem g_order' {F : Nat} (hF : 2000 ≤ F) (a1 a2 : Int32) : Good (q_order F a1 a2) := by
  intro nx σ h
  obtain ⟨ht, hr⟩ := inv_told h
  by_cases c1 : 0 ≤ a1 ∧ a1 < σ.1 48 0 13
  · have c1' : 0 ≤ a1 ∧ a1 < σ.1 0 0 5 := by rw [ht]; exact c1
    obtain ⟨w, σ1, hw6, rfl, hkw, e1, i1, e13, m1, fm, m2, f1⟩ := pre_film hF h c1
    have hcl : f_X5_order F (nI w) a2 σ = some (.inl (some (.int (ordS (σ1.1 47 w) a2 8))), σ1) := by
      unfold f_X5_order
      rw [t_why, if_pos c1', s_bv, e1, s_br hkw, nI_c (a := w) (by omega), c_order hF]
    refine top_i (k := 0) (σ2 := kUL σ1 90 0 0 (ordS (σ1.1 47 w) a2 8).toInt64) (by unfold w_order; rw [hcl]; rfl) ?_
    unfold f_X6_order
    simp only [s_b, e_whyU (σ := σ1) (by rw [e13]; exact hr), s_bi, if10, f_X6_order_b19, z_bad0 rfl, if0, if_true, e13, if_pos c1]
    refine n_bv (e_runs hF i1 hw6 (by rw [e13]; exact c1.2)) ?_
    rintro σ4 ⟨g1, g2, g3, g4, g5⟩
    rw [m_order hF]
    refine n_i ⟨g2, g4, fun _ => ?_⟩
    rw [g5, ordS_cg (fun d hd => ?_) 8 (by omega)]
    rw [g1.2.1 d hd, fm.2.1 d hd, runS]
  · have c1' : ¬ (0 ≤ a1 ∧ a1 < σ.1 0 0 5) := by rw [ht]; exact c1
    have hcl : f_X5_order F a1 a2 σ = some (.inr "java/util/NoSuchElementException", σ) := by
      unfold f_X5_order
      rw [t_why, if_neg c1', s_xv]
    refine top_i (k := 1) (σ2 := σ) (by unfold w_order; rw [hcl]; rfl) ?_
    unfold f_X6_order
    simp only [s_b, e_why (σ := σ) hr, s_bi, if10, f_X6_order_b19, if_neg c1, z_bad1 one_ne, if1]
    exact n_i ⟨thr_inv h, z_thr, fun z => absurd z one_ne⟩
