/-! CONDITIONS -/
section Conds
variable {u : Nat → Nat} {n P : Nat} {s e : Nat → Nat} {kd : Nat → Int32} {vl : Nat → Nat}
theorem t_not (E : Env u n P s e kd vl) {k : Nat} (hk : k ≤ P) (h : kd k = -8) : k < P ∧ e k = s k + 3 := by
  obtain ⟨b, hb, hw⟩ := t_let E hk
  obtain ⟨h1, h2⟩ := hw 15 (by omega) (by omega)
  obtain ⟨rfl, h3⟩ := h2 h
  have h4 : e k - s k = 3 := (h1.mpr h).1
  exact ⟨h3, by omega⟩
theorem s_cmp {F : Nat} (hF : 2000 ≤ F) (E : Env u n P s e kd vl) {k c o : Nat} {σ τ : kS} {oB oC : Int32 → kS → Option kR} {oT oO : kS → Option kR} (R : Rel u n P s kd vl k c o σ τ) (ho : o ≤ 6) : Sim u n P s kd vl (kBi (f_X3_readSumD F (nI o) σ) fun c34 σ33 => if c34 = 0 then (some (.inl (some (.int 0)), σ33)) else (kg (kin (σ33.1 2 0 7) 301) (if (σ33.1 18 0 (σ33.1 2 0 7).toNatClampNeg) = 60 then (f_X3_readBasic_b166 F oB oC (nI o) (-11) σ33) else (kg (kin (σ33.1 2 0 7) 301) (if (σ33.1 18 0 (σ33.1 2 0 7).toNatClampNeg) = 62 then (f_X3_readBasic_b166 F oB oC (nI o) (-12) σ33) else (f_X3_readBasic_b166 F oB oC (nI o) (-13) σ33))))))
    (kBv (f_X6_sumD F τ) fun σ13 => if (σ13.1 48 0 6) = 0 then (kBv (f_X6_blanks F σ13) fun σ15 => kBi (f_X6_byteAt F (σ15.1 48 0 4) σ15) fun c17 σ16 => if c17 = 60 then (f_X6_test_b142 F oT oO c17 σ16) else (if c17 = 62 then (f_X6_test_b142 F oT oO c17 σ16) else (if c17 = 61 then (f_X6_test_b142 F oT oO c17 σ16) else (kBv (f_X6_wrong F 1 (σ16.1 48 0 4) σ16) fun σ21 => f_X6_test_b142 F oT oO c17 σ21)))) else (some (.inl none, σ13))) k c o (16 - 2 * o) σ τ := by
  have hpn := E.pn
  obtain ⟨σ1, τ1, f1, f2, e1, hh⟩ := s_sumD hF E 9 o ho (by omega) k c σ τ R
  rw [show f_X6_sumD F τ = _ from e1, s_bv]
  rcases hh with ⟨k1, c1, g1, g2, g3, g4, R1, g5, g6⟩ | ⟨g1, g2⟩
  · have hk := R1.2.2.1
    have hs := E.sn hk
    have hkd := c_kd R1.1 (by omega) hk
    have Rb := Rel_b R1
    have e4 : (atA τ1 (s k1)).1 48 0 4 = nI (s k1) := kU_here
    rw [show f_X3_readSumD F (nI o) σ = _ from g1, s_bi, if_neg (by decide), kg_t hkd.1, hkd.2, kg_t hkd.1, if_pos R1.2.1.2.2.2.1, r_bl' hF E hk R1.2.1, s_bv, e4, r_byte E hk Rb.2.1.1, s_bi]
    have t60 := t_sgn E hk (v := 60) (by omega) (by unfold isD; omega) (by unfold isL; omega)
    have t62 := t_sgn E hk (v := 62) (by omega) (by unfold isD; omega) (by unfold isL; omega)
    have t61 := t_sgn E hk (v := 61) (by omega) (by unfold isD; omega) (by unfold isL; omega)
    have go : ∀ (v v' : Int32), k1 < P → e k1 = s k1 + 1 → v' = trC v → rng v (-16) 9999 → ¬ -7 ≤ v → v ≠ -8 → Sim u n P s kd vl (f_X3_readBasic_b193 F oB oC (nI o) v σ1) (kBv (f_X6_sumD F (atA τ1 (e k1))) fun σ3 => kBv (f_X6_tells F v' σ3) fun σ1 => some (.inl none, σ1)) k c o (16 - 2 * o) σ τ := by
      intro v v' hkP hek h1 h2 h3 h4
      unfold f_X3_readBasic_b193 f_X3_readBasic_b223 f_X3_readBasic_b224
      rw [R1.1.2.1, nI_s (by omega), s_b]
      obtain ⟨σ', τ', t1, t2, t3, t4⟩ := s_item (F := F) (L0 := fun σ2 => kg (narrow .boolean (.int 0) = .int 0) (some (.inl (some (.int 0)), σ2))) (L1 := fun σ2 => kg (narrow .boolean (.int 1) = .int 1) (some (.inl (some (.int 1)), σ2))) (K := fun σ1 => some (.inl none, σ1)) (v := v) (v' := v') (d := 16 - 2 * o) (by omega) R1.2.2.2.1 (s_sumD (F := F) hF E 9 o ho (by omega) _ _ _ _ (Rel_n E R1 hkP)) ((Fz.refl σ1).u rfl) ((Fz.refl τ1).u rfl) (fun j _ => by rw [kU_g (by decide)]) (by omega) h1 h2 h3 h4
      refine ⟨σ', τ', f1.trans t1, f2.trans t2, t3, ?_⟩
      rcases t4 with ⟨k', c', q1, q2, q3, q4, q5, q6, q7⟩ | ⟨q1, q2⟩
      · exact Or.inl ⟨k', c', q1, by omega, by omega, by omega, q5, fun j hj => by rw [q6 j (by omega), g5 j hj], q7 c (by omega) (wf_mono g6 (by omega))⟩
      · exact Or.inr ⟨q1, q2⟩
    unfold f_X6_test_b142 f_X6_test_b184 f_X3_readBasic_b166
    by_cases z0 : kd k1 = nI 60
    · obtain ⟨hkP, hek⟩ := t60.2 z0
      have hb : byU u n (s k1) = 60 := t60.1.mpr z0
      rw [if_pos (show kd k1 = 60 from z0), if_neg (show ¬ (-11 : Int32) = -13 by decide), if_pos hb, hb, e4, show nI (s k1) + 1 = nI (e k1) by rw [nI_s (by omega), hek], s_b, show kU (atA τ1 (s k1)) 48 0 4 (nI (e k1)) = atA τ1 (e k1) from kU_kU]
      exact go (-11) 10030 hkP hek (by decide) ⟨by decide, by decide⟩ (by decide) (by decide)
    have z0' : ¬ byU u n (s k1) = 60 := fun hx => z0 (t60.1.mp hx)
    rw [if_neg (show ¬ kd k1 = 60 from z0), if_neg z0']
    by_cases z2 : kd k1 = nI 62
    · obtain ⟨hkP, hek⟩ := t62.2 z2
      have hb : byU u n (s k1) = 62 := t62.1.mpr z2
      rw [if_pos (show kd k1 = 62 from z2), if_neg (show ¬ (-12 : Int32) = -13 by decide), if_pos hb, hb, e4, show nI (s k1) + 1 = nI (e k1) by rw [nI_s (by omega), hek], s_b, show kU (atA τ1 (s k1)) 48 0 4 (nI (e k1)) = atA τ1 (e k1) from kU_kU]
      exact go (-12) 10031 hkP hek (by decide) ⟨by decide, by decide⟩ (by decide) (by decide)
    have z2' : ¬ byU u n (s k1) = 62 := fun hx => z2 (t62.1.mp hx)
    rw [if_neg (show ¬ kd k1 = 62 from z2), if_neg z2', if_pos (show (-13 : Int32) = -13 from rfl), kg_t hkd.1, hkd.2]
    by_cases z1 : kd k1 = nI 61
    · obtain ⟨hkP, hek⟩ := t61.2 z1
      have hb : byU u n (s k1) = 61 := t61.1.mpr z1
      rw [if_pos (show kd k1 = 61 from z1), if_pos hb, hb, e4, show nI (s k1) + 1 = nI (e k1) by rw [nI_s (by omega), hek], s_b, show kU (atA τ1 (s k1)) 48 0 4 (nI (e k1)) = atA τ1 (e k1) from kU_kU]
      exact go (-13) 10032 hkP hek (by decide) ⟨by decide, by decide⟩ (by decide) (by decide)
    have z1' : ¬ byU u n (s k1) = 61 := fun hx => z1 (t61.1.mp hx)
    have hb0 : BD u n (kU (kU σ1 2 0 2 1) 2 0 1 (nI (s k1))) (kU (kU (atA τ1 (s k1)) 48 0 6 1) 48 0 7 (nI (s k1))) := BD_i R1.2.1 (by decide) (by omega)
    have h4 : (kU (kU (atA τ1 (s k1)) 48 0 6 1) 48 0 7 (nI (s k1))).1 48 0 4 = nI (s k1) := by rw [kU_k (by decide), kU_k (by decide)]; exact e4
    obtain ⟨τ3, b1, b2, b3⟩ := b_sum (F := F) hF E (D := 9) (by omega) (BD_a hb0 (a := s k1 + 1) (by omega))
    rw [if_neg (show ¬ kd k1 = 61 from z1), if_neg z1', c_fail R1.1 (by omega) hk, s_bi, r_wrong Rb.2.1.2.2.2.1, s_bv, e4, h4, nI_s (by omega), s_b, show f_X6_sumD F _ = _ from b2, s_bv, if_neg z0', if_neg z2', r_tellsN (BD_6 b3), s_bv]
    exact ⟨_, τ3, (f1.u rfl).u rfl, ((((f2.u rfl).u rfl).u rfl).u rfl).trans b1, rfl, Or.inr ⟨rfl, b3⟩⟩
  · rw [show f_X3_readSumD F (nI o) σ = _ from g1, s_bi, if_pos rfl, if_neg (BD_6 g2)]
    exact ⟨σ1, τ1, f1, f2, rfl, Or.inr ⟨rfl, g2⟩⟩
end Conds
