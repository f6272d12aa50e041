/-! CONDITIONS: not, brackets, and, or -/
section Conds2
variable {u : Nat → Nat} {n P : Nat} {s e : Nat → Nat} {kd : Nat → Int32} {vl : Nat → Nat}
theorem s_basic {F : Nat} (hF : 2000 ≤ F) (E : Env u n P s e kd vl) {k c o : Nat} {σ τ : kS} {oB oC : Int32 → kS → Option kR} {oT oO : kS → Option kR} (R : Rel u n P s kd vl k c o σ τ) (ho : o ≤ 6)
    (hT : o < 6 → ∀ k c σ τ, Rel u n P s kd vl k c (o + 1) σ τ → Sim u n P s kd vl (oB (nI (o + 1)) σ) (oT τ) k c (o + 1) (14 - 2 * o) σ τ) (hO : o < 6 → ∀ k c σ τ, Rel u n P s kd vl k c (o + 1) σ τ → Sim u n P s kd vl (oC (nI (o + 1)) σ) (oO τ) k c (o + 1) (16 - 2 * o) σ τ)
    (hBT : ∀ σ τ, BD u n σ τ → ∃ τ', Fz rP τ τ' ∧ oT τ = some (.inl none, τ') ∧ BD u n σ τ') (hBO : ∀ σ τ, BD u n σ τ → ∃ τ', Fz rP τ τ' ∧ oO τ = some (.inl none, τ') ∧ BD u n σ τ') : Sim u n P s kd vl (f_X3_readBasic F oB oC (nI o) σ) (f_X6_test F oT oO τ) k c o (16 - 2 * o) σ τ := by
  have hpn := E.pn
  have hk := R.2.2.1
  have hck := R.2.2.2.1
  have hsn := E.sn hk
  have Rb := Rel_b R
  have h6b := Rb.2.1.2.2.2.1
  have e4 : (atA τ (s k)).1 48 0 4 = nI (s k) := kU_here
  have hkd := c_kd R.1 (by omega) hk
  unfold f_X3_readBasic f_X6_test f_X3_readBasic_b19
  rw [kg_t hkd.1, hkd.2, if_pos R.2.1.2.2.2.1, show f_X6_isWord F 14 15 20 0 0 0 τ = rW F 15 τ from rfl, r_w' hF E hk R.2.1 (by omega) (by omega), s_bi, ifA]
  by_cases z : kd k = -8
  · obtain ⟨hkP, hek⟩ := t_not E hk z
    rw [if_pos z, if_neg (show ¬ (1 : Int32) = 0 by decide), if_pos (show kd k = kw 15 from z)]
    unfold f_X3_readBasic_b38 f_X3_readBasic_b87 f_X3_readBasic_b115 f_X6_opens f_X6_opens_b18
    rw [Rb.2.1.2.2.1, e4]
    have e3 : nI (s k) + 3 = nI (e k) := by
      rw [i_eq, i_add, nI_toInt (by omega), nI_toInt (by omega)]
      · show _ + (3 : Int) = _; omega
      · rw [nI_toInt (by omega)]; show _ ≤ _ + (3 : Int); omega
      · rw [nI_toInt (by omega)]; show _ + (3 : Int) < _; omega
    by_cases ho6 : o < 6
    · rw [if_pos (show nI o < 6 from (nJ_lt (b := 6) (by omega) (by omega)).mpr ho6), if_neg (show ¬ nI o = 6 from fun hx => by have := (nI_inj (b := 6) (by omega) (by omega)).mp hx; omega), show nI o + 1 = nI (o + 1) from nI_s (by omega), s_b, s_b, kU_k (by decide), e4, e3, s_b, s_bv, R.1.2.1, show nI k + 1 = nI (k + 1) from nI_s (by omega), if_neg (show ¬ (1 : Int32) = 0 by decide)]
      have R1 : Rel u n P s kd vl (k + 1) c (o + 1) (kU σ 2 0 7 (nI (k + 1))) (atA (kU (atA τ (s k)) 48 0 5 (nI (o + 1))) (e k)) := Rel_n E (Rel_o Rb) hkP
      obtain ⟨σ2, τ2, f1, f2, e1, hh⟩ := hT ho6 _ _ _ _ R1
      have F1 : Fz cP σ σ2 := ((Fz.refl σ).u rfl).trans f1
      have F2 : Fz rP τ τ2 := ((((Fz.refl τ).u rfl).u rfl).u rfl).trans f2
      rw [e1, s_bv]
      rcases hh with ⟨k', c', g1, g2, g3, g4, R2, g5, g6⟩ | ⟨g1, g2⟩
      · have hk' := R2.2.2.1
        have R3 := Rel_o (o' := o) R2
        rw [g1, s_bi, if_neg (by decide), c_write R2.1 (by omega), s_bi, if_neg (by decide), R2.2.1.2.2.1, show nI (o + 1) - 1 = nI o by rw [nI_p (by omega) (by omega)]; rfl, s_b, r_tells R3.2.1 (by omega), s_bv]
        refine ⟨_, _, (F1.u rfl).u rfl, ((F2.u rfl).u rfl).u rfl, rfl, Or.inl ⟨k', c' + 1, rfl, by omega, by omega, by omega, Rel_w R3 (by omega) (by decide) ⟨by decide, by decide⟩, fun j hj => ?_, ?_⟩⟩
        · rw [push_o (by omega), g5 j hj, kU_g (by decide)]
        · rw [co_app (b := c') (by omega) (by omega), co_one, push_h, co_cg (f := σ2.1 17 0) (a := c) (b := c') (fun j _ hj => push_o hj)]
          exact wf_not (wf_mono g6 (by omega))
      · rw [g1, s_bi, if_pos rfl, s_b, r_tellsN (BD_6 (BD_o g2)), s_bv]
        exact ⟨_, _, F1, F2.u rfl, rfl, Or.inr ⟨rfl, BD_o g2⟩⟩
    · have ho6 : o = 6 := by omega
      subst ho6
      have hb0 : BD u n (kU (kU σ 2 0 2 3) 2 0 1 (nI (s k))) (kU (kU (atA τ (s k)) 48 0 6 3) 48 0 7 (nI (s k))) := BD_i R.2.1 (by decide) (by omega)
      rw [if_neg (show ¬ nI 6 < 6 by decide), if_pos (show nI 6 = 6 from rfl), c_fail R.1 (by omega) hk, s_bi, r_wrong h6b, s_bv, s_b, s_b, s_bv]
      rw [show ∀ v, (kU (kU (kU (atA τ (s k)) 48 0 6 3) 48 0 7 (nI (s k))) 48 0 5 v).1 48 0 4 = nI (s k) from fun v => by rw [kU_k (by decide), kU_k (by decide), kU_k (by decide)]; exact e4, e3]
      obtain ⟨τ2, f2, e1, g2⟩ := hBT _ _ (BD_a (BD_o (v := (kU (kU (atA τ (s k)) 48 0 6 3) 48 0 7 (nI (s k))).1 48 0 5 + 1) hb0) (a := e k) (by omega))
      rw [e1, s_bv, s_b, r_tellsN (BD_6 (BD_o g2)), s_bv]
      exact ⟨_, _, ((Fz.refl σ).u rfl).u rfl, ((((((Fz.refl τ).u rfl).u rfl).u rfl).u rfl).u rfl |>.trans f2).u rfl, rfl, Or.inr ⟨rfl, BD_o g2⟩⟩
  · have ts := t_sgn E hk (v := 91) (by omega) (by unfold isD; omega) (by unfold isL; omega)
    rw [if_neg z, if_pos (show (0 : Int32) = 0 from rfl), if_neg (show ¬ kd k = kw 15 from z), e4, r_byte E hk Rb.2.1.1, s_bi, kg_t hkd.1]
    by_cases h91 : kd k = nI 91
    · obtain ⟨hkP, hek⟩ := ts.2 h91
      rw [if_pos (show kd k = 91 from h91), if_pos (show byU u n (s k) = 91 from ts.1.mpr h91)]
      unfold f_X3_readBasic_b38 f_X3_readBasic_b114 f_X3_readBasic_b115 f_X6_opens f_X6_opens_b18
      rw [Rb.2.1.2.2.1, e4]
      have e3 : nI (s k) + 1 = nI (e k) := by rw [nI_s (by omega), hek]
      by_cases ho6 : o < 6
      · rw [if_pos (show nI o < 6 from (nJ_lt (b := 6) (by omega) (by omega)).mpr ho6), if_neg (show ¬ nI o = 6 from fun hx => by have := (nI_inj (b := 6) (by omega) (by omega)).mp hx; omega), show nI o + 1 = nI (o + 1) from nI_s (by omega), s_b, s_b, kU_k (by decide), e4, e3, s_b, s_bv, R.1.2.1, show nI k + 1 = nI (k + 1) from nI_s (by omega), if_pos (show (0 : Int32) = 0 from rfl)]
        have R1 : Rel u n P s kd vl (k + 1) c (o + 1) (kU σ 2 0 7 (nI (k + 1))) (atA (kU (atA τ (s k)) 48 0 5 (nI (o + 1))) (e k)) := Rel_n E (Rel_o Rb) hkP
        obtain ⟨σ2, τ2, f1, f2, e1, hh⟩ := hO ho6 _ _ _ _ R1
        have F1 : Fz cP σ σ2 := ((Fz.refl σ).u rfl).trans f1
        have F2 : Fz rP τ τ2 := ((((Fz.refl τ).u rfl).u rfl).u rfl).trans f2
        rw [e1, s_bv]
        rcases hh with ⟨k', c', g1, g2, g3, g4, R2, g5, g6⟩ | ⟨g1, g2⟩
        · rw [g1, s_bi, if_neg (by decide)]
          have hk' := R2.2.2.1
          have ts' := t_sgn E hk' (v := 93) (by omega) (by unfold isD; omega) (by unfold isL; omega)
          by_cases h41 : kd k' = nI 93
          · obtain ⟨hkP', hek'⟩ := ts'.2 h41
            have hx := c_expY (F := F) (κ := 93) R2.1 (by omega) hkP' h41
            have hy := r_sgnY (F := F) (v := 93) hF E hk' R2.2.1 (by omega) (by unfold isD; omega) (by unfold isL; omega) h41
            rw [hx, s_bi, if_neg (by decide), show f_X6_sign F 93 τ2 = _ from hy, s_bv, kU_k (by decide), R2.2.1.2.2.1, show nI (o + 1) - 1 = nI o by rw [nI_p (by omega) (by omega)]; rfl]
            refine ⟨_, _, F1.u rfl, (F2.u rfl).u rfl, rfl, Or.inl ⟨k' + 1, c', rfl, by omega, by omega, by omega, Rel_o (Rel_n E R2 hkP'), fun j hj => ?_, ?_⟩⟩
            · rw [kU_g (by decide), g5 j hj, kU_g (by decide)]
            · rw [kU_g (by decide)]; exact g6
          · have hx := c_expN (F := F) (κ := 93) R2.1 (by omega) hk' h41
            have hy := r_sgnX (F := F) (v := 93) hF E hk' R2.2.1 (by omega) (by unfold isD; omega) (by unfold isL; omega) h41
            have hs' := E.sn hk'
            rw [hx, s_bi, if_pos rfl, show f_X6_sign F 93 τ2 = _ from hy, s_bv]
            exact ⟨_, _, (F1.u rfl).u rfl, (((F2.u rfl).u rfl).u rfl).u rfl, rfl, Or.inr ⟨rfl, BD_o (BD_i R2.2.1 (by decide) (by omega))⟩⟩
        · rw [g1, s_bi, if_pos rfl, r_sgnN (BD_6 g2), s_bv]
          exact ⟨_, _, F1, F2.u rfl, rfl, Or.inr ⟨rfl, BD_o g2⟩⟩
      · have ho6 : o = 6 := by omega
        subst ho6
        have hb0 : BD u n (kU (kU σ 2 0 2 3) 2 0 1 (nI (s k))) (kU (kU (atA τ (s k)) 48 0 6 3) 48 0 7 (nI (s k))) := BD_i R.2.1 (by decide) (by omega)
        rw [if_neg (show ¬ nI 6 < 6 by decide), if_pos (show nI 6 = 6 from rfl), c_fail R.1 (by omega) hk, s_bi, r_wrong h6b, s_bv, s_b, s_b, s_bv]
        rw [show ∀ v, (kU (kU (kU (atA τ (s k)) 48 0 6 3) 48 0 7 (nI (s k))) 48 0 5 v).1 48 0 4 = nI (s k) from fun v => by rw [kU_k (by decide), kU_k (by decide), kU_k (by decide)]; exact e4, e3]
        obtain ⟨τ2, f2, e1, g2⟩ := hBO _ _ (BD_a (BD_o (v := (kU (kU (atA τ (s k)) 48 0 6 3) 48 0 7 (nI (s k))).1 48 0 5 + 1) hb0) (a := e k) (by omega))
        rw [e1, s_bv, r_sgnN (BD_6 g2), s_bv]
        exact ⟨_, _, ((Fz.refl σ).u rfl).u rfl, ((((((Fz.refl τ).u rfl).u rfl).u rfl).u rfl).u rfl |>.trans f2).u rfl, rfl, Or.inr ⟨rfl, BD_o g2⟩⟩
    · rw [if_neg (show ¬ kd k = 91 from h91), if_neg (show ¬ byU u n (s k) = 91 from fun hx => h91 (ts.1.mp hx))]
      obtain ⟨σ', τ', t1, t2, t3, t4⟩ := s_cmp (oB := oB) (oC := oC) (oT := oT) (oO := oO) hF E Rb ho
      exact ⟨σ', τ', t1, ((Fz.refl τ).u rfl).trans t2, t3, t4⟩
end Conds2
