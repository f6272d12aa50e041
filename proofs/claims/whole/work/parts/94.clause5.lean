/-! SPARK -/
section Sparkc
variable {u : Nat → Nat} {n P : Nat} {s e : Nat → Nat} {kd : Nat → Int32} {vl : Nat → Nat}
theorem s_spark {F : Nat} (hF : 2000 ≤ F) (E : Env u n P s e kd vl) {k c j : Nat} {σ τ : kS} (R : Rel u n P s kd vl k c 0 σ τ) (hj : j < 14) (h9 : τ.1 48 0 9 = nI j) :
    ∃ σ' τ', f_X6_clauseHere_b143 F 0 1 j j 1 0 7 τ = some (.inl none, τ') ∧
      (((kBi (f_X3_readSpark F (nI j) σ) fun c17 σ16 => f_X3_readClause_b109 F c17 σ16) = some (.inl (some (.int 1)), σ') ∧ Fz (cJ j) σ σ' ∧ Fz (rJ j) τ τ' ∧ τ'.1 48 0 9 = nI (j + 1) ∧ τ'.1 52 j 1 = σ'.1 12 0 j ∧ rng (τ'.1 52 j 1) 0 7 ∧ ∃ k' c', k < k' ∧ c < c' ∧ c' + k ≤ c + k' ∧ Rel u n P s kd vl k' c' 0 σ' τ' ∧ (∀ i, i < c → σ'.1 17 0 i = σ.1 17 0 i) ∧ wfS 18 (codeOf (σ'.1 17 0) c c') ∧ τ'.1 52 j 2 = nI c ∧ σ'.1 15 0 j = nI c ∧ τ'.1 52 j 3 = nI c' ∧ σ'.1 16 0 j = nI c') ∨
       ((kBi (f_X3_readSpark F (nI j) σ) fun c17 σ16 => f_X3_readClause_b109 F c17 σ16) = some (.inl (some (.int 0)), σ') ∧ Fz cQ σ σ' ∧ Fz rQ τ τ' ∧ BD u n σ' τ')) := by
  have kj : kin (nI j) 14 := (nI_kin (by omega)).mpr hj
  have hpn := E.pn
  unfold f_X3_readSpark f_X3_readSpark_b22 f_X6_clauseHere_b143
  rcases s_num (F := F) (lo := 0) (hi := 7) hF E R (by omega) (by omega) with ⟨hk1, v1, v2, q1, q2, R1⟩ | ⟨σ1, τ1, r, f1, f2, q1, q2, B1⟩
  · have R1' := Rel_52 (i := j) (x := (1 : Int32).toNatClampNeg) (v := nI (vl k)) R1
    rw [show f_X3_number F 0 7 σ = _ from q1, s_bi, if_neg (nI_nn (by omega)), show f_X6_numberHere F 0 7 τ = _ from q2, s_bi, kg_t (by decide), s_b, if_pos rfl, if_neg (show ¬ (1 : Int32) = 0 by decide), if_pos R1'.2.1.2.2.2.1]
    rcases s_word (F := F) (w := 12) (K := fun σ34 => f_X6_clauseHere_b228 F j σ34) hF E R1' (by omega) (by omega) with ⟨hk3, q5, q6, R3⟩ | ⟨σ1, τ1, f1, f2, q5, q6, B1⟩
    · rw [show f_X3_expect F (-21) _ = _ from q5, s_bi, if_neg (show ¬ (1 : Int32) = 0 by decide), show (kBi (f_X6_isWord F 9 6 0 0 0 0 _) fun c33 σ32 => kBv (f_X6_must F c33 σ32) fun σ34 => f_X6_clauseHere_b228 F j σ34) = _ from q6, kg_t kj, nI_c (show j < 2147483648 by omega), s_b, kg_t kj, s_b]
      have e10 : ∀ v, (kU (kU (kU σ 2 0 7 (nI (k + 1))) 2 0 7 (nI (k + 1 + 1))) 12 0 j v).1 10 0 8 = nI c := fun v => by rw [kU_g (by decide)]; exact R3.1.2.2.1
      have e8 := R3.2.1.2.2.2.2.2
      unfold f_X6_clauseHere_b228
      rw [e10, e8, s_b]
      have R4 := Rel_52 (i := j) (x := 2) (v := nI c) (Rel_c (g := 15) (i := 0) (x := j) (v := nI c) (Rel_c (g := 12) (i := 0) (x := j) (v := nI (vl k)) R3 (by decide) (by decide) (by decide) (by decide) (by decide) (by decide)) (by decide) (by decide) (by decide) (by decide) (by decide) (by decide))
      obtain ⟨σ2, τ2, f1, f2, e1, hh⟩ := s_cond (F := F) hF E R4
      rw [e1, s_bv]
      rcases hh with ⟨k', c', g1, g2, g3, g4, R5, g5, g6⟩ | ⟨g1, g2⟩
      · have hk' := R5.2.2.1
        have hck' := R5.2.2.2.1
        rw [g1, s_bi, kg_t kj, s_b, R5.1.2.2.1, R5.2.1.2.2.2.2.2, s_b, kg_t (by decide), s_bi]
        have R6 := Rel_52 (i := j) (x := 3) (v := nI c') (Rel_c (g := 16) (i := 0) (x := j) (v := nI c') R5 (by decide) (by decide) (by decide) (by decide) (by decide) (by decide))
        have h9' : τ2.1 48 0 9 = nI j := by
          rw [f2.1 48 0 9 rfl, kU_g (by decide), kU_k (by decide), kU_g (by decide), kU_k (by decide)]; exact h9
        obtain ⟨σ', τ', f3, f4, t1, t2⟩ := s_end (F := F) (j := j) hF E R6 (by rw [kU_g (by decide)]; exact h9') (by omega)
        refine ⟨σ', τ', t1, ?_⟩
        have FA : Fz (cJ j) σ (kU σ2 16 0 j (nI c')) := ((((Fz.refl σ).u rfl).u rfl |>.u (by unfold cJ; simp) |>.u (by unfold cJ; simp)).trans f1.cj).u (by unfold cJ; simp)
        have FB : Fz (rJ j) τ (kU τ2 52 j 3 (nI c')) := ((((Fz.refl τ).u rfl).u (by unfold rJ; simp) |>.u rfl |>.u (by unfold rJ; simp)).trans f2.rj).u (by unfold rJ; simp)
        rcases t2 with ⟨p1, p2, p3, p4, p5, p6⟩ | ⟨p1, p2⟩
        · have a1 : τ'.1 52 j 1 = nI (vl k) := by
            rw [p6, kU_g (by decide), kU_g (by decide), kU_k (by decide), f2.1 52 j 1 (by unfold rP; simp), kU_k (by decide), kU_g (by decide)]; exact kU_here
          have a2 : τ'.1 52 j 2 = nI c := by
            rw [p6, kU_g (by decide), kU_g (by decide), kU_k (by decide), f2.1 52 j 2 (by unfold rP; simp)]; exact kU_here
          have a3 : τ'.1 52 j 3 = nI c' := by
            rw [p6, kU_g (by decide), kU_g (by decide)]; exact kU_here
          have b1 : σ'.1 12 0 j = nI (vl k) := by
            rw [p5, kU_g (by decide), kU_g (by decide), f1.1 12 0 j rfl, kU_g (by decide)]; exact kU_here
          have b2 : σ'.1 15 0 j = nI c := by
            rw [p5, kU_g (by decide), kU_g (by decide), f1.1 15 0 j rfl]; exact kU_here
          have b3 : σ'.1 16 0 j = nI c' := by
            rw [p5, kU_g (by decide)]; exact kU_here
          have c17 : σ'.1 17 = σ2.1 17 := by rw [p5, kU_g (by decide), kU_g (by decide)]
          refine Or.inl ⟨p1, by rw [p5]; exact FA.u rfl, by rw [p6]; exact (FB.u rfl).u rfl, p4, by rw [a1, b1], by rw [a1]; exact rng_v (lo := 0) (hi := 7) v1 v2 (by decide), k' + 1, c', by omega, by omega, by omega, p3, fun i hi => ?_, by rw [c17]; exact g6, a2, b2, a3, b3⟩
          rw [c17, g5 i hi, kU_g (by decide), kU_g (by decide), kU_g (by decide), kU_g (by decide)]
        · exact Or.inr ⟨p1, ((((((Fz.refl σ).u rfl).u rfl |>.u (by unfold cQ; simp) |>.u (by unfold cQ; simp)).trans f1.cq).u (by unfold cQ; simp)).trans f3.cq), (((((Fz.refl τ).u rfl).u (by unfold rQ; simp) |>.u rfl |>.u (by unfold rQ; simp)).trans f2.rq).u (by unfold rQ; simp)).trans f4, p2⟩
      · rw [g1, s_bi, kg_t kj, s_b, s_b, kg_t (by decide), s_bi]
        obtain ⟨τ', t1, t2, t3⟩ := b_end (F := F) (BD_52 (i := j) (x := 3) (v := τ2.1 48 0 8) g2)
        exact ⟨_, τ', t2, Or.inr ⟨rfl, ((((Fz.refl σ).u rfl).u rfl |>.u (by unfold cQ; simp) |>.u (by unfold cQ; simp)).trans f1.cq).u (by unfold cQ; simp), ((((Fz.refl τ).u rfl).u (by unfold rQ; simp) |>.u rfl |>.u (by unfold rQ; simp)).trans f2.rq |>.u (by unfold rQ; simp)).trans t1, BD_c t3 (by decide)⟩⟩
    · rw [show f_X3_expect F (-21) _ = _ from q5, s_bi, if_pos rfl, s_bi, show (kBi (f_X6_isWord F 9 6 0 0 0 0 _) fun c33 σ32 => kBv (f_X6_must F c33 σ32) fun σ34 => f_X6_clauseHere_b228 F j σ34) = _ from q6]
      obtain ⟨τ', t1, t2, t3⟩ := b_228 (F := F) (j := j) hF B1
      exact ⟨σ1, τ', t2, Or.inr ⟨rfl, (((Fz.refl σ).u rfl).trans f1).cq, ((((Fz.refl τ).u rfl).u (by unfold rQ; simp)).trans f2.rq).trans t1, t3⟩⟩
  · rw [show f_X3_number F 0 7 σ = _ from q1, s_bi, if_pos rfl, s_bi, show f_X6_numberHere F 0 7 τ = _ from q2, s_bi, kg_t (by decide), s_b, if_pos rfl, if_neg (show ¬ (1 : Int32) = 0 by decide), if_neg (BD_6 (BD_52 B1))]
    obtain ⟨τ', t1, t2, t3⟩ := b_228 (F := F) (j := j) hF (BD_52 (i := j) (x := (1 : Int32).toNatClampNeg) (v := r) B1)
    exact ⟨σ1, τ', t2, Or.inr ⟨rfl, f1.cq, (f2.rq.u (by unfold rQ; simp)).trans t1, t3⟩⟩
end Sparkc
