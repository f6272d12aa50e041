/-! SET -/
def loN (k : Nat) : Nat := if k = 5 then 1 else 0
def hiN (k : Nat) : Nat := [99, 999, 999, 99, 99, 20, 99, 9999, 99, 999].getD k 0
theorem lhN : ∀ q : Fin 10, lowI (nI q.val) = nI (loN q.val) ∧ higI (nI q.val) = nI (hiN q.val) ∧ loN q.val ≤ hiN q.val ∧ hiN q.val ≤ 9999 ∧ (loN q.val : Int) = leastN q.val ∧ (hiN q.val : Int) = mostN q.val := by decide +kernel
section Setc
variable {u : Nat → Nat} {n P : Nat} {s e : Nat → Nat} {kd : Nat → Int32} {vl : Nat → Nat}
theorem s_set {F : Nat} (hF : 2000 ≤ F) (E : Env u n P s e kd vl) {k c j : Nat} {σ τ : kS} (R : Rel u n P s kd vl k c 0 σ τ) (hj : j < 14) (h9 : τ.1 48 0 9 = nI j) :
    ∃ σ' τ', f_X6_clauseHere_b143 F 0 0 j j 1 0 9 τ = some (.inl none, τ') ∧
      (((kBi (f_X3_readSet F (nI j) σ) fun c17 σ16 => f_X3_readClause_b109 F c17 σ16) = some (.inl (some (.int 1)), σ') ∧ Fz (cJ j) σ σ' ∧ Fz (rJ j) τ τ' ∧ (∃ k', k < k' ∧ Rel u n P s kd vl k' c 0 σ' τ') ∧ τ'.1 48 0 9 = nI (j + 1) ∧ τ'.1 52 j 1 = σ'.1 12 0 j ∧ τ'.1 52 j 2 = σ'.1 13 0 j ∧ rng (τ'.1 52 j 1) 0 9 ∧ rng (τ'.1 52 j 2) (leastN (σ'.1 12 0 j).toNatClampNeg) (mostN (σ'.1 12 0 j).toNatClampNeg) ∧ σ'.1 17 = σ.1 17) ∨
       ((kBi (f_X3_readSet F (nI j) σ) fun c17 σ16 => f_X3_readClause_b109 F c17 σ16) = some (.inl (some (.int 0)), σ') ∧ Fz cQ σ σ' ∧ Fz rQ τ τ' ∧ BD u n σ' τ')) := by
  have kj : kin (nI j) 14 := (nI_kin (by omega)).mpr hj
  unfold f_X3_readSet f_X3_readSet_b60 f_X6_clauseHere_b143
  rcases s_num (F := F) (lo := 0) (hi := 9) hF E R (by omega) (by omega) with ⟨hk1, v1, v2, q1, q2, R1⟩ | ⟨σ1, τ1, r, f1, f2, q1, q2, B1⟩
  · obtain ⟨l1, l2, l3, l4, l5, l6⟩ := lhN ⟨vl k, by omega⟩
    have l1 : lowI (nI (vl k)) = nI (loN (vl k)) := l1
    have l2 : higI (nI (vl k)) = nI (hiN (vl k)) := l2
    have l3 : loN (vl k) ≤ hiN (vl k) := l3
    have l4 : hiN (vl k) ≤ 9999 := l4
    have kv : kin (nI (vl k)) 10 := (nI_kin (by omega)).mpr (by omega)
    obtain ⟨o1, o2, -, -⟩ := low_ok (k := vl k) (by omega)
    have R1' := Rel_52 (i := j) (x := (1 : Int32).toNatClampNeg) (v := nI (vl k)) R1
    have e52 : (kU (atA τ (e k)) 52 j (1 : Int32).toNatClampNeg (nI (vl k))).1 52 j 1 = nI (vl k) := kU_here
    rw [show f_X3_number F 0 9 σ = _ from q1, s_bi, if_neg (nI_nn (by omega)), kg_t kv, kg_t kv, nI_c (by omega), o1, o2, l1, l2, show f_X6_numberHere F 0 9 τ = _ from q2, s_bi, kg_t (by decide), s_b, if_pos rfl, if_pos rfl, if_pos R1'.2.1.2.2.2.1, e52, m_low, s_bi, e52, m_hig, s_bi, l1, l2]
    unfold f_X6_clauseHere_b283
    rcases s_num (F := F) (lo := loN (vl k)) (hi := hiN (vl k)) hF E R1' l3 l4 with ⟨hk2, w1, w2, q3, q4, R2⟩ | ⟨σ1, τ1, r, f1, f2, q3, q4, B1⟩
    · rw [q3, s_bi, kg_t kj, nI_c (show j < 2147483648 by omega), s_b, kg_t kj, s_b, if_neg (nI_nn (by omega)), q4, s_bi, kg_t (by decide), s_b]
      have R5 := Rel_52 (i := j) (x := (2 : Int32).toNatClampNeg) (v := nI (vl (k + 1))) (Rel_c (g := 13) (i := 0) (x := j) (v := nI (vl (k + 1))) (Rel_c (g := 12) (i := 0) (x := j) (v := nI (vl k)) R2 (by decide) (by decide) (by decide) (by decide) (by decide) (by decide)) (by decide) (by decide) (by decide) (by decide) (by decide) (by decide))
      obtain ⟨σ', τ', f1, f2, t1, t2⟩ := s_end (F := F) (j := j) hF E R5 (by rw [kU_g (by decide), kU_k (by decide), kU_g (by decide), kU_k (by decide)]; exact h9) (by omega)
      refine ⟨σ', τ', t1, ?_⟩
      rcases t2 with ⟨g1, g2, g3, g4, g5, g6⟩ | ⟨g1, g2⟩
      · refine Or.inl ⟨g1, ?_, ?_, ⟨_, by omega, g3⟩, g4, ?_⟩
        · rw [g5]
          exact ((((Fz.refl σ).u rfl).u rfl |>.u (by unfold cJ; simp) |>.u (by unfold cJ; simp))).u rfl
        · rw [g6]
          exact ((((Fz.refl τ).u rfl).u (by unfold rJ; simp)).u rfl |>.u (by unfold rJ; simp) |>.u rfl).u rfl
        · have a1 : τ'.1 52 j 1 = nI (vl k) := by
            rw [g6, kU_g (by decide), kU_g (by decide), kU_k (by decide), kU_g (by decide)]; exact kU_here
          have a2 : τ'.1 52 j 2 = nI (vl (k + 1)) := by
            rw [g6, kU_g (by decide), kU_g (by decide)]; exact kU_here
          have b1 : σ'.1 12 0 j = nI (vl k) := by
            rw [g5, kU_g (by decide), kU_g (by decide)]; exact kU_here
          have b2 : σ'.1 13 0 j = nI (vl (k + 1)) := by
            rw [g5, kU_g (by decide)]; exact kU_here
          have c17 : σ'.1 17 = σ.1 17 := by
            rw [g5]
            repeat rw [kU_g (by decide)]
          rw [a1, a2, b1, b2, nI_c (by omega)]
          refine ⟨rfl, rfl, rng_v (lo := 0) (hi := 9) v1 v2 (by decide), ?_, c17⟩
          have l5 : (loN (vl k) : Int) = leastN (vl k) := l5
          have l6 : (hiN (vl k) : Int) = mostN (vl k) := l6
          rw [← l5, ← l6]
          exact rng_v w1 w2 l4
      · exact Or.inr ⟨g1, (((Fz.refl σ).u rfl).u rfl |>.u (by unfold cQ; simp) |>.u (by unfold cQ; simp)).trans f1.cq, ((((Fz.refl τ).u rfl).u (by unfold rQ; simp)).u rfl |>.u (by unfold rQ; simp)).trans f2, g2⟩
    · rw [q3, s_bi, kg_t kj, nI_c (show j < 2147483648 by omega), s_b, kg_t kj, s_b, if_pos rfl, q4, s_bi, kg_t (by decide), s_b]
      obtain ⟨τ', t1, t2, t3⟩ := b_end (F := F) (BD_52 (i := j) (x := (2 : Int32).toNatClampNeg) (v := r) B1)
      exact ⟨_, τ', t2, Or.inr ⟨rfl, (((Fz.refl σ).u rfl).trans f1).cq.u (by unfold cQ; simp) |>.u (by unfold cQ; simp), ((((Fz.refl τ).u rfl).u (by unfold rQ; simp)).trans f2.rq |>.u (by unfold rQ; simp)).trans t1, BD_c (BD_c t3 (by decide)) (by decide)⟩⟩
  · rw [show f_X3_number F 0 9 σ = _ from q1, s_bi, if_pos rfl, s_bi, show f_X6_numberHere F 0 9 τ = _ from q2, s_bi, kg_t (by decide), s_b, if_pos rfl, if_pos rfl, if_neg (BD_6 (BD_52 B1))]
    obtain ⟨τ', t1, t2, t3⟩ := b_283 (F := F) (j := j) (v := 0) (BD_52 (i := j) (x := (1 : Int32).toNatClampNeg) (v := r) B1)
    exact ⟨σ1, τ', t2, Or.inr ⟨rfl, f1.cq, (f2.rq.u (by unfold rQ; simp)).trans t1, t3⟩⟩
end Setc
