/-! THE END OF A CLAUSE, and what the reference still does after a fault -/
section Clauses2
variable {u : Nat → Nat} {n P : Nat} {s e : Nat → Nat} {kd : Nat → Int32} {vl : Nat → Nat}
theorem b_end {F : Nat} {σ τ : kS} (h : BD u n σ τ) : ∃ τ', Fz rQ τ τ' ∧ f_X6_clauseHere_b284 F τ = some (.inl none, τ') ∧ BD u n σ τ' := by
  unfold f_X6_clauseHere_b284
  rw [r_sgnN (BD_6 h), s_bv]
  exact ⟨_, (Fz.refl τ).u rfl, rfl, BD_9 h⟩
theorem b_187 {F j : Nat} {σ τ : kS} (h : BD u n σ τ) : ∃ τ', Fz rQ τ τ' ∧ f_X6_clauseHere_b187 F j τ = some (.inl none, τ') ∧ BD u n σ τ' := by
  unfold f_X6_clauseHere_b187
  rw [r_numN (BD_6 h), s_bi, s_b]
  obtain ⟨τ', t1, t2, t3⟩ := b_end (F := F) (BD_52 (i := j) (x := 3) (v := 0) h)
  exact ⟨τ', ((Fz.refl τ).u (by unfold rQ; simp)).trans t1, t2, t3⟩
theorem b_228 {F j : Nat} (hF : 2000 ≤ F) {σ τ : kS} (h : BD u n σ τ) : ∃ τ', Fz rQ τ τ' ∧ f_X6_clauseHere_b228 F j τ = some (.inl none, τ') ∧ BD u n σ τ' := by
  unfold f_X6_clauseHere_b228
  obtain ⟨τ1, f1, e1, g1⟩ := (b_to (u := u) (n := n) (F := F) hF (D := 9) (by omega)).2 _ _ (BD_52 (i := j) (x := 2) (v := τ.1 48 0 8) h)
  rw [s_b, show f_X6_orsD F (kU τ 52 j 2 (τ.1 48 0 8)) = _ from e1, s_bv, s_b]
  obtain ⟨τ', t1, t2, t3⟩ := b_end (F := F) (BD_52 (i := j) (x := 3) (v := τ1.1 48 0 8) g1)
  exact ⟨τ', (((Fz.refl τ).u (by unfold rQ; simp)).trans f1.rq |>.u (by unfold rQ; simp)).trans t1, t2, t3⟩
/-- after a fault in the first number of a clause -/
theorem b_283 {F j : Nat} {v : Int32} {σ τ : kS} (h : BD u n σ τ) : ∃ τ', Fz rQ τ τ' ∧ f_X6_clauseHere_b283 F j 2 v τ = some (.inl none, τ') ∧ BD u n σ τ' := by
  unfold f_X6_clauseHere_b283
  rw [kg_t (by decide), s_b]
  obtain ⟨τ', t1, t2, t3⟩ := b_end (F := F) (BD_52 (i := j) (x := (2 : Int32).toNatClampNeg) (v := v) h)
  exact ⟨τ', ((Fz.refl τ).u (by unfold rQ; simp)).trans t1, t2, t3⟩
/-- the sign at the end -/
theorem s_end {F : Nat} (hF : 2000 ≤ F) (E : Env u n P s e kd vl) {k c j : Nat} {σ τ : kS} (R : Rel u n P s kd vl k c 0 σ τ) (h9 : τ.1 48 0 9 = nI j) (hj : j ≤ 14) :
    ∃ σ' τ', Fz cP σ σ' ∧ Fz rQ τ τ' ∧ f_X6_clauseHere_b284 F τ = some (.inl none, τ') ∧ ((f_X3_readClause_b109 F 1 σ = some (.inl (some (.int 1)), σ') ∧ k < P ∧ Rel u n P s kd vl (k + 1) c 0 σ' τ' ∧ τ'.1 48 0 9 = nI (j + 1) ∧ σ' = kU σ 2 0 7 (nI (k + 1)) ∧ τ' = kU (atA τ (e k)) 48 0 9 (nI (j + 1))) ∨ (f_X3_readClause_b109 F 1 σ = some (.inl (some (.int 0)), σ') ∧ BD u n σ' τ')) := by
  unfold f_X6_clauseHere_b284 f_X3_readClause_b109 f_X3_readClause_b127 f_X3_readClause_b128
  rw [if_neg (show ¬ (1 : Int32) = 0 by decide)]
  rcases s_sign (F := F) (v := 59) hF E R (by omega) (by unfold isD; omega) (by unfold isL; omega) with ⟨hk, q1, q2, q3⟩ | ⟨σ', τ', f1, f2, q1, q2, q3⟩
  · rw [show f_X3_expect F 59 σ = _ from q1, s_bi, if_neg (by decide), show f_X6_sign F 59 τ = _ from q2, s_bv, kU_k (by decide), h9, nI_s (by omega)]
    exact ⟨_, _, (Fz.refl σ).u rfl, ((Fz.refl τ).u rfl).u rfl, rfl, Or.inl ⟨rfl, hk, Rel_9 q3, kU_here, rfl, rfl⟩⟩
  · rw [show f_X3_expect F 59 σ = _ from q1, s_bi, if_pos rfl, show f_X6_sign F 59 τ = _ from q2, s_bv]
    exact ⟨_, _, f1, f2.rq.u rfl, rfl, Or.inr ⟨rfl, BD_9 q3⟩⟩
end Clauses2
