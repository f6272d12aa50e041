/-! LEAK -/
def cJ (j g i k : Nat) : Bool := cP g i k || (i == 0 && k == j && (g == 12 || g == 13 || g == 14 || g == 15 || g == 16))
def rJ (j g i k : Nat) : Bool := rP g i k || (i == 0 && g == 48 && k == 9) || (g == 52 && i == j && (k == 1 || k == 2 || k == 3))
section Leak
variable {u : Nat → Nat} {n P : Nat} {s e : Nat → Nat} {kd : Nat → Int32} {vl : Nat → Nat}
theorem Fz.cj {j : Nat} {σ σ' : kS} (h : Fz cP σ σ') : Fz (cJ j) σ σ' := h.sub fun g i k q => by
  unfold cJ at q
  exact (Bool.or_eq_false_iff.mp q).1
theorem Fz.rj {j : Nat} {σ σ' : kS} (h : Fz rP σ σ') : Fz (rJ j) σ σ' := h.sub fun g i k q => by
  unfold rJ at q
  exact (Bool.or_eq_false_iff.mp (Bool.or_eq_false_iff.mp q).1).1
theorem rng_v {v lo hi : Nat} (h1 : lo ≤ v) (h2 : v ≤ hi) (h3 : hi ≤ 9999) : rng (nI v) lo hi := by
  show (lo : Int) ≤ (nI v).toInt ∧ (nI v).toInt ≤ hi
  rw [nI_toInt (by omega)]; omega
theorem s_leak {F : Nat} (hF : 2000 ≤ F) (E : Env u n P s e kd vl) {k c j : Nat} {x2 : Int32} {σ τ : kS} (R : Rel u n P s kd vl k c 0 σ τ) (hj : j < 14) (h9 : τ.1 48 0 9 = nI j) :
    ∃ σ' τ', f_X6_clauseHere_b143 F 1 x2 j j 1 0 7 τ = some (.inl none, τ') ∧
      (((kBi (f_X3_readLeak F (nI j) σ) fun c17 σ16 => f_X3_readClause_b109 F c17 σ16) = some (.inl (some (.int 1)), σ') ∧ Fz (cJ j) σ σ' ∧ Fz (rJ j) τ τ' ∧ (∃ k', k < k' ∧ Rel u n P s kd vl k' c 0 σ' τ') ∧ τ'.1 48 0 9 = nI (j + 1) ∧ τ'.1 52 j 1 = σ'.1 12 0 j ∧ τ'.1 52 j 2 = σ'.1 13 0 j ∧ τ'.1 52 j 3 = σ'.1 14 0 j ∧ rng (τ'.1 52 j 1) 0 7 ∧ rng (τ'.1 52 j 2) 0 99 ∧ rng (τ'.1 52 j 3) 0 99 ∧ σ'.1 17 = σ.1 17) ∨
       ((kBi (f_X3_readLeak F (nI j) σ) fun c17 σ16 => f_X3_readClause_b109 F c17 σ16) = some (.inl (some (.int 0)), σ') ∧ Fz cQ σ σ' ∧ Fz rQ τ τ' ∧ BD u n σ' τ')) := by
  have kj : kin (nI j) 14 := (nI_kin (by omega)).mpr hj
  unfold f_X3_readLeak f_X3_readLeak_b24 f_X3_readLeak_b39 f_X3_readLeak_b92 f_X6_clauseHere_b143
  rcases s_num (F := F) (lo := 0) (hi := 7) hF E R (by omega) (by omega) with ⟨hk1, v1, v2, q1, q2, R1⟩ | ⟨σ1, τ1, r, f1, f2, q1, q2, B1⟩
  · rw [show f_X3_number F 0 7 σ = _ from q1, s_bi, if_neg (nI_nn (by omega)), show f_X6_numberHere F 0 7 τ = _ from q2, s_bi, kg_t (by decide), s_b, if_neg (show ¬ (1 : Int32) = 0 by decide)]
    have R1' : Rel u n P s kd vl (k + 1) c 0 (kU σ 2 0 7 (nI (k + 1))) (kU (atA τ (e k)) 52 j (1 : Int32).toNatClampNeg (nI (vl k))) := Rel_52 R1
    rcases s_num (F := F) (lo := 0) (hi := 99) hF E R1' (by omega) (by omega) with ⟨hk2, w1, w2, q3, q4, R2⟩ | ⟨σ1, τ1, r, f1, f2, q3, q4, B1⟩
    · rw [show f_X3_number F 0 99 (kU σ 2 0 7 (nI (k + 1))) = _ from q3, s_bi, if_neg (nI_nn (by omega)), show f_X6_numberHere F 0 99 (kU (atA τ (e k)) 52 j (1 : Int32).toNatClampNeg (nI (vl k))) = _ from q4, s_bi, s_b]
      have R2' := Rel_52 (i := j) (x := 2) (v := nI (vl (k + 1))) R2
      rw [if_pos R2'.2.1.2.2.2.1]
      rcases s_word (F := F) (w := 11) (K := fun σ34 => f_X6_clauseHere_b187 F j σ34) hF E R2' (by omega) (by omega) with ⟨hk3, q5, q6, R3⟩ | ⟨σ1, τ1, f1, f2, q5, q6, B1⟩
      · rw [show f_X3_expect F (-20) _ = _ from q5, s_bi, if_neg (show ¬ (1 : Int32) = 0 by decide)]
        rw [show (kBi (f_X6_isWord F 6 18 15 13 0 0 _) fun c33 σ32 => kBv (f_X6_must F c33 σ32) fun σ34 => f_X6_clauseHere_b187 F j σ34) = _ from q6]
        unfold f_X6_clauseHere_b187
        rcases s_num (F := F) (lo := 0) (hi := 99) hF E R3 (by omega) (by omega) with ⟨hk4, y1, y2, q7, q8, R4⟩ | ⟨σ1, τ1, r, f1, f2, q7, q8, B1⟩
        · rw [show f_X3_number F 0 99 _ = _ from q7, s_bi, kg_t kj, nI_c (by omega), s_b, kg_t kj, s_b, kg_t kj, s_b, if_neg (nI_nn (by omega)), show f_X6_numberHere F 0 99 _ = _ from q8, s_bi, s_b]
          have R5 := Rel_52 (i := j) (x := 3) (v := nI (vl (k + 1 + 1 + 1))) (Rel_c (g := 14) (i := 0) (x := j) (v := nI (vl (k + 1 + 1 + 1))) (Rel_c (g := 13) (i := 0) (x := j) (v := nI (vl (k + 1))) (Rel_c (g := 12) (i := 0) (x := j) (v := nI (vl k)) R4 (by decide) (by decide) (by decide) (by decide) (by decide) (by decide)) (by decide) (by decide) (by decide) (by decide) (by decide) (by decide)) (by decide) (by decide) (by decide) (by decide) (by decide) (by decide))
          obtain ⟨σ', τ', f1, f2, t1, t2⟩ := s_end (F := F) (j := j) hF E R5 (by rw [kU_g (by decide), kU_k (by decide), kU_k (by decide), kU_g (by decide), kU_k (by decide), kU_g (by decide), kU_k (by decide)]; exact h9) (by omega)
          refine ⟨σ', τ', t1, ?_⟩
          rcases t2 with ⟨g1, g2, g3, g4, g5, g6⟩ | ⟨g1, g2⟩
          · refine Or.inl ⟨g1, ?_, ?_, ⟨_, by omega, g3⟩, g4, ?_⟩
            · rw [g5]
              exact (((((Fz.refl σ).u rfl).u rfl).u rfl).u rfl |>.u (by unfold cJ; simp) |>.u (by unfold cJ; simp) |>.u (by unfold cJ; simp)).u rfl
            · rw [g6]
              exact ((((Fz.refl τ).u rfl).u (by unfold rJ; simp)).u rfl |>.u (by unfold rJ; simp) |>.u rfl |>.u rfl |>.u (by unfold rJ; simp) |>.u rfl).u rfl
            · have a1 : τ'.1 52 j 1 = nI (vl k) := by
                rw [g6, kU_g (by decide), kU_g (by decide), kU_k (by decide), kU_g (by decide), kU_g (by decide), kU_k (by decide), kU_g (by decide)]; exact kU_here
              have a2 : τ'.1 52 j 2 = nI (vl (k + 1)) := by
                rw [g6, kU_g (by decide), kU_g (by decide), kU_k (by decide), kU_g (by decide), kU_g (by decide)]; exact kU_here
              have a3 : τ'.1 52 j 3 = nI (vl (k + 1 + 1 + 1)) := by
                rw [g6, kU_g (by decide), kU_g (by decide)]; exact kU_here
              have b1 : σ'.1 12 0 j = nI (vl k) := by
                rw [g5, kU_g (by decide), kU_g (by decide), kU_g (by decide)]; exact kU_here
              have b2 : σ'.1 13 0 j = nI (vl (k + 1)) := by
                rw [g5, kU_g (by decide), kU_g (by decide)]; exact kU_here
              have b3 : σ'.1 14 0 j = nI (vl (k + 1 + 1 + 1)) := by
                rw [g5, kU_g (by decide)]; exact kU_here
              have c17 : σ'.1 17 = σ.1 17 := by
                rw [g5]
                repeat rw [kU_g (by decide)]
              rw [a1, a2, a3, b1, b2, b3]
              exact ⟨rfl, rfl, rfl, rng_v (lo := 0) (hi := 7) v1 v2 (by decide), rng_v (lo := 0) (hi := 99) w1 w2 (by decide), rng_v (lo := 0) (hi := 99) y1 y2 (by decide), c17⟩
          · exact Or.inr ⟨g1, ((((Fz.refl σ).u rfl).u rfl).u rfl |>.u rfl |>.u (by unfold cQ; simp) |>.u (by unfold cQ; simp) |>.u (by unfold cQ; simp)).trans f1.cq, ((((Fz.refl τ).u rfl).u (by unfold rQ; simp)).u rfl |>.u (by unfold rQ; simp) |>.u rfl |>.u rfl |>.u (by unfold rQ; simp)).trans f2, g2⟩
        · rw [show f_X3_number F 0 99 _ = _ from q7, s_bi, kg_t kj, nI_c (by omega), s_b, kg_t kj, s_b, kg_t kj, s_b, if_pos rfl, show f_X6_numberHere F 0 99 _ = _ from q8, s_bi, s_b]
          obtain ⟨τ', t1, t2, t3⟩ := b_end (F := F) (BD_52 (i := j) (x := 3) (v := r) B1)
          exact ⟨_, τ', t2, Or.inr ⟨rfl, ((((((Fz.refl σ).u rfl).u rfl).u rfl).trans f1).cq.u (by unfold cQ; simp) |>.u (by unfold cQ; simp)).u (by unfold cQ; simp), ((((((Fz.refl τ).u rfl).u (by unfold rQ; simp)).u rfl).u (by unfold rQ; simp)).u rfl |>.trans f2.rq |>.u (by unfold rQ; simp)).trans t1, BD_c (BD_c (BD_c t3 (by decide)) (by decide)) (by decide)⟩⟩
      · rw [show f_X3_expect F (-20) _ = _ from q5, s_bi, if_pos rfl, s_bi, show (kBi (f_X6_isWord F 6 18 15 13 0 0 _) fun c33 σ32 => kBv (f_X6_must F c33 σ32) fun σ34 => f_X6_clauseHere_b187 F j σ34) = _ from q6]
        obtain ⟨τ', t1, t2, t3⟩ := b_187 (F := F) (j := j) B1
        exact ⟨σ1, τ', t2, Or.inr ⟨rfl, (((Fz.refl σ).u rfl).u rfl |>.trans f1).cq, (((((Fz.refl τ).u rfl).u (by unfold rQ; simp)).u rfl).u (by unfold rQ; simp) |>.trans f2.rq).trans t1, t3⟩⟩
    · rw [show f_X3_number F 0 99 (kU σ 2 0 7 (nI (k + 1))) = _ from q3, s_bi, if_pos rfl, s_bi, show f_X6_numberHere F 0 99 (kU (atA τ (e k)) 52 j (1 : Int32).toNatClampNeg (nI (vl k))) = _ from q4, s_bi, s_b, if_neg (BD_6 (BD_52 B1))]
      obtain ⟨τ', t1, t2, t3⟩ := b_187 (F := F) (j := j) (BD_52 (i := j) (x := 2) (v := r) B1)
      exact ⟨σ1, τ', t2, Or.inr ⟨rfl, (((Fz.refl σ).u rfl).trans f1).cq, ((((Fz.refl τ).u rfl).u (by unfold rQ; simp)).trans f2.rq |>.u (by unfold rQ; simp)).trans t1, t3⟩⟩
  · rw [show f_X3_number F 0 7 σ = _ from q1, s_bi, if_pos rfl, if_pos rfl, s_bi, show f_X6_numberHere F 0 7 τ = _ from q2, s_bi, kg_t (by decide), s_b, if_neg (show ¬ (1 : Int32) = 0 by decide), r_numN (BD_6 (BD_52 B1)), s_bi, s_b, if_neg (BD_6 (BD_52 (BD_52 B1)))]
    obtain ⟨τ', t1, t2, t3⟩ := b_187 (F := F) (j := j) (BD_52 (i := j) (x := 2) (v := 0) (BD_52 (i := j) (x := (1 : Int32).toNatClampNeg) (v := r) B1))
    exact ⟨σ1, τ', t2, Or.inr ⟨rfl, f1.cq, ((f2.rq.u (by unfold rQ; simp)).u (by unfold rQ; simp)).trans t1, t3⟩⟩
end Leak
