/-! A WHOLE CLAUSE, BY BOTH -/
section Clause7
variable {u : Nat → Nat} {n P : Nat} {s e : Nat → Nat} {kd : Nat → Int32} {vl : Nat → Nat}
theorem r_any {F : Nat} (hF : 2000 ≤ F) (E : Env u n P s e kd vl) {k c : Nat} {τ : kS} (hk : k ≤ P) (h : RR u n s k c 0 τ) (h3 : kd k = -17 ∨ kd k = -18 ∨ kd k = -19) :
    f_X6_clauseHere F τ = f_X6_clauseHere_b65 F (if kd k = -17 then (1 : Int32) else 0) (if kd k = -18 then (1 : Int32) else 0) (if kd k = -19 then (1 : Int32) else 0) (atA τ (s k)) := by
  rw [r_three hF E hk h]
  rcases h3 with z | z | z
  · rw [z]; exact if_neg (by decide)
  · rw [z]; exact (if_pos (by decide)).trans (if_neg (by decide))
  · rw [z]; exact (if_pos (by decide)).trans ((if_pos (by decide)).trans (if_neg (by decide)))
theorem r_none {F : Nat} (hF : 2000 ≤ F) (E : Env u n P s e kd vl) {k c : Nat} {τ : kS} (hk : k ≤ P) (h : RR u n s k c 0 τ) (z1 : kd k ≠ -17) (z2 : kd k ≠ -18) (z3 : kd k ≠ -19) :
    f_X6_clauseHere F τ = some (.inl none, kU (kU (atA τ (s k)) 48 0 6 1) 48 0 7 (nI (s k))) := by
  have hb := RR_a h (atK_r (u := u) (s := s) (k := k))
  rw [r_three hF E hk h, if_neg z1, if_neg z2, if_neg z3, if_pos rfl, if_pos rfl, if_pos rfl, r_wrong hb.2.2.2.1, s_bv]
  unfold f_X6_clauseHere_b83
  rw [if_neg (by rw [kU_k (by decide), kU_here]; decide)]
def goodC (u : Nat → Nat) (n P : Nat) (s : Nat → Nat) (kd : Nat → Int32) (vl : Nat → Nat) (k c j : Nat) (σ τ σ' τ' : kS) : Prop := j < 14 ∧ Fz (cC j) σ σ' ∧ Fz (rC j) τ τ' ∧ τ'.1 48 0 9 = nI (j + 1) ∧ σ'.1 10 0 0 = nI (j + 1) ∧ ∃ k' c', k < k' ∧ c ≤ c' ∧ Rel u n P s kd vl k' c' 0 σ' τ' ∧ (∀ i, i < c → σ'.1 17 0 i = σ.1 17 0 i) ∧ clB (yOf σ'.1 0) (τ'.1 52) (τ'.1 50 0) j ∧ (yk (yOf σ'.1 0) j = -18 → ye (yOf σ'.1 0) j ≤ c')
theorem s_clause {F : Nat} (hF : 2000 ≤ F) (E : Env u n P s e kd vl) {k c j : Nat} {σ τ : kS} (R : Rel u n P s kd vl k c 0 σ τ) (hj : j ≤ 14) (h9 : τ.1 48 0 9 = nI j) :
    ∃ σ' τ', f_X6_clauseHere F τ = some (.inl none, τ') ∧
      ((f_X3_readClause F (nI j) σ = some (.inl (some (.int 1)), σ') ∧ goodC u n P s kd vl k c j σ τ σ' τ') ∨
       (f_X3_readClause F (nI j) σ = some (.inl (some (.int 0)), σ') ∧ Fz cQ σ σ' ∧ Fz rQ τ τ' ∧ BD u n σ' τ')) := by
  have hpn := E.pn
  have hk := R.2.2.1
  have hsn := E.sn hk
  have hP : P ≤ 300 := by omega
  obtain ⟨b, -, hb⟩ := t_let E hk
  by_cases h3 : kd k = -17 ∨ kd k = -18 ∨ kd k = -19
  · have hkP : k < P := by
      rcases h3 with z | z | z
      · exact ((hb 8 (by omega) (by omega)).2 z).2
      · exact ((hb 9 (by omega) (by omega)).2 z).2
      · exact ((hb 10 (by omega) (by omega)).2 z).2
    rw [r_any hF E hk R.2.1 h3]
    by_cases hj4 : j = 14
    · subst hj4
      rw [r_65f R.2.1 h9, c_full R.1 hP hkP h3]
      exact ⟨_, _, rfl, Or.inr ⟨rfl, ((Fz.refl σ).u rfl).u rfl, (((Fz.refl τ).u rfl).u rfl).u rfl, BD_i R.2.1 (by decide) (by omega)⟩⟩
    · have hj' : j < 14 := by omega
      have Rn1 := Rel_n E R hkP
      have R1 : ∀ κ v, Rel u n P s kd vl (k + 1) c 0 (kU (kU (kU σ 2 0 7 (nI (k + 1))) 11 0 j κ) 10 0 0 (nI (j + 1))) (kU (atA τ (e k)) 52 j (0 : Int32).toNatClampNeg v) := fun κ v => Rel_52 (Rel_10 (Rel_c Rn1 (by decide) (by decide) (by decide) (by decide) (by decide) (by decide)))
      have h9' : ∀ v, (kU (atA τ (e k)) 52 j (0 : Int32).toNatClampNeg v).1 48 0 9 = nI j := fun v => by rw [kU_g (by decide), kU_k (by decide)]; exact h9
      have fC : ∀ κ, Fz (cC j) σ (kU (kU (kU σ 2 0 7 (nI (k + 1))) 11 0 j κ) 10 0 0 (nI (j + 1))) := fun κ => (((Fz.refl σ).u rfl).u (by simp [cC])).u rfl
      have fR : ∀ v, Fz (rC j) τ (kU (atA τ (e k)) 52 j (0 : Int32).toNatClampNeg v) := fun v => ((Fz.refl τ).u rfl).u (by simp [rC])
      have e17 : ∀ κ, (kU (kU (kU σ 2 0 7 (nI (k + 1))) 11 0 j κ) 10 0 0 (nI (j + 1))).1 17 = σ.1 17 := fun κ => by rw [kU_g (by decide), kU_g (by decide), kU_g (by decide)]
      have e11 : ∀ κ σ', Fz (cJ j) (kU (kU (kU σ 2 0 7 (nI (k + 1))) 11 0 j κ) 10 0 0 (nI (j + 1))) σ' → σ'.1 11 0 j = κ ∧ σ'.1 10 0 0 = nI (j + 1) := fun κ σ' f => ⟨by rw [f.1 11 0 j (by simp [cJ, cP]), kU_g (by decide)]; exact kU_here, by rw [f.1 10 0 0 (by simp [cJ, cP])]; exact kU_here⟩
      have e52 : ∀ v τ', Fz (rJ j) (kU (atA τ (e k)) 52 j (0 : Int32).toNatClampNeg v) τ' → τ'.1 52 j 0 = v := fun v τ' f => by rw [f.1 52 j 0 (by simp [rJ, rP])]; exact kU_here
      rcases h3 with z | z | z
      · have hc : f_X3_readClause F (nI j) σ = _ := c_open R.1 hP hkP hj' z (Or.inl rfl)
        rw [s_b, if_pos rfl] at hc
        rw [hc, if_pos z, if_neg (show ¬ kd k = -18 by rw [z]; decide), if_neg (show ¬ kd k = -19 by rw [z]; decide), r_65 (w := 8) hF E hkP R.2.1 (by omega) (by omega) z h9 hj', if_neg (show ¬ (1 : Int32) = 0 by decide)]
        unfold f_X6_clauseHere_b126
        rw [kg_t (by decide), s_b, if_pos rfl]
        obtain ⟨σ', τ', t1, t2⟩ := s_leak (F := F) (x2 := 0) hF E (R1 (-17) 0) hj' (h9' 0)
        refine ⟨σ', τ', t1, ?_⟩
        rcases t2 with ⟨g1, f1, f2, ⟨k', g2, g3⟩, g4, g5, g6, g7, g8, g9, g10, g11⟩ | ⟨g1, f1, f2, g2⟩
        · obtain ⟨y1, y2⟩ := e11 _ _ f1
          refine Or.inl ⟨g1, hj', (fC _).trans f1.cc, (fR _).trans f2.rc, g4, y2, k', c, by omega, Nat.le_refl _, g3, fun i _ => by rw [g11, e17], ⟨g5, Or.inl ⟨y1, e52 _ _ f2, g6, g7, g8, g9, g10⟩⟩, fun q => ?_⟩
          have q : σ'.1 11 0 j = -18 := q
          rw [y1] at q
          exact absurd q (by decide)
        · exact Or.inr ⟨g1, (fC _).ccq.trans f1, (fR _).rcq.trans f2, g2⟩
      · have hc : f_X3_readClause F (nI j) σ = _ := c_open R.1 hP hkP hj' z (Or.inr (Or.inl rfl))
        rw [s_b, if_neg (by decide), if_pos rfl] at hc
        rw [hc, if_neg (show ¬ kd k = -17 by rw [z]; decide), if_pos z, if_neg (show ¬ kd k = -19 by rw [z]; decide), r_65 (w := 9) hF E hkP R.2.1 (by omega) (by omega) z h9 hj', if_pos rfl, if_neg (show ¬ (1 : Int32) = 0 by decide)]
        unfold f_X6_clauseHere_b126
        rw [kg_t (by decide), s_b, if_pos rfl]
        obtain ⟨σ', τ', t1, t2⟩ := s_spark (F := F) hF E (R1 (-18) 1) hj' (h9' 1)
        refine ⟨σ', τ', t1, ?_⟩
        rcases t2 with ⟨g1, f1, f2, g4, g5, g6, k', c', g7, g8, g9, g10, g11, g12, g13, g14, g15, g16⟩ | ⟨g1, f1, f2, g2⟩
        · obtain ⟨y1, y2⟩ := e11 _ _ f1
          have hk' := g10.2.2.1
          have hc' := g10.2.2.2.1
          have ys1 : ys (yOf σ'.1 0) j = c := by
            show (σ'.1 15 0 j).toNatClampNeg = c
            rw [g14, nI_c (by omega)]
          have ye1 : ye (yOf σ'.1 0) j = c' := by
            show (σ'.1 16 0 j).toNatClampNeg = c'
            rw [g16, nI_c (by omega)]
          refine Or.inl ⟨g1, hj', (fC _).trans f1.cc, (fR _).trans f2.rc, g4, y2, k', c', by omega, by omega, g10, fun i hi => by rw [g11 i hi, e17], ⟨g5, Or.inr (Or.inl ⟨y1, e52 _ _ f2, g13.trans g14.symm, g15.trans g16.symm, g6, ?_, ?_, ?_, fun i i1 i2 => ?_, ?_⟩)⟩, fun _ => by rw [ye1]; exact Nat.le_refl _⟩
          · rw [g13, nI_toInt (by omega)]; omega
          · rw [g13, g15, nI_toInt (by omega), nI_toInt (by omega)]; omega
          · rw [g15, nI_toInt (by omega)]; omega
          · rw [ye1] at i2
            exact g10.2.2.2.2 i i2
          · rw [ys1, ye1]; exact g12
        · exact Or.inr ⟨g1, (fC _).ccq.trans f1, (fR _).rcq.trans f2, g2⟩
      · have hc : f_X3_readClause F (nI j) σ = _ := c_open R.1 hP hkP hj' z (Or.inr (Or.inr rfl))
        rw [s_b, if_neg (by decide), if_neg (by decide)] at hc
        rw [hc, if_neg (show ¬ kd k = -17 by rw [z]; decide), if_neg (show ¬ kd k = -18 by rw [z]; decide), if_pos z, r_65 (w := 10) hF E hkP R.2.1 (by omega) (by omega) z h9 hj', if_pos rfl, if_pos rfl]
        unfold f_X6_clauseHere_b126
        rw [kg_t (by decide), s_b, if_neg (show ¬ (1 : Int32) = 0 by decide)]
        obtain ⟨σ', τ', t1, t2⟩ := s_set (F := F) hF E (R1 (-19) 2) hj' (h9' 2)
        refine ⟨σ', τ', t1, ?_⟩
        rcases t2 with ⟨g1, f1, f2, ⟨k', g2, g3⟩, g4, g5, g6, g8, g9, g11⟩ | ⟨g1, f1, f2, g2⟩
        · obtain ⟨y1, y2⟩ := e11 _ _ f1
          refine Or.inl ⟨g1, hj', (fC _).trans f1.cc, (fR _).trans f2.rc, g4, y2, k', c, by omega, Nat.le_refl _, g3, fun i _ => by rw [g11, e17], ⟨g5, Or.inr (Or.inr ⟨y1, e52 _ _ f2, g6, g8, g9⟩)⟩, fun q => ?_⟩
          have q : σ'.1 11 0 j = -18 := q
          rw [y1] at q
          exact absurd q (by decide)
        · exact Or.inr ⟨g1, (fC _).ccq.trans f1, (fR _).rcq.trans f2, g2⟩
  · have z1 : kd k ≠ -17 := fun q => h3 (Or.inl q)
    have z2 : kd k ≠ -18 := fun q => h3 (Or.inr (Or.inl q))
    have z3 : kd k ≠ -19 := fun q => h3 (Or.inr (Or.inr q))
    rw [r_none hF E hk R.2.1 z1 z2 z3, c_none R.1 hP hk z1 z2 z3]
    exact ⟨_, _, rfl, Or.inr ⟨rfl, ((Fz.refl σ).u rfl).u rfl, (((Fz.refl τ).u rfl).u rfl).u rfl, BD_i R.2.1 (by decide) (by omega)⟩⟩
end Clause7
