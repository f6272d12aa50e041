/-! CONDITIONS: and, or, and how deep they go -/
section Conds3
variable {u : Nat → Nat} {n P : Nat} {s e : Nat → Nat} {kd : Nat → Int32} {vl : Nat → Nat}
theorem s_ands {F : Nat} (hF : 2000 ≤ F) (E : Env u n P s e kd vl) {k c o : Nat} {σ τ : kS} {oB oC : Int32 → kS → Option kR} {oT oO : kS → Option kR} (R : Rel u n P s kd vl k c o σ τ) (ho : o ≤ 6)
    (hT : o < 6 → ∀ k c σ τ, Rel u n P s kd vl k c (o + 1) σ τ → Sim u n P s kd vl (oB (nI (o + 1)) σ) (oT τ) k c (o + 1) (14 - 2 * o) σ τ) (hO : o < 6 → ∀ k c σ τ, Rel u n P s kd vl k c (o + 1) σ τ → Sim u n P s kd vl (oC (nI (o + 1)) σ) (oO τ) k c (o + 1) (16 - 2 * o) σ τ)
    (hBT : ∀ σ τ, BD u n σ τ → ∃ τ', Fz rP τ τ' ∧ oT τ = some (.inl none, τ') ∧ BD u n σ τ') (hBO : ∀ σ τ, BD u n σ τ → ∃ τ', Fz rP τ τ' ∧ oO τ = some (.inl none, τ') ∧ BD u n σ τ') : Sim u n P s kd vl (f_X3_readAnds F oB oC (nI o) σ) (f_X6_ands F oT oO τ) k c o (17 - 2 * o) σ τ := by
  have hpn := E.pn
  unfold f_X3_readAnds f_X6_ands
  refine s_first (bc := f_X3_readAnds_b8 F oB oC) (br := f_X6_ands_b4 F oT oO) (d := 17 - 2 * o) hF (by omega) (by omega) (s_basic hF E R ho hT hO hBT hBO) (fun τ => some (.inl none, τ)) (fun _ _ => True) (fun k c σ τ R => ⟨τ, Fz.refl τ, rfl, R, trivial⟩) (fun σ τ h => ⟨τ, Fz.refl τ, rfl, h⟩) ?_ ?_ ?_
  · intro rr x3 σ
    unfold f_X3_readAnds_b8 f_X3_readAnds_b57
    dsimp only
    by_cases z : 300 ≤ x3
    · rw [if_pos z]; rfl
    · rw [if_neg z, if_pos rfl]; rfl
  · intro rr τ h
    unfold f_X6_ands_b4 f_X6_ands_b43
    dsimp only
    rw [if_neg h]
  · intro rrc rrr x3 k c σ τ R _ hx
    have hk := R.2.2.1
    have Rb := Rel_b R
    unfold f_X3_readAnds_b8 f_X6_ands_b4 f_X3_readAnds_b57 f_X6_ands_b43 f_X3_readAnds_b49 f_X3_readAnds_b50
    dsimp only
    rw [if_neg (show ¬ 300 ≤ nI x3 from fun hx' => by have := (nJ_le (a := 300) (by omega) (by omega)).mp hx'; omega), if_neg (show ¬ (1 : Int32) = 0 by decide), if_pos R.2.1.2.2.2.1, show f_X6_isWord F 1 14 4 0 0 0 τ = rW F 14 τ from rfl, r_w' hF E hk R.2.1 (by omega) (by omega), s_bi, ifA]
    by_cases z : kd k = kw 14
    · obtain ⟨b, -, hb⟩ := t_let E hk
      have hkP := ((hb 14 (by omega) (by omega)).2 z).2
      rw [c_takeY (κ := -9) R.1 (by omega) hkP z, s_bi, if_neg (show ¬ (1 : Int32) = 0 by decide), if_pos z, r_skip (w := 14) hF E hk Rb.2.1.1 kU_here (by omega) (by omega) z, s_bv, show atA (atA τ (s k)) (e k) = atA τ (e k) from kU_kU, show nI x3 + 1 = nI (x3 + 1) from nI_s (by omega)]
      obtain ⟨σ', τ', t1, t2, t3, t4⟩ := s_item (F := F) (L0 := fun σ6 => rrc (nI o, 0, nI (x3 + 1)) σ6) (L1 := fun σ6 => rrc (nI o, 1, nI (x3 + 1)) σ6) (K := fun σ7 => rrr () σ7) (v := -9) (v' := 10034) (d := 17 - 2 * o) (by omega) R.2.2.2.1 (s_basic (F := F) hF E (Rel_n E R hkP) ho hT hO hBT hBO) ((Fz.refl σ).u rfl) ((Fz.refl τ).u rfl) (fun j _ => by rw [kU_g (by decide)]) (by omega) (by decide) ⟨by decide, by decide⟩ (by decide) (by decide)
      refine Or.inr ⟨σ', τ', t1, t2, t3, ?_⟩
      rcases t4 with ⟨k', c', q1, q2, q3, q4, q5, q6, q7⟩ | ⟨q1, q2⟩
      · exact Or.inl ⟨k', c', q1, q2, q3, q4, q5, trivial, q6, q7⟩
      · exact Or.inr ⟨q1, q2⟩
    · rw [c_takeN (κ := -9) R.1 (by omega) hk z, s_bi, if_pos rfl, if_neg z]
      exact Or.inl ⟨atA τ (s k), (Fz.refl τ).u rfl, rfl, rfl, Rb⟩
theorem s_ors {F : Nat} (hF : 2000 ≤ F) (E : Env u n P s e kd vl) {k c o : Nat} {σ τ : kS} {oB oC : Int32 → kS → Option kR} {oT oO : kS → Option kR} (R : Rel u n P s kd vl k c o σ τ) (ho : o ≤ 6)
    (hT : o < 6 → ∀ k c σ τ, Rel u n P s kd vl k c (o + 1) σ τ → Sim u n P s kd vl (oB (nI (o + 1)) σ) (oT τ) k c (o + 1) (14 - 2 * o) σ τ) (hO : o < 6 → ∀ k c σ τ, Rel u n P s kd vl k c (o + 1) σ τ → Sim u n P s kd vl (oC (nI (o + 1)) σ) (oO τ) k c (o + 1) (16 - 2 * o) σ τ)
    (hBT : ∀ σ τ, BD u n σ τ → ∃ τ', Fz rP τ τ' ∧ oT τ = some (.inl none, τ') ∧ BD u n σ τ') (hBO : ∀ σ τ, BD u n σ τ → ∃ τ', Fz rP τ τ' ∧ oO τ = some (.inl none, τ') ∧ BD u n σ τ') : Sim u n P s kd vl (f_X3_readCondition F oB oC (nI o) σ) (f_X6_ors F oT oO τ) k c o (18 - 2 * o) σ τ := by
  have hpn := E.pn
  unfold f_X3_readCondition f_X6_ors
  refine s_first (bc := f_X3_readCondition_b8 F oB oC) (br := f_X6_ors_b4 F oT oO) (d := 18 - 2 * o) hF (by omega) (by omega) (s_ands hF E R ho hT hO hBT hBO) (fun τ => some (.inl none, τ)) (fun _ _ => True) (fun k c σ τ R => ⟨τ, Fz.refl τ, rfl, R, trivial⟩) (fun σ τ h => ⟨τ, Fz.refl τ, rfl, h⟩) ?_ ?_ ?_
  · intro rr x3 σ
    unfold f_X3_readCondition_b8 f_X3_readCondition_b57
    dsimp only
    by_cases z : 300 ≤ x3
    · rw [if_pos z]; rfl
    · rw [if_neg z, if_pos rfl]; rfl
  · intro rr τ h
    unfold f_X6_ors_b4 f_X6_ors_b44
    dsimp only
    rw [if_neg h]
  · intro rrc rrr x3 k c σ τ R _ hx
    have hk := R.2.2.1
    have Rb := Rel_b R
    unfold f_X3_readCondition_b8 f_X6_ors_b4 f_X3_readCondition_b57 f_X6_ors_b44 f_X3_readCondition_b49 f_X3_readCondition_b50
    dsimp only
    rw [if_neg (show ¬ 300 ≤ nI x3 from fun hx' => by have := (nJ_le (a := 300) (by omega) (by omega)).mp hx'; omega), if_neg (show ¬ (1 : Int32) = 0 by decide), if_pos R.2.1.2.2.2.1, show f_X6_isWord F 15 18 0 0 0 0 τ = rW F 13 τ from rfl, r_w' hF E hk R.2.1 (by omega) (by omega), s_bi, ifA]
    by_cases z : kd k = kw 13
    · obtain ⟨b, -, hb⟩ := t_let E hk
      have hkP := ((hb 13 (by omega) (by omega)).2 z).2
      rw [c_takeY (κ := -10) R.1 (by omega) hkP z, s_bi, if_neg (show ¬ (1 : Int32) = 0 by decide), if_pos z, r_skip (w := 13) hF E hk Rb.2.1.1 kU_here (by omega) (by omega) z, s_bv, show atA (atA τ (s k)) (e k) = atA τ (e k) from kU_kU, show nI x3 + 1 = nI (x3 + 1) from nI_s (by omega)]
      obtain ⟨σ', τ', t1, t2, t3, t4⟩ := s_item (F := F) (L0 := fun σ6 => rrc (nI o, 0, nI (x3 + 1)) σ6) (L1 := fun σ6 => rrc (nI o, 1, nI (x3 + 1)) σ6) (K := fun σ7 => rrr () σ7) (v := -10) (v' := 10035) (d := 18 - 2 * o) (by omega) R.2.2.2.1 (s_ands (F := F) hF E (Rel_n E R hkP) ho hT hO hBT hBO) ((Fz.refl σ).u rfl) ((Fz.refl τ).u rfl) (fun j _ => by rw [kU_g (by decide)]) (by omega) (by decide) ⟨by decide, by decide⟩ (by decide) (by decide)
      refine Or.inr ⟨σ', τ', t1, t2, t3, ?_⟩
      rcases t4 with ⟨k', c', q1, q2, q3, q4, q5, q6, q7⟩ | ⟨q1, q2⟩
      · exact Or.inl ⟨k', c', q1, q2, q3, q4, q5, trivial, q6, q7⟩
      · exact Or.inr ⟨q1, q2⟩
    · rw [c_takeN (κ := -10) R.1 (by omega) hk z, s_bi, if_pos rfl, if_neg z]
      exact Or.inl ⟨atA τ (s k), (Fz.refl τ).u rfl, rfl, rfl, Rb⟩
theorem b_test {F : Nat} {oT oO : kS → Option kR} {σ τ : kS} (h : BD u n σ τ) : f_X6_test F oT oO τ = some (.inl none, τ) := by
  unfold f_X6_test
  rw [if_neg (BD_6 h)]
theorem b_ors {F : Nat} (hF : 2000 ≤ F) {oT oO : kS → Option kR} {σ τ : kS} (h : BD u n σ τ) : f_X6_ors F oT oO τ = some (.inl none, τ) := by
  obtain ⟨N, rfl⟩ : ∃ N', F = N' + 1 := ⟨F - 1, by omega⟩
  have l1 : kFix (f_X6_ands_b4 (N + 1) oT oO) (N + 1) () τ = some (.inl none, τ) := by
    show f_X6_ands_b4 _ _ _ _ () _ = _
    unfold f_X6_ands_b4 f_X6_ands_b43
    dsimp only
    rw [if_neg (BD_6 h)]
  have l2 : kFix (f_X6_ors_b4 (N + 1) oT oO) (N + 1) () τ = some (.inl none, τ) := by
    show f_X6_ors_b4 _ _ _ _ () _ = _
    unfold f_X6_ors_b4 f_X6_ors_b44
    dsimp only
    rw [if_neg (BD_6 h)]
  unfold f_X6_ors f_X6_ands
  rw [b_test h, s_bv, l1, s_bv, l2]
theorem b_to {F : Nat} (hF : 2000 ≤ F) {D : Nat} (hD : 1 ≤ D) : (∀ σ τ, BD u n σ τ → ∃ τ', Fz rP τ τ' ∧ (g_X6_to F D).1 τ = some (.inl none, τ') ∧ BD u n σ τ') ∧ (∀ σ τ, BD u n σ τ → ∃ τ', Fz rP τ τ' ∧ (g_X6_to F D).2 τ = some (.inl none, τ') ∧ BD u n σ τ') := by
  obtain ⟨D, rfl⟩ : ∃ D', D = D' + 1 := ⟨D - 1, by omega⟩
  exact ⟨fun σ τ h => ⟨τ, Fz.refl τ, b_test h, h⟩, fun σ τ h => ⟨τ, Fz.refl τ, b_ors hF h, h⟩⟩
theorem s_bc {F : Nat} (hF : 2000 ≤ F) (E : Env u n P s e kd vl) : ∀ (D o : Nat), o ≤ 6 → 8 ≤ D + o → (∀ k c σ τ, Rel u n P s kd vl k c o σ τ → Sim u n P s kd vl ((g_X3_bc F D).1 (nI o) σ) ((g_X6_to F D).1 τ) k c o (16 - 2 * o) σ τ) ∧ (∀ k c σ τ, Rel u n P s kd vl k c o σ τ → Sim u n P s kd vl ((g_X3_bc F D).2 (nI o) σ) ((g_X6_to F D).2 τ) k c o (18 - 2 * o) σ τ)
  | 0, o, h1, h2 => by omega
  | D + 1, o, h1, h2 => by
    have hb := b_to (u := u) (n := n) hF (D := D) (by omega)
    have hT : o < 6 → ∀ k c σ τ, Rel u n P s kd vl k c (o + 1) σ τ → Sim u n P s kd vl ((g_X3_bc F D).1 (nI (o + 1)) σ) ((g_X6_to F D).1 τ) k c (o + 1) (14 - 2 * o) σ τ := fun ho k c σ τ R => by
      have := (s_bc hF E D (o + 1) (by omega) (by omega)).1 k c σ τ R
      rw [show 16 - 2 * (o + 1) = 14 - 2 * o by omega] at this
      exact this
    have hO : o < 6 → ∀ k c σ τ, Rel u n P s kd vl k c (o + 1) σ τ → Sim u n P s kd vl ((g_X3_bc F D).2 (nI (o + 1)) σ) ((g_X6_to F D).2 τ) k c (o + 1) (16 - 2 * o) σ τ := fun ho k c σ τ R => by
      have := (s_bc hF E D (o + 1) (by omega) (by omega)).2 k c σ τ R
      rw [show 18 - 2 * (o + 1) = 16 - 2 * o by omega] at this
      exact this
    exact ⟨fun k c σ τ R => s_basic hF E R h1 hT hO hb.1 hb.2, fun k c σ τ R => s_ors hF E R h1 hT hO hb.1 hb.2⟩
/-- a condition, from outside -/
theorem s_cond {F : Nat} (hF : 2000 ≤ F) (E : Env u n P s e kd vl) {k c : Nat} {σ τ : kS} (R : Rel u n P s kd vl k c 0 σ τ) : Sim u n P s kd vl (f_X3_readConditionD F 0 σ) (f_X6_orsD F τ) k c 0 18 σ τ := (s_bc hF E 9 0 (by omega) (by omega)).2 k c σ τ R
end Conds3
