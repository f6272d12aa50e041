/-! PRODUCTS AND SUMS -/
section Sums
variable {u : Nat → Nat} {n P : Nat} {s e : Nat → Nat} {kd : Nat → Int32} {vl : Nat → Nat}
theorem s_item {F : Nat} (hP : P ≤ 300) {k c o d d2 : Nat} {σ τ σ1 τ1 : kS} {ic ir : Option kR} {L0 L1 K : kS → Option kR} {v v' : Int32} (hck : c ≤ k) (S : Sim u n P s kd vl ic ir (k + 1) c o d2 σ1 τ1) (hf1 : Fz cP σ σ1) (hf2 : Fz rP τ τ1) (h17 : ∀ j, j < c → σ1.1 17 0 j = σ.1 17 0 j) (hd : d2 + 1 ≤ d) (hv : v' = trC v) (hr : rng v (-16) 9999) (c1 : ¬ -7 ≤ v) (c2 : v ≠ -8) :
    ∃ σ' τ', Fz cP σ σ' ∧ Fz rP τ τ' ∧ (kBv ir fun σ6 => kBv (f_X6_tells F v' σ6) K) = K τ' ∧
      ((∃ k' c', (kBi ic fun c7 σ6 => if c7 = 0 then L0 σ6 else kBi (f_X3_write F v σ6) fun c10 σ9 => if c10 = 0 then L0 σ9 else L1 σ9) = L1 σ' ∧ k < k' ∧ c < c' ∧ c' + k ≤ c + k' ∧ Rel u n P s kd vl k' c' o σ' τ' ∧ (∀ j, j < c → σ'.1 17 0 j = σ.1 17 0 j) ∧ ∀ a, a ≤ c → wfS d (codeOf (σ.1 17 0) a c) → wfS d (codeOf (σ'.1 17 0) a c')) ∨
       ((kBi ic fun c7 σ6 => if c7 = 0 then L0 σ6 else kBi (f_X3_write F v σ6) fun c10 σ9 => if c10 = 0 then L0 σ9 else L1 σ9) = L0 σ' ∧ BD u n σ' τ')) := by
  obtain ⟨σ2, τ2, f1, f2, e1, hh⟩ := S
  rw [e1, s_bv]
  rcases hh with ⟨k', c', g1, g2, g3, g4, R2, g5, g6⟩ | ⟨g1, g2⟩
  · have hk' := R2.2.2.1
    refine ⟨pushC σ2 c' v, pushR τ2 c' v', ((hf1.trans f1).u rfl).u rfl, ((hf2.trans f2).u rfl).u rfl, ?_, Or.inl ⟨k', c' + 1, ?_, by omega, by omega, by omega, Rel_w R2 (by omega) hv hr, fun j hj => ?_, fun a ha hw => ?_⟩⟩
    · rw [r_tells R2.2.1 (by omega), s_bv]
    · rw [g1, s_bi, if_neg (by decide), c_write R2.1 (by omega), s_bi, if_neg (by decide)]
    · rw [push_o (by omega), g5 j hj, h17 j hj]
    · rw [co_app (b := c') (by omega) (by omega), co_app (a := a) (b := c) (c := c') ha (by omega), co_one, push_h, co_cg (f := σ2.1 17 0) (a := c) (b := c') (fun j _ hj => push_o hj), co_cg (f := σ.1 17 0) (a := a) (b := c) (fun j _ hj => by rw [push_o (by omega), g5 j hj, h17 j hj]), List.append_assoc]
      exact wf_bin hw g6 (Nat.le_refl _) hd c1 c2
  · refine ⟨σ2, τ2, hf1.trans f1, hf2.trans f2, ?_, Or.inr ⟨?_, g2⟩⟩
    · rw [r_tellsN (BD_6 g2), s_bv]
    · rw [g1, s_bi, if_pos rfl]
theorem s_loop {bc : ((Int32 × Int32 × Int32) → kS → Option kR) → (Int32 × Int32 × Int32) → kS → Option kR} {br : (Unit → kS → Option kR) → Unit → kS → Option kR} {o d k0 c0 : Nat} {σ0 τ0 : kS} (J : Nat → kS → Prop) (hP : P ≤ 300)
    (hbad : ∀ rr x3 σ, bc rr (nI o, 0, x3) σ = some (.inl (some (.int 0)), σ)) (hbadr : ∀ rr (τ : kS), τ.1 48 0 6 ≠ 0 → br rr () τ = some (.inl none, τ))
    (hstep : ∀ rrc rrr x3 k c σ τ, Rel u n P s kd vl k c o σ τ → J k τ → x3 < 300 →
      (∃ τ', Fz rP τ τ' ∧ bc rrc (nI o, 1, nI x3) σ = some (.inl (some (.int 1)), σ) ∧ br rrr () τ = some (.inl none, τ') ∧ Rel u n P s kd vl k c o σ τ') ∨
      (∃ σ' τ', Fz cP σ σ' ∧ Fz rP τ τ' ∧ br rrr () τ = rrr () τ' ∧ ((∃ k' c', bc rrc (nI o, 1, nI x3) σ = rrc (nI o, 1, nI (x3 + 1)) σ' ∧ k < k' ∧ c < c' ∧ c' + k ≤ c + k' ∧ Rel u n P s kd vl k' c' o σ' τ' ∧ J k' τ' ∧ (∀ j, j < c → σ'.1 17 0 j = σ.1 17 0 j) ∧ ∀ a, a ≤ c → wfS d (codeOf (σ.1 17 0) a c) → wfS d (codeOf (σ'.1 17 0) a c')) ∨
        (bc rrc (nI o, 1, nI x3) σ = rrc (nI o, 0, nI (x3 + 1)) σ' ∧ BD u n σ' τ')))) :
    ∀ m N M x3 k c σ τ, m = P - k → m + 1 < N → m + 1 < M → x3 < k → Rel u n P s kd vl k c o σ τ → J k τ → Fz cP σ0 σ → Fz rP τ0 τ → (∀ j, j < c0 → σ.1 17 0 j = σ0.1 17 0 j) → k0 < k → c0 < c → c + k0 ≤ c0 + k → wfS d (codeOf (σ.1 17 0) c0 c) → Sim u n P s kd vl (kFix bc N (nI o, 1, nI x3) σ) (kFix br M () τ) k0 c0 o d σ0 τ0 := by
  intro m
  induction m using Nat.strongRecOn with
  | ind m ih =>
  intro N M x3 k c σ τ hm hN hM hx R hJ f1 f2 h17 hk0 hc0 hck hw
  obtain ⟨N, rfl⟩ : ∃ N', N = N' + 1 := ⟨N - 1, by omega⟩
  obtain ⟨M, rfl⟩ : ∃ M', M = M' + 1 := ⟨M - 1, by omega⟩
  have hk := R.2.2.1
  show Sim u n P s kd vl (bc (kFix bc N) (nI o, 1, nI x3) σ) (br (kFix br M) () τ) k0 c0 o d σ0 τ0
  rcases hstep (kFix bc N) (kFix br M) x3 k c σ τ R hJ (by omega) with ⟨τ', t1, t2, t3, t4⟩ | ⟨σ', τ', t1, t2, t3, ⟨k', c', q1, q2, q3, q4, q5, q6, q7, q8⟩ | ⟨q1, q2⟩⟩
  · rw [t2, t3]
    exact ⟨σ, τ', f1, f2.trans t1, rfl, Or.inl ⟨k, c, rfl, hk0, hc0, hck, t4, h17, hw⟩⟩
  · rw [q1, t3]
    have hk' := q5.2.2.1
    exact ih (P - k') (by omega) N M (x3 + 1) k' c' σ' τ' rfl (by omega) (by omega) (by omega) q5 q6 (f1.trans t1) (f2.trans t2) (fun j hj => by rw [q7 j (by omega), h17 j hj]) (by omega) (by omega) (by omega) (q8 c0 (by omega) hw)
  · rw [q1, t3]
    obtain ⟨N, rfl⟩ : ∃ N', N = N' + 1 := ⟨N - 1, by omega⟩
    obtain ⟨M, rfl⟩ : ∃ M', M = M' + 1 := ⟨M - 1, by omega⟩
    show Sim u n P s kd vl (bc (kFix bc N) (nI o, 0, nI (x3 + 1)) σ') (br (kFix br M) () τ') k0 c0 o d σ0 τ0
    rw [hbad, hbadr _ _ (BD_6 q2)]
    exact ⟨σ', τ', f1.trans t1, f2.trans t2, rfl, Or.inr ⟨rfl, q2⟩⟩
/-- the first item, then the loop -/
theorem s_first {F : Nat} (hF : 2000 ≤ F) {bc : ((Int32 × Int32 × Int32) → kS → Option kR) → (Int32 × Int32 × Int32) → kS → Option kR} {br : (Unit → kS → Option kR) → Unit → kS → Option kR} {o d d1 k c : Nat} {σ τ : kS} {ic ir : Option kR} (hP : P ≤ 300) (hd : d1 ≤ d) (S : Sim u n P s kd vl ic ir k c o d1 σ τ) (pre : kS → Option kR) (J : Nat → kS → Prop)
    (hpre : ∀ k c σ τ, Rel u n P s kd vl k c o σ τ → ∃ τ', Fz rP τ τ' ∧ pre τ = some (.inl none, τ') ∧ Rel u n P s kd vl k c o σ τ' ∧ J k τ') (hpreB : ∀ σ τ, BD u n σ τ → ∃ τ', Fz rP τ τ' ∧ pre τ = some (.inl none, τ') ∧ BD u n σ τ')
    (hbad : ∀ rr x3 σ, bc rr (nI o, 0, x3) σ = some (.inl (some (.int 0)), σ)) (hbadr : ∀ rr (τ : kS), τ.1 48 0 6 ≠ 0 → br rr () τ = some (.inl none, τ))
    (hstep : ∀ rrc rrr x3 k c σ τ, Rel u n P s kd vl k c o σ τ → J k τ → x3 < 300 →
      (∃ τ', Fz rP τ τ' ∧ bc rrc (nI o, 1, nI x3) σ = some (.inl (some (.int 1)), σ) ∧ br rrr () τ = some (.inl none, τ') ∧ Rel u n P s kd vl k c o σ τ') ∨
      (∃ σ' τ', Fz cP σ σ' ∧ Fz rP τ τ' ∧ br rrr () τ = rrr () τ' ∧ ((∃ k' c', bc rrc (nI o, 1, nI x3) σ = rrc (nI o, 1, nI (x3 + 1)) σ' ∧ k < k' ∧ c < c' ∧ c' + k ≤ c + k' ∧ Rel u n P s kd vl k' c' o σ' τ' ∧ J k' τ' ∧ (∀ j, j < c → σ'.1 17 0 j = σ.1 17 0 j) ∧ ∀ a, a ≤ c → wfS d (codeOf (σ.1 17 0) a c) → wfS d (codeOf (σ'.1 17 0) a c')) ∨
        (bc rrc (nI o, 1, nI x3) σ = rrc (nI o, 0, nI (x3 + 1)) σ' ∧ BD u n σ' τ')))) :
    Sim u n P s kd vl (kBi ic fun c13 σ12 => kFix bc F (nI o, c13, 0) σ12) (kBv ir fun σ9 => kBv (pre σ9) fun σ10 => kFix br F () σ10) k c o d σ τ := by
  obtain ⟨σ2, τ2, f1, f2, e1, hh⟩ := S
  rw [e1, s_bv]
  rcases hh with ⟨k', c', g1, g2, g3, g4, R2, g5, g6⟩ | ⟨g1, g2⟩
  · obtain ⟨τ3, p1, p2, p3, p4⟩ := hpre _ _ _ _ R2
    have hk' := R2.2.2.1
    rw [g1, s_bi, p2, s_bv]
    exact s_loop J hP hbad hbadr hstep (P - k') F F 0 k' c' σ2 τ3 rfl (by omega) (by omega) (by omega) p3 p4 f1 (f2.trans p1) g5 g2 g3 g4 (wf_mono g6 hd)
  · obtain ⟨τ3, p1, p2, p3⟩ := hpreB _ _ g2
    rw [g1, s_bi, p2, s_bv]
    obtain ⟨N, rfl⟩ : ∃ N', F = N' + 1 := ⟨F - 1, by omega⟩
    show Sim u n P s kd vl (bc (kFix bc N) (nI o, 0, 0) σ2) (br (kFix br N) () τ3) k c o d σ τ
    rw [hbad, hbadr _ _ (BD_6 p3)]
    exact ⟨σ2, τ3, f1, f2.trans p1, rfl, Or.inr ⟨rfl, p3⟩⟩
theorem pre_b {F : Nat} (hF : 2000 ≤ F) (E : Env u n P s e kd vl) {o : Nat} : ∀ k c σ τ, Rel u n P s kd vl k c o σ τ → ∃ τ', Fz rP τ τ' ∧ f_X6_blanks F τ = some (.inl none, τ') ∧ Rel u n P s kd vl k c o σ τ' ∧ τ'.1 48 0 4 = nI (s k) := fun k c σ τ R => ⟨atA τ (s k), (Fz.refl τ).u rfl, r_bl' hF E R.2.2.1 R.2.1, Rel_b R, kU_here⟩
theorem pre_bB {F : Nat} (hF : 2000 ≤ F) (E : Env u n P s e kd vl) : ∀ σ τ, BD u n σ τ → ∃ τ', Fz rP τ τ' ∧ f_X6_blanks F τ = some (.inl none, τ') ∧ BD u n σ τ' := fun σ τ h => by
  obtain ⟨b, b1, b2⟩ := BD_b hF E.1 h
  exact ⟨atA τ b, (Fz.refl τ).u rfl, b1, b2⟩
theorem s_prod {F : Nat} (hF : 2000 ≤ F) (E : Env u n P s e kd vl) {k c o : Nat} {σ τ : kS} {oSc : Int32 → kS → Option kR} {oSr : kS → Option kR} (R : Rel u n P s kd vl k c o σ τ) (ho : o ≤ 6) (hS : o < 6 → ∀ k c σ τ, Rel u n P s kd vl k c (o + 1) σ τ → Sim u n P s kd vl (oSc (nI (o + 1)) σ) (oSr τ) k c (o + 1) (13 - 2 * o) σ τ) (hB : ∀ σ τ, BD u n σ τ → ∃ τ', Fz rP τ τ' ∧ oSr τ = some (.inl none, τ') ∧ BD u n σ τ') : Sim u n P s kd vl (f_X3_readProduct F oSc (nI o) σ) (f_X6_product F oSr τ) k c o (14 - 2 * o) σ τ := by
  have hpn := E.pn
  unfold f_X3_readProduct f_X6_product
  refine s_first hF (by omega) (by omega) (s_unit hF E R ho hS hB) (f_X6_blanks F) (fun k τ => τ.1 48 0 4 = nI (s k)) (pre_b hF E) (pre_bB hF E) ?_ ?_ ?_
  · intro rr x3 σ
    unfold f_X3_readProduct_b8 f_X3_readProduct_b57
    dsimp only
    by_cases z : 300 ≤ x3
    · rw [if_pos z]; rfl
    · rw [if_neg z, if_pos rfl]; rfl
  · intro rr τ h
    unfold f_X6_product_b8 f_X6_product_b56
    dsimp only
    rw [if_neg h]
  · intro rrc rrr x3 k c σ τ R hJ hx
    have hk := R.2.2.1
    have hJ : τ.1 48 0 4 = nI (s k) := hJ
    have ts := t_sgn E hk (v := 42) (by omega) (by unfold isD; omega) (by unfold isL; omega)
    unfold f_X3_readProduct_b8 f_X6_product_b8 f_X3_readProduct_b57 f_X6_product_b56 f_X3_readProduct_b49 f_X3_readProduct_b50
    dsimp only
    rw [if_neg (show ¬ 300 ≤ nI x3 from fun hx' => by have := (nJ_le (a := 300) (by omega) (by omega)).mp hx'; omega), if_neg (show ¬ (1 : Int32) = 0 by decide), if_pos R.2.1.2.2.2.1, hJ, r_byte E hk R.2.1.1, s_bi]
    by_cases z : kd k = nI 42
    · obtain ⟨hkP, hek⟩ := ts.2 z
      have hs := E.sn hk
      rw [c_takeY (κ := 42) R.1 (by omega) hkP z, s_bi, if_neg (show ¬ (1 : Int32) = 0 by decide), if_pos (show byU u n (s k) = 42 from ts.1.mpr z), hJ, show nI (s k) + 1 = nI (e k) by rw [nI_s (by omega), hek], show nI x3 + 1 = nI (x3 + 1) from nI_s (by omega), s_b]
      obtain ⟨σ', τ', t1, t2, t3, t4⟩ := s_item (F := F) (L0 := fun σ6 => rrc (nI o, 0, nI (x3 + 1)) σ6) (L1 := fun σ6 => rrc (nI o, 1, nI (x3 + 1)) σ6) (K := fun σ7 => kBv (f_X6_blanks F σ7) fun σ8 => rrr () σ8) (v := -16) (v' := 10022) (d := 14 - 2 * o) (by omega) R.2.2.2.1 (s_unit (F := F) hF E (Rel_n E R hkP) ho hS hB) ((Fz.refl σ).u rfl) ((Fz.refl τ).u rfl) (fun j _ => by rw [kU_g (by decide)]) (by omega) (by decide) ⟨by decide, by decide⟩ (by decide) (by decide)
      rw [t3]
      rcases t4 with ⟨k', c', q1, q2, q3, q4, q5, q6, q7⟩ | ⟨q1, q2⟩
      · rw [r_bl' hF E q5.2.2.1 q5.2.1, s_bv]
        exact Or.inr ⟨σ', atA τ' (s k'), t1, t2.u rfl, rfl, Or.inl ⟨k', c', q1, q2, q3, q4, Rel_b q5, kU_here, q6, q7⟩⟩
      · obtain ⟨b, b1, b2⟩ := BD_b hF E.1 q2
        rw [b1, s_bv]
        exact Or.inr ⟨σ', atA τ' b, t1, t2.u rfl, rfl, Or.inr ⟨q1, b2⟩⟩
    · rw [c_takeN (κ := 42) R.1 (by omega) hk z, s_bi, if_pos rfl, if_neg (show ¬ byU u n (s k) = 42 from fun hx' => z (ts.1.mp hx'))]
      exact Or.inl ⟨τ, Fz.refl τ, rfl, rfl, R⟩
theorem s_sum {F : Nat} (hF : 2000 ≤ F) (E : Env u n P s e kd vl) {k c o : Nat} {σ τ : kS} {oSc : Int32 → kS → Option kR} {oSr : kS → Option kR} (R : Rel u n P s kd vl k c o σ τ) (ho : o ≤ 6) (hS : o < 6 → ∀ k c σ τ, Rel u n P s kd vl k c (o + 1) σ τ → Sim u n P s kd vl (oSc (nI (o + 1)) σ) (oSr τ) k c (o + 1) (13 - 2 * o) σ τ) (hB : ∀ σ τ, BD u n σ τ → ∃ τ', Fz rP τ τ' ∧ oSr τ = some (.inl none, τ') ∧ BD u n σ τ') : Sim u n P s kd vl (f_X3_readSum F oSc (nI o) σ) (f_X6_sum F oSr τ) k c o (15 - 2 * o) σ τ := by
  have hpn := E.pn
  unfold f_X3_readSum f_X6_sum
  refine s_first hF (by omega) (by omega) (s_prod hF E R ho hS hB) (f_X6_blanks F) (fun k τ => τ.1 48 0 4 = nI (s k)) (pre_b hF E) (pre_bB hF E) ?_ ?_ ?_
  · intro rr x3 σ
    unfold f_X3_readSum_b8 f_X3_readSum_b109
    dsimp only
    by_cases z : 300 ≤ x3
    · rw [if_pos z]; rfl
    · rw [if_neg z, if_pos rfl]; rfl
  · intro rr τ h
    unfold f_X6_sum_b8 f_X6_sum_b90
    dsimp only
    rw [if_neg h]
  · intro rrc rrr x3 k c σ τ R hJ hx
    have hk := R.2.2.1
    have hs := E.sn hk
    have hJ : τ.1 48 0 4 = nI (s k) := hJ
    have tp := t_sgn E hk (v := 43) (by omega) (by unfold isD; omega) (by unfold isL; omega)
    have tm := t_sgn E hk (v := 45) (by omega) (by unfold isD; omega) (by unfold isL; omega)
    have hkd := c_kd R.1 (by omega) hk
    unfold f_X3_readSum_b8 f_X6_sum_b8 f_X3_readSum_b109 f_X6_sum_b90 f_X3_readSum_b47 f_X3_readSum_b68 f_X3_readSum_b101 f_X3_readSum_b102 f_X6_sum_b41 f_X6_sum_b80
    dsimp only
    rw [if_neg (show ¬ 300 ≤ nI x3 from fun hx' => by have := (nJ_le (a := 300) (by omega) (by omega)).mp hx'; omega), if_neg (show ¬ (1 : Int32) = 0 by decide), if_pos R.2.1.2.2.2.1, hJ, r_byte E hk R.2.1.1, s_bi, kg_t hkd.1, hkd.2, hJ, r_byte E hk R.2.1.1, s_bi]
    have go : ∀ (v v' : Int32), k < P → e k = s k + 1 → v' = trC v → rng v (-16) 9999 → ¬ -7 ≤ v → v ≠ -8 → (∃ σ' τ', Fz cP σ σ' ∧ Fz rP τ τ' ∧ (kBv (f_X6_product F oSr (atA τ (e k))) fun σ6 => kBv (f_X6_tells F v' σ6) fun σ1 => kBv (f_X6_blanks F σ1) fun σ2 => rrr () σ2) = rrr () τ' ∧ ((∃ k' c', (kBi (f_X3_readProduct F oSc (nI o) (kU σ 2 0 7 (nI (k + 1)))) fun c3 σ2 => if c3 = 0 then rrc (nI o, 0, nI (x3 + 1)) σ2 else kBi (f_X3_write F v σ2) fun c6 σ5 => if c6 = 0 then rrc (nI o, 0, nI (x3 + 1)) σ5 else rrc (nI o, 1, nI (x3 + 1)) σ5) = rrc (nI o, 1, nI (x3 + 1)) σ' ∧ k < k' ∧ c < c' ∧ c' + k ≤ c + k' ∧ Rel u n P s kd vl k' c' o σ' τ' ∧ τ'.1 48 0 4 = nI (s k') ∧ (∀ j, j < c → σ'.1 17 0 j = σ.1 17 0 j) ∧ ∀ a, a ≤ c → wfS (15 - 2 * o) (codeOf (σ.1 17 0) a c) → wfS (15 - 2 * o) (codeOf (σ'.1 17 0) a c')) ∨
        ((kBi (f_X3_readProduct F oSc (nI o) (kU σ 2 0 7 (nI (k + 1)))) fun c3 σ2 => if c3 = 0 then rrc (nI o, 0, nI (x3 + 1)) σ2 else kBi (f_X3_write F v σ2) fun c6 σ5 => if c6 = 0 then rrc (nI o, 0, nI (x3 + 1)) σ5 else rrc (nI o, 1, nI (x3 + 1)) σ5) = rrc (nI o, 0, nI (x3 + 1)) σ' ∧ BD u n σ' τ'))) := by
      intro v v' hkP hek h1 h2 h3 h4
      obtain ⟨σ', τ', t1, t2, t3, t4⟩ := s_item (F := F) (L0 := fun σ6 => rrc (nI o, 0, nI (x3 + 1)) σ6) (L1 := fun σ6 => rrc (nI o, 1, nI (x3 + 1)) σ6) (K := fun σ7 => kBv (f_X6_blanks F σ7) fun σ8 => rrr () σ8) (v := v) (v' := v') (d := 15 - 2 * o) (by omega) R.2.2.2.1 (s_prod (F := F) hF E (Rel_n E R hkP) ho hS hB) ((Fz.refl σ).u rfl) ((Fz.refl τ).u rfl) (fun j _ => by rw [kU_g (by decide)]) (by omega) h1 h2 h3 h4
      rw [t3]
      rcases t4 with ⟨k', c', q1, q2, q3, q4, q5, q6, q7⟩ | ⟨q1, q2⟩
      · rw [r_bl' hF E q5.2.2.1 q5.2.1, s_bv]
        exact ⟨σ', atA τ' (s k'), t1, t2.u rfl, rfl, Or.inl ⟨k', c', q1, q2, q3, q4, Rel_b q5, kU_here, q6, q7⟩⟩
      · obtain ⟨b, b1, b2⟩ := BD_b hF E.1 q2
        rw [b1, s_bv]
        exact ⟨σ', atA τ' b, t1, t2.u rfl, rfl, Or.inr ⟨q1, b2⟩⟩
    by_cases z : kd k = nI 43
    · obtain ⟨hkP, hek⟩ := tp.2 z
      have hb : byU u n (s k) = 43 := tp.1.mpr z
      have z' : kd k = 43 := z
      rw [if_pos z', kg_t hkd.1, if_pos z', if_pos hb, hJ, show nI (s k) + 1 = nI (e k) by rw [nI_s (by omega), hek], show nI x3 + 1 = nI (x3 + 1) from nI_s (by omega), s_b, s_b, R.1.2.1, show nI k + 1 = nI (k + 1) from nI_s (by omega), hb]
      obtain ⟨σ', τ', t1, t2, t3, t4⟩ := go (-14) 10020 hkP hek (by decide) ⟨by decide, by decide⟩ (by decide) (by decide)
      exact Or.inr ⟨σ', τ', t1, t2, t3, t4⟩
    · have z' : ¬ kd k = 43 := z
      have hb : ¬ byU u n (s k) = 43 := fun hx' => z (tp.1.mp hx')
      rw [if_neg z', if_neg hb, kg_t hkd.1, s_bi]
      by_cases y : kd k = nI 45
      · obtain ⟨hkP, hek⟩ := tm.2 y
        have hb' : byU u n (s k) = 45 := tm.1.mpr y
        have y' : kd k = 45 := y
        rw [if_pos y', kg_t hkd.1, if_neg z', if_pos hb', hJ, r_byte E hk R.2.1.1, s_bi, hJ, show nI (s k) + 1 = nI (e k) by rw [nI_s (by omega), hek], show nI x3 + 1 = nI (x3 + 1) from nI_s (by omega), s_b, s_b, R.1.2.1, show nI k + 1 = nI (k + 1) from nI_s (by omega), hb']
        obtain ⟨σ', τ', t1, t2, t3, t4⟩ := go (-15) 10021 hkP hek (by decide) ⟨by decide, by decide⟩ (by decide) (by decide)
        exact Or.inr ⟨σ', τ', t1, t2, t3, t4⟩
      · have y' : ¬ kd k = 45 := y
        rw [if_neg y', if_neg (show ¬ byU u n (s k) = 45 from fun hx' => y (tm.1.mp hx'))]
        exact Or.inl ⟨τ, Fz.refl τ, rfl, rfl, R⟩
theorem b_sum {F : Nat} (hF : 2000 ≤ F) (E : Env u n P s e kd vl) {D : Nat} (hD : 1 ≤ D) {σ τ : kS} (h : BD u n σ τ) : ∃ τ', Fz rP τ τ' ∧ g_X6_sum F D τ = some (.inl none, τ') ∧ BD u n σ τ' := by
  obtain ⟨D, rfl⟩ : ∃ D', D = D' + 1 := ⟨D - 1, by omega⟩
  show ∃ τ', Fz rP τ τ' ∧ f_X6_sum F (g_X6_sum F D) τ = some (.inl none, τ') ∧ BD u n σ τ'
  unfold f_X6_sum f_X6_product f_X6_unit
  obtain ⟨N, rfl⟩ : ∃ N', F = N' + 1 := ⟨F - 1, by omega⟩
  obtain ⟨b, b1, b2⟩ := BD_b hF E.1 h
  obtain ⟨b', b1', b2'⟩ := BD_b hF E.1 b2
  have l1 : kFix (f_X6_product_b8 (N + 1) (g_X6_sum (N + 1) D)) (N + 1) () (atA τ b) = some (.inl none, atA τ b) := by
    show f_X6_product_b8 _ _ _ () _ = _
    unfold f_X6_product_b8 f_X6_product_b56
    dsimp only
    rw [if_neg (BD_6 b2)]
  have l2 : kFix (f_X6_sum_b8 (N + 1) (g_X6_sum (N + 1) D)) (N + 1) () (atA (atA τ b) b') = some (.inl none, atA (atA τ b) b') := by
    show f_X6_sum_b8 _ _ _ () _ = _
    unfold f_X6_sum_b8 f_X6_sum_b90
    dsimp only
    rw [if_neg (BD_6 b2')]
  rw [if_neg (BD_6 h), s_bv, b1, s_bv, l1, s_bv, b1', s_bv, l2]
  exact ⟨_, ((Fz.refl τ).u rfl).u rfl, rfl, b2'⟩
theorem s_sumD {F : Nat} (hF : 2000 ≤ F) (E : Env u n P s e kd vl) : ∀ (D o : Nat), o ≤ 6 → 8 ≤ D + o → ∀ k c σ τ, Rel u n P s kd vl k c o σ τ → Sim u n P s kd vl (g_X3_sum F D (nI o) σ) (g_X6_sum F D τ) k c o (15 - 2 * o) σ τ
  | 0, o, h1, h2 => by omega
  | D + 1, o, h1, h2 => fun k c σ τ R => s_sum hF E R h1 (fun ho k c σ τ R => by
      have := s_sumD hF E D (o + 1) (by omega) (by omega) k c σ τ R
      rw [show 15 - 2 * (o + 1) = 13 - 2 * o by omega] at this
      exact this) (fun σ τ h => b_sum hF E (by omega) h)
end Sums
