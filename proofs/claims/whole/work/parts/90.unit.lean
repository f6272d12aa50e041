/-! UNITS -/
def Rel (u : Nat → Nat) (n P : Nat) (s : Nat → Nat) (kd : Nat → Int32) (vl : Nat → Nat) (k c o : Nat) (σ τ : kS) : Prop := CR P s kd vl k c σ ∧ RR u n s k c o τ ∧ k ≤ P ∧ c ≤ k ∧ CD c σ τ
def Sim (u : Nat → Nat) (n P : Nat) (s : Nat → Nat) (kd : Nat → Int32) (vl : Nat → Nat) (oc orr : Option kR) (k c o d : Nat) (σ τ : kS) : Prop :=
  ∃ σ' τ', Fz cP σ σ' ∧ Fz rP τ τ' ∧ orr = some (.inl none, τ') ∧
    ((∃ k' c', oc = some (.inl (some (.int 1)), σ') ∧ k < k' ∧ c < c' ∧ c' + k ≤ c + k' ∧ Rel u n P s kd vl k' c' o σ' τ' ∧ (∀ j, j < c → σ'.1 17 0 j = σ.1 17 0 j) ∧ wfS d (codeOf (σ'.1 17 0) c c')) ∨
     (oc = some (.inl (some (.int 0)), σ') ∧ BD u n σ' τ'))
theorem nI_nn {x : Nat} (hx : x < 2147483648) : nI x ≠ -1 := fun h => by
  have h := i_eq.mp h
  rw [nI_toInt (by omega)] at h
  have h : (x : Int) = -1 := h
  omega
theorem ifA {α : Type} {A : Prop} [Decidable A] {x y : α} : (if (if A then (1 : Int32) else 0) = 0 then x else y) = if A then y else x := by
  by_cases z : A
  · rw [if_pos z, if_pos z, if_neg (by decide)]
  · rw [if_neg z, if_neg z, if_pos rfl]
def nmI (κ : Int32) : Int32 := if κ = kw 16 then 0 else if κ = kw 17 then 1 else if κ = kw 18 then 2 else if κ = kw 19 then 3 else if κ = kw 20 then 4 else if κ = kw 21 then 5 else if κ = kw 22 then 6 else -1
section Units
variable {u : Nat → Nat} {n P : Nat} {s e : Nat → Nat} {kd : Nat → Int32} {vl : Nat → Nat}
theorem CD_f {c : Nat} {σ σ' τ τ' : kS} (h : CD c σ τ) (h1 : ∀ j, j < c → σ'.1 17 0 j = σ.1 17 0 j) (h2 : ∀ j, j < c → τ'.1 50 0 j = τ.1 50 0 j) : CD c σ' τ' := fun j hj => by
  rw [h1 j hj, h2 j hj]; exact h j hj
theorem t_vl (E : Env u n P s e kd vl) {k : Nat} (h : k ≤ P) : kd k = -22 → k < P ∧ vl k < 100000 := fun hd => by
  obtain ⟨h1, h2, h3, -⟩ := (t_dig E h).1 hd
  have := cN_nm h2 (e k - s k) (Nat.le_refl _)
  rw [← h3] at this
  exact ⟨h1, by omega⟩
theorem t_kn (E : Env u n P s e kd vl) {k : Nat} (h : k ≤ P) (hn : ∀ w, 16 ≤ w → w ≤ 22 → kd k ≠ kw w) (h22 : kd k ≠ -22) : -1 < kd k ∨ kd k < -7 := by
  rcases t_kd E h with ⟨rfl, hk⟩ | ⟨hk, ⟨q, hr, hq, hkd⟩ | ⟨hr, hkd, hv⟩ | ⟨he, hd, hl, hkd⟩⟩
  · rw [hk]; exact Or.inr (by decide)
  · rw [hkd]
    have h3 : ¬ (16 ≤ q ∧ q ≤ 22) := fun hx => hn q hx.1 hx.2 hkd
    have h4 := hq.1
    have h5 := hq.2.1
    have : q = 8 ∨ q = 9 ∨ q = 10 ∨ q = 11 ∨ q = 12 ∨ q = 13 ∨ q = 14 ∨ q = 15 ∨ q = 23 := by omega
    rcases this with rfl | rfl | rfl | rfl | rfl | rfl | rfl | rfl | rfl <;> exact Or.inr (by decide)
  · exact absurd hkd h22
  · rw [hkd]
    refine Or.inl ?_
    have := E.1.2 (s k) (E.sk hk)
    rw [i_lt, nI_toInt (by omega)]
    show (-1 : Int) < _
    omega
theorem kwNm : ∀ w : Fin 7, ¬ -1 < kw (w.val + 16) ∧ ¬ kw (w.val + 16) < -7 ∧ kw (w.val + 16) ≠ -22 ∧ nmI (kw (w.val + 16)) ≠ -1 ∧ 10000 + nmI (kw (w.val + 16)) = trC (kw (w.val + 16)) ∧ (-16 ≤ (kw (w.val + 16)).toInt ∧ (kw (w.val + 16)).toInt ≤ 9999) ∧ -7 ≤ kw (w.val + 16) := by decide +kernel
theorem r_name {F : Nat} (hF : 2000 ≤ F) (E : Env u n P s e kd vl) {k c o : Nat} {τ : kS} (hk : k ≤ P) (h : RR u n s k c o (atA τ (s k))) : f_X6_nameHere F (atA τ (s k)) = some (.inl (some (.int (nmI (kd k)))), atA τ (s k)) := by
  unfold f_X6_nameHere f_X6_nameHere_b129
  have hw := fun w h1 h2 => r_w0 (F := F) (w := w) hF E hk h h1 h2
  rw [show f_X6_isWord F 19 5 3 15 14 4 (atA τ (s k)) = rW F 16 (atA τ (s k)) from rfl, hw 16 (by omega) (by omega), s_bi, ifA,
    show f_X6_isWord F 7 1 16 0 0 0 (atA τ (s k)) = rW F 17 (atA τ (s k)) from rfl, hw 17 (by omega) (by omega), s_bi, ifA,
    show f_X6_isWord F 23 5 20 0 0 0 (atA τ (s k)) = rW F 18 (atA τ (s k)) from rfl, hw 18 (by omega) (by omega), s_bi, ifA,
    show f_X6_isWord F 8 5 9 7 8 20 (atA τ (s k)) = rW F 19 (atA τ (s k)) from rfl, hw 19 (by omega) (by omega), s_bi, ifA,
    show f_X6_isWord F 13 9 24 5 4 0 (atA τ (s k)) = rW F 20 (atA τ (s k)) from rfl, hw 20 (by omega) (by omega), s_bi, ifA,
    show f_X6_isWord F 7 1 19 0 0 0 (atA τ (s k)) = rW F 21 (atA τ (s k)) from rfl, hw 21 (by omega) (by omega), s_bi, ifA,
    show f_X6_isWord F 6 9 18 5 0 0 (atA τ (s k)) = rW F 22 (atA τ (s k)) from rfl, hw 22 (by omega) (by omega), s_bi, ifA]
  unfold nmI
  by_cases a : kd k = kw 16
  · rw [if_pos a, if_pos a]
  rw [if_neg a, if_neg a]
  by_cases a : kd k = kw 17
  · rw [if_pos a, if_pos a]
  rw [if_neg a, if_neg a]
  by_cases a : kd k = kw 18
  · rw [if_pos a, if_pos a]
  rw [if_neg a, if_neg a]
  by_cases a : kd k = kw 19
  · rw [if_pos a, if_pos a]
  rw [if_neg a, if_neg a]
  by_cases a : kd k = kw 20
  · rw [if_pos a, if_pos a]
  rw [if_neg a, if_neg a]
  by_cases a : kd k = kw 21
  · rw [if_pos a, if_pos a]
  rw [if_neg a, if_neg a]
  by_cases a : kd k = kw 22
  · rw [if_pos a, if_pos a]
  rw [if_neg a, if_neg a]
theorem nmI_no {κ : Int32} (h : ∀ w, 16 ≤ w → w ≤ 22 → κ ≠ kw w) : nmI κ = -1 := by
  unfold nmI
  rw [if_neg (h 16 (by omega) (by omega)), if_neg (h 17 (by omega) (by omega)), if_neg (h 18 (by omega) (by omega)), if_neg (h 19 (by omega) (by omega)), if_neg (h 20 (by omega) (by omega)), if_neg (h 21 (by omega) (by omega)), if_neg (h 22 (by omega) (by omega))]
abbrev pushC (σ : kS) (c : Nat) (v : Int32) : kS := kU (kU σ 17 0 c v) 10 0 8 (nI (c + 1))
abbrev pushR (τ : kS) (c : Nat) (v : Int32) : kS := kU (kU τ 50 0 c v) 48 0 8 (nI (c + 1))
theorem push_o {σ : kS} {c j : Nat} {v : Int32} (hj : j < c) : (pushC σ c v).1 17 0 j = σ.1 17 0 j := by
  rw [kU_g (g := 10) (g' := 17) (by decide), kU_k (by omega)]
theorem push_h {σ : kS} {c : Nat} {v : Int32} : (pushC σ c v).1 17 0 c = v := by
  rw [kU_g (g := 10) (g' := 17) (by decide)]; exact kU_here
theorem Rel_w {k c o : Nat} {σ τ : kS} {v v' : Int32} (R : Rel u n P s kd vl k c o σ τ) (hc : c + 1 ≤ k) (hv : v' = trC v) (hr : rng v (-16) 9999) : Rel u n P s kd vl k (c + 1) o (pushC σ c v) (pushR τ c v') := ⟨CR_w R.1, RR_w R.2.1, R.2.2.1, hc, CD_w R.2.2.2.2 hv hr⟩
theorem Rel_n (E : Env u n P s e kd vl) {k c o : Nat} {σ τ : kS} (R : Rel u n P s kd vl k c o σ τ) (hk : k < P) : Rel u n P s kd vl (k + 1) c o (kU σ 2 0 7 (nI (k + 1))) (atA τ (e k)) := ⟨CR_n R.1, RR_a R.2.1 (atK_n E hk), hk, by have := R.2.2.2.1; omega, CD_f R.2.2.2.2 (fun j _ => by rw [kU_g (by decide)]) (fun j _ => by rw [kU_g (by decide)])⟩
theorem Rel_b {k c o : Nat} {σ τ : kS} (R : Rel u n P s kd vl k c o σ τ) : Rel u n P s kd vl k c o σ (atA τ (s k)) := ⟨R.1, RR_a R.2.1 atK_r, R.2.2.1, R.2.2.2.1, CD_f R.2.2.2.2 (fun j _ => rfl) (fun j _ => by rw [kU_g (by decide)])⟩
theorem Rel_o {k c o o' : Nat} {σ τ : kS} (R : Rel u n P s kd vl k c o σ τ) : Rel u n P s kd vl k c o' σ (kU τ 48 0 5 (nI o')) := ⟨R.1, RR_o R.2.1, R.2.2.1, R.2.2.2.1, CD_f R.2.2.2.2 (fun j _ => rfl) (fun j _ => by rw [kU_g (by decide)])⟩
theorem sim_leaf (E : Env u n P s e kd vl) {k c o d : Nat} {σ τ : kS} {v v' : Int32} (R : Rel u n P s kd vl k c o σ τ) (hk : k < P) (hv : v' = trC v) (hr : rng v (-16) 9999) (h7 : -7 ≤ v) (hd : 1 ≤ d) : Sim u n P s kd vl (some (.inl (some (.int 1)), pushC (kU σ 2 0 7 (nI (k + 1))) c v)) (some (.inl none, pushR (atA τ (e k)) c v')) k c o d σ τ := by
  have hck := R.2.2.2.1
  refine ⟨_, _, (((Fz.refl σ).u rfl).u rfl).u rfl, (((Fz.refl τ).u rfl).u rfl).u rfl, rfl, Or.inl ⟨k + 1, c + 1, rfl, by omega, by omega, by omega, Rel_w (Rel_n E R hk) (by omega) hv hr, fun j hj => ?_, ?_⟩⟩
  · rw [push_o hj, kU_g (by decide)]
  · rw [co_one, push_h]
    exact wf_one h7 hd
theorem trC_n {v : Nat} (hv : v ≤ 9999) : nI v = trC (nI v) ∧ rng (nI v) (-16) 9999 ∧ -7 ≤ nI v := by
  have h := nI_toInt (show v < 2147483648 by omega)
  refine ⟨?_, ?_, ?_⟩
  · unfold trC
    rw [if_pos (by rw [i_le, h]; show (0 : Int) ≤ _; omega)]
  · show -16 ≤ (nI v).toInt ∧ (nI v).toInt ≤ 9999
    rw [h]; omega
  · rw [i_le, h]; show (-7 : Int) ≤ _; omega
theorem s_unit {F : Nat} (hF : 2000 ≤ F) (E : Env u n P s e kd vl) {k c o : Nat} {σ τ : kS} {oSc : Int32 → kS → Option kR} {oSr : kS → Option kR} (R : Rel u n P s kd vl k c o σ τ) (ho : o ≤ 6) (hS : o < 6 → ∀ k c σ τ, Rel u n P s kd vl k c (o + 1) σ τ → Sim u n P s kd vl (oSc (nI (o + 1)) σ) (oSr τ) k c (o + 1) (13 - 2 * o) σ τ) (hB : ∀ σ τ, BD u n σ τ → ∃ τ', Fz rP τ τ' ∧ oSr τ = some (.inl none, τ') ∧ BD u n σ τ') : Sim u n P s kd vl (f_X3_readUnit F oSc (nI o) σ) (f_X6_unit F oSr τ) k c o (13 - 2 * o) σ τ := by
  have hpn := E.pn
  have hk := R.2.2.1
  have hck := R.2.2.2.1
  have hsn := E.sn hk
  have Rb := Rel_b R
  have h6 := R.2.1.2.2.2.1
  have h6b := Rb.2.1.2.2.2.1
  have e4 : (atA τ (s k)).1 48 0 4 = nI (s k) := kU_here
  have ee : ∀ a, atA (atA τ (s k)) a = atA τ a := fun a => kU_kU
  unfold f_X3_readUnit f_X6_unit
  rw [kg_t (c_kd R.1 (by omega) hk).1, (c_kd R.1 (by omega) hk).2, s_b, if_pos h6, r_bl' hF E hk R.2.1, s_bv, e4, r_byte E hk Rb.2.1.1, s_bi]
  by_cases hd : kd k = -22
  · obtain ⟨hkP, hr, hvl, d1, d2⟩ := (t_dig E hk).1 hd
    have hv := t_vl E hk
    rw [if_pos hd, (m_isDigit E.1).1 ⟨d1, d2⟩, s_bi, if_neg (by decide)]
    unfold f_X3_readUnit_b42 f_X3_readUnit_b43
    by_cases z : vl k ≤ 9999
    · have q1 := (c_num (F := F) (lo := 0) (hi := 9999) R.1 (by omega) hk hv (by omega) (by omega)).1 hd (by omega) z
      have q2 := (r_num (F := F) (lo := 0) (hi := 9999) hF E hk Rb.2.1.1 e4 atK_r h6b (by omega) (by omega)).1 hd (by omega) z
      obtain ⟨t1, t2, t3⟩ := trC_n z
      rw [show f_X3_number F 0 9999 σ = _ from q1, s_bi, if_neg ((fun hx => nI_nn (by omega) hx)), c_write (CR_n R.1) (by omega), s_bi, if_neg (by decide), show f_X6_numberHere F 0 9999 (atA τ (s k)) = _ from q2, s_bi, ee, r_tells (RR_a R.2.1 (atK_n E hkP)) (by omega), s_bv]
      exact sim_leaf E R hkP t1 t2 t3 (by omega)
    · have q1 := (c_num (F := F) (lo := 0) (hi := 9999) R.1 (by omega) hk hv (by omega) (by omega)).2.1 hd (by omega)
      obtain ⟨r, q2⟩ := (r_num (F := F) (lo := 0) (hi := 9999) hF E hk Rb.2.1.1 e4 atK_r h6b (by omega) (by omega)).2.1 hd (by omega)
      rw [show f_X3_number F 0 9999 σ = _ from q1, s_bi, if_pos rfl, show f_X6_numberHere F 0 9999 (atA τ (s k)) = _ from q2, s_bi, ee]
      have hek := (E.2.1.se k hkP).2
      have hsk := E.sn (k := k + 1) hkP
      have hbd : BD u n (kU (kU σ 2 0 2 2) 2 0 1 (nI (s k))) (kU (kU (atA τ (e k)) 48 0 6 2) 48 0 7 (nI (s k))) := BD_i R.2.1 (by decide) (by omega)
      rw [r_tellsN (BD_6 hbd), s_bv]
      exact ⟨_, _, ((Fz.refl σ).u rfl).u rfl, (((Fz.refl τ).u rfl).u rfl).u rfl, rfl, Or.inr ⟨rfl, hbd⟩⟩
  · rw [if_neg hd, (m_isDigit E.1).2 ((t_dig E hk).2 hd), s_bi, if_pos rfl, r_name hF E hk Rb.2.1, s_bi]
    by_cases hn : ∃ w, 16 ≤ w ∧ w ≤ 22 ∧ kd k = kw w
    · obtain ⟨w, w1, w2, hw⟩ := hn
      have hN := kwNm ⟨w - 16, by omega⟩
      rw [show (⟨w - 16, by omega⟩ : Fin 7).val + 16 = w by show w - 16 + 16 = w; omega, ← hw] at hN
      obtain ⟨n1, n2, n3, n4, n5, n6, n7⟩ := hN
      obtain ⟨b, -, hb⟩ := t_let E hk
      have hkP := ((hb w (by omega) w2).2 hw).2
      rw [if_neg n1, if_neg n2, R.1.2.1, nI_s (by omega), s_b, c_write (CR_n R.1) (by omega), s_bi, if_neg n4, r_skip hF E hk Rb.2.1.1 e4 (by omega) w2 hw, s_bv, ee, r_tells (RR_a R.2.1 (atK_n E hkP)) (by omega), s_bv]
      exact sim_leaf E R hkP n5 n6 n7 (by omega)
    · have hn' : ∀ w, 16 ≤ w → w ≤ 22 → kd k ≠ kw w := fun w h1 h2 h3 => hn ⟨w, h1, h2, h3⟩
      have ec : ∀ {x y : Option kR}, (if -1 < kd k then x else if kd k < -7 then x else y) = x := fun {x y} => by
        by_cases z : -1 < kd k
        · rw [if_pos z]
        · rw [if_neg z, if_pos ((t_kn E hk hn' hd).resolve_left z)]
      have ts := t_sgn E hk (v := 40) (by omega) (by unfold isD; omega) (by unfold isL; omega)
      rw [ec, nmI_no hn', if_pos rfl, e4, r_byte E hk Rb.2.1.1, s_bi]
      unfold f_X3_readUnit_b71 f_X3_readUnit_b128 f_X3_readUnit_b129
      by_cases h40 : kd k = nI 40
      · obtain ⟨hkP, hek⟩ := ts.2 h40
        rw [if_pos (show kd k = 40 from h40), if_pos (show byU u n (s k) = 40 from ts.1.mpr h40)]
        unfold f_X6_opens f_X6_opens_b18
        rw [Rb.2.1.2.2.1]
        by_cases ho6 : o < 6
        · rw [if_pos (show nI o < 6 from (nJ_lt (b := 6) (by omega) (by omega)).mpr ho6), if_neg (show ¬ nI o = 6 from fun hx => by have := (nI_inj (b := 6) (by omega) (by omega)).mp hx; omega), nI_s (by omega), s_b, s_b, kU_k (by decide), e4, nI_s (by omega), s_b, s_bv, R.1.2.1, nI_s (by omega), ← hek]
          have R1 : Rel u n P s kd vl (k + 1) c (o + 1) (kU σ 2 0 7 (nI (k + 1))) (atA (kU (atA τ (s k)) 48 0 5 (nI (o + 1))) (e k)) := Rel_n E (Rel_o Rb) hkP
          obtain ⟨σ2, τ2, f1, f2, e1, hh⟩ := hS ho6 _ _ _ _ R1
          have F1 : Fz cP σ σ2 := ((Fz.refl σ).u rfl).trans f1
          have F2 : Fz rP τ τ2 := ((((Fz.refl τ).u rfl).u rfl).u rfl).trans f2
          rw [e1, s_bv]
          rcases hh with ⟨k', c', g1, g2, g3, g4, R2, g5, g6⟩ | ⟨g1, g2⟩
          · rw [g1, s_bi, if_neg (by decide)]
            have hk' := R2.2.2.1
            have ts' := t_sgn E hk' (v := 41) (by omega) (by unfold isD; omega) (by unfold isL; omega)
            by_cases h41 : kd k' = nI 41
            · obtain ⟨hkP', hek'⟩ := ts'.2 h41
              have hx := c_expY (F := F) (κ := 41) R2.1 (by omega) hkP' h41
              have hy := r_sgnY (F := F) (v := 41) hF E hk' R2.2.1 (by omega) (by unfold isD; omega) (by unfold isL; omega) h41
              rw [hx, s_bi, if_neg (by decide), show f_X6_sign F 41 τ2 = _ from hy, s_bv, kU_k (by decide), R2.2.1.2.2.1, show nI (o + 1) - 1 = nI o by rw [nI_p (by omega) (by omega)]; rfl]
              refine ⟨_, _, F1.u rfl, (F2.u rfl).u rfl, rfl, Or.inl ⟨k' + 1, c', rfl, by omega, by omega, by omega, Rel_o (Rel_n E R2 hkP'), fun j hj => ?_, ?_⟩⟩
              · rw [kU_g (by decide), g5 j hj, kU_g (by decide)]
              · rw [kU_g (by decide)]; exact g6
            · have hx := c_expN (F := F) (κ := 41) R2.1 (by omega) hk' h41
              have hy := r_sgnX (F := F) (v := 41) hF E hk' R2.2.1 (by omega) (by unfold isD; omega) (by unfold isL; omega) h41
              have hs' := E.sn hk'
              rw [hx, s_bi, if_pos rfl, show f_X6_sign F 41 τ2 = _ from hy, s_bv]
              exact ⟨_, _, (F1.u rfl).u rfl, (((F2.u rfl).u rfl).u rfl).u rfl, rfl, Or.inr ⟨rfl, BD_o (BD_i R2.2.1 (by decide) (by omega))⟩⟩
          · rw [g1, s_bi, if_pos rfl, r_sgnN (BD_6 g2), s_bv]
            exact ⟨_, _, F1, F2.u rfl, rfl, Or.inr ⟨rfl, BD_o g2⟩⟩
        · have ho6 : o = 6 := by omega
          subst ho6
          rw [if_neg (show ¬ nI 6 < 6 by decide), if_pos (show nI 6 = 6 from rfl), c_fail R.1 (by omega) hk, s_bi, e4, r_wrong h6b, s_bv, s_b, s_b, s_bv]
          have hb0 : BD u n (kU (kU σ 2 0 2 3) 2 0 1 (nI (s k))) (kU (kU (atA τ (s k)) 48 0 6 3) 48 0 7 (nI (s k))) := BD_i R.2.1 (by decide) (by omega)
          rw [show ∀ v, (kU (kU (kU (atA τ (s k)) 48 0 6 3) 48 0 7 (nI (s k))) 48 0 5 v).1 48 0 4 = nI (s k) from fun v => by rw [kU_k (by decide), kU_k (by decide), kU_k (by decide)]; exact e4, nI_s (by omega)]
          obtain ⟨τ2, f2, e1, g2⟩ := hB _ _ (BD_a (BD_o (v := (kU (kU (atA τ (s k)) 48 0 6 3) 48 0 7 (nI (s k))).1 48 0 5 + 1) hb0) (a := s k + 1) (by omega))
          rw [e1, s_bv, r_sgnN (BD_6 g2), s_bv]
          exact ⟨_, _, ((Fz.refl σ).u rfl).u rfl, ((((((Fz.refl τ).u rfl).u rfl).u rfl).u rfl).u rfl |>.trans f2).u rfl, rfl, Or.inr ⟨rfl, BD_o g2⟩⟩
      · rw [if_neg (show ¬ kd k = 40 from h40), if_neg (show ¬ byU u n (s k) = 40 from fun hx => h40 (ts.1.mp hx)), c_fail R.1 (by omega) hk, s_bi, e4, r_wrong h6b, s_bv]
        exact ⟨_, _, ((Fz.refl σ).u rfl).u rfl, (((Fz.refl τ).u rfl).u rfl).u rfl, rfl, Or.inr ⟨rfl, BD_i R.2.1 (by decide) (by omega)⟩⟩
end Units
