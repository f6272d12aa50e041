/-! THE BITS OF A CLAUSE: a number, a word, the sign at its end -/
section Bits
variable {u : Nat → Nat} {n P : Nat} {s e : Nat → Nat} {kd : Nat → Int32} {vl : Nat → Nat}
theorem r_numN {F : Nat} {lo hi : Int32} {τ : kS} (h : τ.1 48 0 6 ≠ 0) : f_X6_numberHere F lo hi τ = some (.inl (some (.int 0)), τ) := by
  unfold f_X6_numberHere
  rw [if_neg h]
theorem s_num {F : Nat} (hF : 2000 ≤ F) (E : Env u n P s e kd vl) {k c o lo hi : Nat} {σ τ : kS} (R : Rel u n P s kd vl k c o σ τ) (h1 : lo ≤ hi) (h2 : hi ≤ 9999) :
    (k < P ∧ lo ≤ vl k ∧ vl k ≤ hi ∧ f_X3_number F (nI lo) (nI hi) σ = some (.inl (some (.int (nI (vl k)))), kU σ 2 0 7 (nI (k + 1))) ∧ f_X6_numberHere F (nI lo) (nI hi) τ = some (.inl (some (.int (nI (vl k)))), atA τ (e k)) ∧ Rel u n P s kd vl (k + 1) c o (kU σ 2 0 7 (nI (k + 1))) (atA τ (e k))) ∨
    (∃ σ' τ' r, Fz cP σ σ' ∧ Fz rP τ τ' ∧ f_X3_number F (nI lo) (nI hi) σ = some (.inl (some (.int (-1))), σ') ∧ f_X6_numberHere F (nI lo) (nI hi) τ = some (.inl (some (.int r)), τ') ∧ BD u n σ' τ') := by
  have hpn := E.pn
  have hk := R.2.2.1
  have hsn := E.sn hk
  obtain ⟨a, a1, a2⟩ := R.2.1.2.1
  have hc := c_num (F := F) (lo := lo) (hi := hi) R.1 (by omega) hk (t_vl E hk) h2 h1
  have hr := r_num (F := F) (lo := lo) (hi := hi) hF E hk R.2.1.1 a1 a2 R.2.1.2.2.2.1 h1 h2
  by_cases hd : kd k = -22
  · have hkP := (t_vl E hk hd).1
    by_cases hv : lo ≤ vl k ∧ vl k ≤ hi
    · exact Or.inl ⟨hkP, hv.1, hv.2, hc.1 hd hv.1 hv.2, hr.1 hd hv.1 hv.2, Rel_n E R hkP⟩
    · obtain ⟨r, hr2⟩ := hr.2.1 hd hv
      have hek := (E.2.1.se k hkP).2
      have hsk := E.sn (k := k + 1) hkP
      exact Or.inr ⟨_, _, r, ((Fz.refl σ).u rfl).u rfl, (((Fz.refl τ).u rfl).u rfl).u rfl, hc.2.1 hd hv, hr2, BD_i R.2.1 (by decide) (by omega)⟩
  · obtain ⟨r, hr2⟩ := hr.2.2 hd
    exact Or.inr ⟨_, _, r, ((Fz.refl σ).u rfl).u rfl, (((Fz.refl τ).u rfl).u rfl).u rfl, hc.2.2 hd, hr2, BD_i R.2.1 (by decide) (by omega)⟩
/-- the word w must stand here -/
theorem s_word {F : Nat} (hF : 2000 ≤ F) (E : Env u n P s e kd vl) {k c o w : Nat} {σ τ : kS} {K : kS → Option kR} (R : Rel u n P s kd vl k c o σ τ) (h1 : 8 ≤ w) (h2 : w ≤ 22) :
    (k < P ∧ f_X3_expect F (kw w) σ = some (.inl (some (.int 1)), kU σ 2 0 7 (nI (k + 1))) ∧ (kBi (rW F w τ) fun c26 σ25 => kBv (f_X6_must F c26 σ25) K) = K (atA τ (e k)) ∧ Rel u n P s kd vl (k + 1) c o (kU σ 2 0 7 (nI (k + 1))) (atA τ (e k))) ∨
    (∃ σ' τ', Fz cP σ σ' ∧ Fz rP τ τ' ∧ f_X3_expect F (kw w) σ = some (.inl (some (.int 0)), σ') ∧ (kBi (rW F w τ) fun c26 σ25 => kBv (f_X6_must F c26 σ25) K) = K τ' ∧ BD u n σ' τ') := by
  have hpn := E.pn
  have hk := R.2.2.1
  have hsn := E.sn hk
  have Rb := Rel_b R
  rw [r_w' hF E hk R.2.1 h1 h2, s_bi]
  unfold f_X6_must f_X6_must_b28
  rw [if_pos Rb.2.1.2.2.2.1, ifA]
  by_cases z : kd k = kw w
  · obtain ⟨b, -, hb⟩ := t_let E hk
    have hkP := ((hb w h1 h2).2 z).2
    refine Or.inl ⟨hkP, c_expY R.1 (by omega) hkP z, ?_, Rel_n E R hkP⟩
    rw [if_pos z, r_skip hF E hk Rb.2.1.1 kU_here h1 h2 z, s_bv, s_bv, show atA (atA τ (s k)) (e k) = atA τ (e k) from kU_kU]
  · refine Or.inr ⟨_, _, ((Fz.refl σ).u rfl).u rfl, (((Fz.refl τ).u rfl).u rfl).u rfl, c_expN R.1 (by omega) hk z, ?_, BD_i (x := s k) R.2.1 (by decide) (by omega)⟩
    rw [if_neg z, kU_here, r_wrong Rb.2.1.2.2.2.1, s_bv, s_bv]
/-- a sign must stand here -/
theorem s_sign {F : Nat} (hF : 2000 ≤ F) (E : Env u n P s e kd vl) {k c o v : Nat} {σ τ : kS} (R : Rel u n P s kd vl k c o σ τ) (hv : v < 256) (v1 : ¬ isD v) (v2 : ¬ isL v) :
    (k < P ∧ f_X3_expect F (nI v) σ = some (.inl (some (.int 1)), kU σ 2 0 7 (nI (k + 1))) ∧ f_X6_sign F (nI v) τ = some (.inl none, atA τ (e k)) ∧ Rel u n P s kd vl (k + 1) c o (kU σ 2 0 7 (nI (k + 1))) (atA τ (e k))) ∨
    (∃ σ' τ', Fz cP σ σ' ∧ Fz rP τ τ' ∧ f_X3_expect F (nI v) σ = some (.inl (some (.int 0)), σ') ∧ f_X6_sign F (nI v) τ = some (.inl none, τ') ∧ BD u n σ' τ') := by
  have hpn := E.pn
  have hk := R.2.2.1
  have hsn := E.sn hk
  have ts := t_sgn E hk hv v1 v2
  by_cases z : kd k = nI v
  · exact Or.inl ⟨(ts.2 z).1, c_expY R.1 (by omega) (ts.2 z).1 z, r_sgnY hF E hk R.2.1 hv v1 v2 z, Rel_n E R (ts.2 z).1⟩
  · exact Or.inr ⟨_, _, ((Fz.refl σ).u rfl).u rfl, (((Fz.refl τ).u rfl).u rfl).u rfl, c_expN R.1 (by omega) hk z, r_sgnX hF E hk R.2.1 hv v1 v2 z, BD_i R.2.1 (by decide) (by omega)⟩
end Bits
