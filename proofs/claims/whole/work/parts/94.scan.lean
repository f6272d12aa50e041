/-! THE CLASS READS, AND THE REFERENCE BESIDE IT -/
theorem rQ_f {g i k : Nat} (h1 : ¬ (g = 48 ∧ i = 0 ∧ 4 ≤ k ∧ k ≤ 9)) (h2 : g ≠ 50) (h3 : g ≠ 52) : rQ g i k = false := by
  cases hq : rQ g i k with
  | false => rfl
  | true =>
    exfalso
    unfold rQ rP at hq
    simp only [Bool.or_eq_true, Bool.and_eq_true, beq_iff_eq] at hq
    omega
theorem cQ_f {g i k : Nat} (h1 : ¬ (i = 0 ∧ (g = 2 ∨ 10 ≤ g ∧ g ≤ 20))) : cQ g i k = false := by
  cases hq : cQ g i k with
  | false => rfl
  | true =>
    exfalso
    unfold cQ cP at hq
    simp only [Bool.or_eq_true, Bool.and_eq_true, beq_iff_eq] at hq
    omega
theorem scS_f {g i k : Nat} (h1 : ¬ (i = 0 ∧ (g = 2 ∨ 10 ≤ g ∧ g ≤ 20))) : scS g i k = false := by
  cases hq : scS g i k with
  | false => rfl
  | true =>
    exfalso
    unfold scS at hq
    simp only [Bool.or_eq_true, Bool.and_eq_true, beq_iff_eq] at hq
    omega
theorem kmin_n {n : Nat} (hn : n ≤ 300) : kmin (nI n) (kmin 300 300) = nI n := by
  unfold kmin
  rw [if_neg (show ¬ (300 : Int32) < 300 by decide), if_neg (show ¬ (300 : Int32) < nI n by rw [show (300 : Int32) = nI 300 from rfl, nJ_lt (by omega) (by omega)]; omega)]
theorem w_read {F : Nat} (hF : 2000 ≤ F) {u : Nat → Nat} {n : Nat} {σ : kS} (hu : txt u n) (h : clT u n σ) : ∃ (σ' : kS) (P : Nat) (s e : Nat → Nat) (kd : Nat → Int32) (vl : Nat → Nat), Env u n P s e kd vl ∧ f_X3_read F (nI n) σ = some (.inl (some (.int (σ'.1 2 0 2))), σ') ∧ (∀ g i k, ¬ (i = 0 ∧ (g = 2 ∨ 10 ≤ g ∧ g ≤ 20)) → σ'.1 g i k = σ.1 g i k) ∧ σ'.2 = σ.2 ∧ ∀ τ : kS, refT u n τ → τ.1 48 0 4 = 0 → τ.1 48 0 5 = 0 → τ.1 48 0 6 = 0 → τ.1 48 0 7 = -1 → τ.1 48 0 8 = 0 → τ.1 48 0 9 = 0 → ∃ τ', (kBv (f_X6_blanks F τ) fun σ37 => kFix (f_X6_why_b92 F) F () σ37) = f_X6_why_b121 F τ' ∧ Fz rQ τ τ' ∧ endC u n P s kd vl σ' τ' := by
  have hn := hu.1
  obtain ⟨σ4, es4⟩ : ∃ σ4, σ4 = kU (kU (kU (kU σ 2 0 2 0) 2 0 1 (-1)) 10 0 0 0) 10 0 8 0 := ⟨_, rfl⟩
  have hc4 : clT u n σ4 := fun k hk => by
    rw [es4, kU_g (by decide), kU_g (by decide), kU_g (by decide), kU_g (by decide)]
    exact h k hk
  obtain ⟨σ5, e5, f5, p, s, e, kd, vl, t1, t2, t3, t4, t5⟩ := rv_get (c_scan hF hu hc4)
  have E : Env u n p s e (upF kd p (-24)) vl := ⟨hu, ⟨t1.1, t1.2.1, t1.2.2.1, t1.2.2.2.1, t1.2.2.2.2.1, fun k hk => by rw [upF_n (by omega)]; exact t1.kin k hk⟩, t2, upF_s⟩
  have hpn := E.pn
  have q2 : σ5.1 2 0 2 = 0 := by
    rw [f5.1 2 0 2 rfl, es4, kU_g (by decide), kU_g (by decide), kU_k (by decide)]; exact kU_here
  have q1 : σ5.1 2 0 1 = -1 := by
    rw [f5.1 2 0 1 rfl, es4, kU_g (by decide), kU_g (by decide)]; exact kU_here
  have q10 : σ5.1 10 0 0 = 0 := by
    rw [f5.1 10 0 0 rfl, es4, kU_k (by decide)]; exact kU_here
  have q8 : σ5.1 10 0 8 = 0 := by
    rw [f5.1 10 0 8 rfl, es4]; exact kU_here
  have C : CR p s (upF kd p (-24)) vl 0 0 (kU σ5 2 0 7 0) := by
    refine ⟨⟨by rw [kU_k (by decide)]; exact t3.1, fun k hk => ?_⟩, kU_here, by rw [kU_g (by decide)]; exact q8, by rw [kU_k (by decide)]; exact q2, by rw [kU_k (by decide)]; exact q1⟩
    rw [kU_g (by decide), kU_g (by decide), kU_g (by decide)]
    by_cases z : k = p
    · rw [z, upF_s, t2]
      exact ⟨t4, t5, fun q => absurd q (by omega)⟩
    · rw [upF_n z]
      obtain ⟨w1, w2, w3⟩ := t3.2 k (by omega)
      exact ⟨w1, w2, fun _ => w3⟩
  have key : ∀ τ : kS, refT u n τ → τ.1 48 0 4 = 0 → τ.1 48 0 5 = 0 → τ.1 48 0 6 = 0 → τ.1 48 0 7 = -1 → τ.1 48 0 8 = 0 → τ.1 48 0 9 = 0 → ∃ σ' τ', kFix (f_X3_read_b53 F) F (1, 0) (kU σ5 2 0 7 0) = some (.inl (some (.int (σ'.1 2 0 2))), σ') ∧ (kBv (f_X6_blanks F τ) fun σ37 => kFix (f_X6_why_b92 F) F () σ37) = f_X6_why_b121 F τ' ∧ Fz cQ (kU σ5 2 0 7 0) σ' ∧ Fz rQ τ τ' ∧ endC u n p s (upF kd p (-24)) vl σ' τ' := by
    intro τ hr h4 h5 h6 h7 h8 h9
    have R : Rel u n p s (upF kd p (-24)) vl 0 0 0 (kU σ5 2 0 7 0) τ := ⟨C, ⟨hr, ⟨0, h4, atK_0 E⟩, h5, h6, h7, h8⟩, Nat.zero_le _, Nat.le_refl _, fun j hj => absurd hj (by omega)⟩
    rw [r_bl' hF E (Nat.zero_le _) R.2.1, s_bv]
    exact s_read hF E 15 F F 0 0 0 (kU σ5 2 0 7 0) (atA τ (s 0)) rfl (by omega) (by omega) (Rel_b R) kU_here ⟨by omega, by rw [kU_k (by decide)]; exact h9, by rw [kU_g (by decide)]; exact q10, fun i hi => absurd hi (by omega)⟩ (Fz.refl _) ((Fz.refl τ).u rfl)
  obtain ⟨σ', τd, a1, -, a3, -, -⟩ := key (fun g _ k => if g = 49 then nI (u k) else if k = 2 then nI n else if k = 7 then -1 else 0, σ.2) ⟨rfl, fun k _ => rfl⟩ rfl rfl rfl rfl rfl rfl
  refine ⟨σ', p, s, e, upF kd p (-24), vl, E, ?_, fun g i k q => ?_, ?_, fun τ hr h4 h5 h6 h7 h8 h9 => ?_⟩
  · unfold f_X3_read
    rw [s_b, s_b, s_b, s_b, s_b, s_b, kmin_n hn, ← es4, e5, s_bv, s_b]
    exact a1
  · rw [a3.1 g i k (cQ_f q), kU_at, if_neg (by omega), f5.1 g i k (scS_f q), es4, kU_at, if_neg (by omega), kU_at, if_neg (by omega), kU_at, if_neg (by omega), kU_at, if_neg (by omega)]
  · rw [a3.2]
    show σ5.2 = σ.2
    rw [f5.2, es4]
    rfl
  · obtain ⟨σ'', τ', b1, b2, b3, b4, b5⟩ := key τ hr h4 h5 h6 h7 h8 h9
    rw [a1] at b1
    have hs : σ' = σ'' := (Prod.mk.inj (Option.some.inj b1)).2
    rw [← hs] at b5
    exact ⟨τ', b2, b4, b5⟩
