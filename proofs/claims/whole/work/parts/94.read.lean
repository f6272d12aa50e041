/-! ALL CLAUSES -/
theorem clB_t {y y' : yD} {row row' : Nat → Nat → Int32} {code code' : Nat → Int32} {i c : Nat} (h : clB y row code i) (hc : yk y i = -18 → ye y i ≤ c) (h1 : yk y' i = yk y i) (h2 : y'.2.2.1 i = y.2.2.1 i) (h3 : ya y' i = ya y i) (h4 : yf y' i = yf y i) (h5 : y'.2.2.2.2.2.1 i = y.2.2.2.2.2.1 i) (h6 : y'.2.2.2.2.2.2.1 i = y.2.2.2.2.2.2.1 i) (hrow : ∀ x, x < 4 → row' i x = row i x) (h17 : ∀ k, k < c → yc y' k = yc y k) (hcd : ∀ k, k < c → code' k = trC (yc y' k) ∧ rng (yc y' k) (-16) 9999) : clB y' row' code' i := by
  have ht : yt y' i = yt y i := by unfold yt; rw [h2]
  have hs : ys y' i = ys y i := by unfold ys; rw [h5]
  have he : ye y' i = ye y i := by unfold ye; rw [h6]
  unfold clB at h ⊢
  rw [hrow 0 (by omega), hrow 1 (by omega), hrow 2 (by omega), hrow 3 (by omega), h1, h2, h3, h4, h5, h6, ht, hs, he]
  obtain ⟨h0, h | h | h⟩ := h
  · exact ⟨h0, Or.inl h⟩
  · obtain ⟨a1, a2, a3, a4, a5, a6, a7, a8, a9, a10⟩ := h
    have hce := hc a1
    exact ⟨h0, Or.inr (Or.inl ⟨a1, a2, a3, a4, a5, a6, a7, a8, fun k k1 k2 => hcd k (by omega), by rw [co_cg (f := yc y) (g := yc y') (fun k k1 k2 => h17 k (by omega))]; exact a10⟩)⟩
  · exact ⟨h0, Or.inr (Or.inr h)⟩
section Reads
variable {u : Nat → Nat} {n P : Nat} {s e : Nat → Nat} {kd : Nat → Int32} {vl : Nat → Nat}
theorem t_24 (E : Env u n P s e kd vl) {k : Nat} (h : k < P) : kd k ≠ -24 := by
  rcases E.2.1.kin k h with ⟨q, -, hq, hkd⟩ | ⟨-, hkd, -⟩ | ⟨-, -, -, hkd⟩
  · rw [hkd]; exact (kwN hq.1 hq.2.1).2.2
  · rw [hkd]; decide
  · rw [hkd]; exact nI_neg (E.1.2 (s k) (E.sk h)) (by decide)
/-- the clauses read so far -/
def upto (j c : Nat) (σ τ : kS) : Prop := j ≤ 14 ∧ τ.1 48 0 9 = nI j ∧ σ.1 10 0 0 = nI j ∧ ∀ i, i < j → clB (yOf σ.1 0) (τ.1 52) (τ.1 50 0) i ∧ (yk (yOf σ.1 0) i = -18 → ye (yOf σ.1 0) i ≤ c)
theorem upto_g {k c j : Nat} {σ τ σ' τ' : kS} (h : upto j c σ τ) (g : goodC u n P s kd vl k c j σ τ σ' τ') : ∃ k' c', k < k' ∧ Rel u n P s kd vl k' c' 0 σ' τ' ∧ upto (j + 1) c' σ' τ' := by
  obtain ⟨g1, f1, f2, g2, g3, k', c', g4, g5, g6, g7, g8, g9⟩ := g
  refine ⟨k', c', g4, g6, by omega, g2, g3, fun i hi => ?_⟩
  by_cases z : i = j
  · rw [z]; exact ⟨g8, g9⟩
  · obtain ⟨a, b⟩ := h.2.2.2 i (by omega)
    have hG : ∀ g, 11 ≤ g → g ≤ 16 → σ'.1 g 0 i = σ.1 g 0 i := fun g q1 q2 => f1.1 g 0 i (by
      have : (i == j) = false := by simp [z]
      have q3 : g = 11 ∨ g = 12 ∨ g = 13 ∨ g = 14 ∨ g = 15 ∨ g = 16 := by omega
      unfold cC cP
      rcases q3 with rfl | rfl | rfl | rfl | rfl | rfl <;> simp [z])
    refine ⟨clB_t a b (hG 11 (by omega) (by omega)) (hG 12 (by omega) (by omega)) (hG 13 (by omega) (by omega)) (hG 14 (by omega) (by omega)) (hG 15 (by omega) (by omega)) (hG 16 (by omega) (by omega)) (fun k _ => f2.1 52 i k (by simp [rC, rP, z])) g7 (fun x hx => g6.2.2.2.2 x (by omega)), fun q => ?_⟩
    have e1 : yk (yOf σ'.1 0) i = yk (yOf σ.1 0) i := hG 11 (by omega) (by omega)
    have e2 : ye (yOf σ'.1 0) i = ye (yOf σ.1 0) i := congrArg Int32.toNatClampNeg (hG 16 (by omega) (by omega))
    rw [e1] at q
    rw [e2]
    exact Nat.le_trans (b q) g5
theorem upto_a {j c a : Nat} {σ τ : kS} (h : upto j c σ τ) : upto j c σ (atA τ a) := by
  obtain ⟨h1, h2, h3, h4⟩ := h
  refine ⟨h1, by rw [kU_k (by decide)]; exact h2, h3, ?_⟩
  rw [kU_g (by decide), kU_g (by decide)]
  exact h4
def endC (u : Nat → Nat) (n P : Nat) (s : Nat → Nat) (kd : Nat → Int32) (vl : Nat → Nat) (σ τ : kS) : Prop := (∃ j c, Rel u n P s kd vl P c 0 σ τ ∧ upto j c σ τ) ∨ BD u n σ τ
theorem s_read {F : Nat} (hF : 2000 ≤ F) (E : Env u n P s e kd vl) {σ0 τ0 : kS} : ∀ m N M j k c σ τ, m = 15 - j → m + 1 < N → m + 1 < M → Rel u n P s kd vl k c 0 σ τ → τ.1 48 0 4 = nI (s k) → upto j c σ τ → Fz cQ σ0 σ → Fz rQ τ0 τ → ∃ σ' τ', kFix (f_X3_read_b53 F) N (1, nI j) σ = some (.inl (some (.int (σ'.1 2 0 2))), σ') ∧ kFix (f_X6_why_b92 F) M () τ = f_X6_why_b121 F τ' ∧ Fz cQ σ0 σ' ∧ Fz rQ τ0 τ' ∧ endC u n P s kd vl σ' τ' := by
  intro m
  induction m with
  | zero =>
    intro N M j k c σ τ hm hN hM R h4 U f1 f2
    have := U.1
    omega
  | succ m ih =>
    intro N M j k c σ τ hm hN hM R h4 U f1 f2
    obtain ⟨N, rfl⟩ : ∃ N', N = N' + 1 := ⟨N - 1, by omega⟩
    obtain ⟨M, rfl⟩ : ∃ M', M = M' + 1 := ⟨M - 1, by omega⟩
    have hj := U.1
    have hk := R.2.2.1
    have hpn := E.pn
    have hsn := E.sn hk
    have hP : P ≤ 300 := by omega
    have hc : kFix (f_X3_read_b53 F) (N + 1) (1, nI j) σ = (if kd k = (-24) then (f_X3_read_b91 F σ) else (kBi (f_X3_readClause F (nI j) σ) fun c6 σ5 => kFix (f_X3_read_b53 F) N (c6, nI j + 1) σ5)) := by
      show f_X3_read_b53 F (kFix (f_X3_read_b53 F) N) (1, nI j) σ = _
      unfold f_X3_read_b53
      dsimp only
      rw [if_neg (show ¬ (14 : Int32) < nI j by rw [show (14 : Int32) = nI 14 from rfl, nJ_lt (by omega) (by omega)]; omega), if_neg (show ¬ (1 : Int32) = 0 by decide), kg_t (c_kd R.1 hP hk).1, (c_kd R.1 hP hk).2]
    have hr : kFix (f_X6_why_b92 F) (M + 1) () τ = (if nI n ≤ nI (s k) then (f_X6_why_b121 F τ) else (kBv (f_X6_clauseHere F τ) fun σ22 => kBv (f_X6_blanks F σ22) fun σ23 => kFix (f_X6_why_b92 F) M () σ23)) := by
      show f_X6_why_b92 F (kFix (f_X6_why_b92 F) M) () τ = _
      unfold f_X6_why_b92
      dsimp only
      rw [if_pos R.2.1.2.2.2.1, R.2.1.1.1, h4]
    rw [hc, hr]
    by_cases z : k = P
    · rw [z, if_pos E.2.2.2, E.2.2.1, if_pos ((nJ_le (by omega) (by omega)).mpr (Nat.le_refl _))]
      exact ⟨σ, τ, rfl, rfl, f1, f2, Or.inl ⟨j, c, z ▸ R, U⟩⟩
    · have hkP : k < P := by omega
      have := E.sk hkP
      rw [if_neg (t_24 E hkP), if_neg (show ¬ nI n ≤ nI (s k) by rw [nJ_le (by omega) (by omega)]; omega), nI_s (by omega)]
      obtain ⟨σ1, τ1, t1, ⟨t2, g⟩ | ⟨t2, q1, q2, q3⟩⟩ := s_clause (F := F) hF E R hj U.2.1
      · obtain ⟨k', c', w1, w2, w3⟩ := upto_g U g
        rw [t1, t2, s_bi, s_bv, r_bl' hF E w2.2.2.1 w2.2.1, s_bv]
        exact ih N M (j + 1) k' c' σ1 (atA τ1 (s k')) (by omega) (by omega) (by omega) (Rel_b w2) kU_here (upto_a w3) (f1.trans g.2.1.ccq) ((f2.trans g.2.2.1.rcq).u rfl)
      · obtain ⟨b, w1, w2⟩ := BD_b hF E.1 q3
        rw [t1, t2, s_bi, s_bv, w1, s_bv]
        obtain ⟨N, rfl⟩ : ∃ N', N = N' + 1 := ⟨N - 1, by omega⟩
        obtain ⟨M, rfl⟩ : ∃ M', M = M' + 1 := ⟨M - 1, by omega⟩
        refine ⟨σ1, atA τ1 b, ?_, ?_, f1.trans q1, (f2.trans q2).u rfl, Or.inr w2⟩
        · show f_X3_read_b53 F (kFix (f_X3_read_b53 F) N) (0, nI (j + 1)) σ1 = _
          unfold f_X3_read_b53 f_X3_read_b91
          dsimp only
          rw [if_pos rfl]
          by_cases y : (14 : Int32) < nI (j + 1)
          · rw [if_pos y]
          · rw [if_neg y]
        · show f_X6_why_b92 F (kFix (f_X6_why_b92 F) M) () (atA τ1 b) = _
          unfold f_X6_why_b92
          dsimp only
          rw [if_neg (BD_6 w2)]
end Reads
