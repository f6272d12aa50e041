/-! WHY, BY BOTH -/
theorem g_why' {F : Nat} (hF : 2000 ≤ F) (a1 : Int32) : Good (q_why F a1) := by
  intro nx σ h
  obtain ⟨N, hN3, h1, h48, hb⟩ := inv_tape h
  obtain ⟨T, hT6, hT13, hT5⟩ := inv_T h
  by_cases c1 : 0 ≤ a1 ∧ a1 ≤ nI N
  · obtain ⟨n, hn, rfl⟩ := r_nI c1 (by omega)
    have hneg : ¬ nI n < 0 := nI_nneg (by omega)
    have hle : nI n ≤ σ.1 0 0 1 := by rw [h1]; exact c1.2
    by_cases z6 : T = 6
    · have hcl : f_X5_why F (nI n) σ = some (.inl (some (.int (-1))), kU (kU σ 0 0 1 0) 0 0 3 (-1)) := by
        unfold f_X5_why
        rw [if_neg hneg, if_pos hle, s_b, kU_k (by decide), hT5, z6, if_neg (by decide), s_b]
      refine top_i (k := 0) (σ2 := kUL (kU (kU σ 0 0 1 0) 0 0 3 (-1)) 90 0 0 (-1 : Int32).toInt64) (by unfold w_why; rw [hcl]; rfl) ?_
      have e1 : (kUL (kU (kU σ 0 0 1 0) 0 0 3 (-1)) 90 0 0 (-1 : Int32).toInt64).1 48 0 1 = nI N := h48
      have e13 : (kUL (kU (kU σ 0 0 1 0) 0 0 3 (-1)) 90 0 0 (-1 : Int32).toInt64).1 48 0 13 = 6 := by
        show σ.1 48 0 13 = 6
        rw [hT13, z6]; rfl
      rw [r_why0 ⟨c1.1, by rw [e1]; exact c1.2⟩, if_pos e13]
      refine n_i ⟨inv_b (m := σ.1) (fun g i k q1 q2 q3 q4 q5 => ?_) ?_ ?_ ?_ h, ?_, fun _ => ent_2 (σ := kU (kU σ 0 0 1 0) 0 0 3 (-1))⟩
      · rw [kU_at, if_neg (by omega), kU_at, if_neg (by omega), kU_at, if_neg (by omega)]
        show (kU (kU σ 0 0 1 0) 0 0 3 (-1)).1 g i k = _
        rw [kU_at, if_neg (by omega), kU_at, if_neg (by omega)]
      · simp [kU_at, kUL]
      · simp [kU_at]
      · simp [kU_at, kUL]
      · simp [kU_at]
    · have hT : T < 6 := by omega
      obtain ⟨u, eu⟩ : ∃ u : Nat → Nat, u = fun k => (σ.1 49 0 k).toNatClampNeg := ⟨_, rfl⟩
      have hub : ∀ k, k < n → σ.1 49 0 k = nI (u k) ∧ u k < 256 := fun k hk => by
        obtain ⟨b1, -⟩ := hb k (by omega)
        obtain ⟨e1, e2⟩ := rng_nI b1
        rw [eu]
        exact ⟨e1, by show (σ.1 49 0 k).toNatClampNeg < 256; omega⟩
      have hu : txt u n := ⟨by omega, fun k hk => (hub k hk).2⟩
      have hc : clT u n (kU σ 0 0 1 0) := fun k hk => by
        rw [kU_g (by decide), (hb k (by omega)).2, (hub k hk).1]
      obtain ⟨σ1, P, s, e, kd, vl, E, r1, r2, r3, r4⟩ := w_read hF hu hc
      have hpn := E.pn
      have q05 : σ1.1 0 0 5 = nI T := by rw [r2 0 0 5 (by omega), kU_k (by decide)]; exact hT5
      have ht5 : (kU σ 0 0 1 0).1 0 0 5 < 6 := by rw [kU_k (by decide), hT5]; exact (nJ_lt (b := 6) (by omega) (by omega)).mpr hT
      have key : ∀ σ2 : kS, (∀ g i k, 48 ≤ g → σ2.1 g i k = σ.1 g i k) → ∃ τ, (∀ g i k, ¬ (g = 48 ∧ i = 0 ∧ k ≤ 9) → τ.1 g i k = σ2.1 g i k) ∧ τ.1 48 0 0 = 0 ∧ τ.1 48 0 1 = 0 ∧ τ.2 = σ2.2 ∧ ∃ τ', f_X6_why F (nI n) σ2 = f_X6_why_b121 F τ' ∧ Fz rQ τ τ' ∧ endC u n P s kd vl σ1 τ' := fun σ2 S => by
        have e1 : σ2.1 48 0 1 = nI N := (S 48 0 1 (by omega)).trans h48
        have e13 : σ2.1 48 0 13 = nI T := (S 48 0 13 (by omega)).trans hT13
        rw [r_why0 ⟨c1.1, by rw [e1]; exact c1.2⟩, if_neg (show ¬ σ2.1 48 0 13 = 6 from fun q => by rw [e13] at q; have q : nI T = nI 6 := q; rw [nI_inj (by omega) (by omega)] at q; omega), s_b]
        refine ⟨_, fun g i k q => ?_, ?_, ?_, ?_, r4 (kU (kU (kU (kU (kU (kU (kU (kU (kU (kU σ2 48 0 0 0) 48 0 1 0) 48 0 3 (-1)) 48 0 2 (nI n)) 48 0 4 0) 48 0 5 0) 48 0 6 0) 48 0 7 (-1)) 48 0 8 0) 48 0 9 0) ⟨?_, fun k hk => ?_⟩ ?_ ?_ ?_ ?_ ?_ ?_⟩
        · rw [kU_at, if_neg (by omega), kU_at, if_neg (by omega), kU_at, if_neg (by omega), kU_at, if_neg (by omega), kU_at, if_neg (by omega), kU_at, if_neg (by omega), kU_at, if_neg (by omega), kU_at, if_neg (by omega), kU_at, if_neg (by omega), kU_at, if_neg (by omega)]
        · simp [kU_at]
        · simp [kU_at]
        · rfl
        · simp [kU_at]
        · rw [kU_g (by decide), kU_g (by decide), kU_g (by decide), kU_g (by decide), kU_g (by decide), kU_g (by decide), kU_g (by decide), kU_g (by decide), kU_g (by decide), kU_g (by decide), S 49 0 k (by omega)]
          exact (hub k hk).1
        · simp [kU_at]
        · simp [kU_at]
        · simp [kU_at]
        · simp [kU_at]
        · simp [kU_at]
        · simp [kU_at]
      by_cases zf : σ1.1 2 0 2 = 0
      · obtain ⟨σc, ec, d1, d2, d3, d4, d5⟩ := c_copy (F := F) (T := T) (σ := kU σ1 0 0 3 (σ1.1 2 0 1))
        have dc5 : σc.1 0 0 5 = nI T := by rw [d1 0 0 5 (by omega), kU_k (by decide)]; exact q05
        have hcl : f_X5_why F (nI n) σ = some (.inl (some (.int (nI T))), kU σc 0 0 5 (nI (T + 1))) := by
          unfold f_X5_why
          rw [if_neg hneg, if_pos hle, s_b, if_pos ht5, r1, s_bi, s_b, if_pos zf, kU_k (by decide), q05, kg_t ((nI_kin (by omega)).mpr hT), nI_c (by omega), s_b, ec, s_bv, dc5, nI_s (by omega), s_b, kU_here, nI_p (by omega) (by omega), Nat.add_sub_cancel]
        refine top_i (k := 0) (σ2 := kUL (kU σc 0 0 5 (nI (T + 1))) 90 0 0 (nI T).toInt64) (by unfold w_why; rw [hcl]; rfl) ?_
        obtain ⟨σ2, es2⟩ : ∃ σ2, σ2 = kUL (kU σc 0 0 5 (nI (T + 1))) 90 0 0 (nI T).toInt64 := ⟨_, rfl⟩
        rw [← es2]
        have C2 : ∀ g i k, ¬ (g = 0 ∧ i = 0 ∧ k = 5) → σ2.1 g i k = σc.1 g i k := fun g i k q => by
          rw [es2]
          show (kU σc 0 0 5 (nI (T + 1))).1 g i k = _
          rw [kU_at, if_neg q]
        have S2 : ∀ g i k, ¬ (i = T + 2 ∧ 10 ≤ g ∧ g ≤ 17) → ¬ (i = 0 ∧ (g = 2 ∨ 10 ≤ g ∧ g ≤ 20)) → ¬ (g = 0 ∧ i = 0 ∧ (k = 1 ∨ k = 3 ∨ k = 5)) → σ2.1 g i k = σ.1 g i k := fun g i k q1 q2 q3 => by
          rw [C2 g i k (by omega), d1 g i k q1, kU_at, if_neg (by omega), r2 g i k q2, kU_at, if_neg (by omega)]
        obtain ⟨τ, T0, T1, T2, T3, τ', w1, w2, w3⟩ := key σ2 (fun g i k q => S2 g i k (by omega) (by omega) (by omega))
        rw [w1]
        rcases w3 with ⟨j, c, R, U⟩ | B
        · have k6 := R.2.1.2.2.2.1
          have k7 := R.2.1.2.2.2.2.1
          have k8 := R.2.1.2.2.2.2.2
          have hcP := R.2.2.2.1
          have k13 : τ'.1 48 0 13 = nI T := by
            rw [w2.1 48 0 13 (rQ_f (by omega) (by omega) (by omega)), T0 48 0 13 (by omega), S2 48 0 13 (by omega) (by omega) (by omega)]; exact hT13
          unfold f_X6_why_b121
          rw [s_b, k7, kU_k (by decide), if_pos k6]
          refine ri_mono (m_146 (j := j) (c := c) hF hT U.1 (by omega) (by rw [kU_k (by decide)]; exact k13) (by rw [kU_k (by decide)]; exact k8) (by rw [kU_k (by decide)]; exact U.2.1)) ?_
          rintro r τf ⟨rfl, m1, m2, m3, m4, m5, m6, m7⟩
          have Tf : ∀ g i k, ¬ (g = 54 ∧ i = T) → ¬ (g = 56 ∧ 14 * T ≤ i ∧ i < 14 * T + 14) → ¬ ((g = 57 ∨ g = 58) ∧ i = 0 ∧ k = T) → ¬ (g = 48 ∧ i = 0 ∧ (k ≤ 9 ∨ k = 13)) → g ≠ 50 → g ≠ 52 → τf.1 g i k = σ2.1 g i k := fun g i k q1 q2 q3 q4 q5 q6 => by
            rw [m6 g i k q1 q2 q3 (by omega), kU_at, if_neg (by omega), w2.1 g i k (rQ_f (by omega) q5 q6), T0 g i k (by omega)]
          have Cf : ∀ g i k, g < 48 → ¬ (g = 0 ∧ i = 0 ∧ k = 5) → τf.1 g i k = σc.1 g i k := fun g i k q1 q2 => by
            rw [Tf g i k (by omega) (by omega) (by omega) (by omega) (by omega) (by omega), C2 g i k q2]
          have f17 : ∀ k, k < c → τf.1 17 (T + 2) k = σ1.1 17 0 k := fun k hk => by
            rw [Cf 17 (T + 2) k (by omega) (by omega), d4 k (by omega), kU_g (by decide)]
          refine ⟨inv_y (m := σ.1) hT hT13 hT5 (fun g i k q1 q2 q3 q4 q5 q6 q7 q8 q9 => ?_) ?_ ?_ ?_ ?_ m5 m4 ?_ h, ?_, fun _ => ?_⟩
          · rw [Tf g i k q1 q2 q3 q4 q5 q6, S2 g i k q7 q8 q9]
          · rw [Cf 0 0 1 (by omega) (by omega), d1 0 0 1 (by omega), kU_k (by decide), r2 0 0 1 (by omega)]; exact kU_here
          · rw [m6 48 0 1 (by omega) (by omega) (by omega) (by omega), kU_k (by decide), w2.1 48 0 1 (rQ_f (by omega) (by omega) (by omega))]; exact T2
          · rw [Cf 0 0 3 (by omega) (by omega), d1 0 0 3 (by omega), kU_here, R.1.2.2.2.2, m6 48 0 3 (by omega) (by omega) (by omega) (by omega)]
            exact kU_here.symm
          · rw [Tf 0 0 5 (by omega) (by omega) (by omega) (by omega) (by omega) (by omega), es2]
            show (kU σc 0 0 5 (nI (T + 1))).1 0 0 5 = _
            exact kU_here
          · refine whyR_of ?_ ?_ (fun i hi hl => ?_)
            · show τf.1 10 (T + 2) 0 = τf.1 57 0 T
              rw [Cf 10 (T + 2) 0 (by omega) (by omega), d2, kU_g (by decide), U.2.2.1, m3]
            · rw [m3]; exact rng_v (lo := 0) (hi := 14) (Nat.zero_le _) U.1 (by decide)
            · rw [m3, nJ_lt (by omega) (by have := U.1; omega)] at hl
              have G1 : ∀ g, 11 ≤ g → g ≤ 16 → τf.1 g (T + 2) i = σ1.1 g 0 i := fun g g1 g2 => by
                rw [Cf g (T + 2) i (by omega) (by omega), d3 g i g1 g2 hi, kU_at, if_neg (by omega)]
              refine clB_t (U.2.2.2 i hl).1 (U.2.2.2 i hl).2 (G1 11 (by omega) (by omega)) (G1 12 (by omega) (by omega)) (G1 13 (by omega) (by omega)) (G1 14 (by omega) (by omega)) (G1 15 (by omega) (by omega)) (G1 16 (by omega) (by omega)) (fun x hx => ?_) f17 (fun k hk => ?_)
              · show τf.1 56 (14 * T + i) x = τ'.1 52 i x
                rw [m2 i x hl hx, kU_g (by decide)]
              · show τf.1 54 T k = trC (τf.1 17 (T + 2) k) ∧ rng (τf.1 17 (T + 2) k) (-16) 9999
                rw [m1 k hk, kU_g (by decide), f17 k hk]
                exact R.2.2.2.2 k hk
          · rw [m6 48 0 0 (by omega) (by omega) (by omega) (by omega), kU_k (by decide), w2.1 48 0 0 (rQ_f (by omega) (by omega) (by omega))]; exact T1
          · rw [m7]
            show τ'.2 90 0 0 = _
            rw [w2.2, T3, es2]
            exact ent_2 (σ := kU σc 0 0 5 (nI (T + 1)))
        · exact absurd zf B.1
      · have hcl : f_X5_why F (nI n) σ = some (.inl (some (.int (σ1.1 2 0 2 - 10))), kU σ1 0 0 3 (σ1.1 2 0 1)) := by
          unfold f_X5_why
          rw [if_neg hneg, if_pos hle, s_b, if_pos ht5, r1, s_bi, s_b, if_neg zf]
        refine top_i (k := 0) (σ2 := kUL (kU σ1 0 0 3 (σ1.1 2 0 1)) 90 0 0 (σ1.1 2 0 2 - 10).toInt64) (by unfold w_why; rw [hcl]; rfl) ?_
        obtain ⟨σ2, es2⟩ : ∃ σ2, σ2 = kUL (kU σ1 0 0 3 (σ1.1 2 0 1)) 90 0 0 (σ1.1 2 0 2 - 10).toInt64 := ⟨_, rfl⟩
        rw [← es2]
        have C2 : ∀ g i k, σ2.1 g i k = (kU σ1 0 0 3 (σ1.1 2 0 1)).1 g i k := fun g i k => by rw [es2]; rfl
        have S2 : ∀ g i k, ¬ (i = 0 ∧ (g = 2 ∨ 10 ≤ g ∧ g ≤ 20)) → ¬ (g = 0 ∧ i = 0 ∧ (k = 1 ∨ k = 3)) → σ2.1 g i k = σ.1 g i k := fun g i k q2 q3 => by
          rw [C2 g i k, kU_at, if_neg (by omega), r2 g i k q2, kU_at, if_neg (by omega)]
        obtain ⟨τ, T0, T1, T2, T3, τ', w1, w2, w3⟩ := key σ2 (fun g i k q => S2 g i k (by omega) (by omega))
        rw [w1]
        rcases w3 with ⟨j, c, R, U⟩ | B
        · exact absurd R.1.2.2.2.1 zf
        · unfold f_X6_why_b121
          rw [s_b, kU_k (by decide), if_neg (BD_6 B), B.2.1, B.2.2.1]
          have Tf : ∀ g i k, ¬ (g = 48 ∧ i = 0 ∧ k ≤ 9) → g ≠ 50 → g ≠ 52 → (kU τ' 48 0 3 (σ1.1 2 0 1)).1 g i k = σ2.1 g i k := fun g i k q4 q5 q6 => by
            rw [kU_at, if_neg (by omega), w2.1 g i k (rQ_f (by omega) q5 q6), T0 g i k (by omega)]
          refine n_i ⟨inv_b (m := σ.1) (fun g i k q1 q2 q3 q4 q5 => ?_) ?_ ?_ ?_ h, ?_, fun _ => ?_⟩
          · rw [Tf g i k q1 q2 q3, S2 g i k q4 q5]
          · rw [Tf 0 0 1 (by omega) (by omega) (by omega), C2, kU_k (by decide), r2 0 0 1 (by omega)]; exact kU_here
          · rw [kU_k (by decide), w2.1 48 0 1 (rQ_f (by omega) (by omega) (by omega))]; exact T2
          · rw [Tf 0 0 3 (by omega) (by omega) (by omega), C2, kU_here, kU_here]
          · rw [kU_k (by decide), w2.1 48 0 0 (rQ_f (by omega) (by omega) (by omega))]; exact T1
          · show τ'.2 90 0 0 = _
            rw [w2.2, T3, es2]
            exact ent_2 (σ := kU σ1 0 0 3 (σ1.1 2 0 1))
  · have hcl : f_X5_why F a1 σ = some (.inr "java/lang/IllegalArgumentException", σ) := by
      unfold f_X5_why f_X5_why_b12
      by_cases z : a1 < 0
      · rw [if_pos z]
      · rw [if_neg z, if_neg (by rw [h1]; exact fun q => c1 ⟨Int32.not_lt.mp z, q⟩)]
    refine top_i (k := 1) (σ2 := σ) (by unfold w_why; rw [hcl]; rfl) ?_
    unfold f_X6_why f_X6_why_b23
    rw [s_b, kU_k (by decide), h48, x_in, s_bi, if_neg c1, if_pos rfl, z_bad1 one_ne, s_bi, if_neg one_ne]
    exact n_i ⟨thr_inv h, z_thr, fun z => absurd z one_ne⟩
theorem g_why (a1 : Int32) : Good (q_why 2000 a1) := g_why' (F := 2000) (Nat.le_refl _) a1
