/-! THE LAW OUT OF ITS CALLS. -/
theorem k_casegood (c a1 a2 a3 a4 a5 : Int32) : Good (kCase 2000 c a1 a2 a3 a4 a5) := by
  intro nx σ h
  unfold kCase
  by_cases e0 : c = 0
  · rw [if_pos e0]; exact g_feed a1 a2 a3 a4 a5 nx σ h
  rw [if_neg e0]
  by_cases e1 : c = 1
  · rw [if_pos e1]; exact g_why a1 nx σ h
  rw [if_neg e1]
  by_cases e2 : c = 2
  · rw [if_pos e2]; exact g_fault  nx σ h
  rw [if_neg e2]
  by_cases e3 : c = 3
  · rw [if_pos e3]; exact g_weigh a1 a2 nx σ h
  rw [if_neg e3]
  by_cases e4 : c = 4
  · rw [if_pos e4]; exact g_set a1 a2 nx σ h
  rw [if_neg e4]
  by_cases e5 : c = 5
  · rw [if_pos e5]; exact g_fill a1 a2 nx σ h
  rw [if_neg e5]
  by_cases e6 : c = 6
  · rw [if_pos e6]; exact g_state a1 a2 a3 nx σ h
  rw [if_neg e6]
  by_cases e7 : c = 7
  · rw [if_pos e7]; exact g_cell a1 a2 a3 a4 nx σ h
  rw [if_neg e7]
  by_cases e8 : c = 8
  · rw [if_pos e8]; exact g_run a1 a2 nx σ h
  rw [if_neg e8]
  by_cases e9 : c = 9
  · rw [if_pos e9]; exact g_row a1 a2 a3 a4 a5 nx σ h
  rw [if_neg e9]
  by_cases e10 : c = 10
  · rw [if_pos e10]; exact g_asked a1 a2 nx σ h
  rw [if_neg e10]
  by_cases e11 : c = 11
  · rw [if_pos e11]; exact g_says a1 a2 nx σ h
  rw [if_neg e11]
  by_cases e12 : c = 12
  · rw [if_pos e12]; exact g_odds a1 nx σ h
  rw [if_neg e12]
  by_cases e13 : c = 13
  · rw [if_pos e13]; exact g_share a1 nx σ h
  rw [if_neg e13]
  by_cases e14 : c = 14
  · rw [if_pos e14]; exact g_best  nx σ h
  rw [if_neg e14]
  by_cases e15 : c = 15
  · rw [if_pos e15]; exact g_moved a1 a2 nx σ h
  rw [if_neg e15]
  by_cases e16 : c = 16
  · rw [if_pos e16]; exact g_inquiry a1 a2 nx σ h
  rw [if_neg e16]
  by_cases e17 : c = 17
  · rw [if_pos e17]; exact g_before a1 a2 nx σ h
  rw [if_neg e17]
  by_cases e18 : c = 18
  · rw [if_pos e18]; exact g_burnt a1 nx σ h
  rw [if_neg e18]
  by_cases e19 : c = 19
  · rw [if_pos e19]; exact g_option a1 a2 a3 nx σ h
  rw [if_neg e19]
  by_cases e20 : c = 20
  · rw [if_pos e20]; exact g_safe a1 a2 a3 nx σ h
  rw [if_neg e20]
  by_cases e21 : c = 21
  · rw [if_pos e21]; exact g_least a1 a2 nx σ h
  rw [if_neg e21]
  by_cases e22 : c = 22
  · rw [if_pos e22]; exact g_all a1 nx σ h
  rw [if_neg e22]
  by_cases e23 : c = 23
  · rw [if_pos e23]; exact g_next a1 nx σ h
  rw [if_neg e23]
  by_cases e24 : c = 24
  · rw [if_pos e24]; exact g_parted a1 a2 nx σ h
  rw [if_neg e24]
  by_cases e25 : c = 25
  · rw [if_pos e25]; exact g_order a1 a2 nx σ h
  rw [if_neg e25]
  by_cases e26 : c = 26
  · rw [if_pos e26]; exact g_dry a1 nx σ h
  rw [if_neg e26]
  by_cases e27 : c = 27
  · rw [if_pos e27]; exact g_image  nx σ h
  rw [if_neg e27]
  by_cases e28 : c = 28
  · rw [if_pos e28]; exact g_restore  nx σ h
  rw [if_neg e28]
  by_cases e29 : c = 29
  · rw [if_pos e29]; exact g_count a1 nx σ h
  rw [if_neg e29]
  exact ⟨σ, h, rfl⟩
theorem k_lawgood (L : Nat) (hL : L ≤ 3072) (xs : Nat → Int32) : ∀ (N j : Nat) (σ : kS), 6 * j ≤ L → L < 6 * (j + N) → Inv σ.1 → ∃ σ', kLaw 2000 L xs N (nI (6 * j)) σ = some (.inl (some (.int 1)), σ')
  | 0, j, σ, h1, h2, _ => by omega
  | N + 1, j, σ, h1, h2, h => by
    have t0 : (nI (6 * j)).toInt = (6 * j : Nat) := nI_toInt (by omega)
    have tL : (Int32.ofNat L).toInt = (L : Int) := nI_toInt (n := L) (by omega)
    have t6 : (Int32.ofNat L - 6).toInt = (L : Int) - 6 := by
      rw [Int32.toInt_sub, tL]
      show ((L : Int) - 6).bmod (2 ^ 32) = _
      rw [Int.bmod_eq_of_le (by omega) (by omega)]
    unfold kLaw
    by_cases g : Int32.ofNat L - 6 < nI (6 * j)
    · rw [if_pos g]
      exact ⟨σ, rfl⟩
    · rw [if_neg g]
      have g2 : ¬ ((L : Int) - 6 < ((6 * j : Nat) : Int)) := by
        rw [Int32.lt_iff_toInt_lt, t6, t0] at g
        exact g
      have hk : ∀ i : Nat, i < 6 → ∀ x : Int32, x.toInt = (i : Int) → kin (nI (6 * j) + x) L := by
        intro i hi x hx
        have e : (nI (6 * j) + x).toInt = (6 * j + i : Nat) := by
          rw [Int32.toInt_add, t0, hx]
          show (((6 * j : Nat) : Int) + (i : Int)).bmod (2 ^ 32) = _
          rw [Int.bmod_eq_of_le (by omega) (by omega)]
          omega
        show 0 ≤ (nI (6 * j) + x).toInt ∧ (nI (6 * j) + x).toInt < (L : Int)
        rw [e]
        omega
      have h0 : kin (nI (6 * j)) L := by
        show 0 ≤ (nI (6 * j)).toInt ∧ (nI (6 * j)).toInt < (L : Int)
        rw [t0]
        omega
      rw [kg_t ⟨h0, hk 1 (by omega) 1 rfl, hk 2 (by omega) 2 rfl, hk 3 (by omega) 3 rfl, hk 4 (by omega) 4 rfl, hk 5 (by omega) 5 rfl⟩]
      obtain ⟨σ2, h3, h4⟩ := k_casegood _ _ _ _ _ _ (kLaw 2000 L xs N (nI (6 * j) + 6)) σ h
      rw [h4]
      have e6 : nI (6 * j) + 6 = nI (6 * (j + 1)) := by
        have e : (nI (6 * j) + 6).toInt = (nI (6 * (j + 1))).toInt := by
          rw [Int32.toInt_add, t0, nI_toInt (by omega)]
          show (((6 * j : Nat) : Int) + 6).bmod (2 ^ 32) = _
          rw [Int.bmod_eq_of_le (by omega) (by omega)]
          omega
        exact Int32.toInt_inj.mp e
      rw [e6]
      exact k_lawgood L hL xs N (j + 1) σ2 (by omega) (by omega) h3
theorem k_pure : kPure := by
  intro L xs hL
  have h := k_lawgood L hL xs 513 0 kS0 (by omega) (by omega) k_first
  exact h
