/-! IT HOLDS AT THE START; numbers. -/
theorem nI_nneg {k : Nat} (hk : k < 1000) : ¬ nI k < 0 := by
  intro h
  rw [Int32.lt_iff_toInt_lt, nI_toInt (by omega)] at h
  have h : (k : Int) < 0 := h
  omega
theorem z_0 {a b : Int} (h : a ≤ 0) (h2 : 0 ≤ b) : rng 0 a b := ⟨h, h2⟩
theorem z_n {x : Int32} {n a b : Int} (e : x.toInt = n) (h : a ≤ n) (h2 : n ≤ b) : rng x a b := ⟨by rw [e]; exact h, by rw [e]; exact h2⟩
theorem k_first : Inv kS0.1 := by
  refine ⟨⟨⟨rfl, rfl, rfl, fun k _ => rfl, fun k _ => rfl, fun r _ => ⟨rfl, rfl, rfl, rfl, rfl, rfl⟩, fun r _ => ⟨rfl, rfl⟩, fun r _ => ⟨rfl, rfl, rfl⟩⟩, ⟨⟨by decide, by decide⟩, ⟨by decide, by decide⟩, ⟨by decide, by decide⟩, ?_, fun k _ => z_n (x := 100) (n := 100) rfl (by decide) (by decide), fun r _ => ⟨z_0 (by decide) (by decide), z_0 (by decide) (by decide), z_0 (by decide) (by decide), z_0 (by decide) (by decide), z_0 (by decide) (by decide), z_0 (by decide) (by decide)⟩, fun r _ => ⟨z_0 (by decide) (by decide), z_0 (by decide) (by decide)⟩, fun r _ => ⟨z_0 (by decide) (by decide), z_0 (show leastN 0 ≤ 0 by decide) (show 0 ≤ mostN 0 by decide), z_0 (by decide) (by decide)⟩⟩⟩, ⟨⟨by decide, by decide⟩, fun w hw => ⟨z_n (x := 10) (n := 10) rfl (by decide) (by decide), ?_⟩⟩, ⟨rfl, ⟨by decide, by decide⟩, fun k hk h => absurd h (nI_nneg (by omega))⟩, ⟨rfl, ⟨by decide, by decide⟩, fun k hk h => absurd h (nI_nneg (by omega))⟩, ⟨rfl, fun w hw h => absurd h (nI_nneg (by omega))⟩, fun w _ => Or.inl rfl, fun w _ => Or.inl rfl, ⟨rfl, rfl, rfl, rfl⟩⟩
  · exact kAllS (kAllS (kAllS (kAllS (kAllS (kAllS (kAllS (kAllS (kAllS (kAllS kAll0 ⟨by decide, by decide⟩) ⟨by decide, by decide⟩) ⟨by decide, by decide⟩) ⟨by decide, by decide⟩) ⟨by decide, by decide⟩) ⟨by decide, by decide⟩) ⟨by decide, by decide⟩) ⟨by decide, by decide⟩) ⟨by decide, by decide⟩) ⟨by decide, by decide⟩
  · rw [if_neg (show ¬ nI w < kS0.1 0 0 5 from nI_nneg (by omega))]
    rfl
