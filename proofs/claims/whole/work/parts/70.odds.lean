/-! ODDS. -/
def hfS : Nat → Int64 → Int64
  | 0, x => x
  | k + 1, x => hfS k x / 2
theorem hfS_i {x : Int64} (hx : 0 ≤ x.toInt) : ∀ k, (hfS k x).toInt = x.toInt / ((2 ^ k : Nat) : Int)
  | 0 => by show x.toInt = x.toInt / 1; omega
  | k + 1 => by
    have ih := hfS_i hx k
    show (hfS k x / 2).toInt = _
    have h0 : 0 ≤ (hfS k x).toInt := by rw [ih]; exact Int.ediv_nonneg hx (Int.natCast_nonneg _)
    rw [Int64.toInt_div_of_ne_right _ _ (by decide), Int.tdiv_eq_ediv_of_nonneg h0, ih]
    obtain ⟨N, hN⟩ : ∃ N : Nat, x.toInt = N := ⟨x.toInt.toNat, by omega⟩
    rw [hN]
    show (N : Int) / ((2 ^ k : Nat) : Int) / ((2 : Nat) : Int) = _
    rw [← Int.natCast_ediv, ← Int.natCast_ediv, ← Int.natCast_ediv, Nat.div_div_eq_div_mul, Nat.pow_succ]
theorem shr_i {x : Int64} {k : Nat} (hk : k ≤ 10) : (x >>> ((nI k).toInt64 &&& 63)).toInt = x.toInt / ((2 ^ k : Nat) : Int) := by
  have h : (((nI k).toInt64 &&& 63).toBitVec.smod 64).toNat = k := by
    have : k = 0 ∨ k = 1 ∨ k = 2 ∨ k = 3 ∨ k = 4 ∨ k = 5 ∨ k = 6 ∨ k = 7 ∨ k = 8 ∨ k = 9 ∨ k = 10 := by omega
    rcases this with rfl | rfl | rfl | rfl | rfl | rfl | rfl | rfl | rfl | rfl | rfl <;> decide
  show (x.toBitVec.sshiftRight' (((nI k).toInt64 &&& 63).toBitVec.smod 64)).toInt = _
  rw [BitVec.toInt_sshiftRight', h, Int.shiftRight_eq_div_pow]
  rfl
theorem shr_half {x : Int64} (hx : 0 ≤ x.toInt) {k : Nat} (hk : k ≤ 10) : x >>> ((nI k).toInt64 &&& 63) = hfS k x := by
  rw [← Int64.toInt_inj, shr_i hk, hfS_i hx]
def wrS (row : Nat → Nat → Int32) (r : Nat) : Int32 := kmin 8 (row r 4 + row r 5 / 10)
def prS (n g : Nat → Int32) (y : yD) (row : Nat → Nat → Int32) (bits : Int32) : Nat → Int64 → Int64
  | 0, v => v
  | r + 1, v => if (bits >>> (nI r &&& 31)) &&& 1 = 1 then prS n g y row bits r v * (if soS n g y (row r 0) (row r 1) (row r 2) (row r 3) = 0 then wrS row r else 16 - wrS row r).toInt64 else prS n g y row bits r v
theorem wrS_rng {row : Nat → Nat → Int32} {r : Nat} (h4 : rng (row r 4) 0 8) (h5 : rng (row r 5) 0 99) : rng (wrS row r) 0 8 := by
  obtain ⟨a1, a2⟩ := h4
  obtain ⟨b1, b2⟩ := h5
  have e1 : (row r 5 / 10).toInt = (row r 5).toInt / 10 := by
    rw [Int32.toInt_div_of_ne_right _ _ (by decide), Int.tdiv_eq_ediv_of_nonneg b1]
    rfl
  have e2 : (row r 4 + row r 5 / 10).toInt = (row r 4).toInt + (row r 5).toInt / 10 := by
    rw [i_add, e1] <;> rw [e1] <;> omega
  unfold wrS kmin rng
  by_cases q : row r 4 + row r 5 / 10 < 8
  · rw [if_pos q]
    rw [i_lt, e2] at q
    have q : (row r 4).toInt + (row r 5).toInt / 10 < 8 := q
    rw [e2]; omega
  · rw [if_neg q]; decide
theorem prS_rng {n g : Nat → Int32} {y : yD} {row : Nat → Nat → Int32} {bits : Int32} {v : Int64} (hv : 0 ≤ v.toInt ∧ v.toInt ≤ 99) (hr : ∀ r, r < 10 → rng (wrS row r) 0 8) : ∀ r, r ≤ 10 → 0 ≤ (prS n g y row bits r v).toInt ∧ (prS n g y row bits r v).toInt ≤ 99 * ((16 ^ r : Nat) : Int)
  | 0, _ => by
    show 0 ≤ v.toInt ∧ v.toInt ≤ 99 * 1
    omega
  | r + 1, h => by
    obtain ⟨i1, i2⟩ := prS_rng (n := n) (g := g) (y := y) (bits := bits) hv hr r (by omega)
    obtain ⟨w1, w2⟩ := hr r (by omega)
    have hp : (16 ^ r : Nat) ≤ 16 ^ 9 := Nat.pow_le_pow_right (by omega) (by omega)
    have hp9 : (16 ^ 9 : Nat) = 68719476736 := by decide
    have hp1 : ((16 ^ (r + 1) : Nat) : Int) = 16 * ((16 ^ r : Nat) : Int) := by rw [Nat.pow_succ]; omega
    obtain ⟨P, hP⟩ : ∃ P : Nat, P = 16 ^ r := ⟨_, rfl⟩
    rw [← hP] at i2 hp hp1
    rw [hp1]
    show 0 ≤ (if _ then _ else _ : Int64).toInt ∧ (if _ then _ else _ : Int64).toInt ≤ _
    generalize prS n g y row bits r v = u at i1 i2
    split
    · have hf : ∀ x : Int32, rng x 0 16 → 0 ≤ (u * x.toInt64).toInt ∧ (u * x.toInt64).toInt ≤ 99 * (16 * (P : Int)) := by
        rintro x ⟨x1, x2⟩
        have m1 : 0 ≤ u.toInt * x.toInt := Int.mul_nonneg i1 x1
        have m2 : u.toInt * x.toInt ≤ u.toInt * 16 := Int.mul_le_mul_of_nonneg_left x2 i1
        have e : (u * x.toInt64).toInt = u.toInt * x.toInt := by
          rw [Int64.toInt_mul, Int32.toInt_toInt64]
          exact Int.bmod_eq_of_le (by omega) (by omega)
        rw [e]
        omega
      split
      · exact hf _ ⟨w1, by omega⟩
      · refine hf _ ?_
        have e : (16 - wrS row r).toInt = 16 - (wrS row r).toInt := by
          rw [i_sub]
          · rfl
          · show _ ≤ (16 : Int) - _; omega
          · show (16 : Int) - _ < _; omega
        exact ⟨by rw [e]; omega, by rw [e]; omega⟩
    · omega
theorem burntS_rng {n g rain charge : Nat → Int32} {y : yD} : ∀ b, b ≤ 10 → ∃ k, k ≤ b ∧ burntS n g y rain charge b = nI k
  | 0, _ => ⟨0, by omega, rfl⟩
  | b + 1, h => by
    obtain ⟨k, k1, k2⟩ := burntS_rng (n := n) (g := g) (rain := rain) (charge := charge) (y := y) b (by omega)
    rw [burntS_s, k2]
    rcases ite_or (c := (runS (up (up n 0 (rain b)) 2 (charge b)) g y 100).2.2.2.2.1 = -1) (0 : Int32) 1 with z | z
    · exact ⟨k, by omega, by rw [z, Int32.add_zero]⟩
    · exact ⟨k + 1, by omega, by rw [z, nI_s (by omega)]⟩
theorem c_wrong {F : Nat} {σ : kS} {r : Nat} (hr : r < 10) : f_X2_wrongOf F 0 (nI r) σ = some (.inl (some (.int (kmin 8 (σ.1 28 0 r + σ.1 29 0 r / 10)))), σ) := by
  have hk : kin (nI r) 10 := (nI_kin (by omega)).mpr hr
  unfold f_X2_wrongOf
  rw [kg_t hk, kg_t hk, nI_c (by omega)]
  rfl
theorem m_wrong {F : Nat} {σ : kS} {r : Nat} (hr : r < 10) : f_X6_wrongOf F (nI r) σ = some (.inl (some (.int (wrS (σ.1 82) r))), σ) := by
  have hk : kin (nI r) 10 := (nI_kin (by omega)).mpr hr
  unfold f_X6_wrongOf
  rw [kg_t hk, s_b, kg_t hk, s_b, nI_c (by omega), r_less, s_bi]
  rfl
def FrI (S : Nat → Nat → Bool) (σ σ' : kS) : Prop := ∀ g i k, S g k = false → σ'.1 g i k = σ.1 g i k
theorem FrI.refl {S : Nat → Nat → Bool} (σ : kS) : FrI S σ σ := fun _ _ _ _ => rfl
theorem FrI.trans {S : Nat → Nat → Bool} {σ σ' σ'' : kS} (h : FrI S σ σ') (h' : FrI S σ' σ'') : FrI S σ σ'' := fun g i k q => (h' g i k q).trans (h g i k q)
theorem FrI.y {S : Nat → Nat → Bool} {σ σ' : kS} {i : Nat} (h : FrI S σ σ') (hs : ∀ g, 10 ≤ g → g ≤ 17 → ∀ k, S g k = false) : yOf σ'.1 i = yOf σ.1 i := by
  have e : ∀ g, 10 ≤ g → g ≤ 17 → σ'.1 g = σ.1 g := fun g h1 h2 => by funext i k; exact h g i k (hs g h1 h2 k)
  unfold yOf
  rw [e 10 (by omega) (by omega), e 11 (by omega) (by omega), e 12 (by omega) (by omega), e 13 (by omega) (by omega), e 14 (by omega) (by omega), e 15 (by omega) (by omega), e 16 (by omega) (by omega), e 17 (by omega) (by omega)]
/-- the ODDS of a WHY -/
def odS (m : kM) (bits wb : Int32) (w : Nat) : Int64 := hfS (if wb = 0 then 0 else (burntS (m 61 0) (m 62 0) (yOf m (w + 2)) (fun b => m 84 b 0) (fun b => m 84 b 1) (m 48 0 44).toNatClampNeg).toNatClampNeg) (prS (m 61 0) (m 62 0) (yOf m (w + 2)) (m 82) bits (m 48 0 43).toNatClampNeg (m 58 0 w).toInt64)
theorem odS_cg {m m' : kM} {bits wb : Int32} {w : Nat} (h1 : m' 61 = m 61) (h2 : m' 62 = m 62) (h3 : yOf m' (w + 2) = yOf m (w + 2)) (h4 : m' 84 = m 84) (h5 : m' 48 0 44 = m 48 0 44) (h6 : m' 82 = m 82) (h7 : m' 48 0 43 = m 48 0 43) (h8 : m' 58 = m 58) : odS m' bits wb w = odS m bits wb w := by
  unfold odS
  rw [h1, h2, h3, h4, h5, h6, h7, h8]
def sumL (f : Nat → Int64) : Nat → Int64
  | 0 => 0
  | k + 1 => sumL f k + f k
theorem sumL_cg {f g : Nat → Int64} : ∀ {n : Nat}, (∀ c, c < n → f c = g c) → sumL f n = sumL g n
  | 0, _ => rfl
  | n + 1, h => by
    show sumL f n + f n = sumL g n + g n
    rw [sumL_cg (fun c hc => h c (by omega)), h n (by omega)]
theorem inv_wt {m : kM} (h : Inv m) {w : Nat} (hw6 : w < 6) (hw : nI w < m 48 0 13) : m 23 0 w = m 58 0 w ∧ rng (m 58 0 w) 1 99 := by
  obtain ⟨ht, hr⟩ := inv_told h
  obtain ⟨a, b⟩ := h.2.1.2 w hw6
  rw [ht, if_pos hw] at b
  exact ⟨b, by rw [← b]; exact a⟩
theorem inv_pr {m : kM} (h : Inv m) {w : Nat} (hw6 : w < 6) (hw : nI w < m 48 0 13) {n g : Nat → Int32} {y : yD} {bits : Int32} : 0 ≤ (prS n g y (m 82) bits (m 48 0 43).toNatClampNeg (m 58 0 w).toInt64).toInt := by
  obtain ⟨t1, t2, t3, t4⟩ := inv_rows h
  obtain ⟨w1, w2⟩ := inv_wt h hw6 hw
  refine (prS_rng (by rw [Int32.toInt_toInt64]; exact ⟨Int.le_trans (by omega) w2.1, w2.2⟩) (fun r hr => wrS_rng (t4 r hr).2.2.2.2.1 (t4 r hr).2.2.2.2.2) _ ?_).1
  have := (rng_nI t2).2
  omega
theorem c_reckon {F : Nat} (hF : 2000 ≤ F) {σ : kS} (h : Inv σ.1) {bits wb : Int32} {T : Nat} (hT : σ.1 48 0 13 = nI T) (hT6 : T ≤ 6) :
    RLo (f_X5_reckon F bits wb σ) (fun r σ' => r = sumL (odS σ.1 bits wb) T ∧ (∀ w, w < T → σ'.2 9 0 w = odS σ.1 bits wb w ∧ σ'.1 40 w 0 = 1) ∧ Inv σ'.1 ∧ FrI sF σ σ' ∧ ∀ g i k, g ≠ 9 → σ'.2 g i k = σ.2 g i k) := by
  obtain ⟨O, hO⟩ : ∃ O, O = odS σ.1 bits wb := ⟨_, rfl⟩
  rw [← hO]
  obtain ⟨t1, t2, t3, t4⟩ := inv_rows h
  obtain ⟨R, hR⟩ : ∃ R, R = (σ.1 48 0 43).toNatClampNeg := ⟨_, rfl⟩
  obtain ⟨er, hr10⟩ := rng_nI t2
  rw [← hR] at er hr10
  unfold f_X5_reckon
  refine n_fix (fun n x σ' => ∃ w, x = (bits, wb, sumL O w, nI w) ∧ w ≤ T ∧ n = T - w ∧ (∀ v, v < w → σ'.2 9 0 v = O v ∧ σ'.1 40 v 0 = 1) ∧ Inv σ'.1 ∧ FrI sF σ σ' ∧ ∀ g i k, g ≠ 9 → σ'.2 g i k = σ.2 g i k) ?_ F T _ σ (by omega) ⟨0, rfl, by omega, rfl, fun v hv => absurd hv (by omega), h, FrI.refl σ, fun _ _ _ _ => rfl⟩
  rintro rr n x σ' ⟨w, rfl, hw, rfl, hI, hi, hfr, hl⟩ ih
  have e13 : σ'.1 48 0 13 = nI T := (hfr 48 0 13 rfl).trans hT
  have e05 : σ'.1 0 0 5 = nI T := (inv_told hi).1.trans e13
  unfold f_X5_reckon_b5
  dsimp only
  rw [e05]
  refine n_if (fun q => ?_) (fun q => ?_)
  · rw [nJ_le (by omega) (by omega)] at q
    have : w = T := by omega
    subst this
    exact n_l ⟨rfl, hI, hi, hfr, hl⟩
  rw [nJ_le (by omega) (by omega)] at q
  have hw6 : w < 6 := by omega
  have hwt : nI w < σ'.1 48 0 13 := by rw [e13, nJ_lt (by omega) (by omega)]; omega
  have hkw : kin (nI w) 6 := (nI_kin (by omega)).mpr hw6
  refine n_br (v_film hF hi hw6 hwt) ?_
  rintro r σ1 ⟨rfl, i1, m1, m2, f1⟩
  refine ⟨hkw, ?_⟩
  rw [nI_c (by omega)]
  refine n_g hkw (n_b ?_)
  have F1 : FrI sF σ σ1 := hfr.trans f1.1
  have e61 : σ1.1 61 = σ.1 61 := by funext i k; exact F1 61 i k rfl
  have e62 : σ1.1 62 = σ.1 62 := by funext i k; exact F1 62 i k rfl
  have e82 : σ1.1 82 = σ.1 82 := by funext i k; exact F1 82 i k rfl
  have e84 : σ1.1 84 = σ.1 84 := by funext i k; exact F1 84 i k rfl
  have ey : yOf σ1.1 (w + 2) = yOf σ.1 (w + 2) := F1.y sF_y
  have hwt1 : nI w < σ1.1 48 0 13 := by rw [f1.1 48 0 13 rfl]; exact hwt
  have hwt0 : nI w < σ.1 48 0 13 := by rw [← hfr 48 0 13 rfl]; exact hwt
  obtain ⟨u1, u2⟩ := inv_wt i1 hw6 hwt1
  have e58 : σ1.1 58 0 w = σ.1 58 0 w := F1 58 0 w rfl
  rw [u1, e58]
  obtain ⟨s1, s2, s3, s4⟩ := inv_rows i1
  have e43 : σ1.1 4 0 3 = nI R := s1.trans ((F1 48 0 43 rfl).trans er)
  refine n_fix (fun n x σ2 => ∃ j, x = (bits, wb, sumL O w, nI w, w, prS (σ.1 61 0) (σ.1 62 0) (yOf σ.1 (w + 2)) (σ.1 82) bits j (σ.1 58 0 w).toInt64, nI j) ∧ j ≤ R ∧ n = R - j ∧ σ2 = σ1) ?_ F R _ σ1 (by omega) ⟨0, rfl, by omega, rfl, rfl⟩
  rintro r2 n x σ2 ⟨j, rfl, hj, rfl, rfl⟩ ih2
  unfold f_X5_reckon_b38 f_X5_reckon_b96 f_X5_reckon_b99
  dsimp only
  rw [e43, nI_s (a := j) (by omega)]
  refine n_if (fun q1 => ?_) (fun q1 => ?_)
  · rw [nJ_le (by omega) (by omega)] at q1
    have : j = R := by omega
    subst this
    have hlast : ∀ (σ3 : kS) (v : Int64), v = O w → Inv σ3.1 → FrI sF σ σ3 → (∀ v, v < w + 1 → σ3.1 40 v 0 = 1) → σ3.2 = σ2.2 → Rn (f_X5_reckon_b120 F rr bits wb (sumL O w) (nI w) v σ3) (fun v σ' => ∃ r, v = some (Value.long r) ∧ r = sumL O T ∧ (∀ w, w < T → σ'.2 9 0 w = O w ∧ σ'.1 40 w 0 = 1) ∧ Inv σ'.1 ∧ FrI sF σ σ' ∧ ∀ g i k, g ≠ 9 → σ'.2 g i k = σ.2 g i k) := by
      intro σ3 v hv i3 f3 h40 hl3
      unfold f_X5_reckon_b120
      rw [nI_c (by omega), nI_s (by omega)]
      refine n_g hkw (n_b (n_b (ih (T - (w + 1)) _ _ (by omega) ⟨w + 1, by rw [hv]; rfl, by omega, rfl, fun v' hv' => ⟨?_, h40 v' hv'⟩, i3, f3, fun g i k hg => ?_⟩)))
      · show (if _ then _ else _) = _
        by_cases z : v' = w
        · subst z
          rw [if_pos ⟨rfl, rfl, rfl⟩, hv]
        · rw [if_neg (fun q => z q.2.2), hl3, f1.2]
          exact (hI v' (by omega)).1
      · show (if _ then _ else _) = _
        rw [if_neg (fun q => hg q.1), hl3, f1.2]
        exact hl g i k hg
    have h40 : ∀ v, v < w + 1 → σ2.1 40 v 0 = 1 := fun v hv => by
      by_cases z : v = w
      · subst z; exact m1
      · exact m2 v (by omega) (hI v (by omega)).2
    refine n_if (fun q2 => hlast σ2 _ ?_ i1 F1 h40 rfl) (fun q2 => ?_)
    · rw [hO, q2, hR]; rfl
    · refine n_bi (v_burnt hF i1 hw6 hwt1) ?_
      rintro r σ3 ⟨hr3, i3, n3, f3⟩
      obtain ⟨-, -, b3, -, -⟩ := inv_bef h
      obtain ⟨k, k1, k2⟩ := burntS_rng (n := σ.1 61 0) (g := σ.1 62 0) (rain := fun b => σ.1 84 b 0) (charge := fun b => σ.1 84 b 1) (y := yOf σ.1 (w + 2)) (σ.1 48 0 44).toNatClampNeg b3
      rw [e61, e62, e84, ey, F1 48 0 44 rfl, k2] at hr3
      rw [hr3, hR, shr_half (inv_pr h hw6 hwt0) (by omega)]
      refine n_b (hlast σ3 _ ?_ i3 (F1.trans f3.1) (fun v hv => (n3 v).trans (h40 v hv)) f3.2)
      rw [hO]
      unfold odS
      rw [if_neg q2, k2, nI_c (by omega)]
  · rw [nJ_le (by omega) (by omega)] at q1
    have hj10 : j < 10 := by omega
    obtain ⟨a0, a1, a2, a3, a4, a5⟩ := s3 j hj10
    have hpr : prS (σ.1 61 0) (σ.1 62 0) (yOf σ.1 (w + 2)) (σ.1 82) bits (j + 1) (σ.1 58 0 w).toInt64 = if (bits >>> (nI j &&& 31)) &&& 1 = 1 then prS (σ.1 61 0) (σ.1 62 0) (yOf σ.1 (w + 2)) (σ.1 82) bits j (σ.1 58 0 w).toInt64 * (if soS (σ.1 61 0) (σ.1 62 0) (yOf σ.1 (w + 2)) (σ.1 82 j 0) (σ.1 82 j 1) (σ.1 82 j 2) (σ.1 82 j 3) = 0 then wrS (σ.1 82) j else 16 - wrS (σ.1 82) j).toInt64 else prS (σ.1 61 0) (σ.1 62 0) (yOf σ.1 (w + 2)) (σ.1 82) bits j (σ.1 58 0 w).toInt64 := by rw [prS]
    refine n_if (fun q2 => ?_) (fun q2 => ?_)
    · rw [c_wrong hj10, s_bi, i_isSo hF i1 hw6 hj10 m1, s_bi, a4, a5, e82, e61, e62, ey]
      have ew : kmin 8 (σ.1 82 j 4 + σ.1 82 j 5 / 10) = wrS (σ.1 82) j := rfl
      rw [ew]
      refine n_if (fun q3 => n_b (ih2 (R - (j + 1)) _ _ (by omega) ⟨j + 1, ?_, by omega, rfl, rfl⟩)) (fun q3 => n_b (ih2 (R - (j + 1)) _ _ (by omega) ⟨j + 1, ?_, by omega, rfl, rfl⟩))
      · rw [hpr, if_pos q2, if_pos q3]
      · rw [hpr, if_pos q2, if_neg q3]
    · refine ih2 (R - (j + 1)) _ _ (by omega) ⟨j + 1, ?_, by omega, rfl, rfl⟩
      rw [hpr, if_neg q2]
theorem m_oddsOf {F : Nat} (hF : 2000 ≤ F) {σ : kS} (h : Inv σ.1) {bits wb : Int32} {w : Nat} (hw6 : w < 6) (hw : nI w < σ.1 48 0 13) :
    RLo (f_X6_oddsOf F (nI w) bits wb σ) (fun r σ' => r = odS σ.1 bits wb w ∧ Inv σ'.1 ∧ Fr sB σ σ') := by
  obtain ⟨t1, t2, t3, t4⟩ := inv_rows h
  obtain ⟨R, hR⟩ : ∃ R, R = (σ.1 48 0 43).toNatClampNeg := ⟨_, rfl⟩
  obtain ⟨er, hr10⟩ := rng_nI t2
  rw [← hR] at er hr10
  have hkw : kin (nI w) 6 := (nI_kin (by omega)).mpr hw6
  have hmain : ∀ (σ1 : kS) (hv : Nat), Inv σ1.1 → Fr sB σ σ1 → hv ≤ 10 → odS σ.1 bits wb w = hfS hv (prS (σ.1 61 0) (σ.1 62 0) (yOf σ.1 (w + 2)) (σ.1 82) bits R (σ.1 58 0 w).toInt64) → Rn (f_X6_oddsOf_b13 F (nI w) bits (nI hv) σ1) (fun v σ' => ∃ r, v = some (Value.long r) ∧ r = odS σ.1 bits wb w ∧ Inv σ'.1 ∧ Fr sB σ σ') := by
    intro σ1 hv i1 f1 hv10 hod
    unfold f_X6_oddsOf_b13
    refine n_bv (i_runs hF i1 hw6 (by rw [f1.1 48 0 13 rfl]; exact hw)) ?_
    rintro σ2 ⟨g1, i2, f2⟩
    have F2 : Fr sB σ σ2 := f1.trans (sR_sB f2)
    have e61 : σ1.1 61 = σ.1 61 := by funext i k; exact f1.1 61 i k rfl
    have e62 : σ1.1 62 = σ.1 62 := by funext i k; exact f1.1 62 i k rfl
    have e82 : σ2.1 82 = σ.1 82 := by funext i k; exact F2.1 82 i k rfl
    have ey : yOf σ1.1 (w + 2) = yOf σ.1 (w + 2) := yOf_fr f1 (by
      intro g h1 h2 k
      have h : g = 10 ∨ g = 11 ∨ g = 12 ∨ g = 13 ∨ g = 14 ∨ g = 15 ∨ g = 16 ∨ g = 17 := by omega
      rcases h with rfl | rfl | rfl | rfl | rfl | rfl | rfl | rfl <;> rfl)
    rw [e61, e62, ey] at g1
    rw [nI_c (by omega)]
    refine n_g hkw (n_b ?_)
    rw [F2.1 58 0 w rfl]
    have e43 : σ2.1 48 0 43 = nI R := (F2.1 48 0 43 rfl).trans er
    refine n_fix (fun n x σ' => ∃ j, x = (bits, nI hv, prS (σ.1 61 0) (σ.1 62 0) (yOf σ.1 (w + 2)) (σ.1 82) bits j (σ.1 58 0 w).toInt64, nI j) ∧ j ≤ R ∧ n = R - j ∧ σ' = σ2) ?_ F R _ σ2 (by omega) ⟨0, rfl, by omega, rfl, rfl⟩
    rintro r2 n x σ3 ⟨j, rfl, hj, rfl, rfl⟩ ih2
    unfold f_X6_oddsOf_b32 f_X6_oddsOf_b82 f_X6_oddsOf_b85
    dsimp only
    rw [e43, nI_s (a := j) (by omega)]
    refine n_if (fun q1 => ?_) (fun q1 => ?_)
    · rw [nJ_le (by omega) (by omega)] at q1
      have : j = R := by omega
      subst this
      refine n_fix (fun n x σ' => ∃ k, x = (nI hv, hfS k (prS (σ.1 61 0) (σ.1 62 0) (yOf σ.1 (w + 2)) (σ.1 82) bits j (σ.1 58 0 w).toInt64), nI k) ∧ k ≤ hv ∧ n = hv - k ∧ σ' = σ3) ?_ F hv _ σ3 (by omega) ⟨0, rfl, by omega, rfl, rfl⟩
      rintro r3 n x σ4 ⟨k, rfl, hk, rfl, rfl⟩ ih3
      unfold f_X6_oddsOf_b94
      dsimp only
      rw [nI_s (a := k) (by omega)]
      refine n_if (fun q2 => ?_) (fun q2 => ?_)
      · rw [nJ_le (by omega) (by omega)] at q2
        have : k = hv := by omega
        subst this
        exact n_l ⟨hod.symm, i2, F2⟩
      · rw [nJ_le (by omega) (by omega)] at q2
        exact n_b (ih3 (hv - (k + 1)) _ _ (by omega) ⟨k + 1, rfl, by omega, rfl, rfl⟩)
    · rw [nJ_le (by omega) (by omega)] at q1
      have hj10 : j < 10 := by omega
      have hpr : prS (σ.1 61 0) (σ.1 62 0) (yOf σ.1 (w + 2)) (σ.1 82) bits (j + 1) (σ.1 58 0 w).toInt64 = if (bits >>> (nI j &&& 31)) &&& 1 = 1 then prS (σ.1 61 0) (σ.1 62 0) (yOf σ.1 (w + 2)) (σ.1 82) bits j (σ.1 58 0 w).toInt64 * (if soS (σ.1 61 0) (σ.1 62 0) (yOf σ.1 (w + 2)) (σ.1 82 j 0) (σ.1 82 j 1) (σ.1 82 j 2) (σ.1 82 j 3) = 0 then wrS (σ.1 82) j else 16 - wrS (σ.1 82) j).toInt64 else prS (σ.1 61 0) (σ.1 62 0) (yOf σ.1 (w + 2)) (σ.1 82) bits j (σ.1 58 0 w).toInt64 := by rw [prS]
      refine n_if (fun q2 => ?_) (fun q2 => ?_)
      · rw [m_isSo hF hj10 (by rw [e82]; exact (t4 j hj10).2.1) (by rw [e82]; exact (t4 j hj10).2.2.1) g1, s_bi, m_wrong hj10, s_bi, s_bi, e82]
        refine n_if (fun q3 => n_b (ih2 (R - (j + 1)) _ _ (by omega) ⟨j + 1, ?_, by omega, rfl, rfl⟩)) (fun q3 => n_b (ih2 (R - (j + 1)) _ _ (by omega) ⟨j + 1, ?_, by omega, rfl, rfl⟩))
        · rw [hpr, if_pos q2, if_pos q3]
        · rw [hpr, if_pos q2, if_neg q3]
      · refine ih2 (R - (j + 1)) _ _ (by omega) ⟨j + 1, ?_, by omega, rfl, rfl⟩
        rw [hpr, if_neg q2]
  unfold f_X6_oddsOf
  refine n_if (fun q => ?_) (fun q => ?_)
  · refine hmain σ 0 h (Fr.refl σ) (by omega) ?_
    unfold odS
    rw [if_pos q, hR]
  · refine n_bi (v_burntOf hF h hw6 hw) ?_
    rintro r σ1 ⟨hr1, f1⟩
    obtain ⟨-, -, b3, -, -⟩ := inv_bef h
    obtain ⟨k, k1, k2⟩ := burntS_rng (n := σ.1 61 0) (g := σ.1 62 0) (rain := fun b => σ.1 84 b 0) (charge := fun b => σ.1 84 b 1) (y := yOf σ.1 (w + 2)) (σ.1 48 0 44).toNatClampNeg b3
    rw [hr1, k2]
    refine hmain σ1 k (Inv_sB f1 h) f1 (by omega) ?_
    unfold odS
    rw [if_neg q, k2, nI_c (by omega), hR]
