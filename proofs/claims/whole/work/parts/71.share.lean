/-! SHARE, BEST, MOVED, INQUIRY. -/
theorem mask_eq {R : Nat} (hR : R ≤ 10) : (1 <<< (nI R &&& 31)) - 1 = nI (2 ^ R - 1) := by
  have : R = 0 ∨ R = 1 ∨ R = 2 ∨ R = 3 ∨ R = 4 ∨ R = 5 ∨ R = 6 ∨ R = 7 ∨ R = 8 ∨ R = 9 ∨ R = 10 := by omega
  rcases this with rfl | rfl | rfl | rfl | rfl | rfl | rfl | rfl | rfl | rfl | rfl <;> decide
theorem low_iff {b : Int32} {R : Nat} (hR : R ≤ 10) : (b &&& (nI (2 ^ R - 1) ^^^ (-1))) = 0 ↔ b.toBitVec.toNat < 2 ^ R := by
  have hm : ∀ i, i < 32 → (nI (2 ^ R - 1) ^^^ (-1)).toBitVec.getLsbD i = !decide (i < R) := fun i hi => by
    rw [Int32.toBitVec_xor, BitVec.getLsbD_xor]
    have e1 : (nI (2 ^ R - 1)).toBitVec.getLsbD i = decide (i < R) := by
      show (BitVec.ofNat 32 (2 ^ R - 1)).getLsbD i = _
      rw [BitVec.getLsbD_ofNat, Nat.testBit_two_pow_sub_one]
      simp [hi]
    have e2 : (-1 : Int32).toBitVec.getLsbD i = true := by
      show (BitVec.allOnes 32).getLsbD i = true
      rw [BitVec.getLsbD_allOnes]
      simp [hi]
    rw [e1, e2]
    simp
  constructor
  · intro h
    refine Nat.lt_pow_two_of_testBit _ fun i hi => ?_
    by_cases h32 : i < 32
    · have h1 : (b &&& (nI (2 ^ R - 1) ^^^ (-1))).toBitVec.getLsbD i = (0 : Int32).toBitVec.getLsbD i := by rw [h]
      rw [Int32.toBitVec_and, BitVec.getLsbD_and, hm i h32] at h1
      have h0 : (0 : Int32).toBitVec.getLsbD i = false := by
        show (0#32).getLsbD i = false
        simp
      rw [h0] at h1
      have hd : decide (i < R) = false := by simp; omega
      rw [hd] at h1
      simpa [BitVec.getLsbD] using h1
    · exact Nat.testBit_lt_two_pow (Nat.lt_of_lt_of_le b.toBitVec.isLt (Nat.pow_le_pow_right (by omega) (by omega)))
  · intro h
    rw [← Int32.toBitVec_inj]
    refine BitVec.eq_of_getLsbD_eq fun i hi => ?_
    rw [Int32.toBitVec_and, BitVec.getLsbD_and, hm i hi]
    have h0 : (0 : Int32).toBitVec.getLsbD i = false := by
      show (0#32).getLsbD i = false
      simp
    rw [h0]
    by_cases hi2 : i < R
    · simp [hi2]
    · have : b.toBitVec.getLsbD i = false := by
        show b.toBitVec.toNat.testBit i = false
        exact Nat.testBit_lt_two_pow (Nat.lt_of_lt_of_le h (Nat.pow_le_pow_right (by omega) (by omega)))
      rw [this]; rfl
theorem bits_iff {b : Int32} {R : Nat} (hR : R ≤ 10) : (b &&& (((1 <<< (nI R &&& 31)) - 1) ^^^ (-1))) = 0 ↔ 0 ≤ b ∧ b ≤ (1 <<< (nI R &&& 31)) - 1 := by
  rw [mask_eq hR, low_iff hR]
  have hp : 2 ^ R ≤ 2 ^ 10 := Nat.pow_le_pow_right (by omega) hR
  have hp0 : 0 < 2 ^ R := Nat.pow_pos (by omega)
  have h10 : (2 ^ 10 : Nat) = 1024 := by decide
  rw [i_le, i_le, nI_toInt (by omega)]
  show _ ↔ 0 ≤ b.toInt ∧ _
  have e : b.toInt = b.toBitVec.toInt := rfl
  rw [e, BitVec.toInt_eq_toNat_cond]
  have hl : b.toBitVec.toNat < 4294967296 := b.toBitVec.isLt
  split
  · omega
  · omega
theorem t_bits {F : Nat} {b : Int32} {R : Nat} {σ : kS} (hR : R ≤ 10) : f_X5_testBits F b (nI R) σ = if 0 ≤ b ∧ b ≤ (1 <<< (nI R &&& 31)) - 1 then some (.inl none, σ) else some (.inr "java/lang/IllegalArgumentException", σ) := by
  unfold f_X5_testBits
  by_cases h : 0 ≤ b ∧ b ≤ (1 <<< (nI R &&& 31)) - 1
  · rw [if_pos h, if_pos ((bits_iff hR).mpr h)]
  · rw [if_neg h, if_neg (fun z => h ((bits_iff hR).mp z))]
theorem lg0 {x : Int64} : lg_cmp x 0 = 0 ↔ x = 0 := by
  unfold lg_cmp
  by_cases h : x > 0
  · rw [if_pos h]
    refine ⟨fun z => absurd z (by decide), fun z => ?_⟩
    rw [z] at h
    exact absurd h (by decide)
  · rw [if_neg h]
    by_cases h2 : x = 0
    · rw [if_pos h2]; exact ⟨fun _ => h2, fun _ => rfl⟩
    · rw [if_neg h2]; exact ⟨fun z => absurd z (by decide), fun z => absurd z h2⟩
def shI (o s : Int64) : Int32 := if lg_cmp s 0 = 0 then 0 else ((1000 * o) / s).toInt32
theorem c_per {F : Nat} {σ : kS} {w : Nat} {s : Int64} (hw6 : w < 6) : f_X5_perThousand F (nI w) s σ = some (.inl (some (.int (shI (σ.2 9 0 w) s))), σ) := by
  have hkw : kin (nI w) 6 := (nI_kin (by omega)).mpr hw6
  unfold f_X5_perThousand f_X5_perThousand_b23 shI
  by_cases h : lg_cmp s 0 = 0
  · rw [if_pos h, if_pos h]
  · rw [if_neg h, if_neg h, kg_t hkw, kg_t (show ¬ s = 0 from fun z => h (lg0.mpr z)), nI_c (by omega)]
theorem m_share {F : Nat} (hF : 2000 ≤ F) {σ : kS} {w T : Nat} (hw6 : w < 6) (hT : σ.1 48 0 13 = nI T) (hT6 : T ≤ 6) : f_X6_shareNow F (nI w) σ = some (.inl (some (.int (shI (σ.2 89 0 w) (sumL (σ.2 89 0) T)))), σ) := by
  have hkw : kin (nI w) 6 := (nI_kin (by omega)).mpr hw6
  refine ri_same ?_
  unfold f_X6_shareNow
  refine n_fix (fun n x σ' => ∃ k, x = (nI w, sumL (σ.2 89 0) k, nI k) ∧ k ≤ T ∧ n = T - k ∧ σ' = σ) ?_ F T _ σ (by omega) ⟨0, rfl, by omega, rfl, rfl⟩
  rintro rr n x σ' ⟨k, rfl, hk, rfl, rfl⟩ ih
  unfold f_X6_shareNow_b5 f_X6_shareNow_b53
  dsimp only
  rw [hT, nI_c (a := w) (by omega), nI_c (a := k) (by omega), nI_s (a := k) (by omega)]
  refine n_if (fun q => ?_) (fun q => ?_)
  · rw [nJ_le (by omega) (by omega)] at q
    have : k = T := by omega
    subst this
    unfold shI
    refine n_if (fun q1 => n_i ⟨by rw [if_pos q1], rfl⟩) (fun q1 => n_g hkw (n_g (fun z => q1 (lg0.mpr z)) (n_i ⟨by rw [if_neg q1], rfl⟩)))
  · rw [nJ_le (by omega) (by omega)] at q
    exact n_g ((nI_kin (by omega)).mpr (by omega)) (n_b (ih (T - (k + 1)) _ _ (by omega) ⟨k + 1, rfl, by omega, rfl, rfl⟩))
def bsS (f : Nat → Int64) : Nat → Int32
  | 0 => -1
  | k + 1 => if bsS f k = -1 then nI k else if lg_cmp (f k) (f (bsS f k).toNatClampNeg) ≤ 0 then bsS f k else nI k
theorem bsS_r {f : Nat → Int64} : ∀ k, k ≤ 6 → bsS f k = -1 ∨ ∃ j, j < k ∧ bsS f k = nI j
  | 0, _ => Or.inl rfl
  | k + 1, h => by
    have ih := bsS_r (f := f) k (by omega)
    have e : bsS f (k + 1) = if bsS f k = -1 then nI k else if lg_cmp (f k) (f (bsS f k).toNatClampNeg) ≤ 0 then bsS f k else nI k := rfl
    rw [e]
    by_cases z : bsS f k = -1
    · rw [if_pos z]; exact Or.inr ⟨k, by omega, rfl⟩
    · rw [if_neg z]
      rcases ih with i | ⟨j, j1, j2⟩
      · exact absurd i z
      · by_cases z2 : lg_cmp (f k) (f (bsS f k).toNatClampNeg) ≤ 0
        · rw [if_pos z2]; exact Or.inr ⟨j, by omega, j2⟩
        · rw [if_neg z2]; exact Or.inr ⟨k, by omega, rfl⟩
theorem bsS_cg {f g : Nat → Int64} : ∀ {n : Nat}, n ≤ 6 → (∀ c, c < n → f c = g c) → bsS f n = bsS g n
  | 0, _, _ => rfl
  | n + 1, hn, h => by
    have ih := bsS_cg (f := f) (g := g) (n := n) (by omega) (fun c hc => h c (by omega))
    show (if _ then _ else _) = (if _ then _ else _)
    rw [ih, h n (by omega)]
    by_cases z : bsS g n = -1
    · rw [if_pos z, if_pos z]
    · rcases bsS_r (f := g) n (by omega) with i | ⟨j, j1, j2⟩
      · exact absurd i z
      · rw [j2, nI_c (by omega), h j (by omega)]
theorem c_best {F : Nat} (hF : 2000 ≤ F) {σ : kS} {T : Nat} (hT : σ.1 0 0 5 = nI T) (hT6 : T ≤ 6) : f_X5_greatestWorth F σ = some (.inl (some (.int (bsS (σ.2 9 0) T))), σ) := by
  refine ri_same ?_
  unfold f_X5_greatestWorth
  refine n_fix (fun n x σ' => ∃ k, x = (bsS (σ.2 9 0) k, nI k) ∧ k ≤ T ∧ n = T - k ∧ σ' = σ) ?_ F T _ σ (by omega) ⟨0, rfl, by omega, rfl, rfl⟩
  rintro rr n x σ' ⟨k, rfl, hk, rfl, rfl⟩ ih
  unfold f_X5_greatestWorth_b4 f_X5_greatestWorth_b33 f_X5_greatestWorth_b35
  dsimp only
  rw [hT, nI_c (a := k) (by omega), nI_s (a := k) (by omega)]
  have e : bsS (σ'.2 9 0) (k + 1) = if bsS (σ'.2 9 0) k = -1 then nI k else if lg_cmp (σ'.2 9 0 k) (σ'.2 9 0 (bsS (σ'.2 9 0) k).toNatClampNeg) ≤ 0 then bsS (σ'.2 9 0) k else nI k := rfl
  refine n_if (fun q => ?_) (fun q => ?_)
  · rw [nJ_le (by omega) (by omega)] at q
    have : k = T := by omega
    subst this
    exact n_i ⟨rfl, rfl⟩
  · rw [nJ_le (by omega) (by omega)] at q
    refine n_if (fun q1 => ih (T - (k + 1)) _ _ (by omega) ⟨k + 1, by rw [e, if_pos q1], by omega, rfl, rfl⟩) (fun q1 => n_g ((nI_kin (by omega)).mpr (by omega)) (n_g ?_ (n_if (fun q2 => ih (T - (k + 1)) _ _ (by omega) ⟨k + 1, by rw [e, if_neg q1, if_pos q2], by omega, rfl, rfl⟩) (fun q2 => ih (T - (k + 1)) _ _ (by omega) ⟨k + 1, by rw [e, if_neg q1, if_neg q2], by omega, rfl, rfl⟩))))
    rcases bsS_r (f := σ'.2 9 0) k (by omega) with i | ⟨j, j1, j2⟩
    · exact absurd i q1
    · rw [j2]; exact (nI_kin (by omega)).mpr (by omega)
theorem m_best {F : Nat} (hF : 2000 ≤ F) {σ : kS} {T : Nat} (hT : σ.1 48 0 13 = nI T) (hT6 : T ≤ 6) : f_X6_bestNow F σ = some (.inl (some (.int (bsS (σ.2 89 0) T))), σ) := by
  refine ri_same ?_
  unfold f_X6_bestNow
  refine n_fix (fun n x σ' => ∃ k, x = (bsS (σ.2 89 0) k, nI k) ∧ k ≤ T ∧ n = T - k ∧ σ' = σ) ?_ F T _ σ (by omega) ⟨0, rfl, by omega, rfl, rfl⟩
  rintro rr n x σ' ⟨k, rfl, hk, rfl, rfl⟩ ih
  unfold f_X6_bestNow_b4 f_X6_bestNow_b33 f_X6_bestNow_b38
  dsimp only
  rw [hT, nI_c (a := k) (by omega), nI_s (a := k) (by omega)]
  have e : bsS (σ'.2 89 0) (k + 1) = if bsS (σ'.2 89 0) k = -1 then nI k else if lg_cmp (σ'.2 89 0 k) (σ'.2 89 0 (bsS (σ'.2 89 0) k).toNatClampNeg) ≤ 0 then bsS (σ'.2 89 0) k else nI k := rfl
  refine n_if (fun q => ?_) (fun q => ?_)
  · rw [nJ_le (by omega) (by omega)] at q
    have : k = T := by omega
    subst this
    exact n_i ⟨rfl, rfl⟩
  · rw [nJ_le (by omega) (by omega)] at q
    refine n_if (fun q1 => ih (T - (k + 1)) _ _ (by omega) ⟨k + 1, by rw [e, if_pos q1], by omega, rfl, rfl⟩) (fun q1 => n_g ((nI_kin (by omega)).mpr (by omega)) (n_g ?_ (n_if (fun q2 => ih (T - (k + 1)) _ _ (by omega) ⟨k + 1, by rw [e, if_neg q1, if_pos q2], by omega, rfl, rfl⟩) (fun q2 => ih (T - (k + 1)) _ _ (by omega) ⟨k + 1, by rw [e, if_neg q1, if_neg q2], by omega, rfl, rfl⟩))))
    rcases bsS_r (f := σ'.2 89 0) k (by omega) with i | ⟨j, j1, j2⟩
    · exact absurd i q1
    · rw [j2]; exact (nI_kin (by omega)).mpr (by omega)
theorem sB_y : ∀ g, 10 ≤ g → g ≤ 17 → ∀ k, sB g k = false := by
  intro g h1 h2 k
  have h : g = 10 ∨ g = 11 ∨ g = 12 ∨ g = 13 ∨ g = 14 ∨ g = 15 ∨ g = 16 ∨ g = 17 := by omega
  rcases h with rfl | rfl | rfl | rfl | rfl | rfl | rfl | rfl <;> rfl
theorem odS_B {σ σ' : kS} (h : FrI sB σ σ') {bits wb : Int32} {w : Nat} : odS σ'.1 bits wb w = odS σ.1 bits wb w :=
  odS_cg (by funext i k; exact h 61 i k rfl) (by funext i k; exact h 62 i k rfl) (h.y sB_y) (by funext i k; exact h 84 i k rfl) (h 48 0 44 rfl) (by funext i k; exact h 82 i k rfl) (h 48 0 43 rfl) (by funext i k; exact h 58 i k rfl)
theorem odS_F {σ σ' : kS} (h : FrI sF σ σ') {bits wb : Int32} {w : Nat} : odS σ'.1 bits wb w = odS σ.1 bits wb w :=
  odS_cg (by funext i k; exact h 61 i k rfl) (by funext i k; exact h 62 i k rfl) (h.y sF_y) (by funext i k; exact h 84 i k rfl) (h 48 0 44 rfl) (by funext i k; exact h 82 i k rfl) (h 48 0 43 rfl) (by funext i k; exact h 58 i k rfl)
theorem odS_ent {σ : kS} {v : Int64} {bits wb : Int32} {w : Nat} : odS (ent σ v).1 bits wb w = odS σ.1 bits wb w :=
  odS_cg (ent_1 (by decide)) (ent_1 (by decide)) ent_y (ent_1 (by decide)) (ent_48 (by decide)) (ent_1 (by decide)) (ent_48 (by decide)) (ent_1 (by decide))
theorem odS_thr {σ : kS} {bits wb : Int32} {w : Nat} : odS (kU σ 48 0 0 0).1 bits wb w = odS σ.1 bits wb w :=
  odS_cg (kU_g (by decide)) (kU_g (by decide)) (by unfold yOf; rw [kU_g (by decide), kU_g (by decide), kU_g (by decide), kU_g (by decide), kU_g (by decide), kU_g (by decide), kU_g (by decide), kU_g (by decide)]) (kU_g (by decide)) (kU_k (by decide)) (kU_g (by decide)) (kU_k (by decide)) (kU_g (by decide))
theorem Inv_sBI {σ σ' : kS} (h : FrI sB σ σ') (hi : Inv σ.1) : Inv σ'.1 := Inv_sB (σ := σ) (σ' := (σ'.1, σ.2)) ⟨h, rfl⟩ hi
theorem m_find {F : Nat} (hF : 2000 ≤ F) {σ : kS} (h : Inv σ.1) {bits wb : Int32} {T : Nat} (hT : σ.1 48 0 13 = nI T) (hT6 : T ≤ 6) :
    RV (f_X6_findOdds F bits wb σ) (fun σ' => (∀ w, w < T → σ'.2 89 0 w = odS σ.1 bits wb w) ∧ Inv σ'.1 ∧ FrI sB σ σ' ∧ ∀ g i k, g ≠ 89 → σ'.2 g i k = σ.2 g i k) := by
  unfold f_X6_findOdds
  refine n_fix (fun n x σ' => ∃ w, x = (bits, wb, nI w) ∧ w ≤ T ∧ n = T - w ∧ (∀ v, v < w → σ'.2 89 0 v = odS σ.1 bits wb v) ∧ FrI sB σ σ' ∧ ∀ g i k, g ≠ 89 → σ'.2 g i k = σ.2 g i k) ?_ F T _ σ (by omega) ⟨0, rfl, by omega, rfl, fun v hv => absurd hv (by omega), FrI.refl σ, fun _ _ _ _ => rfl⟩
  rintro rr n x σ' ⟨w, rfl, hw, rfl, hI, hfr, hl⟩ ih
  have e13 : σ'.1 48 0 13 = nI T := (hfr 48 0 13 rfl).trans hT
  have hi := Inv_sBI hfr h
  unfold f_X6_findOdds_b2
  dsimp only
  rw [e13]
  refine n_if (fun q => ?_) (fun q => ?_)
  · rw [nJ_le (by omega) (by omega)] at q
    exact n_v ⟨fun v hv => hI v (by omega), hi, hfr, hl⟩
  · rw [nJ_le (by omega) (by omega)] at q
    refine n_bl (m_oddsOf hF hi (by omega) (by rw [e13, nJ_lt (by omega) (by omega)]; omega)) ?_
    rintro r σ1 ⟨hr, i1, f1⟩
    rw [odS_B hfr] at hr
    rw [nI_c (by omega), nI_s (by omega)]
    refine n_g ((nI_kin (by omega)).mpr (by omega)) (n_b (ih (T - (w + 1)) _ _ (by omega) ⟨w + 1, rfl, by omega, rfl, fun v hv => ?_, hfr.trans f1.1, fun g i k hg => ?_⟩))
    · show (if _ then _ else _) = _
      by_cases z : v = w
      · subst z
        rw [if_pos ⟨rfl, rfl, rfl⟩, hr]
      · rw [if_neg (fun q => z q.2.2), f1.2]
        exact hI v (by omega)
    · show (if _ then _ else _) = _
      rw [if_neg (fun q => hg q.1), f1.2]
      exact hl g i k hg
theorem inv_T {m : kM} (h : Inv m) : ∃ T, T ≤ 6 ∧ m 48 0 13 = nI T ∧ m 0 0 5 = nI T := by
  obtain ⟨ht, hr⟩ := inv_told h
  obtain ⟨e1, e2⟩ := rng_nI hr
  exact ⟨_, by omega, e1, ht.trans e1⟩
theorem inv_R {m : kM} (h : Inv m) : ∃ R, R ≤ 10 ∧ m 48 0 43 = nI R ∧ m 4 0 3 = nI R := by
  obtain ⟨ht, hr, -, -⟩ := inv_rows h
  obtain ⟨e1, e2⟩ := rng_nI hr
  exact ⟨_, by omega, e1, ht.trans e1⟩
theorem g_odds' {F : Nat} (hF : 2000 ≤ F) (a1 : Int32) : Good (q_odds F a1) := by
  intro nx σ h
  obtain ⟨ht, hr⟩ := inv_told h
  obtain ⟨T, hT6, hT, hT5⟩ := inv_T h
  obtain ⟨R, hR10, hR, hR4⟩ := inv_R h
  by_cases c1 : 0 ≤ a1 ∧ a1 < σ.1 48 0 13
  · have c1' : 0 ≤ a1 ∧ a1 < σ.1 0 0 5 := by rw [ht]; exact c1
    obtain ⟨w, hw6, rfl⟩ := nI_ex (n := 6) (kin_of (n := 6) c1.1 c1.2 hr.2)
    have hwT : w < T := by have := c1.2; rw [hT, nJ_lt (by omega) (by omega)] at this; exact this
    have hkw : kin (nI w) 6 := (nI_kin (by omega)).mpr hw6
    obtain ⟨s, σ1, e1, hs, ho, i1, f1, l1⟩ := rl_get (c_reckon hF h (bits := (1 <<< (nI R &&& 31)) - 1) (wb := 1) hT hT6)
    have e13 : σ1.1 48 0 13 = σ.1 48 0 13 := f1 48 0 13 rfl
    have hcl : f_X5_odds F (nI w) σ = some (.inl (some (.long (odS σ.1 ((1 <<< (nI R &&& 31)) - 1) 1 w))), σ1) := by
      unfold f_X5_odds f_X5_rowBits
      rw [t_why, if_pos c1', s_bv, hR4, s_bi, e1, s_bl, kg_t hkw, nI_c (by omega), (ho w hwT).1]
    refine top_l (k := 0) (σ2 := kUL σ1 90 0 0 (odS σ.1 ((1 <<< (nI R &&& 31)) - 1) 1 w)) (by unfold w_odds; rw [hcl]; rfl) ?_
    unfold f_X6_odds
    simp only [s_b, e_whyU (σ := σ1) (by rw [e13]; exact hr), s_bi, if10, f_X6_odds_b19, z_bad0 rfl, if0, if_true, e13, if_pos c1, if1, f_X6_allRows]
    rw [ent_48 (by decide), f1 48 0 43 rfl, hR]
    refine n_bl (m_oddsOf hF (ent_inv i1) hw6 (by rw [ent_48 (by decide), e13]; exact c1.2)) ?_
    rintro r σ4 ⟨hr4, i4, f4⟩
    rw [odS_ent, odS_F f1] at hr4
    refine n_l ⟨i4, (f4.1 48 0 0 rfl).trans z_thr, fun _ => ?_⟩
    rw [f4.2, ent_2, hr4]
  · have c1' : ¬ (0 ≤ a1 ∧ a1 < σ.1 0 0 5) := by rw [ht]; exact c1
    have hcl : f_X5_odds F a1 σ = some (.inr "java/util/NoSuchElementException", σ) := by
      unfold f_X5_odds
      rw [t_why, if_neg c1', s_xv]
    refine top_l (k := 1) (σ2 := σ) (by unfold w_odds; rw [hcl]; rfl) ?_
    unfold f_X6_odds
    simp only [s_b, e_why (σ := σ) hr, s_bi, if10, f_X6_odds_b19, if_neg c1, z_bad1 one_ne, if1, if0, if_true]
    exact n_l ⟨thr_inv h, z_thr, fun z => absurd z one_ne⟩
theorem g_share' {F : Nat} (hF : 2000 ≤ F) (a1 : Int32) : Good (q_share F a1) := by
  intro nx σ h
  obtain ⟨ht, hr⟩ := inv_told h
  obtain ⟨T, hT6, hT, hT5⟩ := inv_T h
  obtain ⟨R, hR10, hR, hR4⟩ := inv_R h
  by_cases c1 : 0 ≤ a1 ∧ a1 < σ.1 48 0 13
  · have c1' : 0 ≤ a1 ∧ a1 < σ.1 0 0 5 := by rw [ht]; exact c1
    obtain ⟨w, hw6, rfl⟩ := nI_ex (n := 6) (kin_of (n := 6) c1.1 c1.2 hr.2)
    have hwT : w < T := by have := c1.2; rw [hT, nJ_lt (by omega) (by omega)] at this; exact this
    obtain ⟨s, σ1, e1, hs, ho, i1, f1, l1⟩ := rl_get (c_reckon hF h (bits := (1 <<< (nI R &&& 31)) - 1) (wb := 1) hT hT6)
    have e13 : σ1.1 48 0 13 = σ.1 48 0 13 := f1 48 0 13 rfl
    have hcl : f_X5_share F (nI w) σ = some (.inl (some (.int (shI (σ1.2 9 0 w) s))), σ1) := by
      unfold f_X5_share f_X5_rowBits
      rw [t_why, if_pos c1', s_bv, hR4, s_bi, e1, s_bl, c_per hw6, s_bi]
    refine top_i (k := 0) (σ2 := kUL σ1 90 0 0 (shI (σ1.2 9 0 w) s).toInt64) (by unfold w_share; rw [hcl]; rfl) ?_
    unfold f_X6_share
    simp only [s_b, e_whyU (σ := σ1) (by rw [e13]; exact hr), s_bi, if10, f_X6_share_b19, z_bad0 rfl, if0, if_true, e13, if_pos c1, if1, f_X6_allRows]
    rw [ent_48 (by decide), f1 48 0 43 rfl, hR]
    refine n_bv (m_find hF (ent_inv i1) (by rw [ent_48 (by decide), e13]; exact hT) hT6) ?_
    rintro σ4 ⟨o4, i4, f4, l4⟩
    rw [m_share hF hw6 (by rw [f4 48 0 13 rfl, ent_48 (by decide), e13]; exact hT) hT6, s_bi]
    refine n_i ⟨i4, (f4 48 0 0 rfl).trans z_thr, fun _ => ?_⟩
    rw [l4 90 0 0 (by decide), ent_2]
    have e0 : ∀ v, v < T → σ4.2 89 0 v = odS σ.1 ((1 <<< (nI R &&& 31)) - 1) 1 v := fun v hv => by rw [o4 v hv, odS_ent, odS_F f1]
    rw [e0 w hwT, sumL_cg e0, (ho w hwT).1, hs]
  · have c1' : ¬ (0 ≤ a1 ∧ a1 < σ.1 0 0 5) := by rw [ht]; exact c1
    have hcl : f_X5_share F a1 σ = some (.inr "java/util/NoSuchElementException", σ) := by
      unfold f_X5_share
      rw [t_why, if_neg c1', s_xv]
    refine top_i (k := 1) (σ2 := σ) (by unfold w_share; rw [hcl]; rfl) ?_
    unfold f_X6_share
    simp only [s_b, e_why (σ := σ) hr, s_bi, if10, f_X6_share_b19, if_neg c1, z_bad1 one_ne, if1, if0, if_true]
    exact n_i ⟨thr_inv h, z_thr, fun z => absurd z one_ne⟩
theorem g_best' {F : Nat} (hF : 2000 ≤ F) : Good (q_best F) := by
  intro nx σ h
  obtain ⟨T, hT6, hT, hT5⟩ := inv_T h
  obtain ⟨R, hR10, hR, hR4⟩ := inv_R h
  obtain ⟨s, σ1, e1, hs, ho, i1, f1, l1⟩ := rl_get (c_reckon hF h (bits := (1 <<< (nI R &&& 31)) - 1) (wb := 1) hT hT6)
  have hcl : f_X5_best F σ = some (.inl (some (.int (bsS (σ1.2 9 0) T))), σ1) := by
    unfold f_X5_best f_X5_rowBits
    rw [hR4, s_bi, e1, s_bl, c_best hF (by rw [f1 0 0 5 rfl]; exact hT5) hT6, s_bi]
  refine top_p (k := bsS (σ1.2 9 0) T) (σ2 := σ1) hcl ?_
  unfold f_X6_best
  simp only [s_b, f_X6_allRows, s_bi]
  rw [kU_k (by decide), f1 48 0 43 rfl, hR]
  refine n_bv (m_find hF (Inv_thr i1) (by rw [kU_k (by decide), f1 48 0 13 rfl]; exact hT) hT6) ?_
  rintro σ4 ⟨o4, i4, f4, l4⟩
  rw [m_best hF (by rw [f4 48 0 13 rfl, kU_k (by decide), f1 48 0 13 rfl]; exact hT) hT6, s_bi]
  refine n_i ⟨i4, bsS_cg hT6 (fun v hv => ?_)⟩
  rw [o4 v hv, (ho v hv).1, odS_thr, odS_F f1]
theorem g_moved' {F : Nat} (hF : 2000 ≤ F) (a1 a2 : Int32) : Good (q_moved F a1 a2) := by
  intro nx σ h
  obtain ⟨ht, hr⟩ := inv_told h
  obtain ⟨T, hT6, hT, hT5⟩ := inv_T h
  obtain ⟨R, hR10, hR, hR4⟩ := inv_R h
  obtain ⟨t1, t2, t3, t4⟩ := inv_rows h
  by_cases c1 : 0 ≤ a1 ∧ a1 < σ.1 48 0 13
  · have c1' : 0 ≤ a1 ∧ a1 < σ.1 0 0 5 := by rw [ht]; exact c1
    by_cases c2 : 0 ≤ a2 ∧ a2 < σ.1 48 0 43
    · have c2' : 0 ≤ a2 ∧ a2 < σ.1 4 0 3 := by rw [t1]; exact c2
      have c2p : 0 ≤ a2 ∧ a2 ≤ nI R - 1 := by
        rw [← hR]
        exact ⟨c2.1, (le_pred ⟨t2.1, Int.le_trans t2.2 (by decide)⟩).mpr c2.2⟩
      obtain ⟨w, hw6, rfl⟩ := nI_ex (n := 6) (kin_of (n := 6) c1.1 c1.2 hr.2)
      have hwT : w < T := by have := c1.2; rw [hT, nJ_lt (by omega) (by omega)] at this; exact this
      obtain ⟨s, σ1, e1, hs, ho, i1, f1, l1⟩ := rl_get (c_reckon hF h (bits := (1 <<< (nI R &&& 31)) - 1) (wb := 1) hT hT6)
      obtain ⟨s', σ2, e2, hs', ho', i2, f2, l2⟩ := rl_get (c_reckon hF i1 (bits := (((1 : Int32) <<< (nI R &&& 31)) - (1 : Int32)) &&& (((1 : Int32) <<< (a2 &&& 31)) ^^^ (-1 : Int32))) (wb := 1) (by rw [f1 48 0 13 rfl]; exact hT) hT6)
      have F2 := f1.trans f2
      have e13 : σ2.1 48 0 13 = σ.1 48 0 13 := F2 48 0 13 rfl
      have hcl : f_X5_moved F (nI w) a2 σ = some (.inl (some (.int (shI (σ1.2 9 0 w) s - shI (σ2.2 9 0 w) s'))), σ2) := by
        unfold f_X5_moved f_X5_rowBits
        rw [t_why, if_pos c1', s_bv, t_row, if_pos c2', s_bv, hR4, s_bi, e1, s_bl, c_per hw6, s_bi, f1 4 0 3 rfl, hR4, s_bi, e2, s_bl, c_per hw6, s_bi]
      refine top_i (k := 0) (σ2 := kUL σ2 90 0 0 (shI (σ1.2 9 0 w) s - shI (σ2.2 9 0 w) s').toInt64) (by unfold w_moved; rw [hcl]; rfl) ?_
      unfold f_X6_moved
      simp only [s_b, e_whyU (σ := σ2) (by rw [e13]; exact hr), s_bi, if10, f_X6_moved_b19, z_bad0 rfl, if0, if_true, e13, if_pos c1, if1, f_X6_allRows, x_in, f_X6_moved_b46]
      rw [ent_48 (by decide), F2 48 0 43 rfl, hR, if_pos c2p]
      refine n_bv (m_find hF (ent_inv i2) (by rw [ent_48 (by decide), e13]; exact hT) hT6) ?_
      rintro σ4 ⟨o4, i4, f4, l4⟩
      have e43 : σ4.1 48 0 43 = nI R := by rw [f4 48 0 43 rfl, ent_48 (by decide), F2 48 0 43 rfl, hR]
      have e134 : σ4.1 48 0 13 = nI T := by rw [f4 48 0 13 rfl, ent_48 (by decide), e13, hT]
      rw [m_share hF hw6 e134 hT6, s_bi, e43]
      refine n_bv (m_find hF i4 e134 hT6) ?_
      rintro σ5 ⟨o5, i5, f5, l5⟩
      rw [m_share hF hw6 (by rw [f5 48 0 13 rfl]; exact e134) hT6, s_bi]
      refine n_i ⟨i5, (f5 48 0 0 rfl).trans ((f4 48 0 0 rfl).trans z_thr), fun _ => ?_⟩
      rw [l5 90 0 0 (by decide), l4 90 0 0 (by decide), ent_2]
      have e0 : ∀ v, v < T → σ4.2 89 0 v = odS σ.1 ((1 <<< (nI R &&& 31)) - 1) 1 v := fun v hv => by rw [o4 v hv, odS_ent, odS_F F2]
      have e0' : ∀ v, v < T → σ5.2 89 0 v = odS σ1.1 ((((1 : Int32) <<< (nI R &&& 31)) - (1 : Int32)) &&& (((1 : Int32) <<< (a2 &&& 31)) ^^^ (-1 : Int32))) 1 v := fun v hv => by rw [o5 v hv, odS_B f4, odS_ent, odS_F f2]
      rw [e0 w hwT, sumL_cg e0, e0' w hwT, sumL_cg e0', (ho w hwT).1, (ho' w hwT).1, hs, hs']
    · have c2' : ¬ (0 ≤ a2 ∧ a2 < σ.1 4 0 3) := by rw [t1]; exact c2
      have c2p : ¬ (0 ≤ a2 ∧ a2 ≤ σ.1 48 0 43 - 1) := fun z => c2 ⟨z.1, (le_pred ⟨t2.1, Int.le_trans t2.2 (by decide)⟩).mp z.2⟩
      have hcl : f_X5_moved F a1 a2 σ = some (.inr "java/lang/IndexOutOfBoundsException", σ) := by
        unfold f_X5_moved
        rw [t_why, if_pos c1', s_bv, t_row, if_neg c2', s_xv]
      refine top_i (k := 2) (σ2 := σ) (by unfold w_moved; rw [hcl]; rfl) ?_
      unfold f_X6_moved
      simp only [s_b, e_why (σ := σ) hr, s_bi, if10, f_X6_moved_b19, z_bad0 rfl, if0, if_true, x_in, f_X6_moved_b46, if_pos c1, if1]
      rw [if_neg (by rw [kU_k (by decide)]; exact c2p)]
      simp only [z_bad1 two_ne, s_bi, if1, f_X6_moved_b53]
      exact n_i ⟨thr_inv h, z_thr, fun z => absurd z two_ne⟩
  · have c1' : ¬ (0 ≤ a1 ∧ a1 < σ.1 0 0 5) := by rw [ht]; exact c1
    have hcl : f_X5_moved F a1 a2 σ = some (.inr "java/util/NoSuchElementException", σ) := by
      unfold f_X5_moved
      rw [t_why, if_neg c1', s_xv]
    refine top_i (k := 1) (σ2 := σ) (by unfold w_moved; rw [hcl]; rfl) ?_
    unfold f_X6_moved
    simp only [s_b, e_why (σ := σ) hr, s_bi, if10, f_X6_moved_b19, if_neg c1, z_bad1 one_ne, if1, f_X6_moved_b53, if0, if_true]
    exact n_i ⟨thr_inv h, z_thr, fun z => absurd z one_ne⟩
