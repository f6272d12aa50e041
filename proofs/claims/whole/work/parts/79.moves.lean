/-! IMAGES: the reference's moves. -/
theorem m_moves {F : Nat} {σ : kS} {k s : Nat} {v bk : Int32} (hk : k < 3) (hs : s < 160) (h51 : σ.1 48 0 51 = nI s) :
    RI (f_X6_moves F (nI k) v bk σ) (fun r σ' => r = (if bk = 0 then v else σ.1 88 k s) ∧ σ'.1 88 k s = (if bk = 0 then v else σ.1 88 k s) ∧ (∀ g i j, ¬ (g = 88 ∧ i = k ∧ j = s) → ¬ (g = 48 ∧ i = 0 ∧ j = 51) → σ'.1 g i j = σ.1 g i j) ∧ σ'.1 48 0 51 = nI (s + 1) ∧ σ'.2 = σ.2) := by
  have hkk : kin (nI k) 3 := (nI_kin (by omega)).mpr hk
  have ek : (nI k).toNatClampNeg = k := nI_c (by omega)
  have es : (nI s).toNatClampNeg = s := nI_c (by omega)
  have hks : kin (nI s) 160 := (nI_kin (by omega)).mpr hs
  have hb : ∀ σ1 : kS, σ1.1 48 0 51 = nI s → RI (f_X6_moves_b16 F (nI k) σ1) (fun r σ' => r = σ1.1 88 k s ∧ σ' = kU σ1 48 0 51 (nI (s + 1))) := fun σ1 h1 => by
    unfold f_X6_moves_b16
    rw [s_b, h1, nI_s (by omega), kU_here, nI_p (by omega) (by omega), show s + 1 - 1 = s by omega, ek, es]
    exact n_g hkk (n_b (n_g hks (n_i ⟨rfl, rfl⟩)))
  unfold f_X6_moves
  rw [ek, h51, es]
  refine n_if (fun q => n_g hkk (n_b (n_g hks (n_b ?_)))) (fun q => ?_)
  · refine ri_mono (hb (kU σ 88 k s v) h51) ?_
    rintro r σ' ⟨rfl, rfl⟩
    rw [if_pos q]
    refine ⟨kU_here, ?_, fun g i j q1 q2 => ?_, kU_here, rfl⟩
    · rw [kU_at, if_neg (by omega)]; exact kU_here
    · rw [kU_at, if_neg q2, kU_at, if_neg q1]
  · refine ri_mono (hb σ h51) ?_
    rintro r σ' ⟨rfl, rfl⟩
    rw [if_neg q]
    refine ⟨rfl, ?_, fun g i j q1 q2 => ?_, kU_here, rfl⟩
    · rw [kU_at, if_neg (by omega)]
    · rw [kU_at, if_neg q2]
/-- a row of n cells moved to the place s on -/
def mvP (g i n k s : Nat) (bk : Int32) (σ σ' : kS) : Prop :=
  (∀ j, j < n → σ'.1 g i j = (if bk = 0 then σ.1 g i j else σ.1 88 k (s + j)) ∧ σ'.1 88 k (s + j) = (if bk = 0 then σ.1 g i j else σ.1 88 k (s + j))) ∧
  (∀ g' i' j', ¬ (g' = g ∧ i' = i ∧ j' < n) → ¬ (g' = 88 ∧ i' = k ∧ s ≤ j' ∧ j' < s + n) → ¬ (g' = 48 ∧ i' = 0 ∧ j' = 51) → σ'.1 g' i' j' = σ.1 g' i' j') ∧ σ'.1 48 0 51 = nI (s + n) ∧ σ'.2 = σ.2
theorem mv_row {α : Type} {F : Nat} (hF : 2000 ≤ F) {b : (α → kS → Option kR) → α → kS → Option kR} {e : Int32 → α} {g i n k s : Nat} {bk : Int32} {σ : kS} (hg : g ≠ 88) (hg2 : g ≠ 48) (hk : k < 3) (hn : n ≤ 20) (hs : s + n ≤ 160) (h51 : σ.1 48 0 51 = nI s)
    (hb : ∀ rr x4 σ, b rr (e x4) σ = if nI n ≤ x4 then (some (.inl none, σ)) else (kg (kin x4 n) (kBi (f_X6_moves F (nI k) (σ.1 g i x4.toNatClampNeg) bk σ) fun c4 σ3 => kg (kin x4 n) (kb (kU σ3 g i x4.toNatClampNeg c4) fun σ5 => rr (e (x4 + 1)) σ5)))) :
    RV (kFix b F (e 0) σ) (fun σ' => mvP g i n k s bk σ σ') := by
  refine n_fix (fun m x σ' => ∃ j, x = e (nI j) ∧ j ≤ n ∧ m = n - j ∧ (∀ u, u < j → σ'.1 g i u = (if bk = 0 then σ.1 g i u else σ.1 88 k (s + u)) ∧ σ'.1 88 k (s + u) = (if bk = 0 then σ.1 g i u else σ.1 88 k (s + u))) ∧ (∀ g' i' j', ¬ (g' = g ∧ i' = i ∧ j' < j) → ¬ (g' = 88 ∧ i' = k ∧ s ≤ j' ∧ j' < s + j) → ¬ (g' = 48 ∧ i' = 0 ∧ j' = 51) → σ'.1 g' i' j' = σ.1 g' i' j') ∧ σ'.1 48 0 51 = nI (s + j) ∧ σ'.2 = σ.2) ?_ F n _ σ (by omega) ⟨0, rfl, by omega, rfl, fun u hu => absurd hu (by omega), fun _ _ _ _ _ _ => rfl, h51, rfl⟩
  rintro rr m x σ' ⟨j, rfl, hj, rfl, hI, hE, h51', hl⟩ ih
  rw [hb]
  refine n_if (fun q => ?_) (fun q => ?_)
  · rw [nJ_le (by omega) (by omega)] at q
    have : j = n := by omega
    subst this
    exact n_v ⟨hI, hE, h51', hl⟩
  · rw [nJ_le (by omega) (by omega)] at q
    have hkj : kin (nI j) n := (nI_kin (by omega)).mpr (by omega)
    rw [nI_c (by omega), nI_s (by omega)]
    refine n_g hkj (n_bi (m_moves hk (by omega) h51') ?_)
    rintro r σ1 ⟨r1, r2, r3, r4, r5⟩
    have e1 : σ'.1 g i j = σ.1 g i j := hE g i j (by omega) (by omega) (by omega)
    have e2 : σ'.1 88 k (s + j) = σ.1 88 k (s + j) := hE 88 k (s + j) (by omega) (by omega) (by omega)
    rw [e1, e2] at r1 r2
    refine n_g hkj (n_b (ih (n - (j + 1)) _ _ (by omega) ⟨j + 1, rfl, by omega, rfl, fun u hu => ?_, fun g' i' j' q1 q2 q3 => ?_, ?_, r5.trans hl⟩))
    · by_cases z : u = j
      · subst z
        refine ⟨?_, ?_⟩
        · rw [kU_here]; exact r1
        · rw [kU_at, if_neg (by omega)]; exact r2
      · refine ⟨?_, ?_⟩
        · rw [kU_at, if_neg (by omega), r3 g i u (by omega) (by omega)]; exact (hI u (by omega)).1
        · rw [kU_at, if_neg (by omega), r3 88 k (s + u) (by omega) (by omega)]; exact (hI u (by omega)).2
    · rw [kU_at, if_neg (by omega), r3 g' i' j' (by omega) q3]
      exact hE g' i' j' (by omega) (by omega) q3
    · rw [kU_at, if_neg (by omega)]; exact r4
/-- N rows of c cells moved -/
def mvR (g c N k s : Nat) (bk : Int32) (σ σ' : kS) : Prop :=
  (∀ r j, r < N → j < c → σ'.1 g r j = (if bk = 0 then σ.1 g r j else σ.1 88 k (s + c * r + j)) ∧ σ'.1 88 k (s + c * r + j) = (if bk = 0 then σ.1 g r j else σ.1 88 k (s + c * r + j))) ∧
  (∀ g' i' j', ¬ (g' = g ∧ i' < N ∧ j' < c) → ¬ (g' = 88 ∧ i' = k ∧ s ≤ j' ∧ j' < s + c * N) → ¬ (g' = 48 ∧ i' = 0 ∧ j' = 51) → σ'.1 g' i' j' = σ.1 g' i' j') ∧ σ'.1 48 0 51 = nI (s + c * N) ∧ σ'.2 = σ.2
theorem mv_rows {F : Nat} (hF : 2000 ≤ F) {b : ((Int32 × Int32 × Int32) → kS → Option kR) → (Int32 × Int32 × Int32) → kS → Option kR} {rw' : Nat → kS → Option kR} {nx : kS → Option kR} {Q : Option Value → kS → Prop} {g c N k s : Nat} {bk : Int32} {σ : kS} (hg : g ≠ 88) (hg2 : g ≠ 48) (hN : N ≤ 10) (hc : c ≤ 6) (hs : s + c * N ≤ 160) (h51 : σ.1 48 0 51 = nI s)
    (hb : ∀ rr x4 σ, b rr (nI k, bk, x4) σ = if nI N ≤ x4 then nx σ else (kg (kin x4 N) (kb (x4.toNatClampNeg) fun j2 => kBv (rw' j2 σ) fun σ3 => rr (nI k, bk, x4 + 1) σ3)))
    (hrw : ∀ j σ1 s1, j < N → s1 + c ≤ 160 → σ1.1 48 0 51 = nI s1 → RV (rw' j σ1) (fun σ2 => mvP g j c k s1 bk σ1 σ2)) (hnx : ∀ σ', mvR g c N k s bk σ σ' → Rn (nx σ') Q) :
    Rn (kFix b F (nI k, bk, 0) σ) Q := by
  refine n_fix (fun m x σ' => ∃ R, x = (nI k, bk, nI R) ∧ R ≤ N ∧ m = N - R ∧ mvR g c R k s bk σ σ') ?_ F N _ σ (by omega) ⟨0, rfl, by omega, rfl, fun r j hr => absurd hr (by omega), fun _ _ _ _ _ _ => rfl, h51, rfl⟩
  rintro rr m x σ' ⟨R, rfl, hR, rfl, hI, hE, h51', hl⟩ ih
  rw [hb]
  refine n_if (fun q => ?_) (fun q => ?_)
  · rw [nJ_le (by omega) (by omega)] at q
    have : R = N := by omega
    subst this
    exact hnx σ' ⟨hI, hE, h51', hl⟩
  · rw [nJ_le (by omega) (by omega)] at q
    have hcR : c * (R + 1) = c * R + c := by rw [Nat.mul_add, Nat.mul_one]
    have hle : c * (R + 1) ≤ c * N := Nat.mul_le_mul_left c (by omega)
    rw [nI_c (by omega), nI_s (by omega)]
    refine n_g ((nI_kin (by omega)).mpr (by omega)) (n_b (n_bv (hrw R σ' (s + c * R) (by omega) (by omega) h51') ?_))
    rintro σ1 ⟨p1, p2, p3, p4⟩
    have lo : ∀ r, r < R → c * r + c ≤ c * R := fun r hr => by
      have : c * (r + 1) ≤ c * R := Nat.mul_le_mul_left c (by omega)
      rw [Nat.mul_add, Nat.mul_one] at this
      exact this
    refine ih (N - (R + 1)) _ _ (by omega) ⟨R + 1, rfl, by omega, rfl, fun r j hr hj => ?_, fun g' i' j' q1 q2 q3 => ?_, ?_, p4.trans hl⟩
    · by_cases z : r = R
      · subst z
        obtain ⟨u1, u2⟩ := p1 j hj
        have e1 : σ'.1 g r j = σ.1 g r j := hE g r j (by omega) (by omega) (by omega)
        have e2 : σ'.1 88 k (s + c * r + j) = σ.1 88 k (s + c * r + j) := hE 88 k (s + c * r + j) (by omega) (by omega) (by omega)
        rw [e1, e2] at u1 u2
        exact ⟨u1, u2⟩
      · have hr' : r < R := by omega
        have := lo r hr'
        obtain ⟨u1, u2⟩ := hI r j hr' hj
        rw [p2 g r j (by omega) (by omega) (by omega), p2 88 k (s + c * r + j) (by omega) (by omega) (by omega)]
        exact ⟨u1, u2⟩
    · rw [hcR] at q2
      rw [p2 g' i' j' (by omega) (by omega) q3]
      exact hE g' i' j' (by omega) (by omega) q3
    · rw [p3, hcR]; congr 1; omega
def mvA (k : Nat) (bk : Int32) (σ σ' : kS) : Prop :=
  (σ'.1 48 0 43 = (if bk = 0 then σ.1 48 0 43 else σ.1 88 k 0) ∧ σ'.1 48 0 44 = (if bk = 0 then σ.1 48 0 44 else σ.1 88 k 1) ∧ σ'.1 48 0 45 = (if bk = 0 then σ.1 48 0 45 else σ.1 88 k 2)) ∧
  (σ'.1 88 k 0 = (if bk = 0 then σ.1 48 0 43 else σ.1 88 k 0) ∧ σ'.1 88 k 1 = (if bk = 0 then σ.1 48 0 44 else σ.1 88 k 1) ∧ σ'.1 88 k 2 = (if bk = 0 then σ.1 48 0 45 else σ.1 88 k 2) ∧ σ'.1 88 k 3 = (if bk = 0 then σ.1 48 0 13 else σ.1 88 k 3)) ∧
  (∀ j, j < 10 → σ'.1 61 0 j = (if bk = 0 then σ.1 61 0 j else σ.1 88 k (4 + j)) ∧ σ'.1 88 k (4 + j) = (if bk = 0 then σ.1 61 0 j else σ.1 88 k (4 + j))) ∧
  (∀ j, j < 8 → σ'.1 62 0 j = (if bk = 0 then σ.1 62 0 j else σ.1 88 k (14 + j)) ∧ σ'.1 88 k (14 + j) = (if bk = 0 then σ.1 62 0 j else σ.1 88 k (14 + j))) ∧
  (∀ j, j < 6 → σ'.1 58 0 j = (if bk = 0 then σ.1 58 0 j else if nI j < σ.1 88 k 3 then σ.1 88 k (22 + j) else 10) ∧ σ'.1 88 k (22 + j) = (if bk = 0 then σ.1 58 0 j else σ.1 88 k (22 + j))) ∧
  (∀ r j, r < 10 → j < 6 → σ'.1 82 r j = (if bk = 0 then σ.1 82 r j else σ.1 88 k (28 + 6 * r + j)) ∧ σ'.1 88 k (28 + 6 * r + j) = (if bk = 0 then σ.1 82 r j else σ.1 88 k (28 + 6 * r + j))) ∧
  (∀ r j, r < 10 → j < 2 → σ'.1 84 r j = (if bk = 0 then σ.1 84 r j else σ.1 88 k (88 + 2 * r + j)) ∧ σ'.1 88 k (88 + 2 * r + j) = (if bk = 0 then σ.1 84 r j else σ.1 88 k (88 + 2 * r + j))) ∧
  (∀ r j, r < 5 → j < 3 → σ'.1 86 r j = (if bk = 0 then σ.1 86 r j else σ.1 88 k (108 + 3 * r + j)) ∧ σ'.1 88 k (108 + 3 * r + j) = (if bk = 0 then σ.1 86 r j else σ.1 88 k (108 + 3 * r + j))) ∧
  (∀ g i j, g ≠ 61 → g ≠ 62 → g ≠ 58 → g ≠ 82 → g ≠ 84 → g ≠ 86 → ¬ (g = 88 ∧ i = k) → ¬ (g = 48 ∧ i = 0 ∧ (j = 43 ∨ j = 44 ∨ j = 45 ∨ j = 51)) → σ'.1 g i j = σ.1 g i j) ∧ σ'.2 = σ.2 ∧ (bk = 0 → ∀ g i j, (g = 61 ∨ g = 62 ∨ g = 58 ∨ g = 82 ∨ g = 84 ∨ g = 86) → σ'.1 g i j = σ.1 g i j)
theorem m_movesAll {F : Nat} (hF : 2000 ≤ F) {σ : kS} {k : Nat} {bk : Int32} (hk : k < 3) (hh : bk ≠ 0 → ∃ h, h ≤ 6 ∧ σ.1 88 k 3 = nI h) : RV (f_X6_movesAll F (nI k) bk σ) (mvA k bk σ) := by
  unfold f_X6_movesAll
  refine n_b ?_
  obtain ⟨a0, ha0⟩ : ∃ a, a = kU σ 48 0 51 0 := ⟨_, rfl⟩
  rw [← ha0]
  have E0 : ∀ g i j, ¬ (g = 48 ∧ i = 0 ∧ j = 51) → a0.1 g i j = σ.1 g i j := fun g i j q => by rw [ha0, kU_at, if_neg q]
  have L0 : a0.2 = σ.2 := by rw [ha0]; rfl
  refine n_bi (m_moves hk (s := 0) (by omega) (by rw [ha0]; exact kU_here)) ?_
  rintro r1 b1 ⟨p1, p2, p3, p4, p5⟩
  refine n_b ?_
  obtain ⟨a1, ha1⟩ : ∃ a, a = kU b1 48 0 43 r1 := ⟨_, rfl⟩
  rw [← ha1]
  have E1 : ∀ g i j, ¬ (g = 88 ∧ i = k ∧ j = 0) → ¬ (g = 48 ∧ i = 0 ∧ (j = 51 ∨ j = 43)) → a1.1 g i j = σ.1 g i j := fun g i j q1 q2 => by rw [ha1, kU_at, if_neg (by omega), p3 g i j q1 (by omega), E0 g i j (by omega)]
  have v1 : a1.1 48 0 43 = (if bk = 0 then σ.1 48 0 43 else σ.1 88 k 0) := by rw [ha1, kU_here, p1, E0 48 0 43 (by omega), E0 88 k 0 (by omega)]
  have v1' : a1.1 88 k 0 = (if bk = 0 then σ.1 48 0 43 else σ.1 88 k 0) := by rw [ha1, kU_at, if_neg (by omega), p2, E0 48 0 43 (by omega), E0 88 k 0 (by omega)]
  refine n_bi (m_moves hk (s := 1) (by omega) (by rw [ha1, kU_at, if_neg (by omega)]; exact p4)) ?_
  rintro r2 b2 ⟨q1, q2, q3, q4, q5⟩
  refine n_b ?_
  obtain ⟨a2, ha2⟩ : ∃ a, a = kU b2 48 0 44 r2 := ⟨_, rfl⟩
  rw [← ha2]
  have E2 : ∀ g i j, ¬ (g = 88 ∧ i = k ∧ j < 2) → ¬ (g = 48 ∧ i = 0 ∧ (j = 51 ∨ j = 43 ∨ j = 44)) → a2.1 g i j = σ.1 g i j := fun g i j z1 z2 => by rw [ha2, kU_at, if_neg (by omega), q3 g i j (by omega) (by omega), E1 g i j (by omega) (by omega)]
  have K2 : ∀ g i j, ¬ (g = 88 ∧ i = k ∧ j = 1) → ¬ (g = 48 ∧ i = 0 ∧ (j = 51 ∨ j = 44)) → a2.1 g i j = a1.1 g i j := fun g i j z1 z2 => by rw [ha2, kU_at, if_neg (by omega), q3 g i j (by omega) (by omega)]
  have v2 : a2.1 48 0 44 = (if bk = 0 then σ.1 48 0 44 else σ.1 88 k 1) := by rw [ha2, kU_here, q1, E1 48 0 44 (by omega) (by omega), E1 88 k 1 (by omega) (by omega)]
  have v2' : a2.1 88 k 1 = (if bk = 0 then σ.1 48 0 44 else σ.1 88 k 1) := by rw [ha2, kU_at, if_neg (by omega), q2, E1 48 0 44 (by omega) (by omega), E1 88 k 1 (by omega) (by omega)]
  refine n_bi (m_moves hk (s := 2) (by omega) (by rw [ha2, kU_at, if_neg (by omega)]; exact q4)) ?_
  rintro r3 b3 ⟨s1, s2, s3, s4, s5⟩
  refine n_b ?_
  obtain ⟨a3, ha3⟩ : ∃ a, a = kU b3 48 0 45 r3 := ⟨_, rfl⟩
  rw [← ha3]
  have E3 : ∀ g i j, ¬ (g = 88 ∧ i = k ∧ j < 3) → ¬ (g = 48 ∧ i = 0 ∧ (j = 51 ∨ j = 43 ∨ j = 44 ∨ j = 45)) → a3.1 g i j = σ.1 g i j := fun g i j z1 z2 => by rw [ha3, kU_at, if_neg (by omega), s3 g i j (by omega) (by omega), E2 g i j (by omega) (by omega)]
  have K3 : ∀ g i j, ¬ (g = 88 ∧ i = k ∧ j = 2) → ¬ (g = 48 ∧ i = 0 ∧ (j = 51 ∨ j = 45)) → a3.1 g i j = a2.1 g i j := fun g i j z1 z2 => by rw [ha3, kU_at, if_neg (by omega), s3 g i j (by omega) (by omega)]
  have v3 : a3.1 48 0 45 = (if bk = 0 then σ.1 48 0 45 else σ.1 88 k 2) := by rw [ha3, kU_here, s1, E2 48 0 45 (by omega) (by omega), E2 88 k 2 (by omega) (by omega)]
  have v3' : a3.1 88 k 2 = (if bk = 0 then σ.1 48 0 45 else σ.1 88 k 2) := by rw [ha3, kU_at, if_neg (by omega), s2, E2 48 0 45 (by omega) (by omega), E2 88 k 2 (by omega) (by omega)]
  refine n_bi (m_moves hk (s := 3) (by omega) (by rw [ha3, kU_at, if_neg (by omega)]; exact s4)) ?_
  rintro r4 a4 ⟨t1, t2, t3, t4, t5⟩
  rw [E3 48 0 13 (by omega) (by omega), E3 88 k 3 (by omega) (by omega)] at t1 t2
  have K4 : ∀ g i j, ¬ (g = 88 ∧ i = k ∧ j = 3) → ¬ (g = 48 ∧ i = 0 ∧ j = 51) → a4.1 g i j = a3.1 g i j := t3
  have E4 : ∀ g i j, ¬ (g = 88 ∧ i = k ∧ j < 4) → ¬ (g = 48 ∧ i = 0 ∧ (j = 51 ∨ j = 43 ∨ j = 44 ∨ j = 45)) → a4.1 g i j = σ.1 g i j := fun g i j z1 z2 => by rw [K4 g i j (by omega) (by omega), E3 g i j (by omega) (by omega)]
  have L4 : a4.2 = σ.2 := by
    rw [t5, ha3]
    show b3.2 = _
    rw [s5, ha2]
    show b2.2 = _
    rw [q5, ha1]
    show b1.2 = _
    rw [p5, L0]
  -- number, gas, weight
  refine n_bv (mv_row hF (e := fun x => (nI k, bk, x)) (g := 61) (i := 0) (n := 10) (k := k) (s := 4) (bk := bk) (by decide) (by decide) hk (by omega) (by omega) t4 (fun rr x4 σ => rfl)) ?_
  rintro a5 ⟨u1, u2, u3, u4⟩
  refine n_bv (mv_row hF (e := fun x => (nI k, bk, x)) (g := 62) (i := 0) (n := 8) (k := k) (s := 14) (bk := bk) (by decide) (by decide) hk (by omega) (by omega) u3 (fun rr x4 σ => rfl)) ?_
  rintro a6 ⟨w1, w2, w3, w4⟩
  refine n_bv (mv_row hF (e := fun x => (nI k, bk, x)) (g := 58) (i := 0) (n := 6) (k := k) (s := 22) (bk := bk) (by decide) (by decide) hk (by omega) (by omega) w3 (fun rr x4 σ => rfl)) ?_
  rintro a7 ⟨x1, x2, x3, x4⟩
  have hrest : ∀ a8 : kS, (∀ j, j < 6 → a8.1 58 0 j = (if bk = 0 then σ.1 58 0 j else if nI j < σ.1 88 k 3 then σ.1 88 k (22 + j) else 10)) → (∀ g i j, g ≠ 58 → a8.1 g i j = a7.1 g i j) → a8.2 = a7.2 → (bk = 0 → a8 = a7) → Rn (f_X6_movesAll_b117 F (nI k) bk a8) (fun v σ' => v = none ∧ mvA k bk σ σ') := by
    intro a8 y1 y2 y3 y4
    unfold f_X6_movesAll_b117
    have c51 : a8.1 48 0 51 = nI 28 := by rw [y2 48 0 51 (by omega)]; exact x3
    refine mv_rows (σ := a8) hF (rw' := fun j σ => f_X6_movesRow_row F (nI k) j bk σ) (nx := fun σ => kFix (f_X6_movesAll_b149 F) F (nI k, bk, 0) σ) (g := 82) (c := 6) (N := 10) (k := k) (s := 28) (bk := bk) (by decide) (by decide) (by omega) (by omega) (by omega) c51 (fun rr x4 σ => rfl) (fun j σ1 s1 hj hs1 h51 => mv_row hF (e := fun x => (nI k, j, bk, x)) (g := 82) (i := j) (n := 6) (by decide) (by decide) hk (by omega) hs1 h51 (fun rr x4 σ => rfl)) ?_
    rintro a9 ⟨z1, z2, z3, z4⟩
    refine mv_rows (σ := a9) hF (rw' := fun j σ => f_X6_movesRow_before F (nI k) j bk σ) (nx := fun σ => kFix (f_X6_movesAll_b178 F) F (nI k, bk, 0) σ) (g := 84) (c := 2) (N := 10) (k := k) (s := 88) (bk := bk) (by decide) (by decide) (by omega) (by omega) (by omega) z3 (fun rr x4 σ => rfl) (fun j σ1 s1 hj hs1 h51 => mv_row hF (e := fun x => (nI k, j, bk, x)) (g := 84) (i := j) (n := 2) (by decide) (by decide) hk (by omega) hs1 h51 (fun rr x4 σ => rfl)) ?_
    rintro aa ⟨f1, f2, f3, f4⟩
    refine mv_rows (σ := aa) hF (rw' := fun j σ => f_X6_movesRow_option F (nI k) j bk σ) (nx := fun σ => some (.inl none, σ)) (g := 86) (c := 3) (N := 5) (k := k) (s := 108) (bk := bk) (by decide) (by decide) (by omega) (by omega) (by omega) f3 (fun rr x4 σ => rfl) (fun j σ1 s1 hj hs1 h51 => mv_row hF (e := fun x => (nI k, j, bk, x)) (g := 86) (i := j) (n := 3) (by decide) (by decide) hk (by omega) hs1 h51 (fun rr x4 σ => rfl)) ?_
    rintro ab ⟨h1, h2, h3, h4⟩
    refine n_v ?_
    have Z7 : ∀ g i j, g ≠ 58 → g ≠ 82 → g ≠ 84 → g ≠ 86 → ¬ (g = 88 ∧ i = k ∧ 28 ≤ j) → ¬ (g = 48 ∧ i = 0 ∧ j = 51) → ab.1 g i j = a7.1 g i j := fun g i j q1 q2 q3 q4 q5 q6 => by
      rw [h2 g i j (by omega) (by omega) q6, f2 g i j (by omega) (by omega) q6, z2 g i j (by omega) (by omega) q6, y2 g i j q1]
    have Z4 : ∀ g i j, g ≠ 61 → g ≠ 62 → g ≠ 58 → g ≠ 82 → g ≠ 84 → g ≠ 86 → ¬ (g = 88 ∧ i = k ∧ 4 ≤ j) → ¬ (g = 48 ∧ i = 0 ∧ j = 51) → ab.1 g i j = a4.1 g i j := fun g i j q1 q2 q3 q4 q5 q6 q7 q8 => by
      rw [Z7 g i j q3 q4 q5 q6 (by omega) q8, x2 g i j (by omega) (by omega) q8, w2 g i j (by omega) (by omega) q8, u2 g i j (by omega) (by omega) q8]
    refine ⟨⟨?_, ?_, ?_⟩, ⟨?_, ?_, ?_, ?_⟩, fun j hj => ⟨?_, ?_⟩, fun j hj => ⟨?_, ?_⟩, fun j hj => ⟨?_, ?_⟩, fun r j hr hj => ⟨?_, ?_⟩, fun r j hr hj => ⟨?_, ?_⟩, fun r j hr hj => ⟨?_, ?_⟩, fun g i j q1 q2 q3 q4 q5 q6 q7 q8 => ?_, ?_, fun hb0 g i j hg => ?_⟩
    · rw [Z4 48 0 43 (by omega) (by omega) (by omega) (by omega) (by omega) (by omega) (by omega) (by omega), K4 48 0 43 (by omega) (by omega), K3 48 0 43 (by omega) (by omega), K2 48 0 43 (by omega) (by omega)]; exact v1
    · rw [Z4 48 0 44 (by omega) (by omega) (by omega) (by omega) (by omega) (by omega) (by omega) (by omega), K4 48 0 44 (by omega) (by omega), K3 48 0 44 (by omega) (by omega)]; exact v2
    · rw [Z4 48 0 45 (by omega) (by omega) (by omega) (by omega) (by omega) (by omega) (by omega) (by omega), K4 48 0 45 (by omega) (by omega)]; exact v3
    · rw [Z4 88 k 0 (by omega) (by omega) (by omega) (by omega) (by omega) (by omega) (by omega) (by omega), K4 88 k 0 (by omega) (by omega), K3 88 k 0 (by omega) (by omega), K2 88 k 0 (by omega) (by omega)]; exact v1'
    · rw [Z4 88 k 1 (by omega) (by omega) (by omega) (by omega) (by omega) (by omega) (by omega) (by omega), K4 88 k 1 (by omega) (by omega), K3 88 k 1 (by omega) (by omega)]; exact v2'
    · rw [Z4 88 k 2 (by omega) (by omega) (by omega) (by omega) (by omega) (by omega) (by omega) (by omega), K4 88 k 2 (by omega) (by omega)]; exact v3'
    · rw [Z4 88 k 3 (by omega) (by omega) (by omega) (by omega) (by omega) (by omega) (by omega) (by omega)]; exact t2
    · rw [Z7 61 0 j (by omega) (by omega) (by omega) (by omega) (by omega) (by omega), x2 61 0 j (by omega) (by omega) (by omega), w2 61 0 j (by omega) (by omega) (by omega), (u1 j hj).1, E4 61 0 j (by omega) (by omega), E4 88 k (4 + j) (by omega) (by omega)]
    · rw [Z7 88 k (4 + j) (by omega) (by omega) (by omega) (by omega) (by omega) (by omega), x2 88 k (4 + j) (by omega) (by omega) (by omega), w2 88 k (4 + j) (by omega) (by omega) (by omega), (u1 j hj).2, E4 61 0 j (by omega) (by omega), E4 88 k (4 + j) (by omega) (by omega)]
    · rw [Z7 62 0 j (by omega) (by omega) (by omega) (by omega) (by omega) (by omega), x2 62 0 j (by omega) (by omega) (by omega), (w1 j hj).1, u2 62 0 j (by omega) (by omega) (by omega), u2 88 k (14 + j) (by omega) (by omega) (by omega), E4 62 0 j (by omega) (by omega), E4 88 k (14 + j) (by omega) (by omega)]
    · rw [Z7 88 k (14 + j) (by omega) (by omega) (by omega) (by omega) (by omega) (by omega), x2 88 k (14 + j) (by omega) (by omega) (by omega), (w1 j hj).2, u2 62 0 j (by omega) (by omega) (by omega), u2 88 k (14 + j) (by omega) (by omega) (by omega), E4 62 0 j (by omega) (by omega), E4 88 k (14 + j) (by omega) (by omega)]
    · rw [h2 58 0 j (by omega) (by omega) (by omega), f2 58 0 j (by omega) (by omega) (by omega), z2 58 0 j (by omega) (by omega) (by omega)]; exact y1 j hj
    · rw [Z7 88 k (22 + j) (by omega) (by omega) (by omega) (by omega) (by omega) (by omega), (x1 j hj).2, w2 58 0 j (by omega) (by omega) (by omega), w2 88 k (22 + j) (by omega) (by omega) (by omega), u2 58 0 j (by omega) (by omega) (by omega), u2 88 k (22 + j) (by omega) (by omega) (by omega), E4 58 0 j (by omega) (by omega), E4 88 k (22 + j) (by omega) (by omega)]
    · rw [h2 82 r j (by omega) (by omega) (by omega), f2 82 r j (by omega) (by omega) (by omega), (z1 r j hr hj).1, y2 82 r j (by omega), y2 88 k (28 + 6 * r + j) (by omega), x2 82 r j (by omega) (by omega) (by omega), x2 88 k (28 + 6 * r + j) (by omega) (by omega) (by omega), w2 82 r j (by omega) (by omega) (by omega), w2 88 k (28 + 6 * r + j) (by omega) (by omega) (by omega), u2 82 r j (by omega) (by omega) (by omega), u2 88 k (28 + 6 * r + j) (by omega) (by omega) (by omega), E4 82 r j (by omega) (by omega), E4 88 k (28 + 6 * r + j) (by omega) (by omega)]
    · rw [h2 88 k (28 + 6 * r + j) (by omega) (by omega) (by omega), f2 88 k (28 + 6 * r + j) (by omega) (by omega) (by omega), (z1 r j hr hj).2, y2 82 r j (by omega), y2 88 k (28 + 6 * r + j) (by omega), x2 82 r j (by omega) (by omega) (by omega), x2 88 k (28 + 6 * r + j) (by omega) (by omega) (by omega), w2 82 r j (by omega) (by omega) (by omega), w2 88 k (28 + 6 * r + j) (by omega) (by omega) (by omega), u2 82 r j (by omega) (by omega) (by omega), u2 88 k (28 + 6 * r + j) (by omega) (by omega) (by omega), E4 82 r j (by omega) (by omega), E4 88 k (28 + 6 * r + j) (by omega) (by omega)]
    · rw [h2 84 r j (by omega) (by omega) (by omega), (f1 r j hr hj).1, z2 84 r j (by omega) (by omega) (by omega), z2 88 k (88 + 2 * r + j) (by omega) (by omega) (by omega), y2 84 r j (by omega), y2 88 k (88 + 2 * r + j) (by omega), x2 84 r j (by omega) (by omega) (by omega), x2 88 k (88 + 2 * r + j) (by omega) (by omega) (by omega), w2 84 r j (by omega) (by omega) (by omega), w2 88 k (88 + 2 * r + j) (by omega) (by omega) (by omega), u2 84 r j (by omega) (by omega) (by omega), u2 88 k (88 + 2 * r + j) (by omega) (by omega) (by omega), E4 84 r j (by omega) (by omega), E4 88 k (88 + 2 * r + j) (by omega) (by omega)]
    · rw [h2 88 k (88 + 2 * r + j) (by omega) (by omega) (by omega), (f1 r j hr hj).2, z2 84 r j (by omega) (by omega) (by omega), z2 88 k (88 + 2 * r + j) (by omega) (by omega) (by omega), y2 84 r j (by omega), y2 88 k (88 + 2 * r + j) (by omega), x2 84 r j (by omega) (by omega) (by omega), x2 88 k (88 + 2 * r + j) (by omega) (by omega) (by omega), w2 84 r j (by omega) (by omega) (by omega), w2 88 k (88 + 2 * r + j) (by omega) (by omega) (by omega), u2 84 r j (by omega) (by omega) (by omega), u2 88 k (88 + 2 * r + j) (by omega) (by omega) (by omega), E4 84 r j (by omega) (by omega), E4 88 k (88 + 2 * r + j) (by omega) (by omega)]
    · rw [(h1 r j hr hj).1, f2 86 r j (by omega) (by omega) (by omega), f2 88 k (108 + 3 * r + j) (by omega) (by omega) (by omega), z2 86 r j (by omega) (by omega) (by omega), z2 88 k (108 + 3 * r + j) (by omega) (by omega) (by omega), y2 86 r j (by omega), y2 88 k (108 + 3 * r + j) (by omega), x2 86 r j (by omega) (by omega) (by omega), x2 88 k (108 + 3 * r + j) (by omega) (by omega) (by omega), w2 86 r j (by omega) (by omega) (by omega), w2 88 k (108 + 3 * r + j) (by omega) (by omega) (by omega), u2 86 r j (by omega) (by omega) (by omega), u2 88 k (108 + 3 * r + j) (by omega) (by omega) (by omega), E4 86 r j (by omega) (by omega), E4 88 k (108 + 3 * r + j) (by omega) (by omega)]
    · rw [(h1 r j hr hj).2, f2 86 r j (by omega) (by omega) (by omega), f2 88 k (108 + 3 * r + j) (by omega) (by omega) (by omega), z2 86 r j (by omega) (by omega) (by omega), z2 88 k (108 + 3 * r + j) (by omega) (by omega) (by omega), y2 86 r j (by omega), y2 88 k (108 + 3 * r + j) (by omega), x2 86 r j (by omega) (by omega) (by omega), x2 88 k (108 + 3 * r + j) (by omega) (by omega) (by omega), w2 86 r j (by omega) (by omega) (by omega), w2 88 k (108 + 3 * r + j) (by omega) (by omega) (by omega), u2 86 r j (by omega) (by omega) (by omega), u2 88 k (108 + 3 * r + j) (by omega) (by omega) (by omega), E4 86 r j (by omega) (by omega), E4 88 k (108 + 3 * r + j) (by omega) (by omega)]
    · rw [Z4 g i j q1 q2 q3 q4 q5 q6 (by omega) (by omega), E4 g i j (by omega) (by omega)]
    · rw [h4, f4, z4, y3, x4, w4, u4, L4]
    · have e8 := y4 hb0
      have st : ∀ g i j, g ≠ 88 → g ≠ 48 → ab.1 g i j = σ.1 g i j := fun g i j n1 n2 => by
        have c1 : ab.1 g i j = aa.1 g i j := by
          by_cases c : g = 86 ∧ i < 5 ∧ j < 3
          · obtain ⟨rfl, c2, c3⟩ := c
            rw [(h1 i j c2 c3).1, if_pos hb0]
          · exact h2 g i j c (by omega) (by omega)
        have c2 : aa.1 g i j = a9.1 g i j := by
          by_cases c : g = 84 ∧ i < 10 ∧ j < 2
          · obtain ⟨rfl, c2, c3⟩ := c
            rw [(f1 i j c2 c3).1, if_pos hb0]
          · exact f2 g i j c (by omega) (by omega)
        have c3 : a9.1 g i j = a8.1 g i j := by
          by_cases c : g = 82 ∧ i < 10 ∧ j < 6
          · obtain ⟨rfl, c2, c3⟩ := c
            rw [(z1 i j c2 c3).1, if_pos hb0]
          · exact z2 g i j c (by omega) (by omega)
        have c5 : a7.1 g i j = a6.1 g i j := by
          by_cases c : g = 58 ∧ i = 0 ∧ j < 6
          · obtain ⟨rfl, rfl, cj⟩ := c
            rw [(x1 j cj).1, if_pos hb0]
          · exact x2 g i j c (by omega) (by omega)
        have c6 : a6.1 g i j = a5.1 g i j := by
          by_cases c : g = 62 ∧ i = 0 ∧ j < 8
          · obtain ⟨rfl, rfl, cj⟩ := c
            rw [(w1 j cj).1, if_pos hb0]
          · exact w2 g i j c (by omega) (by omega)
        have c7 : a5.1 g i j = a4.1 g i j := by
          by_cases c : g = 61 ∧ i = 0 ∧ j < 10
          · obtain ⟨rfl, rfl, cj⟩ := c
            rw [(u1 j cj).1, if_pos hb0]
          · exact u2 g i j c (by omega) (by omega)
        rw [c1, c2, c3, e8, c5, c6, c7, E4 g i j (by omega) (by omega)]
      exact st g i j (by omega) (by omega)
  have hw : ∀ j, j < 6 → a7.1 58 0 j = (if bk = 0 then σ.1 58 0 j else σ.1 88 k (22 + j)) := fun j hj => by
    rw [(x1 j hj).1, w2 58 0 j (by omega) (by omega) (by omega), w2 88 k (22 + j) (by omega) (by omega) (by omega), u2 58 0 j (by omega) (by omega) (by omega), u2 88 k (22 + j) (by omega) (by omega) (by omega), E4 58 0 j (by omega) (by omega), E4 88 k (22 + j) (by omega) (by omega)]
  by_cases hb0 : bk = 0
  · refine n_fix (fun m x σ' => x = (nI k, bk, r4) ∧ σ' = a7) ?_ F 0 _ _ (by omega) ⟨rfl, rfl⟩
    rintro rr m x σ' ⟨rfl, rfl⟩ ih
    unfold f_X6_movesAll_b91
    dsimp only
    have hgo := hrest σ' (fun j hj => by rw [hw j hj, if_pos hb0, if_pos hb0]) (fun _ _ _ _ => rfl) rfl (fun _ => rfl)
    exact n_if (fun _ => hgo) (fun _ => n_t hb0 hgo)
  · obtain ⟨hd, hd6, ehd⟩ := hh hb0
    rw [if_neg hb0, ehd] at t1
    rw [t1]
    refine n_fix (fun m x σ' => ∃ j, x = (nI k, bk, nI j) ∧ hd ≤ j ∧ j ≤ 6 ∧ m = 6 - j ∧ (∀ u, u < 6 → σ'.1 58 0 u = (if u < hd ∨ j ≤ u then σ.1 88 k (22 + u) else 10)) ∧ (∀ g i j, g ≠ 58 → σ'.1 g i j = a7.1 g i j) ∧ σ'.2 = a7.2) ?_ F (6 - hd) _ _ (by omega) ⟨hd, rfl, by omega, hd6, rfl, fun u hu => by rw [hw u hu, if_neg hb0, if_pos (by omega)], fun _ _ _ _ => rfl, rfl⟩
    rintro rr m x σ' ⟨j, rfl, hj, hj6, rfl, hI, hE, hl⟩ ih
    unfold f_X6_movesAll_b91
    dsimp only
    rw [nI_c (by omega), nI_s (by omega)]
    refine n_if (fun q => ?_) (fun q => n_f hb0 ?_)
    · have q : nI 6 ≤ nI j := q
      rw [nJ_le (by omega) (by omega)] at q
      refine hrest σ' (fun u hu => ?_) hE hl (fun z => absurd z hb0)
      rw [hI u hu, if_neg hb0, ehd]
      by_cases z : u < hd
      · rw [if_pos (Or.inl z), if_pos (by rw [nJ_lt (by omega) (by omega)]; exact z)]
      · rw [if_neg (by omega), if_neg (by rw [nJ_lt (by omega) (by omega)]; exact z)]
    · have q : ¬ nI 6 ≤ nI j := q
      rw [nJ_le (by omega) (by omega)] at q
      refine n_g ((nI_kin (by omega)).mpr (by omega)) (n_b (ih (6 - (j + 1)) _ _ (by omega) ⟨j + 1, rfl, by omega, by omega, rfl, fun u hu => ?_, fun g i j' q1 => ?_, hl⟩))
      · rw [kU_at]
        by_cases z : u = j
        · rw [if_pos ⟨rfl, rfl, z⟩, if_neg (by omega)]
        · rw [if_neg (fun k => z k.2.2), hI u hu]
          by_cases z2 : u < hd ∨ j ≤ u
          · rw [if_pos z2, if_pos (by omega)]
          · rw [if_neg z2, if_neg (by omega)]
      · rw [kU_at, if_neg (by omega)]; exact hE g i j' q1
