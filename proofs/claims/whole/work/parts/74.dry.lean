/-! DRY. -/
def passT (a5 a6 a7 a8 : Int32) (y : yD) (sec : Int32) (r : rS) (wet : Int32) (sf : Int32 × Int32) : rS :=
  kb (leakS y sec (yn y) (r.2.1, r.2.2.1)) fun gm =>
  kb (sparkS y sec (sf.1 - sf.2) wet r.1.2.2.2 gm.1 gm.2 (yn y) (r.2.2.2.1, r.2.2.2.2.1, r.2.2.2.2.2.1)) fun p =>
  kb (if p.2.1 = -1 then p.1 else spreadS a5 sec 8 p.1) fun fire =>
  kb (if p.2.1 = -1 then gm.1 else burnG fire a6 gm.1) fun gas =>
  kb (if p.2.1 = -1 then gm.2 else burnM fire gm.2) fun mixed =>
  kb (if sumS gas 8 < a7 then kmax 0 (r.1.2.2.2 - a8) else r.1.2.2.2) fun hgt =>
  ((wet, sf.1, sf.2, hgt), gas, mixed, fire, p.2.1, p.2.2, if sumS gas 8 < a7 ∧ hgt = 0 ∧ r.2.2.2.2.2.2 = -1 then sec else r.2.2.2.2.2.2)
theorem passS_T {n : Nat → Int32} {y : yD} {sec : Int32} {r : rS} : passS n y sec r = passT (n 5) (n 6) (n 7) (n 8) y sec r (r.1.1 + n 0) (if n 1 ≤ r.1.1 + n 0 then (kmax 0 (r.1.2.1 - n 4), kmax 0 (r.1.2.2.1 - n 3)) else (r.1.2.1, r.1.2.2.1)) := by
  unfold passS passT
  simp only [kb]
theorem runN_eq {n n' g : Nat → Int32} {y : yD} {K : Nat} (hk : ∀ k, k < 10 → k ≠ 1 → n k = n' k) (hc : ∀ s, s < K → (n 1 ≤ (runN n g y s).1.1 + n 0 ↔ n' 1 ≤ (runN n g y s).1.1 + n 0)) : ∀ s, s ≤ K → runN n g y s = runN n' g y s
  | 0, _ => by
    show begS n g = begS n' g
    unfold begS
    rw [hk 2 (by omega) (by omega), hk 9 (by omega) (by omega)]
  | s + 1, hs => by
    have ih := runN_eq hk hc s (by omega)
    have hcs := hc s (by omega)
    show passS n y (nI s) (runN n g y s) = passS n' y (nI s) (runN n' g y s)
    rw [← ih, passS_T, passS_T, ← hk 0 (by omega) (by omega), ← hk 3 (by omega) (by omega), ← hk 4 (by omega) (by omega), ← hk 5 (by omega) (by omega), ← hk 6 (by omega) (by omega), ← hk 7 (by omega) (by omega), ← hk 8 (by omega) (by omega)]
    by_cases z : n 1 ≤ (runN n g y s).1.1 + n 0
    · rw [if_pos z, if_pos (hcs.mp z)]
    · rw [if_neg z, if_neg (fun k => z (hcs.mpr k))]
theorem runN_wet {n g : Nat → Int32} {y : yD} (hR : rng (n 0) 0 99) : ∀ s, s ≤ 100 → (runN n g y s).1.1.toInt = (s : Int) * (n 0).toInt
  | 0, _ => by
    show (0 : Int) = ((0 : Nat) : Int) * _
    simp
  | s + 1, hs => by
    have ih := runN_wet (g := g) (y := y) hR s (by omega)
    obtain ⟨r1, r2⟩ := hR
    have e : (runN n g y (s + 1)).1.1 = (runN n g y s).1.1 + n 0 := rfl
    have m1 : 0 ≤ (s : Int) * (n 0).toInt := Int.mul_nonneg (by omega) r1
    have m2 : (s : Int) * (n 0).toInt ≤ 100 * 99 := Int.le_trans (Int.mul_le_mul_of_nonneg_left r2 (by omega)) (Int.mul_le_mul_of_nonneg_right (by omega) (by omega))
    rw [e, i_add, ih]
    · rw [show ((s + 1 : Nat) : Int) = (s : Int) + 1 from by omega, Int.add_mul, Int.one_mul]
    · rw [ih]; omega
    · rw [ih]; omega
def frI (n : Nat → Int32) : Int32 := if n 0 < n 1 then (if 0 < n 0 then kmin 100 ((n 1 - 1) / n 0) else 100) else 0
theorem frI_spec {n : Nat → Int32} (hR : rng (n 0) 0 99) (hL : rng (n 1) 0 999) : ∃ d : Nat, d ≤ 100 ∧ frI n = nI d ∧ ∀ s : Nat, s < 100 → ((n 1).toInt ≤ ((s : Int) + 1) * (n 0).toInt ↔ d ≤ s) := by
  obtain ⟨r1, r2⟩ := hR
  obtain ⟨l1, l2⟩ := hL
  unfold frI
  by_cases c1 : n 0 < n 1
  · rw [if_pos c1]
    rw [i_lt] at c1
    by_cases c2 : 0 < n 0
    · rw [if_pos c2]
      rw [i_lt] at c2
      have c2 : 0 < (n 0).toInt := c2
      have e1 : (n 1 - 1).toInt = (n 1).toInt - 1 := by
        rw [i_sub]
        · rfl
        · show _ ≤ _ - (1 : Int); omega
        · show _ - (1 : Int) < _; omega
      have hne : n 0 ≠ -1 := fun z => by rw [z] at c2; exact absurd c2 (by decide)
      have e2 : ((n 1 - 1) / n 0).toInt = ((n 1).toInt - 1) / (n 0).toInt := by
        rw [Int32.toInt_div_of_ne_right _ _ hne, e1, Int.tdiv_eq_ediv_of_nonneg (by omega)]
      obtain ⟨q, hq⟩ : ∃ q, q = ((n 1).toInt - 1) / (n 0).toInt := ⟨_, rfl⟩
      have q0 : 0 ≤ q := by rw [hq]; exact Int.ediv_nonneg (by omega) (by omega)
      have hiff : ∀ s : Nat, ((n 1).toInt ≤ ((s : Int) + 1) * (n 0).toInt ↔ q ≤ s) := fun s => by
        have h1 : q < (s : Int) + 1 ↔ (n 1).toInt - 1 < ((s : Int) + 1) * (n 0).toInt := by rw [hq]; exact Int.ediv_lt_iff_lt_mul c2
        omega
      unfold kmin
      by_cases c3 : (n 1 - 1) / n 0 < 100
      · rw [if_pos c3]
        rw [i_lt, e2, ← hq] at c3
        have c3 : q < 100 := c3
        refine ⟨q.toNat, by omega, ?_, fun s hs => ?_⟩
        · rw [i_eq, e2, ← hq, nI_toInt (by omega)]; omega
        · rw [hiff s]; omega
      · rw [if_neg c3]
        rw [i_lt, e2, ← hq] at c3
        have c3 : ¬ q < 100 := c3
        refine ⟨100, by omega, rfl, fun s hs => ?_⟩
        rw [hiff s]; omega
    · rw [if_neg c2]
      rw [i_lt] at c2
      have c2 : ¬ 0 < (n 0).toInt := c2
      have z : (n 0).toInt = 0 := by omega
      refine ⟨100, by omega, rfl, fun s hs => ?_⟩
      rw [z, Int.mul_zero]
      omega
  · rw [if_neg c1]
    rw [i_lt] at c1
    refine ⟨0, by omega, rfl, fun s hs => ?_⟩
    have m : (n 0).toInt ≤ ((s : Int) + 1) * (n 0).toInt := by
      rw [Int.add_mul, Int.one_mul]
      have := Int.mul_nonneg (show 0 ≤ (s : Int) by omega) r1
      omega
    omega
theorem cond_iff {n g : Nat → Int32} {y : yD} (hR : rng (n 0) 0 99) {s : Nat} (hs : s < 100) {x : Int32} : (x ≤ (runN n g y s).1.1 + n 0 ↔ x.toInt ≤ ((s : Int) + 1) * (n 0).toInt) := by
  have e : (runN n g y (s + 1)).1.1 = (runN n g y s).1.1 + n 0 := rfl
  have w := runN_wet (g := g) (y := y) hR (s + 1) (by omega)
  rw [e] at w
  rw [i_le, w]
  rfl
theorem setS_1 {y : yD} {n n' : Nat → Int32} (h : ∀ k, k ≠ 1 → n k = n' k) : ∀ j, (∀ k, k ≠ 1 → setS y j n k = setS y j n' k) ∧ ((setS y j n 1 = n 1 ∧ setS y j n' 1 = n' 1) ∨ setS y j n 1 = setS y j n' 1)
  | 0 => ⟨h, Or.inl ⟨rfl, rfl⟩⟩
  | j + 1 => by
    obtain ⟨i1, i2⟩ := setS_1 (y := y) h j
    have e : ∀ n, setS y (j + 1) n = if yk y j = -19 then up (setS y j n) (yt y j) (ya y j) else setS y j n := fun n => rfl
    rw [e, e]
    by_cases z : yk y j = -19
    · rw [if_pos z, if_pos z]
      refine ⟨fun k hk => ?_, ?_⟩
      · rw [up_at, up_at]
        by_cases q : k = yt y j
        · rw [if_pos q, if_pos q]
        · rw [if_neg q, if_neg q]; exact i1 k hk
      · rw [up_at, up_at]
        by_cases q : 1 = yt y j
        · rw [if_pos q, if_pos q]; exact Or.inr rfl
        · rw [if_neg q, if_neg q]; exact i2
    · rw [if_neg z, if_neg z]; exact ⟨i1, i2⟩
/-- the first fire with other LEADS -/
def drF (n0 g : Nat → Int32) (y : yD) (v : Nat) : Int32 := (runS (up n0 1 (nI v)) g y 100).2.2.2.2.1
def drN (n0 : Nat → Int32) (y : yD) (v : Nat) : Nat → Int32 := setS y (yn y) (up n0 1 (nI v))
theorem drF_N {n0 g : Nat → Int32} {y : yD} {v : Nat} : drF n0 g y v = (runN (drN n0 y v) g y 100).2.2.2.2.1 := by
  unfold drF drN
  rw [runS]
theorem drN_rng {n0 : Nat → Int32} {y : yD} (hy : wfY y) (hn : ∀ k, k < 10 → rng (n0 k) (leastN k) (mostN k)) {v : Nat} (hv : v < 1000) : ∀ k, k < 10 → rng (drN n0 y v k) (leastN k) (mostN k) := by
  refine setS_rng hy (fun k hk => ?_) (yn y) (Nat.le_refl _)
  rw [up_at]
  by_cases z : k = 1
  · rw [if_pos z, z]
    refine ⟨?_, ?_⟩
    · rw [nI_toInt (by omega)]; show (0 : Int) ≤ _; omega
    · rw [nI_toInt (by omega)]; show _ ≤ (999 : Int); omega
  · rw [if_neg z]; exact hn k hk
theorem dr_same {n0 g : Nat → Int32} {y : yD} (hy : wfY y) (hn : ∀ k, k < 10 → rng (n0 k) (leastN k) (mostN k)) {u v : Nat} (hu : u < 1000) (hv : v < 1000) (he : frI (drN n0 y u) = frI (drN n0 y v)) : drF n0 g y u = drF n0 g y v := by
  have ru := drN_rng hy hn hu
  have rv := drN_rng hy hn hv
  have hk := (setS_1 (y := y) (n := up n0 1 (nI u)) (n' := up n0 1 (nI v)) (fun k hk => by rw [up_at, up_at, if_neg hk, if_neg hk]) (yn y)).1
  obtain ⟨d, d1, d2, d3⟩ := frI_spec (ru 0 (by omega)) (ru 1 (by omega))
  obtain ⟨d', d1', d2', d3'⟩ := frI_spec (rv 0 (by omega)) (rv 1 (by omega))
  have hdd : d = d' := by rw [d2, d2', nI_inj (by omega) (by omega)] at he; exact he
  have e0 : drN n0 y u 0 = drN n0 y v 0 := hk 0 (by omega)
  rw [drF_N, drF_N, runN_eq (n := drN n0 y u) (n' := drN n0 y v) (K := 100) (fun k _ h1 => hk k h1) (fun s hs => ?_) 100 (Nat.le_refl _)]
  rw [cond_iff (ru 0 (by omega)) hs, cond_iff (ru 0 (by omega)) hs, d3 s hs, e0, d3' s hs, hdd]
theorem dr_mono {n0 : Nat → Int32} {y : yD} (hy : wfY y) (hn : ∀ k, k < 10 → rng (n0 k) (leastN k) (mostN k)) {u v : Nat} (huv : u ≤ v) (hv : v < 1000) {d d' : Nat} (hd : d ≤ 100) (hd' : d' ≤ 100) (e : frI (drN n0 y u) = nI d) (e' : frI (drN n0 y v) = nI d') : d ≤ d' := by
  have ru := drN_rng hy hn (show u < 1000 by omega)
  have rv := drN_rng hy hn hv
  obtain ⟨hk, h1⟩ := setS_1 (y := y) (n := up n0 1 (nI u)) (n' := up n0 1 (nI v)) (fun k hk => by rw [up_at, up_at, if_neg hk, if_neg hk]) (yn y)
  obtain ⟨x, x1, x2, x3⟩ := frI_spec (ru 0 (by omega)) (ru 1 (by omega))
  obtain ⟨x', x1', x2', x3'⟩ := frI_spec (rv 0 (by omega)) (rv 1 (by omega))
  have z : x = d := by rw [x2, nI_inj (by omega) (by omega)] at e; exact e
  have z' : x' = d' := by rw [x2', nI_inj (by omega) (by omega)] at e'; exact e'
  subst z z'
  have e0 : drN n0 y u 0 = drN n0 y v 0 := hk 0 (by omega)
  have hle : (drN n0 y u 1).toInt ≤ (drN n0 y v 1).toInt := by
    rcases h1 with ⟨a, b⟩ | a
    · have a : drN n0 y u 1 = nI u := a.trans (by rw [up_at, if_pos rfl])
      have b : drN n0 y v 1 = nI v := b.trans (by rw [up_at, if_pos rfl])
      rw [a, b, nI_toInt (by omega), nI_toInt (by omega)]; omega
    · have a : drN n0 y u 1 = drN n0 y v 1 := a
      rw [a]; exact Int.le_refl _
  by_cases h : x ≤ x'
  · exact h
  · exfalso
    have h2 := (x3' x' (by omega)).mpr (Nat.le_refl _)
    rw [← e0] at h2
    have := (x3 x' (by omega)).mp (Int.le_trans hle h2)
    omega
theorem dr_on {n0 g : Nat → Int32} {y : yD} (hy : wfY y) (hn : ∀ k, k < 10 → rng (n0 k) (leastN k) (mostN k)) {u v : Nat} (huv : u ≤ v) (hv : v < 1000) {d : Nat} (hd : d ≤ 100) (e : frI (drN n0 y u) = nI d) (hb : drF n0 g y u ≠ -1) (hlt : drF n0 g y u < nI d) : drF n0 g y v ≠ -1 := by
  have ru := drN_rng hy hn (show u < 1000 by omega)
  have rv := drN_rng hy hn hv
  obtain ⟨hk, h1⟩ := setS_1 (y := y) (n := up n0 1 (nI u)) (n' := up n0 1 (nI v)) (fun k hk => by rw [up_at, up_at, if_neg hk, if_neg hk]) (yn y)
  obtain ⟨x, x1, x2, x3⟩ := frI_spec (ru 0 (by omega)) (ru 1 (by omega))
  obtain ⟨x', x1', x2', x3'⟩ := frI_spec (rv 0 (by omega)) (rv 1 (by omega))
  have z : x = d := by rw [x2, nI_inj (by omega) (by omega)] at e; exact e
  subst z
  have hm := dr_mono hy hn huv hv x1 x1' x2 x2'
  have e0 : drN n0 y u 0 = drN n0 y v 0 := hk 0 (by omega)
  have hfirst : ∃ f, f < x ∧ drF n0 g y u = nI f := by
    have h0 : (runN (drN n0 y u) g y 0).2.2.2.2.1 = -1 := rfl
    have hf := runN_first_at h0 100 (by omega)
    rw [Nat.zero_add, ← drF_N] at hf
    rcases hf with z | ⟨f, f1, f2, z⟩
    · exact absurd z hb
    · refine ⟨f, ?_, z⟩
      rw [z, nJ_lt (by omega) (by omega)] at hlt
      exact hlt
  obtain ⟨f, f1, f2⟩ := hfirst
  have heq := runN_eq (n := drN n0 y u) (n' := drN n0 y v) (g := g) (y := y) (K := f + 1) (fun k _ h1 => hk k h1) (fun s hs => by
    rw [cond_iff (ru 0 (by omega)) (by omega), cond_iff (ru 0 (by omega)) (by omega), x3 s (by omega), e0, x3' s (by omega)]
    omega) (f + 1) (Nat.le_refl _)
  have hfs : (runN (drN n0 y u) g y (f + 1)).2.2.2.2.1 ≠ -1 := by
    intro z
    have hf := runN_first_at z (100 - (f + 1)) (by omega)
    rw [show f + 1 + (100 - (f + 1)) = 100 by omega, ← drF_N, f2] at hf
    rcases hf with q | ⟨w, w1, w2, q⟩
    · have q := i_eq.mp q
      rw [nI_toInt (by omega)] at q
      have q : (f : Int) = -1 := q
      omega
    · rw [nI_inj (by omega) (by omega)] at q; omega
  rw [heq] at hfs
  have hst := runN_first_st hfs (100 - (f + 1)) (by omega)
  rw [show f + 1 + (100 - (f + 1)) = 100 by omega, ← drF_N] at hst
  rw [hst]
  exact hfs
def drR (B : Nat → Int32) (r : Int32) : Prop := (r = -1 ∧ ∀ v, v < 1000 → B v ≠ -1) ∨ ∃ v, v < 1000 ∧ r = nI v ∧ B v = -1 ∧ ∀ u, u < v → B u ≠ -1
theorem drR_u {B : Nat → Int32} {r r' : Int32} (h : drR B r) (h' : drR B r') : r = r' := by
  rcases h with ⟨e, a⟩ | ⟨s, s1, e, s2, s3⟩
  · rcases h' with ⟨e', a'⟩ | ⟨s', s1', e', s2', s3'⟩
    · rw [e, e']
    · exact absurd s2' (a s' s1')
  · rcases h' with ⟨e', a'⟩ | ⟨s', s1', e', s2', s3'⟩
    · exact absurd s2 (a' s s1)
    · have : s = s' := by
        rcases Nat.lt_trichotomy s s' with z | z | z
        · exact absurd s2 (s3' s z)
        · exact z
        · exact absurd s2' (s3 s' z)
      rw [e, e', this]
theorem x_leadsFrom {F : Nat} {σ : kS} : f_X1_leadsFrom F σ = some (.inl (some (.int (frI (σ.1 35 0)))), σ) := by
  unfold f_X1_leadsFrom f_X1_leadsFrom_b51 frI
  by_cases h : σ.1 35 0 0 < σ.1 35 0 1
  · rw [if_pos h, if_pos h]
    by_cases h2 : 0 < σ.1 35 0 0
    · rw [if_pos h2, if_pos h2, kg_t (show ¬ σ.1 35 0 0 = 0 from fun z => by rw [z] at h2; exact absurd h2 (by decide))]
      rfl
    · rw [if_neg h2, if_neg h2]
  · rw [if_neg h, if_neg h]
theorem frI_cg {n n' : Nat → Int32} (h0 : n 0 = n' 0) (h1 : n 1 = n' 1) : frI n = frI n' := by
  unfold frI
  rw [h0, h1]
theorem c_dry {F : Nat} (hF : 2000 ≤ F) {σ : kS} (h : Inv σ.1) {w : Nat} (hw6 : w < 6) (hw : nI w < σ.1 48 0 13) :
    RI (kFix (f_X5_dry_b9 F) F (nI w, (-1), 0) σ) (fun r σ' => drR (drF (σ.1 61 0) (σ.1 62 0) (yOf σ.1 (w + 2))) r ∧ Fr sC σ σ') := by
  obtain ⟨n1, n2, n3⟩ := inv_n h
  have hkw : kin (nI w) 6 := (nI_kin (by omega)).mpr hw6
  have hy := wfY_of (inv_why h hw6 hw)
  obtain ⟨y, ey0⟩ : ∃ y, yOf σ.1 (w + 2) = y := ⟨_, rfl⟩
  rw [ey0] at hy ⊢
  refine n_fix (fun m x σ' => ∃ v t, x = (nI w, t, nI v) ∧ v ≤ 1000 ∧ m = 1000 - v ∧ (∀ u, u < v → drF (σ.1 61 0) (σ.1 62 0) y u ≠ -1) ∧ (t = -1 ∨ ∃ u, u < v ∧ t = frI (drN (σ.1 61 0) y u)) ∧ Fr sC σ σ') ?_ F 1000 _ σ (by omega) ⟨0, -1, rfl, by omega, rfl, fun u hu => absurd hu (by omega), Or.inl rfl, Fr.refl σ⟩
  rintro rr m x σ' ⟨v, t, rfl, hv, rfl, hI, hI2, hfr⟩ ih
  unfold f_X5_dry_b9 f_X5_dry_b96
  dsimp only
  refine n_if (fun q => ?_) (fun q => ?_)
  · have q : nI 999 < nI v := q
    rw [nJ_lt (by omega) (by omega)] at q
    exact n_i ⟨Or.inl ⟨rfl, fun u hu => hI u (by omega)⟩, hfr⟩
  have q : ¬ nI 999 < nI v := q
  rw [nJ_lt (by omega) (by omega)] at q
  have hv1 : v < 1000 := by omega
  refine n_bv x_load ?_
  rintro σ1 ⟨l1, l2, l3⟩
  have F1 : Fr sC σ σ1 := hfr.trans (l3.l (by intro g hg k; simp at hg; rcases hg with rfl | rfl <;> rfl))
  rw [nI_c (by omega), nI_s (by omega)]
  refine n_b (n_g hkw (n_b ?_))
  obtain ⟨σ2, e2⟩ : ∃ σ2, σ2 = kU σ1 35 0 1 (nI v) := ⟨_, rfl⟩
  rw [← e2]
  have F2 : Fr sC σ σ2 := by rw [e2]; exact F1.u rfl
  have ey2 : yOf σ2.1 (w + 2) = y := (yOf_fr F2 sC_y).trans ey0
  have hst := x_start (F := F) hF (σ := σ2) (i := w + 2) (n := up (σ.1 61 0) 1 (nI v)) (g := σ.1 62 0) (by omega) (by rw [ey2]; exact hy) (fun k hk => by
    rw [e2, up_at, kU_at]
    by_cases z : k = 1
    · simp [z]
    · simp [z]; exact ((l1 k hk).trans (hfr.1 21 0 k rfl)).trans (n1 k hk)) (fun c hc => by rw [e2]; exact ((l2 c hc).trans (hfr.1 22 0 c rfl)).trans (n2 c hc))
  rw [ey2] at hst
  refine n_bv hst ?_
  rintro σ3 ⟨b1, b2, b3, b4⟩
  have F3 := F2.trans b4
  have ey3 : yOf σ3.1 (w + 2) = y := (yOf_fr b4 sC_y).trans ey2
  have hfr3 : frI (σ3.1 35 0) = frI (drN (σ.1 61 0) y v) := frI_cg (b2 0 (by omega)) (b2 1 (by omega))
  rw [x_leadsFrom, s_bi, hfr3]
  obtain ⟨d, d1, d2, -⟩ := frI_spec (drN_rng hy n3 hv1 0 (by omega)) (drN_rng hy n3 hv1 1 (by omega))
  have hnext : ∀ (t' : Int32) (σ4 : kS), Fr sC σ σ4 → drF (σ.1 61 0) (σ.1 62 0) y v ≠ -1 → t' = frI (drN (σ.1 61 0) y v) → Rn (rr (nI w, t', nI (v + 1)) σ4) (fun v σ' => ∃ r, v = some (Value.int r) ∧ drR (drF (σ.1 61 0) (σ.1 62 0) y) r ∧ Fr sC σ σ') := fun t' σ4 f4 z ht => ih (1000 - (v + 1)) _ _ (by omega) ⟨v + 1, t', rfl, by omega, rfl, fun u hu => by
    by_cases k : u = v
    · subst k; exact z
    · exact hI u (by omega), Or.inr ⟨v, by omega, ht⟩, f4⟩
  refine n_if (fun q1 => ?_) (fun q1 => ?_)
  · rcases hI2 with z | ⟨u, u1, u2⟩
    · exfalso
      rw [z, d2] at q1
      have q1 := i_eq.mp q1
      rw [nI_toInt (by omega)] at q1
      have q1 : (d : Int) = -1 := q1
      omega
    · refine hnext t σ3 F3 ?_ q1.symm
      rw [← dr_same hy n3 (show u < 1000 by omega) hv1 (by rw [← u2, ← q1])]
      exact hI u u1
  · refine n_bi (x_burns hF (by omega) b3 ey3 hy b2 b1) ?_
    rintro r σ4 ⟨k1, k2, k3⟩
    have F4 := F3.trans k3
    have eF : (runN (setS y (yn y) (up (σ.1 61 0) 1 (nI v))) (σ.1 62 0) y 100).2.2.2.2.1 = drF (σ.1 61 0) (σ.1 62 0) y v := by rw [drF_N, drN]
    rw [eF] at k1 k2
    rw [k2]
    refine n_if (fun q2 => ?_) (fun q2 => ?_)
    · refine n_i ⟨Or.inr ⟨v, hv1, rfl, ?_, hI⟩, F4⟩
      by_cases z : drF (σ.1 61 0) (σ.1 62 0) y v = -1
      · exact z
      · rw [if_neg z] at k1
        rw [k1] at q2
        exact absurd q2 (by decide)
    · have hbn : drF (σ.1 61 0) (σ.1 62 0) y v ≠ -1 := fun z => by
        rw [if_pos z] at k1
        exact q2 k1
      refine n_if (fun q3 => hnext _ σ4 F4 hbn rfl) (fun q3 => n_i ⟨Or.inl ⟨rfl, fun u hu => ?_⟩, F4⟩)
      by_cases k : u < v
      · exact hI u k
      · rw [d2] at q3
        exact dr_on hy n3 (by omega) hu d1 d2 hbn (Int32.not_le.mp q3)
def sD (g k : Nat) : Bool := sR g k || (Nat.beq g 48 && Nat.beq k 41)
theorem sR_sD {σ σ' : kS} (h : Fr sR σ σ') : Fr sD σ σ' := h.sub (fun g k q => by
  have q : (sR g k || _) = false := q
  rw [Bool.or_eq_false_iff] at q
  exact q.1)
theorem m_dry {F : Nat} (hF : 2000 ≤ F) {σ : kS} (h : Inv σ.1) {w : Nat} (hw6 : w < 6) (hw : nI w < σ.1 48 0 13) :
    RI (kFix (f_X6_dry_b32 F) F (nI w, (-1), 0) σ) (fun r σ' => drR (drF (σ.1 61 0) (σ.1 62 0) (yOf σ.1 (w + 2))) r ∧ Fr sR σ σ') := by
  obtain ⟨x1, x2, x3⟩ := inv_x h
  obtain ⟨n1, n2, n3⟩ := inv_n h
  have hok := rOK_inv h hw6 hw
  obtain ⟨y, ey0⟩ : ∃ y, yOf σ.1 (w + 2) = y := ⟨_, rfl⟩
  rw [ey0] at hok ⊢
  have ho5 := (rng_nI hok.2.2.1).2
  have hend : ∀ (r : Int32) (σ' : kS), drR (drF (σ.1 61 0) (σ.1 62 0) y) r → Fr sD σ σ' → (∀ i, i ≠ 0 → σ'.1 48 i 41 = σ.1 48 i 41) → Rn (f_X6_dry_b74 F r σ') (fun v σ' => ∃ r, v = some (Value.int r) ∧ drR (drF (σ.1 61 0) (σ.1 62 0) y) r ∧ Fr sR σ σ') := by
    intro r σ' hr hfr hi0
    unfold f_X6_dry_b74
    refine n_b (n_i ⟨hr, ⟨fun g i k q => ?_, hfr.2⟩⟩)
    by_cases z : g = 48 ∧ k = 41
    · obtain ⟨rfl, rfl⟩ := z
      by_cases zi : i = 0
      · subst zi
        rw [kU_here, x2]
      · rw [kU_at, if_neg (fun q => zi q.2.1)]
        exact hi0 i zi
    · rw [kU_at, if_neg (fun q => z ⟨q.1, q.2.2⟩)]
      refine hfr.1 g i k ?_
      show (sR g k || (Nat.beq g 48 && Nat.beq k 41)) = false
      rw [q]
      by_cases z1 : g = 48
      · have z2 : k ≠ 41 := fun e => z ⟨z1, e⟩
        rw [nb_f z2]; simp
      · rw [nb_f z1]; rfl
  refine n_fix (fun m x σ' => ∃ v t, x = (nI w, t, nI v) ∧ v ≤ 1000 ∧ m = 1000 - v ∧ (t = -1 ∧ (∀ u, u < v → drF (σ.1 61 0) (σ.1 62 0) y u ≠ -1) ∨ t ≠ -1 ∧ drR (drF (σ.1 61 0) (σ.1 62 0) y) t) ∧ Fr sD σ σ' ∧ ∀ i, i ≠ 0 → σ'.1 48 i 41 = σ.1 48 i 41) ?_ F 1000 _ σ (by omega) ⟨0, -1, rfl, by omega, rfl, Or.inl ⟨rfl, fun u hu => absurd hu (by omega)⟩, Fr.refl σ, fun _ _ => rfl⟩
  rintro rr m x σ' ⟨v, t, rfl, hv, rfl, hI, hfr, hi0⟩ ih
  unfold f_X6_dry_b32 f_X6_dry_b67
  dsimp only
  refine n_if (fun q => ?_) (fun q => ?_)
  · have q : nI 1000 ≤ nI v := q
    rw [nJ_le (by omega) (by omega)] at q
    refine hend t σ' ?_ hfr hi0
    rcases hI with ⟨rfl, z⟩ | ⟨-, z⟩
    · exact Or.inl ⟨rfl, fun u hu => z u (by omega)⟩
    · exact z
  have q : ¬ nI 1000 ≤ nI v := q
  rw [nJ_le (by omega) (by omega)] at q
  refine n_if (fun q1 => ?_) (fun q1 => ?_)
  · have hI : ∀ u, u < v → drF (σ.1 61 0) (σ.1 62 0) y u ≠ -1 := by
      rcases hI with ⟨-, z⟩ | ⟨z, -⟩
      · exact z
      · exact absurd q1 z
    rw [nI_s (by omega)]
    refine n_b ?_
    obtain ⟨σ2, e2⟩ : ∃ σ2, σ2 = kU σ' 48 0 41 (nI v) := ⟨_, rfl⟩
    rw [← e2]
    have F2 : Fr sD σ σ2 := by rw [e2]; exact hfr.u rfl
    have hnow : nowS σ2.1 = up (σ.1 61 0) 1 (nI v) := by
      have g41 : σ2.1 48 0 41 = nI v := by rw [e2]; exact kU_here
      unfold nowS
      rw [g41, F2.1 48 0 39 rfl, x1, F2.1 48 0 42 rfl, x3, F2.1 48 0 45 rfl, optS_0 _ (by omega)]
      have e61 : σ2.1 61 0 = σ.1 61 0 := by funext k; exact F2.1 61 0 k rfl
      rw [e61]
      show leadS _ (σ.1 61 0) = _
      unfold leadS
      rw [if_neg]
      intro z
      have z := i_eq.mp z
      rw [nI_toInt (by omega)] at z
      have z : (v : Int) = -1 := z
      omega
    have hrn : ∀ k, k < 10 → rng (up (σ.1 61 0) 1 (nI v) k) (leastN k) (mostN k) := fun k hk => by
      rw [up_at]
      by_cases z : k = 1
      · rw [if_pos z, z]
        refine ⟨?_, ?_⟩
        · rw [nI_toInt (by omega)]; show (0 : Int) ≤ _; omega
        · rw [nI_toInt (by omega)]; show _ ≤ (999 : Int); omega
      · rw [if_neg z]; exact n3 k hk
    refine n_bv (v_runs hF (rOK_fr hok F2 (fun k => ⟨rfl, rfl, rfl, rfl⟩) rfl) hnow hrn) ?_
    rintro σ3 ⟨c1, c2⟩
    have e62 : σ2.1 62 0 = σ.1 62 0 := by funext k; exact F2.1 62 0 k rfl
    rw [e62] at c1
    have F3 := F2.trans (sR_sD c2)
    have hi3 : ∀ i, i ≠ 0 → σ3.1 48 i 41 = σ.1 48 i 41 := fun i hi => (c2.1 48 i 41 rfl).trans (by rw [e2]; simp [kU_at, hi]; exact hi0 i hi)
    have eF : σ3.1 48 0 37 = drF (σ.1 61 0) (σ.1 62 0) y v := by rw [c1.2.2.1, drF_N, drN]
    rw [eF]
    refine n_if (fun q2 => ih (1000 - (v + 1)) _ _ (by omega) ⟨v + 1, nI v, rfl, by omega, rfl, Or.inr ⟨?_, Or.inr ⟨v, by omega, rfl, q2, hI⟩⟩, F3, hi3⟩) (fun q2 => ih (1000 - (v + 1)) _ _ (by omega) ⟨v + 1, -1, rfl, by omega, rfl, Or.inl ⟨rfl, fun u hu => ?_⟩, F3, hi3⟩)
    · intro z
      have z := i_eq.mp z
      rw [nI_toInt (by omega)] at z
      have z : (v : Int) = -1 := z
      omega
    · by_cases k : u = v
      · subst k; exact q2
      · exact hI u (by omega)
  · refine hend t σ' ?_ hfr hi0
    rcases hI with ⟨z, -⟩ | ⟨-, z⟩
    · exact absurd z q1
    · exact z
theorem g_dry' {F : Nat} (hF : 2000 ≤ F) (a1 : Int32) : Good (q_dry F a1) := by
  intro nx σ h
  obtain ⟨ht, hr⟩ := inv_told h
  by_cases c1 : 0 ≤ a1 ∧ a1 < σ.1 48 0 13
  · have c1' : 0 ≤ a1 ∧ a1 < σ.1 0 0 5 := by rw [ht]; exact c1
    obtain ⟨w, hw6, rfl⟩ := nI_ex (n := 6) (kin_of (n := 6) c1.1 c1.2 hr.2)
    obtain ⟨r, σ1, e1, hr1, f1⟩ := ri_get (c_dry hF h hw6 c1.2)
    have i1 := Inv_sC f1 h
    have e13 : σ1.1 48 0 13 = σ.1 48 0 13 := f1.1 48 0 13 rfl
    have hcl : f_X5_dry F (nI w) σ = some (.inl (some (.int r)), σ1) := by
      unfold f_X5_dry
      rw [t_why, if_pos c1', s_bv, e1]
    refine top_i (k := 0) (σ2 := kUL σ1 90 0 0 r.toInt64) (by unfold w_dry; rw [hcl]; rfl) ?_
    unfold f_X6_dry
    simp only [s_b, e_whyU (σ := σ1) (by rw [e13]; exact hr), s_bi, if10, f_X6_dry_b19, z_bad0 rfl, if0, if_true, e13, if_pos c1, if1]
    refine ri_mono (m_dry hF (ent_inv i1) hw6 (by rw [ent_48 (by decide), e13]; exact c1.2)) ?_
    rintro r4 σ4 ⟨h4, f4⟩
    refine ⟨Inv_sR f4 (ent_inv i1), (f4.1 48 0 0 rfl).trans z_thr, fun _ => ?_⟩
    rw [f4.2, ent_2]
    have e61 : σ1.1 61 0 = σ.1 61 0 := by funext k; exact f1.1 61 0 k rfl
    have e62 : σ1.1 62 0 = σ.1 62 0 := by funext k; exact f1.1 62 0 k rfl
    rw [ent_1 (by decide), ent_1 (by decide), ent_y, e61, e62, yOf_fr f1 sC_y] at h4
    rw [drR_u hr1 h4]
  · have c1' : ¬ (0 ≤ a1 ∧ a1 < σ.1 0 0 5) := by rw [ht]; exact c1
    have hcl : f_X5_dry F a1 σ = some (.inr "java/util/NoSuchElementException", σ) := by
      unfold f_X5_dry
      rw [t_why, if_neg c1', s_xv]
    refine top_i (k := 1) (σ2 := σ) (by unfold w_dry; rw [hcl]; rfl) ?_
    unfold f_X6_dry
    simp only [s_b, e_why (σ := σ) hr, s_bi, if10, f_X6_dry_b19, if_neg c1, z_bad1 one_ne, if1, if0, if_true]
    exact n_i ⟨thr_inv h, z_thr, fun z => absurd z one_ne⟩
