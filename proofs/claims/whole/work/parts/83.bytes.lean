/-! BYTES, WORDS, NUMBERS: the reference's. -/
theorem by_all : ∀ k : Fin 256, ((nI k.val).toInt8.toInt32 &&& 255) = nI k.val ∧ ((nI k.val).toInt8.toInt32).toInt = (if k.val < 128 then (k.val : Int) else (k.val : Int) - 256) := by decide +kernel
/-- the text: n bytes, as numbers 0 to 255 -/
def txt (u : Nat → Nat) (n : Nat) : Prop := n ≤ 300 ∧ ∀ k, k < n → u k < 256
def refT (u : Nat → Nat) (n : Nat) (τ : kS) : Prop := τ.1 48 0 2 = nI n ∧ ∀ k, k < n → τ.1 49 0 k = nI (u k)
theorem kU_id {σ : kS} {g i k : Nat} {v : Int32} (h : σ.1 g i k = v) : kU σ g i k v = σ := by
  refine Prod.ext ?_ rfl
  funext g' i' k'
  show (if g' = g ∧ i' = i ∧ k' = k then v else σ.1 g' i' k') = _
  by_cases z : g' = g ∧ i' = i ∧ k' = k
  · obtain ⟨rfl, rfl, rfl⟩ := z
    rw [if_pos ⟨rfl, rfl, rfl⟩, h]
  · rw [if_neg z]
theorem kU_kU {σ : kS} {g i k : Nat} {v w : Int32} : kU (kU σ g i k v) g i k w = kU σ g i k w := by
  refine Prod.ext ?_ rfl
  funext g' i' k'
  show (if g' = g ∧ i' = i ∧ k' = k then w else (if g' = g ∧ i' = i ∧ k' = k then v else σ.1 g' i' k')) = (if g' = g ∧ i' = i ∧ k' = k then w else σ.1 g' i' k')
  by_cases z : g' = g ∧ i' = i ∧ k' = k
  · rw [if_pos z, if_pos z]
  · rw [if_neg z, if_neg z, if_neg z]
/-- the reference at place a -/
abbrev atA (τ : kS) (a : Nat) : kS := kU τ 48 0 4 (nI a)
theorem refT_u {u : Nat → Nat} {n : Nat} {τ : kS} {k : Nat} {v : Int32} (h : refT u n τ) (hk : k ≠ 2) : refT u n (kU τ 48 0 k v) := ⟨by rw [kU_k (fun e => hk e.symm)]; exact h.1, fun j hj => by rw [kU_g (by decide)]; exact h.2 j hj⟩
def byU (u : Nat → Nat) (n a : Nat) : Int32 := if a < n then nI (u a) else -1
theorem m_byte {F : Nat} {u : Nat → Nat} {n a : Nat} {τ : kS} (hu : txt u n) (h : refT u n τ) (ha : a ≤ 1000) : f_X6_byteAt F (nI a) τ = some (.inl (some (.int (byU u n a))), τ) := by
  obtain ⟨hn, -⟩ := hu
  unfold f_X6_byteAt f_X6_byteAt_b18 byU
  rw [h.1]
  by_cases z : a < n
  · rw [if_pos (by rw [nJ_lt (by omega) (by omega)]; exact z), kg_t ((nI_kin (by omega)).mpr (by omega)), nI_c (by omega), h.2 a z, if_pos z]
  · rw [if_neg (by rw [nJ_lt (by omega) (by omega)]; exact z), if_neg z]
theorem byU_eq {u : Nat → Nat} {n a v : Nat} (hu : txt u n) (hv : v < 256) : byU u n a = nI v ↔ a < n ∧ u a = v := by
  unfold byU
  by_cases z : a < n
  · have := hu.2 a z
    rw [if_pos z, nI_inj (by omega) (by omega)]
    exact ⟨fun h => ⟨z, h⟩, fun h => h.2⟩
  · rw [if_neg z]
    refine ⟨fun h => ?_, fun h => absurd h.1 z⟩
    have h := i_eq.mp h
    rw [nI_toInt (by omega)] at h
    have h : (-1 : Int) = v := h
    omega
theorem byU_lt {u : Nat → Nat} {n a v : Nat} (hu : txt u n) (hv : v < 256) : byU u n a < nI v ↔ ¬ (a < n ∧ v ≤ u a) := by
  unfold byU
  by_cases z : a < n
  · have := hu.2 a z
    rw [if_pos z, nJ_lt (by omega) (by omega)]
    omega
  · rw [if_neg z, i_lt, nI_toInt (by omega)]
    show (-1 : Int) < _ ↔ _
    omega
theorem lt_byU {u : Nat → Nat} {n a v : Nat} (hu : txt u n) (hv : v < 256) : nI v < byU u n a ↔ a < n ∧ v < u a := by
  unfold byU
  by_cases z : a < n
  · have := hu.2 a z
    rw [if_pos z, nJ_lt (by omega) (by omega)]
    omega
  · rw [if_neg z, i_lt, nI_toInt (by omega)]
    show _ < (-1 : Int) ↔ _
    omega
/-- b is where the blanks from a on end -/
def blk (u : Nat → Nat) (n a b : Nat) : Prop := a ≤ b ∧ (∀ j, a ≤ j → j < b → j < n ∧ u j = 32) ∧ ¬ (b < n ∧ u b = 32)
theorem blk_ex {u : Nat → Nat} {n : Nat} : ∀ (m a : Nat), m = n - a → ∃ b, blk u n a b ∧ (b ≤ n ∨ b = a)
  | 0, a, h => ⟨a, ⟨Nat.le_refl _, fun j h1 h2 => absurd h1 (by omega), fun z => by omega⟩, Or.inr rfl⟩
  | m + 1, a, h => by
    by_cases z : u a = 32
    · obtain ⟨b, ⟨b1, b2, b3⟩, b4⟩ := blk_ex (u := u) (n := n) m (a + 1) (by omega)
      refine ⟨b, ⟨by omega, fun j h1 h2 => ?_, b3⟩, Or.inl (by omega)⟩
      by_cases k : j = a
      · subst k; exact ⟨by omega, z⟩
      · exact b2 j (by omega) h2
    · exact ⟨a, ⟨Nat.le_refl _, fun j h1 h2 => absurd h1 (by omega), fun k => z k.2⟩, Or.inr rfl⟩
theorem m_blanks {F : Nat} (hF : 2000 ≤ F) {u : Nat → Nat} {n a b : Nat} {τ : kS} (hu : txt u n) (h : refT u n τ) (hat : τ.1 48 0 4 = nI a) (ha : a ≤ 400) (hb : blk u n a b) : f_X6_blanks F τ = some (.inl none, atA τ b) := by
  obtain ⟨b1, b2, b3⟩ := hb
  have hn := hu.1
  have hb4 : b ≤ 400 := by
    by_cases z : a = b
    · omega
    · have := (b2 (b - 1) (by omega) (by omega)).1; omega
  have hg : RV (f_X6_blanks F τ) (fun τ' => τ' = atA τ b) := by
    unfold f_X6_blanks
    refine n_fix (fun m x τ' => ∃ j, a ≤ j ∧ j ≤ b ∧ m = b - j ∧ τ' = atA τ j) ?_ F (b - a) _ τ (by omega) ⟨a, Nat.le_refl _, b1, rfl, (kU_id hat).symm⟩
    rintro rr m x τ' ⟨j, j1, j2, rfl, rfl⟩ ih
    unfold f_X6_blanks_b0
    dsimp only
    rw [show (atA τ j).1 48 0 4 = nI j from kU_here, m_byte hu (refT_u h (by decide)) (by omega), s_bi]
    by_cases z : j = b
    · subst z
      refine n_f ?_ (n_v rfl)
      rw [show (32 : Int32) = nI 32 from rfl, byU_eq hu (by omega)]
      exact b3
    · refine n_t ?_ (n_b ?_)
      · rw [show (32 : Int32) = nI 32 from rfl, byU_eq hu (by omega)]
        exact b2 j j1 (by omega)
      · rw [show (atA τ j).1 48 0 4 = nI j from kU_here, nI_s (by omega), kU_kU]
        exact ih (b - (j + 1)) _ _ (by omega) ⟨j + 1, by omega, by omega, rfl, rfl⟩
  obtain ⟨τ', e, rfl⟩ := rv_get hg
  exact e
def isD (x : Nat) : Prop := 48 ≤ x ∧ x ≤ 57
def isL (x : Nat) : Prop := 97 ≤ x ∧ x ≤ 122
theorem m_isDigit {F : Nat} {u : Nat → Nat} {n a : Nat} {τ : kS} (hu : txt u n) : (a < n ∧ isD (u a) → f_X6_isDigit F (byU u n a) τ = some (.inl (some (.int 1)), τ)) ∧ (¬ (a < n ∧ isD (u a)) → f_X6_isDigit F (byU u n a) τ = some (.inl (some (.int 0)), τ)) := by
  unfold f_X6_isDigit f_X6_isDigit_b16 f_X6_isDigit_b17 isD
  refine ⟨fun h => ?_, fun h => ?_⟩
  · rw [if_neg, if_neg]
    · rfl
    · rw [show (57 : Int32) = nI 57 from rfl, lt_byU hu (by omega)]; omega
    · rw [show (48 : Int32) = nI 48 from rfl, byU_lt hu (by omega)]; omega
  · by_cases z : byU u n a < 48
    · rw [if_pos z]; rfl
    · rw [if_neg z, if_pos]
      · rfl
      · rw [show (48 : Int32) = nI 48 from rfl, byU_lt hu (by omega)] at z
        rw [show (57 : Int32) = nI 57 from rfl, lt_byU hu (by omega)]
        omega
/-- the end of digits, of letters, from a on -/
def runE (p : Nat → Prop) (n a b : Nat) : Prop := a ≤ b ∧ (∀ j, a ≤ j → j < b → j < n ∧ p j) ∧ ¬ (b < n ∧ p b)
def nmS' (u : Nat → Nat) (a : Nat) : Nat → Nat
  | 0 => 0
  | k + 1 => min 100000 (10 * nmS' u a k + (u (a + k) - 48))
theorem nmS'_le {u : Nat → Nat} {a : Nat} : ∀ k, nmS' u a k ≤ 100000
  | 0 => by show 0 ≤ 100000; omega
  | k + 1 => Nat.min_le_left _ _
theorem m_numLoop {F : Nat} (hF : 2000 ≤ F) {u : Nat → Nat} {n a b : Nat} {τ : kS} {lo hi x3 : Int32} (hu : txt u n) (h : refT u n τ) (hat : τ.1 48 0 4 = nI a) (ha : a ≤ 400) (hb : runE (fun j => isD (u j)) n a b) {Q : Option Value → kS → Prop}
    (hnx : Rn (if lo ≤ nI (nmS' u a (b - a)) ∧ nI (nmS' u a (b - a)) ≤ hi then (some (.inl (some (.int (nI (nmS' u a (b - a))))), atA τ b)) else kBv (f_X6_wrong F 2 x3 (atA τ b)) fun σ10 => some (.inl (some (.int (nI (nmS' u a (b - a))))), σ10)) Q) :
    Rn (kFix (f_X6_numberHere_b44 F) F (lo, hi, x3, 0) τ) Q := by
  obtain ⟨b1, b2, b3⟩ := hb
  have hn := hu.1
  have hb4 : b ≤ 400 := by
    by_cases z : a = b
    · omega
    · have := (b2 (b - 1) (by omega) (by omega)).1; omega
  refine n_fix (fun m x τ' => ∃ j, a ≤ j ∧ j ≤ b ∧ m = b - j ∧ x = (lo, hi, x3, nI (nmS' u a (j - a))) ∧ τ' = atA τ j) ?_ F (b - a) _ τ (by omega) ⟨a, Nat.le_refl _, b1, rfl, by rw [Nat.sub_self]; rfl, (kU_id hat).symm⟩
  rintro rr m x τ' ⟨j, j1, j2, rfl, rfl, rfl⟩ ih
  unfold f_X6_numberHere_b44 f_X6_numberHere_b122 f_X6_numberHere_b91
  dsimp only
  rw [show (atA τ j).1 48 0 4 = nI j from kU_here, m_byte hu (refT_u h (by decide)) (by omega), s_bi]
  by_cases z : j = b
  · subst z
    rw [(m_isDigit hu).2 b3, s_bi]
    refine n_t rfl ?_
    rw [x_in, s_bi]
    by_cases c : lo ≤ nI (nmS' u a (j - a)) ∧ nI (nmS' u a (j - a)) ≤ hi
    · rw [if_pos c]
      rw [if_pos c] at hnx
      exact n_f (by decide) hnx
    · rw [if_neg c]
      rw [if_neg c] at hnx
      exact n_t rfl hnx
  · obtain ⟨d1, d2⟩ := b2 j j1 (by omega)
    have d2 : isD (u j) := d2
    have d3 : 48 ≤ u j ∧ u j ≤ 57 := d2
    rw [(m_isDigit hu).1 ⟨d1, d2⟩, s_bi]
    refine n_f (by decide) ?_
    rw [show (atA τ j).1 48 0 4 = nI j from kU_here, m_byte hu (refT_u h (by decide)) (by omega), s_bi, s_b]
    have hle := nmS'_le (u := u) (a := a) (j - a)
    have ev : 10 * nI (nmS' u a (j - a)) + byU u n j - 48 = nI (10 * nmS' u a (j - a) + (u j - 48)) := by
      have e1 : (10 * nI (nmS' u a (j - a))).toInt = 10 * (nmS' u a (j - a) : Int) := by
        rw [i_mul, nI_toInt (by omega)]
        · rfl
        · rw [nI_toInt (by omega)]; show _ ≤ (10 : Int) * _; omega
        · rw [nI_toInt (by omega)]; show (10 : Int) * _ < _; omega
      have e2 : byU u n j = nI (u j) := if_pos d1
      have e3 : (10 * nI (nmS' u a (j - a)) + byU u n j).toInt = 10 * (nmS' u a (j - a) : Int) + (u j : Int) := by
        rw [e2, i_add, e1, nI_toInt (by omega)] <;> rw [e1, nI_toInt (by omega)] <;> omega
      rw [i_eq, i_sub, e3, nI_toInt (by omega)]
      · show _ - (48 : Int) = _
        omega
      · rw [e3]; show _ ≤ _ - (48 : Int); omega
      · rw [e3]; show _ - (48 : Int) < _; omega
    rw [ev, show (atA τ j).1 48 0 4 = nI j from kU_here, nI_s (by omega), kU_kU]
    have es : nmS' u a (j + 1 - a) = min 100000 (10 * nmS' u a (j - a) + (u j - 48)) := by
      rw [show j + 1 - a = (j - a) + 1 by omega]
      show min 100000 (10 * nmS' u a (j - a) + (u (a + (j - a)) - 48)) = _
      rw [show a + (j - a) = j by omega]
    refine n_if (fun q => ih (b - (j + 1)) _ _ (by omega) ⟨j + 1, by omega, by omega, rfl, ?_, rfl⟩) (fun q => ih (b - (j + 1)) _ _ (by omega) ⟨j + 1, by omega, by omega, rfl, ?_, rfl⟩)
    · have q : nI (10 * nmS' u a (j - a) + (u j - 48)) ≤ nI 100000 := q
      rw [nJ_le (by omega) (by omega)] at q
      rw [es, Nat.min_eq_right q]
    · have q : ¬ nI (10 * nmS' u a (j - a) + (u j - 48)) ≤ nI 100000 := q
      rw [nJ_le (by omega) (by omega)] at q
      rw [es, Nat.min_eq_left (by omega)]
      rfl
/-! words -/
def wvS (u : Nat → Nat) (a : Nat) : Nat → Nat
  | 0 => 0
  | k + 1 => if k < 6 then 27 * wvS u a k + (u (a + k) - 96) else wvS u a k
theorem wvS_le {u : Nat → Nat} {n a b : Nat} (hb : runE (fun j => isL (u j)) n a b) : ∀ k, k ≤ b - a → k ≤ 6 → wvS u a k < 27 ^ k
  | 0, _, _ => by show 0 < 27 ^ 0; omega
  | k + 1, h1, h2 => by
    have ih := wvS_le hb k (by omega) (by omega)
    have hl : isL (u (a + k)) := (hb.2.1 (a + k) (by omega) (by omega)).2
    have hl : 97 ≤ u (a + k) ∧ u (a + k) ≤ 122 := hl
    show (if k < 6 then _ else _) < _
    rw [if_pos (by omega), Nat.pow_succ]
    omega
theorem wvS_st {u : Nat → Nat} {a : Nat} : ∀ k, 6 ≤ k → wvS u a k = wvS u a 6
  | 0, h => absurd h (by omega)
  | k + 1, h => by
    by_cases z : k + 1 = 6
    · rw [z]
    · show (if k < 6 then _ else _) = _
      rw [if_neg (by omega)]
      exact wvS_st k (by omega)
theorem wvS_b {u : Nat → Nat} {n a b : Nat} (hb : runE (fun j => isL (u j)) n a b) {k : Nat} (hk : k ≤ b - a) : wvS u a k < 387420489 := by
  by_cases z : k ≤ 6
  · have := wvS_le hb k hk z
    have hp : 27 ^ k ≤ 27 ^ 6 := Nat.pow_le_pow_right (by omega) z
    have : (27 ^ 6 : Nat) = 387420489 := by decide
    omega
  · rw [wvS_st k (by omega)]
    have := wvS_le hb 6 (by omega) (by omega)
    have : (27 ^ 6 : Nat) = 387420489 := by decide
    omega
theorem m_wordLoop {F : Nat} (hF : 2000 ≤ F) {u : Nat → Nat} {n a b : Nat} {τ : kS} (hu : txt u n) (h : refT u n τ) (hat : τ.1 48 0 4 = nI a) (ha : a ≤ 400) (hb : runE (fun j => isL (u j)) n a b) :
    kFix (f_X6_wordHere_b8 F) F (0, 0) τ = some (.inl (some (.int (if b - a ≤ 6 then nI (wvS u a (b - a)) else -1))), τ) := by
  have hbb := hb
  obtain ⟨b1, b2, b3⟩ := hb
  have hn := hu.1
  have hb4 : b ≤ 400 := by
    by_cases z : a = b
    · omega
    · have := (b2 (b - 1) (by omega) (by omega)).1; omega
  refine ri_same ?_
  refine n_fix (fun m x τ' => ∃ k, k ≤ b - a ∧ m = b - a - k ∧ x = (nI (wvS u a k), nI k) ∧ τ' = τ) ?_ F (b - a) _ τ (by omega) ⟨0, by omega, rfl, rfl, rfl⟩
  rintro rr m x τ' ⟨k, k1, rfl, rfl, rfl⟩ ih
  unfold f_X6_wordHere_b8 f_X6_wordHere_b75 f_X6_wordHere_b86 f_X6_wordHere_b68
  dsimp only
  have eak : nI a + nI k = nI (a + k) := by
    rw [i_eq, i_add, nI_toInt (by omega), nI_toInt (by omega), nI_toInt (by omega)]
    · omega
    · rw [nI_toInt (by omega), nI_toInt (by omega)]; omega
    · rw [nI_toInt (by omega), nI_toInt (by omega)]; omega
  rw [hat, eak, m_byte hu h (by omega), s_bi]
  have hex : ∀ Q : Option Value → kS → Prop, k = b - a → Rn (some (.inl (some (.int (if b - a ≤ 6 then nI (wvS u a (b - a)) else -1))), τ')) Q → Rn (if nI k ≤ 6 then some (.inl (some (.int (nI (wvS u a k)))), τ') else some (.inl (some (.int (-1))), τ')) Q := fun Q hk hq => by
    subst hk
    by_cases z : b - a ≤ 6
    · rw [if_pos z] at hq
      exact n_t (by show nI (b - a) ≤ nI 6; rw [nJ_le (by omega) (by omega)]; exact z) hq
    · rw [if_neg z] at hq
      exact n_f (by show ¬ nI (b - a) ≤ nI 6; rw [nJ_le (by omega) (by omega)]; exact z) hq
  rw [hat, eak, m_byte hu h (by omega), s_bi]
  by_cases z : k = b - a
  · have hnl : ¬ (a + k < n ∧ 97 ≤ u (a + k) ∧ u (a + k) ≤ 122) := by
      rw [show a + k = b by omega]; exact b3
    refine n_if (fun _ => hex _ z (n_i ⟨rfl, rfl⟩)) (fun q1 => n_t ?_ (hex _ z (n_i ⟨rfl, rfl⟩)))
    rw [show (97 : Int32) = nI 97 from rfl, byU_lt hu (by omega)] at q1
    rw [show (122 : Int32) = nI 122 from rfl, lt_byU hu (by omega)]
    omega
  · obtain ⟨d1, d2⟩ := b2 (a + k) (by omega) (by omega)
    have d3 : 97 ≤ u (a + k) ∧ u (a + k) ≤ 122 := d2
    refine n_f ?_ (n_f ?_ ?_)
    · rw [show (97 : Int32) = nI 97 from rfl, byU_lt hu (by omega)]; omega
    · rw [show (122 : Int32) = nI 122 from rfl, lt_byU hu (by omega)]; omega
    · rw [hat, eak, m_byte hu h (by omega), s_bi, nI_s (by omega)]
      have es : wvS u a (k + 1) = if k < 6 then 27 * wvS u a k + (u (a + k) - 96) else wvS u a k := rfl
      refine n_if (fun q => ih (b - a - (k + 1)) _ _ (by omega) ⟨k + 1, by omega, rfl, ?_, rfl⟩) (fun q => ih (b - a - (k + 1)) _ _ (by omega) ⟨k + 1, by omega, rfl, ?_, rfl⟩)
      · have q : nI 6 ≤ nI k := q
        rw [nJ_le (by omega) (by omega)] at q
        rw [es, if_neg (by omega)]
      · have q : ¬ nI 6 ≤ nI k := q
        rw [nJ_le (by omega) (by omega)] at q
        rw [es, if_pos (by omega)]
        have hwk := wvS_le hbb k (by omega) (by omega)
        have hp : 27 ^ k ≤ 27 ^ 5 := Nat.pow_le_pow_right (by omega) (by omega)
        have h5 : (27 ^ 5 : Nat) = 14348907 := by decide
        have e1 : (27 * nI (wvS u a k)).toInt = 27 * (wvS u a k : Int) := by
          rw [i_mul, nI_toInt (by omega)]
          · rfl
          · rw [nI_toInt (by omega)]; show _ ≤ (27 : Int) * _; omega
          · rw [nI_toInt (by omega)]; show (27 : Int) * _ < _; omega
        have e2 : byU u n (a + k) = nI (u (a + k)) := if_pos d1
        have e3 : (27 * nI (wvS u a k) + byU u n (a + k)).toInt = 27 * (wvS u a k : Int) + (u (a + k) : Int) := by
          rw [e2, i_add, e1, nI_toInt (by omega)] <;> rw [e1, nI_toInt (by omega)] <;> omega
        have e4 : (27 * nI (wvS u a k) + byU u n (a + k) - 97).toInt = 27 * (wvS u a k : Int) + (u (a + k) : Int) - 97 := by
          rw [i_sub, e3]
          · rfl
          · rw [e3]; show _ ≤ _ - (97 : Int); omega
          · rw [e3]; show _ - (97 : Int) < _; omega
        have e5 : 27 * nI (wvS u a k) + byU u n (a + k) - 97 + 1 = nI (27 * wvS u a k + (u (a + k) - 96)) := by
          rw [i_eq, i_add, e4, nI_toInt (by omega)]
          · show _ + (1 : Int) = _
            omega
          · rw [e4]; show _ ≤ _ + (1 : Int); omega
          · rw [e4]; show _ + (1 : Int) < _; omega
        rw [e5]
