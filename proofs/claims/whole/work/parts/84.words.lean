/-! WORDS: the same on both sides. -/
def wL : Nat → List Nat
  | 8 => [12, 5, 1, 11] | 9 => [19, 16, 1, 18, 11] | 10 => [19, 5, 20] | 11 => [6, 18, 15, 13] | 12 => [9, 6]
  | 13 => [15, 18] | 14 => [1, 14, 4] | 15 => [14, 15, 20] | 16 => [19, 5, 3, 15, 14, 4] | 17 => [7, 1, 16]
  | 18 => [23, 5, 20] | 19 => [8, 5, 9, 7, 8, 20] | 20 => [13, 9, 24, 5, 4] | 21 => [7, 1, 19] | 22 => [6, 9, 18, 5] | _ => []
def wI (w j : Nat) : Int32 := ((((kTbs.getD w []).getD j 0) &&& 255).toUInt32 % 65536).toInt32
theorem wL_ch : ∀ w : Fin 15, kTls.getD (w.val + 8) 0 = (wL (w.val + 8)).length ∧ ∀ j : Fin 6, j.val < (wL (w.val + 8)).length → wI (w.val + 8) j.val = nI (96 + (wL (w.val + 8)).getD j.val 0) ∧ narrow .char (.int (wI (w.val + 8) j.val)) = .int (wI (w.val + 8) j.val) ∧ 1 ≤ (wL (w.val + 8)).getD j.val 0 ∧ (wL (w.val + 8)).getD j.val 0 ≤ 26 := by decide +kernel
theorem wL_len : ∀ w : Fin 15, 2 ≤ (wL (w.val + 8)).length ∧ (wL (w.val + 8)).length ≤ 6 ∧ ∀ v : Fin 15, wL (v.val + 8) = wL (w.val + 8) → v = w := by decide +kernel
/-- the letters from s to e are word w's -/
def isW (u : Nat → Nat) (s e w : Nat) : Prop := e - s = (wL w).length ∧ ∀ j, j < (wL w).length → u (s + j) = 96 + (wL w).getD j 0
theorem isW_u {u : Nat → Nat} {s e v w : Nat} (h1 : isW u s e v) (h2 : isW u s e w) : wL v = wL w := by
  refine List.ext_getElem (by rw [← h1.1, ← h2.1]) fun j j1 j2 => ?_
  have a1 := h1.2 j j1
  have a2 := h2.2 j j2
  have hg : ∀ (l : List Nat) (h : j < l.length), l.getD j 0 = l[j] := fun l h => by
    rw [List.getD_eq_getElem?_getD, List.getElem?_eq_getElem h]; rfl
  rw [hg _ j1] at a1
  rw [hg _ j2] at a2
  omega
/-- which word it is: 8 to 22, or 23 for none -/
theorem wid_ex (u : Nat → Nat) (s e : Nat) : ∃ q, 8 ≤ q ∧ q ≤ 23 ∧ ∀ w, 8 ≤ w → w ≤ 22 → (isW u s e w ↔ q = w) := by
  by_cases h : ∃ w, 8 ≤ w ∧ w ≤ 22 ∧ isW u s e w
  · obtain ⟨q, q1, q2, q3⟩ := h
    refine ⟨q, q1, by omega, fun w w1 w2 => ⟨fun hw => ?_, fun e => e ▸ q3⟩⟩
    have := (wL_len ⟨w - 8, by omega⟩).2.2 ⟨q - 8, by omega⟩ (by
      show wL (q - 8 + 8) = wL (w - 8 + 8)
      rw [show q - 8 + 8 = q by omega, show w - 8 + 8 = w by omega]
      exact isW_u q3 hw)
    have := congrArg Fin.val this
    have : q - 8 = w - 8 := this
    omega
  · exact ⟨23, by omega, by omega, fun w w1 w2 => ⟨fun hw => absurd ⟨w, w1, w2, hw⟩ h, fun e => by omega⟩⟩
/-! the value of a word, to the base of 27 -/
def vN (d : Nat → Nat) : Nat → Nat
  | 0 => 0
  | k + 1 => 27 * vN d k + d k
theorem vN_inj {d e : Nat → Nat} : ∀ k m, (∀ j, j < k → 1 ≤ d j ∧ d j ≤ 26) → (∀ j, j < m → 1 ≤ e j ∧ e j ≤ 26) → vN d k = vN e m → k = m ∧ ∀ j, j < k → d j = e j
  | 0, 0, _, _, _ => ⟨rfl, fun j hj => absurd hj (by omega)⟩
  | 0, m + 1, _, he, h => by
    have := he m (by omega)
    have h : 0 = 27 * vN e m + e m := h
    omega
  | k + 1, 0, hd, _, h => by
    have := hd k (by omega)
    have h : 27 * vN d k + d k = 0 := h
    omega
  | k + 1, m + 1, hd, he, h => by
    have a := hd k (by omega)
    have b := he m (by omega)
    have h : 27 * vN d k + d k = 27 * vN e m + e m := h
    have h1 : vN d k = vN e m := by omega
    have h2 : d k = e m := by omega
    obtain ⟨rfl, ih⟩ := vN_inj k m (fun j hj => hd j (by omega)) (fun j hj => he j (by omega)) h1
    refine ⟨rfl, fun j hj => ?_⟩
    by_cases z : j = k
    · rw [z]; exact h2
    · exact ih j (by omega)
theorem vN_cg {d e : Nat → Nat} : ∀ k, (∀ j, j < k → d j = e j) → vN d k = vN e k
  | 0, _ => rfl
  | k + 1, h => by show 27 * vN d k + d k = 27 * vN e k + e k; rw [vN_cg k (fun j hj => h j (by omega)), h k (by omega)]
theorem wvS_vN {u : Nat → Nat} {a : Nat} : ∀ k, k ≤ 6 → wvS u a k = vN (fun j => u (a + j) - 96) k
  | 0, _ => rfl
  | k + 1, h => by
    show (if k < 6 then _ else _) = 27 * vN _ k + (u (a + k) - 96)
    rw [if_pos (by omega), wvS_vN k (by omega)]
def wV (w : Nat) : Nat := vN (fun j => (wL w).getD j 0) (wL w).length
theorem wV_lt : ∀ w : Fin 15, wV (w.val + 8) < 387420489 := by decide +kernel
theorem wv_iff {u : Nat → Nat} {n a b w : Nat} (hb : runE (fun j => isL (u j)) n a b) (h1 : 8 ≤ w) (h2 : w ≤ 22) : (b - a ≤ 6 ∧ wvS u a (b - a) = wV w) ↔ isW u a b w := by
  have hc := wL_ch ⟨w - 8, by omega⟩
  have hl := wL_len ⟨w - 8, by omega⟩
  rw [show (⟨w - 8, by omega⟩ : Fin 15).val + 8 = w by show w - 8 + 8 = w; omega] at hc hl
  have hd : ∀ j, j < (wL w).length → 1 ≤ (wL w).getD j 0 ∧ (wL w).getD j 0 ≤ 26 := fun j hj => (hc.2 ⟨j, by omega⟩ hj).2.2
  constructor
  · rintro ⟨k1, k2⟩
    rw [wvS_vN _ k1] at k2
    obtain ⟨e1, e2⟩ := vN_inj _ _ (fun j hj => by
      have : 97 ≤ u (a + j) ∧ u (a + j) ≤ 122 := (hb.2.1 (a + j) (by omega) (by omega)).2
      show 1 ≤ u (a + j) - 96 ∧ u (a + j) - 96 ≤ 26
      omega) hd k2
    refine ⟨e1, fun j hj => ?_⟩
    have e := e2 j (by omega)
    have : 97 ≤ u (a + j) ∧ u (a + j) ≤ 122 := (hb.2.1 (a + j) (by omega) (by omega)).2
    have e : u (a + j) - 96 = (wL w).getD j 0 := e
    omega
  · rintro ⟨k1, k2⟩
    refine ⟨by omega, ?_⟩
    rw [wvS_vN _ (by omega), k1]
    refine vN_cg _ fun j hj => ?_
    have := k2 j hj
    show u (a + j) - 96 = _
    omega
/-! the reference's -/
def wordI (a0 a1 a2 a3 a4 a5 : Int32) : Int32 :=
  let y := 27 * a0 + a1
  let y := if a2 = 0 then y else 27 * y + a2
  let y := if a3 = 0 then y else 27 * y + a3
  let y := if a4 = 0 then y else 27 * y + a4
  if a5 = 0 then y else 27 * y + a5
theorem m_word {F : Nat} {a b c d e f : Int32} {τ : kS} : f_X6_word F a b c d e f τ = some (.inl (some (.int (wordI a b c d e f))), τ) := by
  unfold f_X6_word f_X6_word_b24 f_X6_word_b42 f_X6_word_b62 f_X6_word_b82 wordI kb
  dsimp only
  by_cases h1 : c = 0 <;> by_cases h2 : d = 0 <;> by_cases h3 : e = 0 <;> by_cases h4 : f = 0 <;> simp only [h1, h2, h3, h4, if_true, if_false, reduceIte]
/-- the reference's word w, as it stands in the calls -/
def wA : Nat → Int32 × Int32 × Int32 × Int32 × Int32 × Int32
  | 8 => (12, 5, 1, 11, 0, 0) | 9 => (19, 16, 1, 18, 11, 0) | 10 => (19, 5, 20, 0, 0, 0) | 11 => (6, 18, 15, 13, 0, 0) | 12 => (9, 6, 0, 0, 0, 0)
  | 13 => (15, 18, 0, 0, 0, 0) | 14 => (1, 14, 4, 0, 0, 0) | 15 => (14, 15, 20, 0, 0, 0) | 16 => (19, 5, 3, 15, 14, 4) | 17 => (7, 1, 16, 0, 0, 0)
  | 18 => (23, 5, 20, 0, 0, 0) | 19 => (8, 5, 9, 7, 8, 20) | 20 => (13, 9, 24, 5, 4, 0) | 21 => (7, 1, 19, 0, 0, 0) | _ => (6, 9, 18, 5, 0, 0)
theorem wA_V : ∀ w : Fin 15, wordI (wA (w.val + 8)).1 (wA (w.val + 8)).2.1 (wA (w.val + 8)).2.2.1 (wA (w.val + 8)).2.2.2.1 (wA (w.val + 8)).2.2.2.2.1 (wA (w.val + 8)).2.2.2.2.2 = nI (wV (w.val + 8)) := by decide +kernel
/-- the reference asks for word w -/
def rW (F w : Nat) (τ : kS) : Option kR := f_X6_isWord F (wA w).1 (wA w).2.1 (wA w).2.2.1 (wA w).2.2.2.1 (wA w).2.2.2.2.1 (wA w).2.2.2.2.2 τ
theorem m_isWord {F : Nat} (hF : 2000 ≤ F) {u : Nat → Nat} {n a s e w : Nat} {τ : kS} (hu : txt u n) (h : refT u n τ) (hat : τ.1 48 0 4 = nI a) (ha : a ≤ 400) (hs : blk u n a s) (hs4 : s ≤ 400) (hb : runE (fun j => isL (u j)) n s e) (h1 : 8 ≤ w) (h2 : w ≤ 22) :
    (isW u s e w → rW F w τ = some (.inl (some (.int 1)), atA τ s)) ∧ (¬ isW u s e w → rW F w τ = some (.inl (some (.int 0)), atA τ s)) := by
  have hv := wA_V ⟨w - 8, by omega⟩
  have hl := wV_lt ⟨w - 8, by omega⟩
  rw [show (⟨w - 8, by omega⟩ : Fin 15).val + 8 = w by show w - 8 + 8 = w; omega] at hv hl
  have hi := wv_iff (w := w) hb h1 h2
  have hw := wvS_b hb (Nat.le_refl _)
  unfold rW f_X6_isWord f_X6_wordHere
  rw [m_blanks hF hu h hat ha hs, s_bv, m_wordLoop hF hu (refT_u h (by decide)) kU_here hs4 hb, s_bi, m_word, s_bi, hv]
  constructor
  · intro hq
    obtain ⟨q1, q2⟩ := hi.mpr hq
    rw [if_pos q1, q2, if_pos rfl]
    rfl
  · intro hq
    rw [if_neg]
    · rfl
    · intro he
      by_cases q1 : e - s ≤ 6
      · rw [if_pos q1, nI_inj (by omega) (by omega)] at he
        exact hq (hi.mp ⟨q1, he⟩)
      · rw [if_neg q1] at he
        have he := i_eq.mp he
        rw [nI_toInt (by omega)] at he
        have he : (-1 : Int) = _ := he
        omega
theorem m_skip {F : Nat} (hF : 2000 ≤ F) {u : Nat → Nat} {n a b : Nat} {τ : kS} (hu : txt u n) (h : refT u n τ) (hat : τ.1 48 0 4 = nI a) (ha : a ≤ 400) (hb : runE (fun j => isL (u j)) n a b) : f_X6_skipWord F τ = some (.inl none, atA τ b) := by
  obtain ⟨b1, b2, b3⟩ := hb
  have hn := hu.1
  have hb4 : b ≤ 400 := by
    by_cases z : a = b
    · omega
    · have := (b2 (b - 1) (by omega) (by omega)).1; omega
  have hg : RV (f_X6_skipWord F τ) (fun τ' => τ' = atA τ b) := by
    unfold f_X6_skipWord
    refine n_fix (fun m x τ' => ∃ j, a ≤ j ∧ j ≤ b ∧ m = b - j ∧ τ' = atA τ j) ?_ F (b - a) _ τ (by omega) ⟨a, Nat.le_refl _, b1, rfl, (kU_id hat).symm⟩
    rintro rr m x τ' ⟨j, j1, j2, rfl, rfl⟩ ih
    unfold f_X6_skipWord_b0 f_X6_skipWord_b39
    dsimp only
    rw [show (atA τ j).1 48 0 4 = nI j from kU_here, m_byte hu (refT_u h (by decide)) (by omega), s_bi, show (atA τ j).1 48 0 4 = nI j from kU_here, m_byte hu (refT_u h (by decide)) (by omega), s_bi]
    by_cases z : j = b
    · subst z
      refine n_if (fun _ => n_v rfl) (fun q1 => n_t ?_ (n_v rfl))
      rw [show (97 : Int32) = nI 97 from rfl, byU_lt hu (by omega)] at q1
      rw [show (122 : Int32) = nI 122 from rfl, lt_byU hu (by omega)]
      have b3 : ¬ (j < n ∧ 97 ≤ u j ∧ u j ≤ 122) := b3
      omega
    · obtain ⟨d1, d2⟩ := b2 j j1 (by omega)
      have d3 : 97 ≤ u j ∧ u j ≤ 122 := d2
      refine n_f ?_ (n_f ?_ (n_b ?_))
      · rw [show (97 : Int32) = nI 97 from rfl, byU_lt hu (by omega)]; omega
      · rw [show (122 : Int32) = nI 122 from rfl, lt_byU hu (by omega)]; omega
      · rw [show (atA τ j).1 48 0 4 = nI j from kU_here, nI_s (by omega), kU_kU]
        exact ih (b - (j + 1)) _ _ (by omega) ⟨j + 1, by omega, by omega, rfl, rfl⟩
  obtain ⟨τ', e, rfl⟩ := rv_get hg
  exact e
/-! the class's -/
def clT (u : Nat → Nat) (n : Nat) (σ : kS) : Prop := ∀ k, k < n → σ.1 1 0 k = (nI (u k)).toInt8.toInt32
theorem cb_eq {x c : Nat} (hx : x < 256) (hc : c < 128) : (nI x).toInt8.toInt32 = nI c ↔ x = c := by
  have h := (by_all ⟨x, hx⟩).2
  have h : (nI x).toInt8.toInt32.toInt = if x < 128 then (x : Int) else (x : Int) - 256 := h
  rw [i_eq, h, nI_toInt (by omega)]
  by_cases z : x < 128
  · rw [if_pos z]; omega
  · rw [if_neg z]; omega
theorem cb_lt {x c : Nat} (hx : x < 256) (hc : c < 128) : ((nI x).toInt8.toInt32 < nI c ↔ x < c ∨ 128 ≤ x) ∧ (nI c < (nI x).toInt8.toInt32 ↔ c < x ∧ x < 128) := by
  have h := (by_all ⟨x, hx⟩).2
  have h : (nI x).toInt8.toInt32.toInt = if x < 128 then (x : Int) else (x : Int) - 256 := h
  rw [i_lt, i_lt, h, nI_toInt (by omega)]
  by_cases z : x < 128
  · rw [if_pos z]; omega
  · rw [if_neg z]; omega
theorem c_len {F w : Nat} {σ : kS} (h1 : 8 ≤ w) (h2 : w ≤ 22) : f_J0_length F w σ = some (.inl (some (.int (nI (wL w).length))), σ) := by
  have hc := (wL_ch ⟨w - 8, by omega⟩).1
  rw [show (⟨w - 8, by omega⟩ : Fin 15).val + 8 = w by show w - 8 + 8 = w; omega] at hc
  unfold f_J0_length f_J0_coder f_J0_coder_b14
  rw [if_neg (by decide), kg_t (by decide), s_bi, hc]
  have hl := (wL_len ⟨w - 8, by omega⟩).2.1
  rw [show (⟨w - 8, by omega⟩ : Fin 15).val + 8 = w by show w - 8 + 8 = w; omega] at hl
  have : ∀ k : Fin 7, nI k.val >>> ((0 : Int32) &&& 31) = nI k.val := by decide
  rw [this ⟨_, by omega⟩]
theorem c_ch {F w j : Nat} {σ : kS} (h1 : 8 ≤ w) (h2 : w ≤ 22) (hj : j < (wL w).length) : f_J0_charAt F w (nI j) σ = some (.inl (some (.int (nI (96 + (wL w).getD j 0)))), σ) := by
  have hc := (wL_ch ⟨w - 8, by omega⟩)
  have hl := (wL_len ⟨w - 8, by omega⟩).2.1
  rw [show (⟨w - 8, by omega⟩ : Fin 15).val + 8 = w by show w - 8 + 8 = w; omega] at hc hl
  obtain ⟨c1, c2⟩ := hc
  obtain ⟨d1, d2, -⟩ := c2 ⟨j, by omega⟩ hj
  have d1 : wI w j = nI (96 + (wL w).getD j 0) := d1
  have d2 : narrow .char (.int (wI w j)) = .int (wI w j) := d2
  unfold f_J0_charAt f_J0_isLatin1 f_J0_isLatin1_b18 f_J1_charAt f_J0_checkIndex f_J3_checkIndexN
  rw [if_neg (by decide), if_pos rfl, kg_t (by decide), s_bi, if_neg (by decide), c1, if_neg (by rw [show (0 : Int32) = nI 0 from rfl, nJ_lt (by omega) (by omega)]; omega), if_pos (by rw [nJ_lt (by omega) (by omega)]; exact hj), s_bi, s_bv, kg_t ((nI_kin (by omega)).mpr hj), s_bi, nI_c (by omega)]
  show kg (narrow .char (.int (wI w j)) = .int (wI w j)) (some (.inl (some (.int (wI w j))), σ)) = _
  rw [kg_t d2, d1]
theorem c_isWord {F : Nat} (hF : 2000 ≤ F) {u : Nat → Nat} {n s e w : Nat} {σ : kS} (hu : txt u n) (h : clT u n σ) (hse : s ≤ e) (hen : e ≤ n) (h1 : 8 ≤ w) (h2 : w ≤ 22) :
    (isW u s e w → f_X3_isWord F (nI s) (nI e) w σ = some (.inl (some (.int 1)), σ)) ∧ (¬ isW u s e w → f_X3_isWord F (nI s) (nI e) w σ = some (.inl (some (.int 0)), σ)) := by
  have hn := hu.1
  have hl := (wL_len ⟨w - 8, by omega⟩).2.1
  have hc := (wL_ch ⟨w - 8, by omega⟩).2
  rw [show (⟨w - 8, by omega⟩ : Fin 15).val + 8 = w by show w - 8 + 8 = w; omega] at hl hc
  have hd : ∀ j, j < (wL w).length → 1 ≤ (wL w).getD j 0 ∧ (wL w).getD j 0 ≤ 26 := fun j hj => (hc ⟨j, by omega⟩ hj).2.2
  have esub : ∀ x y, x ≤ y → y ≤ 300 → nI y - nI x = nI (y - x) := fun x y hx hy => by
    rw [i_eq, i_sub, nI_toInt (by omega), nI_toInt (by omega), nI_toInt (by omega)]
    · omega
    · rw [nI_toInt (by omega), nI_toInt (by omega)]; omega
    · rw [nI_toInt (by omega), nI_toInt (by omega)]; omega
  have hgo : ∃ r : Int32, (isW u s e w → r = 1) ∧ (¬ isW u s e w → r = 0) ∧ f_X3_isWord F (nI s) (nI e) w σ = some (.inl (some (.int r)), σ) := by
    unfold f_X3_isWord
    rw [c_len h1 h2, s_bi, esub s e hse (by omega)]
    by_cases z : e - s = (wL w).length
    · rw [if_pos (by rw [z])]
      have hr : RI (kFix (f_X3_isWord_b15 F) F (nI s, nI e, w, nI s) σ) (fun r σ' => ((isW u s e w → r = 1) ∧ (¬ isW u s e w → r = 0)) ∧ σ' = σ) := by
        refine n_fix (fun m x σ' => ∃ j, j ≤ e - s ∧ m = e - s - j ∧ x = (nI s, nI e, w, nI (s + j)) ∧ σ' = σ ∧ ∀ i, i < j → u (s + i) = 96 + (wL w).getD i 0) ?_ F (e - s) _ σ (by omega) ⟨0, by omega, rfl, rfl, rfl, fun i hi => absurd hi (by omega)⟩
        rintro rr m x σ' ⟨j, j1, rfl, rfl, rfl, hj⟩ ih
        unfold f_X3_isWord_b15
        dsimp only
        by_cases zj : j = e - s
        · refine n_t (by rw [nJ_le (by omega) (by omega)]; omega) (n_i ⟨⟨fun _ => rfl, fun hx => absurd ⟨z, fun i hi => hj i (by omega)⟩ hx⟩, rfl⟩)
        · refine n_f (by rw [nJ_le (by omega) (by omega)]; omega) (n_g ((nI_kin (by omega)).mpr (by omega)) ?_)
          rw [esub s (s + j) (by omega) (by omega), show s + j - s = j by omega, c_ch h1 h2 (by omega), s_bi, nI_c (by omega), h (s + j) (by omega)]
          have hdj := hd j (by omega)
          refine n_if (fun q => ?_) (fun q => n_i ⟨⟨fun hx => ?_, fun _ => rfl⟩, rfl⟩)
          · rw [cb_eq (hu.2 _ (by omega)) (by omega)] at q
            rw [nI_s (by omega)]
            refine ih (e - s - (j + 1)) _ _ (by omega) ⟨j + 1, by omega, rfl, rfl, rfl, fun i hi => ?_⟩
            by_cases zi : i = j
            · rw [zi]; exact q
            · exact hj i (by omega)
          · rw [cb_eq (hu.2 _ (by omega)) (by omega)] at q
            exact absurd (hx.2 j (by omega)) q
      obtain ⟨r, σ', e1, ⟨e2, e3⟩, rfl⟩ := ri_get hr
      exact ⟨r, e2, e3, e1⟩
    · rw [if_neg (by rw [nI_inj (by omega) (by omega)]; exact z)]
      exact ⟨0, fun hx => absurd hx.1 z, fun _ => rfl, rfl⟩
  obtain ⟨r, r1, r2, r3⟩ := hgo
  exact ⟨fun hx => by rw [r3, r1 hx], fun hx => by rw [r3, r2 hx]⟩
