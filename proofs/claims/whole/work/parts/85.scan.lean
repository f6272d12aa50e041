/-! THE PARTS OF THE TEXT: what the class's scan makes. -/
def Fz (S : Nat → Nat → Nat → Bool) (σ σ' : kS) : Prop := (∀ g i k, S g i k = false → σ'.1 g i k = σ.1 g i k) ∧ σ'.2 = σ.2
theorem Fz.refl {S : Nat → Nat → Nat → Bool} (σ : kS) : Fz S σ σ := ⟨fun _ _ _ _ => rfl, rfl⟩
theorem Fz.trans {S : Nat → Nat → Nat → Bool} {σ σ' σ'' : kS} (h : Fz S σ σ') (h' : Fz S σ' σ'') : Fz S σ σ'' := ⟨fun g i k q => (h'.1 g i k q).trans (h.1 g i k q), h'.2.trans h.2⟩
theorem Fz.u {S : Nat → Nat → Nat → Bool} {σ σ' : kS} {g i k : Nat} {v : Int32} (h : Fz S σ σ') (q : S g i k = true) : Fz S σ (kU σ' g i k v) := by
  refine ⟨fun g' i' k' q' => ?_, h.2⟩
  rw [kU_at, if_neg]
  · exact h.1 g' i' k' q'
  · rintro ⟨rfl, rfl, rfl⟩
    rw [q] at q'
    cases q'
theorem Fz.sub {S T : Nat → Nat → Nat → Bool} {σ σ' : kS} (h : Fz S σ σ') (hs : ∀ g i k, T g i k = false → S g i k = false) : Fz T σ σ' := ⟨fun g i k q => h.1 g i k (hs g i k q), h.2⟩
/-! kinds of words -/
def kw : Nat → Int32
  | 8 => -17 | 9 => -18 | 10 => -19 | 11 => -20 | 12 => -21 | 13 => -10 | 14 => -9 | 15 => -8
  | 16 => -1 | 17 => -2 | 18 => -3 | 19 => -4 | 20 => -5 | 21 => -6 | 22 => -7 | _ => -23
theorem q_cases {q : Nat} (h1 : 8 ≤ q) (h2 : q ≤ 23) : q = 8 ∨ q = 9 ∨ q = 10 ∨ q = 11 ∨ q = 12 ∨ q = 13 ∨ q = 14 ∨ q = 15 ∨ q = 16 ∨ q = 17 ∨ q = 18 ∨ q = 19 ∨ q = 20 ∨ q = 21 ∨ q = 22 ∨ q = 23 := by omega
def wIs (u : Nat → Nat) (s e q : Nat) : Prop := 8 ≤ q ∧ q ≤ 23 ∧ ∀ w, 8 ≤ w → w ≤ 22 → (isW u s e w ↔ q = w)
theorem c_isQ {F : Nat} (hF : 2000 ≤ F) {u : Nat → Nat} {n s e w q : Nat} {σ : kS} (hu : txt u n) (h : clT u n σ) (hse : s ≤ e) (hen : e ≤ n) (hq : wIs u s e q) (h1 : 8 ≤ w) (h2 : w ≤ 22) : f_X3_isWord F (nI s) (nI e) w σ = some (.inl (some (.int (if q = w then 1 else 0))), σ) := by
  obtain ⟨a, b⟩ := c_isWord hF hu h hse hen h1 h2
  by_cases z : q = w
  · rw [if_pos z]; exact a ((hq.2.2 w h1 h2).mpr z)
  · rw [if_neg z]; exact b (fun hx => z ((hq.2.2 w h1 h2).mp hx))
theorem c_clauseWord {F : Nat} (hF : 2000 ≤ F) {u : Nat → Nat} {n s e q : Nat} {σ : kS} (hu : txt u n) (h : clT u n σ) (hse : s ≤ e) (hen : e ≤ n) (hq : wIs u s e q) : f_X3_clauseWord F (nI s) (nI e) σ = some (.inl (some (.int (if q ≤ 12 then kw q else -23))), σ) := by
  have hw := fun w h1 h2 => c_isQ (w := w) hF hu h hse hen hq h1 h2
  unfold f_X3_clauseWord f_X3_clauseWord_b74
  rw [hw 8 (by omega) (by omega), s_bi, hw 9 (by omega) (by omega), s_bi, hw 10 (by omega) (by omega), s_bi, hw 11 (by omega) (by omega), s_bi, hw 12 (by omega) (by omega), s_bi]
  rcases q_cases hq.1 hq.2.1 with rfl | rfl | rfl | rfl | rfl | rfl | rfl | rfl | rfl | rfl | rfl | rfl | rfl | rfl | rfl | rfl <;> rfl
theorem c_conditionWord {F : Nat} (hF : 2000 ≤ F) {u : Nat → Nat} {n s e q : Nat} {σ : kS} (hu : txt u n) (h : clT u n σ) (hse : s ≤ e) (hen : e ≤ n) (hq : wIs u s e q) : f_X3_conditionWord F (nI s) (nI e) σ = some (.inl (some (.int (if q ≤ 12 then -23 else kw q))), σ) := by
  have hw := fun w h1 h2 => c_isQ (w := w) hF hu h hse hen hq h1 h2
  unfold f_X3_conditionWord f_X3_conditionWord_b143
  rw [hw 13 (by omega) (by omega), s_bi, hw 14 (by omega) (by omega), s_bi, hw 15 (by omega) (by omega), s_bi, hw 16 (by omega) (by omega), s_bi, hw 17 (by omega) (by omega), s_bi, hw 18 (by omega) (by omega), s_bi, hw 19 (by omega) (by omega), s_bi, hw 20 (by omega) (by omega), s_bi, hw 21 (by omega) (by omega), s_bi, hw 22 (by omega) (by omega), s_bi]
  rcases q_cases hq.1 hq.2.1 with rfl | rfl | rfl | rfl | rfl | rfl | rfl | rfl | rfl | rfl | rfl | rfl | rfl | rfl | rfl | rfl <;> rfl
theorem kwNot {q : Nat} (h1 : 8 ≤ q) (h2 : q ≤ 12) : kw q ≠ -23 := by
  have : q = 8 ∨ q = 9 ∨ q = 10 ∨ q = 11 ∨ q = 12 := by omega
  rcases this with rfl | rfl | rfl | rfl | rfl <;> decide
theorem c_isDig {F x : Nat} {σ : kS} (hx : x < 256) : (isD x → f_X3_isDigit F ((nI x).toInt8.toInt32) σ = some (.inl (some (.int 1)), σ)) ∧ (¬ isD x → f_X3_isDigit F ((nI x).toInt8.toInt32) σ = some (.inl (some (.int 0)), σ)) := by
  have h1 := cb_lt (c := 48) hx (by omega)
  have h2 := cb_lt (c := 57) hx (by omega)
  unfold f_X3_isDigit f_X3_isDigit_b16 f_X3_isDigit_b17 isD
  rw [show (48 : Int32) = nI 48 from rfl, show (57 : Int32) = nI 57 from rfl]
  by_cases z : x < 48 ∨ 128 ≤ x
  · rw [if_pos (show _ < nI 48 from h1.1.mpr z)]
    exact ⟨fun hx => by omega, fun _ => rfl⟩
  · rw [if_neg (show ¬ _ < nI 48 from fun hx => z (h1.1.mp hx))]
    by_cases y : 57 < x ∧ x < 128
    · rw [if_pos (show nI 57 < _ from h2.2.mpr y)]
      exact ⟨fun hx => by omega, fun _ => rfl⟩
    · rw [if_neg (show ¬ nI 57 < _ from fun hx => y (h2.2.mp hx))]
      exact ⟨fun _ => rfl, fun hx => by omega⟩
theorem c_isLet {F x : Nat} {σ : kS} (hx : x < 256) : (isL x → f_X3_isLetter F ((nI x).toInt8.toInt32) σ = some (.inl (some (.int 1)), σ)) ∧ (¬ isL x → f_X3_isLetter F ((nI x).toInt8.toInt32) σ = some (.inl (some (.int 0)), σ)) := by
  have h1 := cb_lt (c := 97) hx (by omega)
  have h2 := cb_lt (c := 122) hx (by omega)
  unfold f_X3_isLetter f_X3_isLetter_b16 f_X3_isLetter_b17 isL
  rw [show (97 : Int32) = nI 97 from rfl, show (122 : Int32) = nI 122 from rfl]
  by_cases z : x < 97 ∨ 128 ≤ x
  · rw [if_pos (show _ < nI 97 from h1.1.mpr z)]
    exact ⟨fun hx => by omega, fun _ => rfl⟩
  · rw [if_neg (show ¬ _ < nI 97 from fun hx => z (h1.1.mp hx))]
    by_cases y : 122 < x ∧ x < 128
    · rw [if_pos (show nI 122 < _ from h2.2.mpr y)]
      exact ⟨fun hx => by omega, fun _ => rfl⟩
    · rw [if_neg (show ¬ nI 122 < _ from fun hx => y (h2.2.mp hx))]
      exact ⟨fun _ => rfl, fun hx => by omega⟩
/-- the same of a byte 0 to 255 -/
theorem c_isDigU {F x : Nat} {σ : kS} (hx : x < 256) : (isD x → f_X3_isDigit F (nI x) σ = some (.inl (some (.int 1)), σ)) ∧ (¬ isD x → f_X3_isDigit F (nI x) σ = some (.inl (some (.int 0)), σ)) := by
  unfold f_X3_isDigit f_X3_isDigit_b16 f_X3_isDigit_b17 isD
  rw [show (48 : Int32) = nI 48 from rfl, show (57 : Int32) = nI 57 from rfl]
  by_cases z : x < 48
  · rw [if_pos ((nJ_lt (by omega) (by omega)).mpr z)]
    exact ⟨fun hx => by omega, fun _ => rfl⟩
  · rw [if_neg (fun hx => z ((nJ_lt (by omega) (by omega)).mp hx))]
    by_cases y : 57 < x
    · rw [if_pos ((nJ_lt (by omega) (by omega)).mpr y)]
      exact ⟨fun hx => by omega, fun _ => rfl⟩
    · rw [if_neg (fun hx => y ((nJ_lt (by omega) (by omega)).mp hx))]
      exact ⟨fun _ => rfl, fun hx => by omega⟩
theorem c_isLetU {F x : Nat} {σ : kS} (hx : x < 256) : (isL x → f_X3_isLetter F (nI x) σ = some (.inl (some (.int 1)), σ)) ∧ (¬ isL x → f_X3_isLetter F (nI x) σ = some (.inl (some (.int 0)), σ)) := by
  unfold f_X3_isLetter f_X3_isLetter_b16 f_X3_isLetter_b17 isL
  rw [show (97 : Int32) = nI 97 from rfl, show (122 : Int32) = nI 122 from rfl]
  by_cases z : x < 97
  · rw [if_pos ((nJ_lt (by omega) (by omega)).mpr z)]
    exact ⟨fun hx => by omega, fun _ => rfl⟩
  · rw [if_neg (fun hx => z ((nJ_lt (by omega) (by omega)).mp hx))]
    by_cases y : 122 < x
    · rw [if_pos ((nJ_lt (by omega) (by omega)).mpr y)]
      exact ⟨fun hx => by omega, fun _ => rfl⟩
    · rw [if_neg (fun hx => y ((nJ_lt (by omega) (by omega)).mp hx))]
      exact ⟨fun _ => rfl, fun hx => by omega⟩
theorem run_ex {p : Nat → Prop} {n : Nat} : ∀ (m a : Nat), m = n - a → a ≤ n → ∃ b, runE p n a b ∧ b ≤ n
  | 0, a, h, ha => ⟨a, ⟨Nat.le_refl _, fun j h1 h2 => absurd h1 (by omega), fun z => by omega⟩, ha⟩
  | m + 1, a, h, ha => by
    by_cases z : p a
    · obtain ⟨b, ⟨b1, b2, b3⟩, b4⟩ := run_ex (p := p) (n := n) m (a + 1) (by omega) (by omega)
      refine ⟨b, ⟨by omega, fun j h1 h2 => ?_, b3⟩, b4⟩
      by_cases k : j = a
      · subst k; exact ⟨by omega, z⟩
      · exact b2 j (by omega) h2
    · exact ⟨a, ⟨Nat.le_refl _, fun j h1 h2 => absurd h1 (by omega), fun k => z k.2⟩, by omega⟩
theorem c_scanWord {F : Nat} (hF : 2000 ≤ F) {u : Nat → Nat} {n s e q p : Nat} {σ : kS} (hu : txt u n) (h : clT u n σ) (hb : runE (fun j => isL (u j)) n s e) (hen : e ≤ n) (hq : wIs u s e q) (hp : σ.1 2 0 6 = nI p) (hpn : p ≤ 300) : f_X3_scanWord F (nI s) (nI n) σ = some (.inl (some (.int (nI e))), kU σ 18 0 p (kw q)) := by
  obtain ⟨b1, b2, b3⟩ := hb
  have hn := hu.1
  refine ri_same ?_
  have hend : ∀ Q : Option Value → kS → Prop, Rn (some (.inl (some (.int (nI e))), kU σ 18 0 p (kw q))) Q → Rn (f_X3_scanWord_b25 F (nI s) (nI e) σ) Q := fun Q hQ => by
    unfold f_X3_scanWord_b25 f_X3_scanWord_b50
    rw [c_clauseWord hF hu h b1 hen hq, s_bi]
    by_cases z : q ≤ 12
    · rw [if_pos z, if_neg (kwNot hq.1 z), hp, kg_t ((nI_kin (by omega)).mpr (by omega)), nI_c (by omega)]
      exact hQ
    · rw [if_neg z, if_pos rfl, c_conditionWord hF hu h b1 hen hq, s_bi, if_neg z, hp, kg_t ((nI_kin (by omega)).mpr (by omega)), nI_c (by omega)]
      exact hQ
  unfold f_X3_scanWord
  refine n_fix (fun m x σ' => ∃ j, s ≤ j ∧ j ≤ e ∧ m = e - j ∧ x = (nI s, nI n, nI j) ∧ σ' = σ) ?_ F (e - s) _ σ (by omega) ⟨s, Nat.le_refl _, b1, rfl, rfl, rfl⟩
  rintro rr m x σ' ⟨j, j1, j2, rfl, rfl, rfl⟩ ih
  unfold f_X3_scanWord_b3
  dsimp only
  by_cases z : j = e
  · subst z
    refine n_if (fun _ => hend _ (n_i ⟨rfl, rfl⟩)) (fun q1 => n_g ?_ ?_)
    · rw [nJ_le (by omega) (by omega)] at q1
      exact (nI_kin (by omega)).mpr (by omega)
    · rw [nJ_le (by omega) (by omega)] at q1
      rw [nI_c (by omega), h j (by omega), (c_isLet (hu.2 j (by omega))).2 (fun hx => b3 ⟨by omega, hx⟩), s_bi]
      exact n_t rfl (hend _ (n_i ⟨rfl, rfl⟩))
  · obtain ⟨d1, d2⟩ := b2 j j1 (by omega)
    refine n_f (by rw [nJ_le (by omega) (by omega)]; omega) (n_g ((nI_kin (by omega)).mpr (by omega)) ?_)
    rw [nI_c (by omega), h j (by omega), (c_isLet (hu.2 j (by omega))).1 d2, s_bi]
    refine n_f (by decide) ?_
    rw [nI_s (by omega)]
    exact ih (e - (j + 1)) _ _ (by omega) ⟨j + 1, by omega, by omega, rfl, rfl, rfl⟩
/-! numbers -/
def cN (u : Nat → Nat) (a : Nat) : Nat → Nat
  | 0 => 0
  | k + 1 => if 9999 < cN u a k then cN u a k else 10 * cN u a k + (u (a + k) - 48)
theorem cN_nm {u : Nat → Nat} {n a b : Nat} (hb : runE (fun j => isD (u j)) n a b) : ∀ k, k ≤ b - a → (cN u a k = nmS' u a k ∧ cN u a k < 100000) ∨ (9999 < cN u a k ∧ 9999 < nmS' u a k ∧ cN u a k < 100000)
  | 0, _ => Or.inl ⟨rfl, by show 0 < 100000; omega⟩
  | k + 1, h => by
    have ih := cN_nm hb k (by omega)
    have hd : 48 ≤ u (a + k) ∧ u (a + k) ≤ 57 := (hb.2.1 (a + k) (by omega) (by omega)).2
    have e1 : cN u a (k + 1) = if 9999 < cN u a k then cN u a k else 10 * cN u a k + (u (a + k) - 48) := rfl
    have e2 : nmS' u a (k + 1) = min 100000 (10 * nmS' u a k + (u (a + k) - 48)) := rfl
    rw [e1, e2]
    by_cases z : 9999 < cN u a k
    · rw [if_pos z]; omega
    · rw [if_neg z]; omega
theorem c_scanNumber {F : Nat} (hF : 2000 ≤ F) {u : Nat → Nat} {n s e p : Nat} {σ : kS} (hu : txt u n) (h : clT u n σ) (hb : runE (fun j => isD (u j)) n s e) (hen : e ≤ n) (hp : σ.1 2 0 6 = nI p) (hpn : p ≤ 300) : f_X3_scanNumber F (nI s) (nI n) σ = some (.inl (some (.int (nI e))), kU (kU σ 18 0 p (-22)) 20 0 p (nI (cN u s (e - s)))) := by
  have hb' := hb
  obtain ⟨b1, b2, b3⟩ := hb
  have hn := hu.1
  refine ri_same ?_
  have hend : ∀ Q : Option Value → kS → Prop, Rn (some (.inl (some (.int (nI e))), kU (kU σ 18 0 p (-22)) 20 0 p (nI (cN u s (e - s))))) Q → Rn (f_X3_scanNumber_b51 F (nI (cN u s (e - s))) (nI e) σ) Q := fun Q hQ => by
    unfold f_X3_scanNumber_b51
    rw [hp, kg_t ((nI_kin (by omega)).mpr (by omega)), nI_c (by omega), s_b, kU_g (by decide), hp, kg_t ((nI_kin (by omega)).mpr (by omega)), nI_c (by omega)]
    exact hQ
  unfold f_X3_scanNumber
  refine n_fix (fun m x σ' => ∃ j, s ≤ j ∧ j ≤ e ∧ m = e - j ∧ x = (nI n, nI (cN u s (j - s)), nI j) ∧ σ' = σ) ?_ F (e - s) _ σ (by omega) ⟨s, Nat.le_refl _, b1, rfl, by rw [Nat.sub_self]; rfl, rfl⟩
  rintro rr m x σ' ⟨j, j1, j2, rfl, rfl, rfl⟩ ih
  unfold f_X3_scanNumber_b6 f_X3_scanNumber_b45
  dsimp only
  by_cases z : j = e
  · subst z
    refine n_if (fun _ => hend _ (n_i ⟨rfl, rfl⟩)) (fun q1 => n_g ?_ ?_)
    · rw [nJ_le (by omega) (by omega)] at q1
      exact (nI_kin (by omega)).mpr (by omega)
    · rw [nJ_le (by omega) (by omega)] at q1
      rw [nI_c (by omega), h j (by omega), (c_isDig (hu.2 j (by omega))).2 (fun hx => b3 ⟨by omega, hx⟩), s_bi]
      exact n_t rfl (hend _ (n_i ⟨rfl, rfl⟩))
  · obtain ⟨d1, d2⟩ := b2 j j1 (by omega)
    have d3 : 48 ≤ u j ∧ u j ≤ 57 := d2
    have hc := cN_nm hb' (j - s) (by omega)
    have e1 : cN u s (j + 1 - s) = if 9999 < cN u s (j - s) then cN u s (j - s) else 10 * cN u s (j - s) + (u j - 48) := by
      rw [show j + 1 - s = (j - s) + 1 by omega]
      show (if _ then _ else 10 * cN u s (j - s) + (u (s + (j - s)) - 48)) = _
      rw [show s + (j - s) = j by omega]
    refine n_f (by rw [nJ_le (by omega) (by omega)]; omega) (n_g ((nI_kin (by omega)).mpr (by omega)) ?_)
    rw [nI_c (by omega), h j (by omega), (c_isDig (hu.2 j (by omega))).1 d2, s_bi]
    refine n_f (by decide) ?_
    rw [nI_s (by omega)]
    refine n_if (fun y => ?_) (fun y => n_g ((nI_kin (by omega)).mpr (by omega)) (n_b ?_))
    · have y : nI 9999 < nI (cN u s (j - s)) := y
      rw [nJ_lt (by omega) (by omega)] at y
      exact ih (e - (j + 1)) _ _ (by omega) ⟨j + 1, by omega, by omega, rfl, by rw [e1, if_pos y], rfl⟩
    · have y : ¬ nI 9999 < nI (cN u s (j - s)) := y
      rw [nJ_lt (by omega) (by omega)] at y
      have eb : (nI (u j)).toInt8.toInt32.toInt = (u j : Int) := by
        have hh := (by_all ⟨u j, by omega⟩).2
        have hh : (nI (u j)).toInt8.toInt32.toInt = if u j < 128 then (u j : Int) else (u j : Int) - 256 := hh
        rw [hh, if_pos (by omega)]
      have f1 : (nI (cN u s (j - s)) * 10).toInt = (cN u s (j - s) : Int) * 10 := by
        rw [i_mul, nI_toInt (by omega)]
        · rfl
        · rw [nI_toInt (by omega)]; show _ ≤ _ * (10 : Int); omega
        · rw [nI_toInt (by omega)]; show _ * (10 : Int) < _; omega
      have f2 : (nI (cN u s (j - s)) * 10 + (nI (u j)).toInt8.toInt32).toInt = (cN u s (j - s) : Int) * 10 + (u j : Int) := by
        rw [i_add, f1, eb] <;> rw [f1, eb] <;> omega
      have f3 : nI (cN u s (j - s)) * 10 + (nI (u j)).toInt8.toInt32 - 48 = nI (10 * cN u s (j - s) + (u j - 48)) := by
        rw [i_eq, i_sub, f2, nI_toInt (by omega)]
        · show _ - (48 : Int) = _; omega
        · rw [f2]; show _ ≤ _ - (48 : Int); omega
        · rw [f2]; show _ - (48 : Int) < _; omega
      rw [h j (by omega), f3]
      exact ih (e - (j + 1)) _ _ (by omega) ⟨j + 1, by omega, by omega, rfl, by rw [e1, if_neg y], rfl⟩
