/-! WHAT STANDS AT A PART, for both sides. -/
theorem kwAll : ∀ q : Fin 16, (∀ w : Fin 15, kw (q.val + 8) = kw (w.val + 8) → q.val = w.val) ∧ (kw (q.val + 8)).toInt ≤ -1 ∧ kw (q.val + 8) ≠ -22 ∧ kw (q.val + 8) ≠ -24 := by decide +kernel
theorem kwI {q w : Nat} (h1 : 8 ≤ q) (h2 : q ≤ 23) (h3 : 8 ≤ w) (h4 : w ≤ 22) : kw q = kw w ↔ q = w := by
  refine ⟨fun h => ?_, fun h => by rw [h]⟩
  have := (kwAll ⟨q - 8, by omega⟩).1 ⟨w - 8, by omega⟩ (by
    show kw (q - 8 + 8) = kw (w - 8 + 8)
    rw [show q - 8 + 8 = q by omega, show w - 8 + 8 = w by omega]; exact h)
  have : q - 8 = w - 8 := this
  omega
theorem kwN {q : Nat} (h1 : 8 ≤ q) (h2 : q ≤ 23) : (kw q).toInt ≤ -1 ∧ kw q ≠ -22 ∧ kw q ≠ -24 := by
  have := (kwAll ⟨q - 8, by omega⟩).2
  rw [show (⟨q - 8, by omega⟩ : Fin 16).val + 8 = q by show q - 8 + 8 = q; omega] at this
  exact this
theorem nI_neg {x : Nat} {c : Int32} (hx : x < 256) (hc : c.toInt ≤ -1) : nI x ≠ c := by
  intro h
  have h := i_eq.mp h
  rw [nI_toInt (by omega)] at h
  omega
def Env (u : Nat → Nat) (n P : Nat) (s e : Nat → Nat) (kd : Nat → Int32) (vl : Nat → Nat) : Prop := txt u n ∧ Tk u n P s e kd vl ∧ s P = n ∧ kd P = -24
section Parts
variable {u : Nat → Nat} {n P : Nat} {s e : Nat → Nat} {kd : Nat → Int32} {vl : Nat → Nat}
theorem Env.pn (E : Env u n P s e kd vl) : P ≤ n ∧ n ≤ 300 := ⟨E.2.2.1 ▸ E.2.1.pl, E.1.1⟩
theorem Env.sl (E : Env u n P s e kd vl) : ∀ m k, k + m = P → s k ≤ n
  | 0, k, h => by rw [show k = P by omega, E.2.2.1]; omega
  | m + 1, k, h => by
    have := E.sl m (k + 1) (by omega)
    have := E.2.1.se k (by omega)
    omega
theorem Env.sn (E : Env u n P s e kd vl) {k : Nat} (h : k ≤ P) : s k ≤ n := E.sl (P - k) k (by omega)
theorem Env.sk (E : Env u n P s e kd vl) {k : Nat} (h : k < P) : s k < n := by
  have := E.sn (k := k + 1) h
  have := E.2.1.se k h
  omega
def atK (u : Nat → Nat) (s : Nat → Nat) (k a : Nat) : Prop := a ≤ s k ∧ ∀ j, a ≤ j → j < s k → u j = 32
theorem atK_r {k : Nat} : atK u s k (s k) := ⟨Nat.le_refl _, fun j h1 h2 => by omega⟩
theorem atK_n (E : Env u n P s e kd vl) {k : Nat} (h : k < P) : atK u s (k + 1) (e k) := ⟨(E.2.1.se k h).2, fun j h1 h2 => E.2.1.gap k h j h1 h2⟩
theorem atK_0 (E : Env u n P s e kd vl) : atK u s 0 0 := ⟨Nat.zero_le _, fun j _ h => E.2.1.fst j h⟩
theorem atK_b (E : Env u n P s e kd vl) {k a : Nat} (h : k ≤ P) (ha : atK u s k a) : blk u n a (s k) := by
  have := E.sn h
  refine ⟨ha.1, fun j h1 h2 => ⟨by omega, ha.2 j h1 h2⟩, fun q => ?_⟩
  by_cases z : k = P
  · rw [z, E.2.2.1] at q; omega
  · exact E.2.1.nb k (by omega) q.2
theorem t_kd (E : Env u n P s e kd vl) {k : Nat} (h : k ≤ P) : (k = P ∧ kd k = -24) ∨ (k < P ∧ tokK u n (s k) (e k) (kd k) (vl k)) := by
  by_cases z : k = P
  · rw [z]; exact Or.inl ⟨rfl, E.2.2.2⟩
  · exact Or.inr ⟨by omega, E.2.1.kin k (by omega)⟩
theorem isW_0 {a w : Nat} (h1 : 8 ≤ w) (h2 : w ≤ 22) : ¬ isW u a a w := by
  intro h
  have hl := (wL_len ⟨w - 8, by omega⟩).1
  rw [show (⟨w - 8, by omega⟩ : Fin 15).val + 8 = w by show w - 8 + 8 = w; omega] at hl
  have := h.1
  omega
theorem t_let (E : Env u n P s e kd vl) {k : Nat} (h : k ≤ P) : ∃ b, runE (fun j => isL (u j)) n (s k) b ∧ ∀ w, 8 ≤ w → w ≤ 22 → (isW u (s k) b w ↔ kd k = kw w) ∧ (kd k = kw w → b = e k ∧ k < P) := by
  rcases t_kd E h with ⟨rfl, hk⟩ | ⟨hk, ⟨q, hr, hq, hkd⟩ | ⟨hr, hkd, -⟩ | ⟨he, hd, hl, hkd⟩⟩
  · refine ⟨s k, ⟨Nat.le_refl _, fun j h1 h2 => by omega, fun z => by rw [E.2.2.1] at z; omega⟩, fun w w1 w2 => ?_⟩
    have hw := kwN (q := w) w1 (by omega)
    rw [hk]
    exact ⟨⟨fun hx => absurd hx (isW_0 w1 w2), fun hx => absurd hx.symm hw.2.2⟩, fun hx => absurd hx.symm hw.2.2⟩
  · refine ⟨e k, hr, fun w w1 w2 => ?_⟩
    rw [hkd, hq.2.2 w w1 w2, kwI hq.1 hq.2.1 w1 w2]
    exact ⟨Iff.rfl, fun _ => ⟨rfl, hk⟩⟩
  · refine ⟨s k, ⟨Nat.le_refl _, fun j h1 h2 => by omega, fun z => ?_⟩, fun w w1 w2 => ?_⟩
    · have hs := (E.2.1.se k hk).1
      have h1 : 48 ≤ u (s k) ∧ u (s k) ≤ 57 := (hr.2.1 (s k) (Nat.le_refl _) hs).2
      have h2 : 97 ≤ u (s k) ∧ u (s k) ≤ 122 := z.2
      omega
    · have hw := kwN (q := w) w1 (by omega)
      rw [hkd]
      exact ⟨⟨fun hx => absurd hx (isW_0 w1 w2), fun hx => absurd hx.symm hw.2.1⟩, fun hx => absurd hx.symm hw.2.1⟩
  · refine ⟨s k, ⟨Nat.le_refl _, fun j h1 h2 => by omega, fun z => hl z.2⟩, fun w w1 w2 => ?_⟩
    have hw := kwN (q := w) w1 (by omega)
    have := nI_neg (E.1.2 (s k) (E.sk hk)) hw.1
    rw [hkd]
    exact ⟨⟨fun hx => absurd hx (isW_0 w1 w2), fun hx => absurd hx this⟩, fun hx => absurd hx this⟩
theorem t_dig (E : Env u n P s e kd vl) {k : Nat} (h : k ≤ P) : (kd k = -22 → k < P ∧ runE (fun j => isD (u j)) n (s k) (e k) ∧ vl k = cN u (s k) (e k - s k) ∧ s k < n ∧ isD (u (s k))) ∧ (kd k ≠ -22 → ¬ (s k < n ∧ isD (u (s k)))) := by
  rcases t_kd E h with ⟨rfl, hk⟩ | ⟨hk, ⟨q, hr, hq, hkd⟩ | ⟨hr, hkd, hv⟩ | ⟨he, hd, hl, hkd⟩⟩
  · rw [hk, E.2.2.1]
    exact ⟨fun hx => absurd hx (by decide), fun _ hx => by omega⟩
  · have hs := (E.2.1.se k hk).1
    have h1 : 97 ≤ u (s k) ∧ u (s k) ≤ 122 := (hr.2.1 (s k) (Nat.le_refl _) hs).2
    rw [hkd]
    refine ⟨fun hx => absurd hx (kwN hq.1 hq.2.1).2.1, fun _ hx => ?_⟩
    have h2 : 48 ≤ u (s k) ∧ u (s k) ≤ 57 := hx.2
    omega
  · have hs := (E.2.1.se k hk).1
    exact ⟨fun _ => ⟨hk, hr, hv, E.sk hk, (hr.2.1 (s k) (Nat.le_refl _) hs).2⟩, fun hx => absurd hkd hx⟩
  · rw [hkd]
    exact ⟨fun hx => absurd hx (nI_neg (E.1.2 (s k) (E.sk hk)) (by decide)), fun _ hx => hd hx.2⟩
theorem t_sgn (E : Env u n P s e kd vl) {k v : Nat} (h : k ≤ P) (hv : v < 256) (v1 : ¬ isD v) (v2 : ¬ isL v) : (byU u n (s k) = nI v ↔ kd k = nI v) ∧ (kd k = nI v → k < P ∧ e k = s k + 1) := by
  rcases t_kd E h with ⟨rfl, hk⟩ | ⟨hk, ⟨q, hr, hq, hkd⟩ | ⟨hr, hkd, -⟩ | ⟨he, hd, hl, hkd⟩⟩
  · have := nI_neg hv (c := -24) (by decide)
    rw [byU_eq E.1 hv, hk, E.2.2.1]
    exact ⟨⟨fun hx => by omega, fun hx => absurd hx.symm this⟩, fun hx => absurd hx.symm this⟩
  · have hs := (E.2.1.se k hk).1
    have := nI_neg hv (kwN hq.1 hq.2.1).1
    have h1 : isL (u (s k)) := (hr.2.1 (s k) (Nat.le_refl _) hs).2
    rw [byU_eq E.1 hv, hkd]
    exact ⟨⟨fun hx => absurd (hx.2 ▸ h1) v2, fun hx => absurd hx.symm this⟩, fun hx => absurd hx.symm this⟩
  · have hs := (E.2.1.se k hk).1
    have := nI_neg hv (c := -22) (by decide)
    have h1 : isD (u (s k)) := (hr.2.1 (s k) (Nat.le_refl _) hs).2
    rw [byU_eq E.1 hv, hkd]
    exact ⟨⟨fun hx => absurd (hx.2 ▸ h1) v1, fun hx => absurd hx.symm this⟩, fun hx => absurd hx.symm this⟩
  · have hu := E.1.2 (s k) (E.sk hk)
    rw [byU_eq E.1 hv, hkd, nI_inj (by omega) (by omega)]
    exact ⟨⟨fun hx => hx.2, fun hx => ⟨E.sk hk, hx⟩⟩, fun _ => ⟨hk, he⟩⟩
/-! the reference at a part -/
theorem r_bl {F : Nat} (hF : 2000 ≤ F) (E : Env u n P s e kd vl) {k a : Nat} {τ : kS} (hk : k ≤ P) (h : refT u n τ) (hat : τ.1 48 0 4 = nI a) (ha : atK u s k a) : f_X6_blanks F τ = some (.inl none, atA τ (s k)) := by
  have := E.sn hk
  have := E.pn
  exact m_blanks hF E.1 h hat (by have := ha.1; omega) (atK_b E hk ha)
theorem r_w {F : Nat} (hF : 2000 ≤ F) (E : Env u n P s e kd vl) {k a w : Nat} {τ : kS} (hk : k ≤ P) (h : refT u n τ) (hat : τ.1 48 0 4 = nI a) (ha : atK u s k a) (h1 : 8 ≤ w) (h2 : w ≤ 22) : rW F w τ = some (.inl (some (.int (if kd k = kw w then 1 else 0))), atA τ (s k)) := by
  have := E.sn hk
  have := E.pn
  obtain ⟨b, hb, hw⟩ := t_let E hk
  obtain ⟨m1, m2⟩ := m_isWord hF E.1 h hat (by have := ha.1; omega) (atK_b E hk ha) (by omega) hb h1 h2
  by_cases z : kd k = kw w
  · rw [if_pos z]; exact m1 ((hw w h1 h2).1.mpr z)
  · rw [if_neg z]; exact m2 (fun hx => z ((hw w h1 h2).1.mp hx))
theorem r_skip {F : Nat} (hF : 2000 ≤ F) (E : Env u n P s e kd vl) {k w : Nat} {τ : kS} (hk : k ≤ P) (h : refT u n τ) (hat : τ.1 48 0 4 = nI (s k)) (h1 : 8 ≤ w) (h2 : w ≤ 22) (hw : kd k = kw w) : f_X6_skipWord F τ = some (.inl none, atA τ (e k)) := by
  have := E.sn hk
  have := E.pn
  obtain ⟨b, hb, hh⟩ := t_let E hk
  obtain ⟨rfl, -⟩ := (hh w h1 h2).2 hw
  exact m_skip hF E.1 h hat (by omega) hb
theorem r_byte {F : Nat} (E : Env u n P s e kd vl) {k : Nat} {τ : kS} (hk : k ≤ P) (h : refT u n τ) : f_X6_byteAt F (nI (s k)) τ = some (.inl (some (.int (byU u n (s k)))), τ) := by
  have := E.sn hk
  have := E.pn
  exact m_byte E.1 h (by omega)
theorem r_wrong {F : Nat} {c p : Int32} {τ : kS} (h : τ.1 48 0 6 = 0) : f_X6_wrong F c p τ = some (.inl none, kU (kU τ 48 0 6 c) 48 0 7 p) := by
  unfold f_X6_wrong f_X6_wrong_b17
  rw [if_pos h]
  rfl
theorem r_wrongN {F : Nat} {c p : Int32} {τ : kS} (h : τ.1 48 0 6 ≠ 0) : f_X6_wrong F c p τ = some (.inl none, τ) := by
  unfold f_X6_wrong f_X6_wrong_b17
  rw [if_neg h]
/-- a number of the reference, where no fault is yet: lo to hi within 0 to 9999 -/
theorem r_num {F : Nat} (hF : 2000 ≤ F) (E : Env u n P s e kd vl) {k a lo hi : Nat} {τ : kS} (hk : k ≤ P) (h : refT u n τ) (hat : τ.1 48 0 4 = nI a) (ha : atK u s k a) (h6 : τ.1 48 0 6 = 0) (hlo : lo ≤ hi) (hhi : hi ≤ 9999) :
    (kd k = -22 → lo ≤ vl k → vl k ≤ hi → f_X6_numberHere F (nI lo) (nI hi) τ = some (.inl (some (.int (nI (vl k)))), atA τ (e k))) ∧
    (kd k = -22 → ¬ (lo ≤ vl k ∧ vl k ≤ hi) → ∃ r, f_X6_numberHere F (nI lo) (nI hi) τ = some (.inl (some (.int r)), kU (kU (atA τ (e k)) 48 0 6 2) 48 0 7 (nI (s k)))) ∧
    (kd k ≠ -22 → ∃ r, f_X6_numberHere F (nI lo) (nI hi) τ = some (.inl (some (.int r)), kU (kU (atA τ (s k)) 48 0 6 1) 48 0 7 (nI (s k)))) := by
  have hsn := E.sn hk
  have hpn := E.pn
  obtain ⟨dg1, dg2⟩ := t_dig E hk
  have key : ∀ (σ0 : kS) (b : Nat) (Q : Option Value → kS → Prop), f_X6_numberHere F (nI lo) (nI hi) τ = kFix (f_X6_numberHere_b44 F) F (nI lo, nI hi, nI (s k), 0) σ0 → refT u n σ0 → σ0.1 48 0 4 = nI (s k) → runE (fun j => isD (u j)) n (s k) b → Rn (if nI lo ≤ nI (nmS' u (s k) (b - s k)) ∧ nI (nmS' u (s k) (b - s k)) ≤ nI hi then (some (.inl (some (.int (nI (nmS' u (s k) (b - s k))))), atA σ0 b)) else kBv (f_X6_wrong F 2 (nI (s k)) (atA σ0 b)) fun σ10 => some (.inl (some (.int (nI (nmS' u (s k) (b - s k))))), σ10)) Q → Rn (f_X6_numberHere F (nI lo) (nI hi) τ) Q := fun σ0 b Q he hr h4 hb hQ => by
    rw [he]; exact m_numLoop hF E.1 hr h4 (by omega) hb hQ
  have h66 : (atA τ (s k)).1 48 0 6 = 0 := by rw [kU_k (by decide)]; exact h6
  have hst : f_X6_numberHere F (nI lo) (nI hi) τ = (kBi (f_X6_isDigit F (byU u n (s k)) (atA τ (s k))) fun c21 σ20 => if c21 = 0 then (kBv (f_X6_wrong F 1 (σ20.1 48 0 4) σ20) fun σ23 => kFix (f_X6_numberHere_b44 F) F (nI lo, nI hi, nI (s k), 0) σ23) else (kFix (f_X6_numberHere_b44 F) F (nI lo, nI hi, nI (s k), 0) σ20)) := by
    unfold f_X6_numberHere
    rw [if_pos h6, r_bl hF E hk h hat ha, s_bv, s_b, kU_here, r_byte E hk (refT_u h (by decide)), s_bi]
  refine ⟨fun hd v1 v2 => ?_, fun hd hv => ?_, fun hd => ?_⟩
  · obtain ⟨hkP, hr, hvl, d1, d2⟩ := dg1 hd
    rw [(m_isDigit E.1).1 ⟨d1, d2⟩, s_bi, if_neg (by decide)] at hst
    have hc := cN_nm hr (e k - s k) (Nat.le_refl _)
    rw [← hvl] at hc
    have hc2 : nmS' u (s k) (e k - s k) = vl k := by omega
    refine ri_same (key _ _ _ hst (refT_u h (by decide)) kU_here hr ?_)
    rw [hc2]
    refine n_t ⟨by rw [nJ_le (by omega) (by omega)]; exact v1, by rw [nJ_le (by omega) (by omega)]; exact v2⟩ (n_i ⟨rfl, kU_kU⟩)
  · obtain ⟨hkP, hr, hvl, d1, d2⟩ := dg1 hd
    rw [(m_isDigit E.1).1 ⟨d1, d2⟩, s_bi, if_neg (by decide)] at hst
    have hc := cN_nm hr (e k - s k) (Nat.le_refl _)
    have hle := nmS'_le (u := u) (a := s k) (e k - s k)
    rw [← hvl] at hc
    refine ⟨nI (nmS' u (s k) (e k - s k)), ri_same (key _ _ _ hst (refT_u h (by decide)) kU_here hr ?_)⟩
    refine n_f ?_ ?_
    · rw [nJ_le (by omega) (by omega), nJ_le (by omega) (by omega)]; omega
    · rw [show atA (atA τ (s k)) (e k) = atA τ (e k) from kU_kU, r_wrong (by rw [kU_k (by decide)]; exact h6), s_bv]
      exact n_i ⟨rfl, rfl⟩
  · rw [(m_isDigit E.1).2 (dg2 hd), s_bi, if_pos rfl, kU_here, r_wrong h66, s_bv] at hst
    have hr0 : runE (fun j => isD (u j)) n (s k) (s k) := ⟨Nat.le_refl _, fun j h1 h2 => by omega, dg2 hd⟩
    have h4 : (kU (kU (atA τ (s k)) 48 0 6 1) 48 0 7 (nI (s k))).1 48 0 4 = nI (s k) := by rw [kU_k (by decide), kU_k (by decide)]; exact kU_here
    refine ⟨nI (nmS' u (s k) (s k - s k)), ri_same (key _ _ _ hst (refT_u (refT_u (refT_u h (by decide)) (by decide)) (by decide)) h4 hr0 ?_)⟩
    refine n_if (fun _ => n_i ⟨rfl, kU_id h4⟩) (fun _ => ?_)
    rw [r_wrongN (by rw [kU_k (by decide), kU_k (by decide), kU_here]; decide), s_bv]
    exact n_i ⟨rfl, kU_id h4⟩
end Parts
