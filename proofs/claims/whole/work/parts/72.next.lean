/-! INQUIRY, NEXT. -/
theorem g_inquiry' {F : Nat} (hF : 2000 ≤ F) (a1 a2 : Int32) : Good (q_inquiry F a1 a2) := by
  intro nx σ h
  obtain ⟨ht, hr⟩ := inv_told h
  obtain ⟨T, hT6, hT, hT5⟩ := inv_T h
  obtain ⟨R, hR10, hR, hR4⟩ := inv_R h
  by_cases cn : a2 = -1
  · subst cn
    by_cases c2 : 0 ≤ a1 ∧ a1 ≤ (1 <<< (nI R &&& 31)) - 1
    · obtain ⟨s, σ1, e1, hs, ho, i1, f1, l1⟩ := rl_get (c_reckon hF h (bits := a1) (wb := 0) hT hT6)
      have hcl : f_X5_inquiry F a1 (-1) σ = some (.inl (some (.int (bsS (σ1.2 9 0) T))), σ1) := by
        unfold f_X5_inquiry f_X5_inquiry_b10 f_X5_inquiry_b46
        rw [if_pos rfl, hR4, t_bits hR10, if_pos c2, s_bv, e1, s_bl, if_pos rfl, c_best hF (by rw [f1 0 0 5 rfl]; exact hT5) hT6, s_bi]
      refine top_i (k := 0) (σ2 := kUL σ1 90 0 0 (bsS (σ1.2 9 0) T).toInt64) (by unfold w_inquiry; rw [hcl]; rfl) ?_
      unfold f_X6_inquiry
      simp only [s_b, s_bi, if10, f_X6_inquiry_b23, f_X6_inquiry_b24, z_bad0 rfl, if0, if_true, if1, f_X6_allRows, x_in, f_X6_inquiry_b49, f_X6_inquiry_b81]
      rw [ent_48 (by decide), f1 48 0 43 rfl, hR, if_pos c2]
      refine n_bv (m_find hF (ent_inv i1) (by rw [ent_48 (by decide), f1 48 0 13 rfl]; exact hT) hT6) ?_
      rintro σ4 ⟨o4, i4, f4, l4⟩
      rw [m_best hF (by rw [f4 48 0 13 rfl, ent_48 (by decide), f1 48 0 13 rfl]; exact hT) hT6, s_bi]
      refine n_i ⟨i4, (f4 48 0 0 rfl).trans z_thr, fun _ => ?_⟩
      rw [l4 90 0 0 (by decide), ent_2, bsS_cg hT6 (fun v hv => ?_)]
      rw [o4 v hv, (ho v hv).1, odS_ent, odS_F f1]
    · have hcl : f_X5_inquiry F a1 (-1) σ = some (.inr "java/lang/IllegalArgumentException", σ) := by
        unfold f_X5_inquiry f_X5_inquiry_b10
        rw [if_pos rfl, hR4, t_bits hR10, if_neg c2, s_xv]
      refine top_i (k := 2) (σ2 := σ) (by unfold w_inquiry; rw [hcl]; rfl) ?_
      unfold f_X6_inquiry
      simp only [s_b, s_bi, if10, f_X6_inquiry_b23, f_X6_inquiry_b24, z_bad0 rfl, if0, if_true, if1, f_X6_allRows, x_in, f_X6_inquiry_b49, f_X6_inquiry_b81]
      rw [kU_k (by decide), hR, if_neg c2]
      simp only [z_bad1 two_ne, s_bi, if1, f_X6_inquiry_b56]
      exact n_i ⟨thr_inv h, z_thr, fun z => absurd z two_ne⟩
  · by_cases c1 : 0 ≤ a2 ∧ a2 < σ.1 48 0 13
    · have c1' : 0 ≤ a2 ∧ a2 < σ.1 0 0 5 := by rw [ht]; exact c1
      obtain ⟨w, hw6, rfl⟩ := nI_ex (n := 6) (kin_of (n := 6) c1.1 c1.2 hr.2)
      have hwT : w < T := by have := c1.2; rw [hT, nJ_lt (by omega) (by omega)] at this; exact this
      by_cases c2 : 0 ≤ a1 ∧ a1 ≤ (1 <<< (nI R &&& 31)) - 1
      · obtain ⟨s, σ1, e1, hs, ho, i1, f1, l1⟩ := rl_get (c_reckon hF h (bits := a1) (wb := 0) hT hT6)
        have e13 : σ1.1 48 0 13 = σ.1 48 0 13 := f1 48 0 13 rfl
        have hcl : f_X5_inquiry F a1 (nI w) σ = some (.inl (some (.int (shI (σ1.2 9 0 w) s))), σ1) := by
          unfold f_X5_inquiry f_X5_inquiry_b10 f_X5_inquiry_b46
          rw [if_neg cn, t_why, if_pos c1', s_bv, hR4, t_bits hR10, if_pos c2, s_bv, e1, s_bl, if_neg cn, c_per hw6, s_bi]
        refine top_i (k := 0) (σ2 := kUL σ1 90 0 0 (shI (σ1.2 9 0 w) s).toInt64) (by unfold w_inquiry; rw [hcl]; rfl) ?_
        unfold f_X6_inquiry
        simp only [s_b, if_neg cn, e_whyU (σ := σ1) (by rw [e13]; exact hr), s_bi, if10, f_X6_inquiry_b23, f_X6_inquiry_b24, z_bad0 rfl, if0, if_true, if1, f_X6_allRows, x_in, f_X6_inquiry_b49, f_X6_inquiry_b81, e13, if_pos c1]
        rw [ent_48 (by decide), f1 48 0 43 rfl, hR, if_pos c2]
        refine n_bv (m_find hF (ent_inv i1) (by rw [ent_48 (by decide), f1 48 0 13 rfl]; exact hT) hT6) ?_
        rintro σ4 ⟨o4, i4, f4, l4⟩
        rw [m_share hF hw6 (by rw [f4 48 0 13 rfl, ent_48 (by decide), f1 48 0 13 rfl]; exact hT) hT6, s_bi]
        refine n_i ⟨i4, (f4 48 0 0 rfl).trans z_thr, fun _ => ?_⟩
        rw [l4 90 0 0 (by decide), ent_2]
        have e0 : ∀ v, v < T → σ4.2 89 0 v = odS σ.1 a1 0 v := fun v hv => by rw [o4 v hv, odS_ent, odS_F f1]
        rw [e0 w hwT, sumL_cg e0, (ho w hwT).1, hs]
      · have hcl : f_X5_inquiry F a1 (nI w) σ = some (.inr "java/lang/IllegalArgumentException", σ) := by
          unfold f_X5_inquiry f_X5_inquiry_b10
          rw [if_neg cn, t_why, if_pos c1', s_bv, hR4, t_bits hR10, if_neg c2, s_xv]
        refine top_i (k := 2) (σ2 := σ) (by unfold w_inquiry; rw [hcl]; rfl) ?_
        unfold f_X6_inquiry
        simp only [s_b, if_neg cn, e_why (σ := σ) hr, s_bi, if10, f_X6_inquiry_b23, f_X6_inquiry_b24, z_bad0 rfl, if0, if_true, if1, f_X6_allRows, x_in, f_X6_inquiry_b49, f_X6_inquiry_b81, if_pos c1]
        rw [kU_k (by decide), hR, if_neg c2]
        simp only [z_bad1 two_ne, s_bi, if1, f_X6_inquiry_b56]
        exact n_i ⟨thr_inv h, z_thr, fun z => absurd z two_ne⟩
    · have c1' : ¬ (0 ≤ a2 ∧ a2 < σ.1 0 0 5) := by rw [ht]; exact c1
      have hcl : f_X5_inquiry F a1 a2 σ = some (.inr "java/util/NoSuchElementException", σ) := by
        unfold f_X5_inquiry
        rw [if_neg cn, t_why, if_neg c1', s_xv]
      refine top_i (k := 1) (σ2 := σ) (by unfold w_inquiry; rw [hcl]; rfl) ?_
      unfold f_X6_inquiry
      simp only [s_b, if_neg cn, e_why (σ := σ) hr, s_bi, if10, f_X6_inquiry_b24, if_neg c1, z_bad1 one_ne, if1, f_X6_inquiry_b56, if0, if_true]
      exact n_i ⟨thr_inv h, z_thr, fun z => absurd z one_ne⟩
def wfO (O : Nat → Int64) (l : Nat → Int32) : Nat → Int64
  | 0 => 0
  | v + 1 => wfO O l v + (if l v = 0 then 0 else O v)
theorem wfO_cg {O O' : Nat → Int64} {l l' : Nat → Int32} : ∀ {n : Nat}, (∀ v, v < n → O v = O' v ∧ l v = l' v) → wfO O l n = wfO O' l' n
  | 0, _ => rfl
  | n + 1, h => by
    show wfO O l n + _ = wfO O' l' n + _
    rw [wfO_cg (fun v hv => h v (by omega)), (h n (by omega)).1, (h n (by omega)).2]
theorem c_wf {F : Nat} (hF : 2000 ≤ F) {σ : kS} {T c : Nat} {sec : Int32} (hT : σ.1 0 0 5 = nI T) (hT6 : T ≤ 6) (hc : c < 8) : f_X5_worthWithFire F (nI c) sec σ = some (.inl (some (.long (wfO (σ.2 9 0) (fun v => litI (σ.1 47 v c) sec) T))), σ) := by
  have hg : RLo (f_X5_worthWithFire F (nI c) sec σ) (fun r σ' => r = wfO (σ.2 9 0) (fun v => litI (σ.1 47 v c) sec) T ∧ σ' = σ) := by
    unfold f_X5_worthWithFire
    refine n_fix (fun n x σ' => ∃ v, x = (nI c, sec, wfO (σ.2 9 0) (fun v => litI (σ.1 47 v c) sec) v, nI v) ∧ v ≤ T ∧ n = T - v ∧ σ' = σ) ?_ F T _ σ (by omega) ⟨0, rfl, by omega, rfl, rfl⟩
    rintro rr n x σ' ⟨v, rfl, hv, rfl, rfl⟩ ih
    unfold f_X5_worthWithFire_b5 f_X5_worthWithFire_b39
    dsimp only
    rw [hT, nI_c (a := v) (by omega), nI_s (a := v) (by omega)]
    have e : wfO (σ'.2 9 0) (fun v => litI (σ'.1 47 v c) sec) (v + 1) = wfO (σ'.2 9 0) (fun v => litI (σ'.1 47 v c) sec) v + (if litI (σ'.1 47 v c) sec = 0 then 0 else σ'.2 9 0 v) := rfl
    refine n_if (fun q => ?_) (fun q => ?_)
    · rw [nJ_le (by omega) (by omega)] at q
      have : v = T := by omega
      subst this
      exact n_l ⟨rfl, rfl⟩
    · rw [nJ_le (by omega) (by omega)] at q
      have hkv : kin (nI v) 6 := (nI_kin (by omega)).mpr (by omega)
      refine n_g hkv (n_b ?_)
      rw [c_lit hc, s_bi]
      refine n_if (fun q1 => ih (T - (v + 1)) _ _ (by omega) ⟨v + 1, ?_, by omega, rfl, rfl⟩) (fun q1 => n_g hkv (n_b (ih (T - (v + 1)) _ _ (by omega) ⟨v + 1, ?_, by omega, rfl, rfl⟩)))
      · rw [e, if_pos q1, Int64.add_zero]
      · rw [e, if_neg q1]
  obtain ⟨r, σ', e, rfl, rfl⟩ := rl_get hg
  exact e
def nxS (M : Nat → Int64) : Nat → Int32 × Int64
  | 0 => (-1, 0)
  | c + 1 => if (nxS M c).1 = -1 ∨ lg_cmp (M c) (nxS M c).2 < 0 then (nI c, M c) else nxS M c
theorem nxS_cg {M M' : Nat → Int64} : ∀ {n : Nat}, (∀ v, v < n → M v = M' v) → nxS M n = nxS M' n
  | 0, _ => rfl
  | n + 1, h => by
    show (if _ then _ else _) = (if _ then _ else _)
    rw [nxS_cg (fun v hv => h v (by omega)), h n (by omega)]
theorem c_next {F : Nat} (hF : 2000 ≤ F) {σ : kS} {T : Nat} {sec : Int32} {s : Int64} (hT : σ.1 0 0 5 = nI T) (hT6 : T ≤ 6) : kFix (f_X5_next_b35 F) F (sec, s, (-1), 0, 0) σ = some (.inl (some (.int (nxS (fun c => kmaxL (wfO (σ.2 9 0) (fun v => litI (σ.1 47 v c) sec) T) (s - wfO (σ.2 9 0) (fun v => litI (σ.1 47 v c) sec) T)) 8).1)), σ) := by
  obtain ⟨M, hM⟩ : ∃ M, M = fun c => kmaxL (wfO (σ.2 9 0) (fun v => litI (σ.1 47 v c) sec) T) (s - wfO (σ.2 9 0) (fun v => litI (σ.1 47 v c) sec) T) := ⟨_, rfl⟩
  rw [← hM]
  refine ri_same ?_
  refine n_fix (fun n x σ' => ∃ c, x = (sec, s, (nxS M c).1, (nxS M c).2, nI c) ∧ c ≤ 8 ∧ n = 8 - c ∧ σ' = σ) ?_ F 8 _ σ (by omega) ⟨0, rfl, by omega, rfl, rfl⟩
  rintro rr n x σ' ⟨c, rfl, hc, rfl, rfl⟩ ih
  unfold f_X5_next_b35 f_X5_next_b76 f_X5_next_b84
  dsimp only
  have e : nxS M (c + 1) = if (nxS M c).1 = -1 ∨ lg_cmp (M c) (nxS M c).2 < 0 then (nI c, M c) else nxS M c := rfl
  refine n_if (fun q => ?_) (fun q => ?_)
  · have q : nI 8 ≤ nI c := q
    rw [nJ_le (by omega) (by omega)] at q
    have : c = 8 := by omega
    subst this
    exact n_i ⟨rfl, rfl⟩
  · have q : ¬ nI 8 ≤ nI c := q
    rw [nJ_le (by omega) (by omega)] at q
    rw [c_wf hF hT hT6 (by omega), s_bl, s_b, nI_s (by omega)]
    have eM : kmaxL (wfO (σ'.2 9 0) (fun v => litI (σ'.1 47 v c) sec) T) (s - wfO (σ'.2 9 0) (fun v => litI (σ'.1 47 v c) sec) T) = M c := by rw [hM]
    rw [eM]
    refine n_if (fun q1 => ih (8 - (c + 1)) _ _ (by omega) ⟨c + 1, ?_, by omega, rfl, rfl⟩) (fun q1 => n_if (fun q2 => ih (8 - (c + 1)) _ _ (by omega) ⟨c + 1, ?_, by omega, rfl, rfl⟩) (fun q2 => ih (8 - (c + 1)) _ _ (by omega) ⟨c + 1, ?_, by omega, rfl, rfl⟩))
    · rw [e, if_pos (Or.inl q1)]
    · rw [e, if_neg (fun z => z.elim q1 (fun z => absurd z (Int32.not_lt.mpr q2)))]
    · rw [e, if_pos (Or.inr (Int32.not_le.mp q2))]
theorem lg_max {a b : Int64} : (if lg_cmp a b ≤ 0 then b else a) = kmaxL a b := by
  unfold lg_cmp kmaxL
  by_cases h : a > b
  · rw [if_pos h, if_neg (by decide), if_pos h]
  · have h' : ¬ b < a := h
    rw [if_neg h, if_neg h']
    by_cases h2 : a = b
    · rw [if_pos h2, if_pos (by decide)]
    · rw [if_neg h2, if_pos (by decide)]
theorem m_next {F : Nat} (hF : 2000 ≤ F) {σ : kS} {T : Nat} {s : Int64} (hT : σ.1 48 0 13 = nI T) (hT0 : 0 < T) (hT6 : T ≤ 6) : kFix (f_X6_next_b133 F) F (s, (-1), 0, 0) σ = some (.inl (some (.int (nxS (fun c => kmaxL (σ.2 91 0 c) (s - σ.2 91 0 c)) 8).1)), σ) := by
  obtain ⟨M, hM⟩ : ∃ M, M = fun c => kmaxL (σ.2 91 0 c) (s - σ.2 91 0 c) := ⟨_, rfl⟩
  rw [← hM]
  refine ri_same ?_
  refine n_fix (fun n x σ' => ∃ c, x = (s, (nxS M c).1, (nxS M c).2, nI c) ∧ c ≤ 8 ∧ n = 8 - c ∧ σ' = σ) ?_ F 8 _ σ (by omega) ⟨0, rfl, by omega, rfl, rfl⟩
  rintro rr n x σ' ⟨c, rfl, hc, rfl, rfl⟩ ih
  unfold f_X6_next_b133 f_X6_next_b207
  dsimp only
  have e : nxS M (c + 1) = if (nxS M c).1 = -1 ∨ lg_cmp (M c) (nxS M c).2 < 0 then (nI c, M c) else nxS M c := rfl
  refine n_if (fun q => ?_) (fun q => ?_)
  · have q : nI 8 ≤ nI c := q
    rw [nJ_le (by omega) (by omega)] at q
    have : c = 8 := by omega
    subst this
    exact n_i ⟨rfl, rfl⟩
  · have q : ¬ nI 8 ≤ nI c := q
    rw [nJ_le (by omega) (by omega)] at q
    refine n_f (by rw [hT]; show ¬ nI T ≤ nI 0; rw [nJ_le (by omega) (by omega)]; omega) ?_
    have hkc : kin (nI c) 8 := (nI_kin (by omega)).mpr (by omega)
    rw [nI_c (by omega)]
    have hlast : ∀ t0, t0 = M c → Rn (f_X6_next_b174 F rr s (nxS M c).1 (nxS M c).2 (nI c) t0 σ') (fun v σ_1 => ∃ r, v = some (Value.int r) ∧ r = (nxS M 8).1 ∧ σ_1 = σ') := by
      rintro t0 rfl
      unfold f_X6_next_b174 f_X6_next_b193 f_X6_next_b201
      rw [nI_s (by omega)]
      refine n_if (fun q1 => ih (8 - (c + 1)) _ _ (by omega) ⟨c + 1, ?_, by omega, rfl, rfl⟩) (fun q1 => n_if (fun q2 => ih (8 - (c + 1)) _ _ (by omega) ⟨c + 1, ?_, by omega, rfl, rfl⟩) (fun q2 => ih (8 - (c + 1)) _ _ (by omega) ⟨c + 1, ?_, by omega, rfl, rfl⟩))
      · rw [e, if_pos (Or.inl q1)]
      · rw [e, if_pos (Or.inr q2)]
      · rw [e, if_neg (fun z => z.elim q1 q2)]
    have eM : M c = if lg_cmp (σ'.2 91 0 c) (s - σ'.2 91 0 c) ≤ 0 then s - σ'.2 91 0 c else σ'.2 91 0 c := by rw [lg_max, hM]
    refine n_g hkc (n_g hkc (n_if (fun q1 => n_g hkc (hlast _ ?_)) (fun q1 => n_g hkc (hlast _ ?_))))
    · rw [eM, if_pos q1]
    · rw [eM, if_neg q1]
theorem m_with {F : Nat} (hF : 2000 ≤ F) {σ : kS} (h : Inv σ.1) {T : Nat} {sec : Int32} {O : Nat → Int64} {Q : Option Value → kS → Prop} (hT : σ.1 48 0 13 = nI T) (hT6 : T ≤ 6) (hO : ∀ w, w < T → σ.2 89 0 w = O w) (h91 : ∀ c, c < 8 → σ.2 91 0 c = 0)
    (hnx : ∀ σ', Inv σ'.1 → FrI sR σ σ' → (∀ g i k, g ≠ 91 → σ'.2 g i k = σ.2 g i k) → (∀ c, c < 8 → σ'.2 91 0 c = wfO O (fun v => litI ((runS (σ.1 61 0) (σ.1 62 0) (yOf σ.1 (v + 2)) 100).2.2.2.1 c) sec) T) → Rn (kFix (f_X6_next_b133 F) F (sumL O T, (-1), 0, 0) σ') Q) :
    Rn (kFix (f_X6_next_b49 F) F (sec, 0, 0) σ) Q := by
  refine n_fix (fun n x σ' => ∃ w, x = (sec, sumL O w, nI w) ∧ w ≤ T ∧ n = T - w ∧ Inv σ'.1 ∧ FrI sR σ σ' ∧ (∀ g i k, g ≠ 91 → σ'.2 g i k = σ.2 g i k) ∧ (∀ c, c < 8 → σ'.2 91 0 c = wfO O (fun v => litI ((runS (σ.1 61 0) (σ.1 62 0) (yOf σ.1 (v + 2)) 100).2.2.2.1 c) sec) w)) ?_ F T _ σ (by omega) ⟨0, rfl, by omega, rfl, h, FrI.refl σ, fun _ _ _ _ => rfl, h91⟩
  rintro rr n x σ' ⟨w, rfl, hw, rfl, hi, hfr, hl, hI⟩ ih
  have e13 : σ'.1 48 0 13 = nI T := (hfr 48 0 13 rfl).trans hT
  unfold f_X6_next_b49
  dsimp only
  rw [e13]
  refine n_if (fun q => ?_) (fun q => ?_)
  · rw [nJ_le (by omega) (by omega)] at q
    have : w = T := by omega
    subst this
    exact hnx σ' hi hfr hl hI
  rw [nJ_le (by omega) (by omega)] at q
  have hkw : kin (nI w) 6 := (nI_kin (by omega)).mpr (by omega)
  refine n_bv (i_runs hF hi (by omega) (by rw [e13, nJ_lt (by omega) (by omega)]; omega)) ?_
  rintro σ1 ⟨g1, i1, f1⟩
  have e61 : σ'.1 61 = σ.1 61 := by funext i k; exact hfr 61 i k rfl
  have e62 : σ'.1 62 = σ.1 62 := by funext i k; exact hfr 62 i k rfl
  have ey : yOf σ'.1 (w + 2) = yOf σ.1 (w + 2) := hfr.y sR_y
  rw [e61, e62, ey] at g1
  rw [nI_c (by omega)]
  refine n_g hkw (n_b ?_)
  have eO : σ1.2 89 0 w = O w := by rw [f1.2, hl 89 0 w (by decide), hO w (by omega)]
  rw [eO]
  have hL : ∀ c, c < 8 → σ1.1 66 0 c = (runS (σ.1 61 0) (σ.1 62 0) (yOf σ.1 (w + 2)) 100).2.2.2.1 c := fun c hc => by rw [g1.2.1 c hc, runS]
  refine n_fix (fun n x σ2 => ∃ c, x = (sec, sumL O w + O w, nI w, nI c) ∧ c ≤ 8 ∧ n = 8 - c ∧ σ2.1 = σ1.1 ∧ (∀ g i k, g ≠ 91 → σ2.2 g i k = σ.2 g i k) ∧ (∀ d, d < 8 → σ2.2 91 0 d = wfO O (fun v => litI ((runS (σ.1 61 0) (σ.1 62 0) (yOf σ.1 (v + 2)) 100).2.2.2.1 d) sec) (if d < c then w + 1 else w))) ?_ F 8 _ σ1 (by omega) ⟨0, rfl, by omega, rfl, rfl, fun g i k hg => by rw [f1.2]; exact hl g i k hg, fun d hd => by rw [if_neg (by omega), f1.2]; exact hI d hd⟩
  rintro r2 n x σ2 ⟨c, rfl, hc, rfl, es, hl2, hI2⟩ ih2
  unfold f_X6_next_b77
  dsimp only
  refine n_if (fun q1 => ?_) (fun q1 => ?_)
  · have q1 : nI 8 ≤ nI c := q1
    rw [nJ_le (by omega) (by omega)] at q1
    rw [nI_s (by omega)]
    refine ih (T - (w + 1)) _ _ (by omega) ⟨w + 1, rfl, by omega, rfl, by rw [es]; exact i1, fun g i k hg => by rw [es]; exact (f1.1 g i k hg).trans (hfr g i k hg), hl2, fun d hd => ?_⟩
    rw [hI2 d hd, if_pos (by omega)]
  · have q1 : ¬ nI 8 ≤ nI c := q1
    rw [nJ_le (by omega) (by omega)] at q1
    have hkc : kin (nI c) 8 := (nI_kin (by omega)).mpr (by omega)
    rw [m_lit (by omega), s_bi, nI_c (by omega), nI_c (by omega), es, hL c (by omega), hI2 c (by omega), show (if c < c then w + 1 else w) = w from if_neg (by omega), hl2 89 0 w (by decide), hO w (by omega)]
    have e : wfO O (fun v => litI ((runS (σ.1 61 0) (σ.1 62 0) (yOf σ.1 (v + 2)) 100).2.2.2.1 c) sec) (w + 1) = wfO O (fun v => litI ((runS (σ.1 61 0) (σ.1 62 0) (yOf σ.1 (v + 2)) 100).2.2.2.1 c) sec) w + (if litI ((runS (σ.1 61 0) (σ.1 62 0) (yOf σ.1 (w + 2)) 100).2.2.2.1 c) sec = 0 then 0 else O w) := by rw [wfO]
    have hgo : ∀ t3, t3 = (if litI ((runS (σ.1 61 0) (σ.1 62 0) (yOf σ.1 (w + 2)) 100).2.2.2.1 c) sec = 0 then 0 else O w) → Rn (f_X6_next_b110 F r2 sec (sumL O w + O w) (nI w) (nI c) (nI c) (wfO O (fun v => litI ((runS (σ.1 61 0) (σ.1 62 0) (yOf σ.1 (v + 2)) 100).2.2.2.1 c) sec) w) t3 σ2) Q := by
      intro t3 ht3
      unfold f_X6_next_b110
      rw [nI_c (by omega), nI_s (by omega)]
      refine n_g hkc (n_b (ih2 (8 - (c + 1)) _ _ (by omega) ⟨c + 1, rfl, by omega, rfl, es, fun g i k hg => ?_, fun d hd => ?_⟩))
      · show (if _ then _ else _) = _
        rw [if_neg (fun z => hg z.1)]
        exact hl2 g i k hg
      · show (if _ then _ else _) = _
        by_cases z : d = c
        · subst z
          rw [if_pos ⟨rfl, rfl, rfl⟩, if_pos (by omega), e, ht3]
        · rw [if_neg (fun q => z q.2.2), hI2 d hd]
          by_cases z2 : d < c
          · rw [if_pos z2, if_pos (by omega)]
          · rw [if_neg z2, if_neg (by omega)]
    refine n_g hkc (n_if (fun q2 => hgo _ (by rw [if_pos q2])) (fun q2 => n_g hkw (hgo _ (by rw [if_neg q2]))))
theorem kZ8_1 {σ : kS} : (kZ8 σ).1 = σ.1 := rfl
theorem Inv_1 {σ σ' : kS} (e : σ'.1 = σ.1) (h : Inv σ.1) : Inv σ'.1 := by rw [e]; exact h
theorem g_next' {F : Nat} (hF : 2000 ≤ F) (a1 : Int32) : Good (q_next F a1) := by
  intro nx σ h
  obtain ⟨ht, hr⟩ := inv_told h
  obtain ⟨T, hT6, hT, hT5⟩ := inv_T h
  obtain ⟨R, hR10, hR, hR4⟩ := inv_R h
  by_cases c1 : 0 ≤ a1 ∧ a1 ≤ 99
  · by_cases hT0 : 0 < T
    · obtain ⟨s, σ1, e1, hs, ho, i1, f1, l1⟩ := rl_get (c_reckon hF h (bits := (1 <<< (nI R &&& 31)) - 1) (wb := 1) hT hT6)
      obtain ⟨v, hv⟩ : ∃ v, v = (nxS (fun c => kmaxL (wfO (σ1.2 9 0) (fun v => litI (σ1.1 47 v c) a1) T) (s - wfO (σ1.2 9 0) (fun v => litI (σ1.1 47 v c) a1) T)) 8).1 := ⟨_, rfl⟩
      have hcl : f_X5_next F a1 σ = some (.inl (some (.int v)), σ1) := by
        unfold f_X5_next f_X5_rowBits
        rw [t_with, if_pos c1, s_bv, hT5, if_neg (by show ¬ nI T = nI 0; rw [nI_inj (by omega) (by omega)]; omega), hR4, s_bi, e1, s_bl, c_next hF (by rw [f1 0 0 5 rfl]; exact hT5) hT6, hv]
      refine top_i (k := 0) (σ2 := kUL σ1 90 0 0 v.toInt64) (by unfold w_next; rw [hcl]; rfl) ?_
      unfold f_X6_next
      simp only [s_b, x_in, s_bi, if10, f_X6_next_b21, z_bad0 rfl, if0, if_true, if_pos c1, if1, f_X6_allRows]
      rw [ent_48 (by decide), f1 48 0 43 rfl, hR]
      refine n_bv (m_find hF (ent_inv i1) (by rw [ent_48 (by decide), f1 48 0 13 rfl]; exact hT) hT6) ?_
      rintro σ4 ⟨o4, i4, f4, l4⟩
      have e134 : σ4.1 48 0 13 = nI T := by rw [f4 48 0 13 rfl, ent_48 (by decide), f1 48 0 13 rfl, hT]
      have e0 : ∀ v, v < T → σ4.2 89 0 v = odS σ.1 ((1 <<< (nI R &&& 31)) - 1) 1 v := fun v hv => by rw [o4 v hv, odS_ent, odS_F f1]
      refine m_with hF (σ := kZ8 σ4) (O := odS σ.1 ((1 <<< (nI R &&& 31)) - 1) 1) i4 e134 hT6 (fun w hw => by rw [← e0 w hw]; rfl) (fun c hc => by simp [kZ8, hc]) ?_
      intro σ5 i5 f5 l5 w5
      rw [m_next hF (by rw [f5 48 0 13 rfl]; exact e134) hT0 hT6]
      refine n_i ⟨i5, (f5 48 0 0 rfl).trans ((f4 48 0 0 rfl).trans z_thr), fun _ => ?_⟩
      rw [l5 90 0 0 (by decide)]
      have e90 : (kZ8 σ4).2 90 0 0 = v.toInt64 := by
        have : (kZ8 σ4).2 90 0 0 = σ4.2 90 0 0 := by simp [kZ8]
        rw [this, l4 90 0 0 (by decide), ent_2]
      rw [e90, hv]
      have hcg : nxS (fun c => kmaxL (σ5.2 91 0 c) (sumL (odS σ.1 ((1 <<< (nI R &&& 31)) - 1) 1) T - σ5.2 91 0 c)) 8 = nxS (fun c => kmaxL (wfO (σ1.2 9 0) (fun v => litI (σ1.1 47 v c) a1) T) (s - wfO (σ1.2 9 0) (fun v => litI (σ1.1 47 v c) a1) T)) 8 := nxS_cg (fun c hc => by
        have ew : σ5.2 91 0 c = wfO (σ1.2 9 0) (fun v => litI (σ1.1 47 v c) a1) T := by
          rw [w5 c hc]
          refine wfO_cg (fun v hv => ⟨((ho v hv).1).symm, ?_⟩)
          have fm := inv_film i1 (show v < 6 by omega) (ho v hv).2
          have e61 : σ4.1 61 0 = σ1.1 61 0 := by funext k; rw [f4 61 0 k rfl, ent_1 (by decide)]
          have e62 : σ4.1 62 0 = σ1.1 62 0 := by funext k; rw [f4 62 0 k rfl, ent_1 (by decide)]
          have ey : yOf σ4.1 (v + 2) = yOf σ1.1 (v + 2) := by rw [f4.y sB_y, ent_y]
          simp only [kZ8_1, e61, e62, ey, fm.2.1 c hc]
        rw [ew, hs])
      rw [hcg]
    · have hT0 : T = 0 := by omega
      subst hT0
      have hcl : f_X5_next F a1 σ = some (.inl (some (.int (-1))), σ) := by
        unfold f_X5_next
        rw [t_with, if_pos c1, s_bv, hT5, if_pos (by decide)]
      refine top_i (k := 0) (σ2 := kUL σ 90 0 0 (-1 : Int32).toInt64) (by unfold w_next; rw [hcl]; rfl) ?_
      unfold f_X6_next
      simp only [s_b, x_in, s_bi, if10, f_X6_next_b21, z_bad0 rfl, if0, if_true, if_pos c1, if1, f_X6_allRows]
      refine n_bv (m_find hF (ent_inv h) (T := 0) (by rw [ent_48 (by decide)]; exact hT) (by omega)) ?_
      rintro σ4 ⟨o4, i4, f4, l4⟩
      have e134 : σ4.1 48 0 13 = nI 0 := by rw [f4 48 0 13 rfl, ent_48 (by decide), hT]
      refine m_with hF (σ := kZ8 σ4) (T := 0) (O := odS σ.1 0 0) i4 e134 (by omega) (fun w hw => absurd hw (by omega)) (fun c hc => by simp [kZ8, hc]) ?_
      intro σ5 i5 f5 l5 w5
      have e5 : σ5.1 48 0 13 = nI 0 := (f5 48 0 13 rfl).trans e134
      have hone : Rn (kFix (f_X6_next_b133 F) F (sumL (odS σ.1 0 0) 0, (-1), 0, 0) σ5) (fun v σ' => ∃ r, v = some (Value.int r) ∧ r = -1 ∧ σ' = σ5) := by
        refine n_fix (fun n x σ' => x = (sumL (odS σ.1 0 0) 0, (-1), 0, 0) ∧ σ' = σ5) ?_ F 0 _ _ (by omega) ⟨rfl, rfl⟩
        rintro rr n x σ' ⟨rfl, rfl⟩ ih
        unfold f_X6_next_b133 f_X6_next_b207
        dsimp only
        exact n_f (by decide) (n_t (by rw [e5]; decide) (n_i ⟨rfl, rfl⟩))
      refine ri_mono hone ?_
      rintro r σ6 ⟨rfl, rfl⟩
      refine ⟨i5, (f5 48 0 0 rfl).trans ((f4 48 0 0 rfl).trans z_thr), fun _ => ?_⟩
      rw [l5 90 0 0 (by decide)]
      have : (kZ8 σ4).2 90 0 0 = σ4.2 90 0 0 := by simp [kZ8]
      rw [this, l4 90 0 0 (by decide), ent_2]
  · have hcl : f_X5_next F a1 σ = some (.inr "java/lang/IllegalArgumentException", σ) := by
      unfold f_X5_next
      rw [t_with, if_neg c1, s_xv]
    refine top_i (k := 1) (σ2 := σ) (by unfold w_next; rw [hcl]; rfl) ?_
    unfold f_X6_next
    simp only [s_b, x_in, s_bi, if10, f_X6_next_b21, if_neg c1, z_bad1 one_ne, if1, if0, if_true]
    exact n_i ⟨thr_inv h, z_thr, fun z => absurd z one_ne⟩
