/-! THE REFERENCE'S SECOND, whole; its RUN. -/
def FrS (s : Nat) (σ σ' : kS) : Prop := (∀ g i k, (sR g k = false ∨ g = 63 ∨ ((g = 68 ∨ g = 70) ∧ i ≠ s) ∨ ((g = 75 ∨ g = 76 ∨ g = 77 ∨ g = 78) ∧ k ≠ s)) → σ'.1 g i k = σ.1 g i k) ∧ σ'.2 = σ.2
theorem FrS.refl {s : Nat} (σ : kS) : FrS s σ σ := ⟨fun _ _ _ _ => rfl, rfl⟩
theorem FrS.trans {s : Nat} {σ σ' σ'' : kS} (h : FrS s σ σ') (h' : FrS s σ' σ'') : FrS s σ σ'' := ⟨fun g i k q => (h'.1 g i k q).trans (h.1 g i k q), h'.2.trans h.2⟩
theorem FrS.l {s : Nat} {l : List Nat} {σ σ' : kS} (h : Fr (sL l) σ σ') (hl : ∀ g ∈ l, g = 59 ∨ g = 60 ∨ g = 64 ∨ g = 65 ∨ g = 66) : FrS s σ σ' := by
  refine ⟨fun g i k q => h.1 g i k ?_, h.2⟩
  show l.contains g = false
  by_cases c : g ∈ l
  · exfalso
    have z := hl g c
    rcases z with rfl | rfl | rfl | rfl | rfl <;> rcases q with q | q | q | q <;> first | (cases q; done) | (simp at q; done) | omega
  · simpa using c
theorem FrS.u {s : Nat} {σ σ' : kS} {g i k : Nat} {v : Int32} (h : FrS s σ σ') (q : (g = 60 ∨ g = 64 ∨ g = 65) ∨ (g = 48 ∧ (k = 36 ∨ k = 37 ∨ k = 38)) ∨ ((g = 68 ∨ g = 70) ∧ i = s) ∨ ((g = 75 ∨ g = 76 ∨ g = 77 ∨ g = 78) ∧ k = s)) : FrS s σ (kU σ' g i k v) := by
  refine ⟨fun g' i' k' e => ?_, h.2⟩
  rw [kU_at, if_neg]
  · exact h.1 g' i' k' e
  · rintro ⟨rfl, rfl, rfl⟩
    rcases q with (rfl | rfl | rfl) | ⟨rfl, rfl | rfl | rfl⟩ | ⟨rfl | rfl, rfl⟩ | ⟨rfl | rfl | rfl | rfl, rfl⟩ <;> rcases e with e | e | e | e <;> first | (cases e; done) | (simp at e; done) | omega
def rfM (m : kM) (r : rS) : Prop := (∀ c, c < 8 → m 64 0 c = r.2.1 c ∧ m 65 0 c = r.2.2.1 c ∧ m 66 0 c = r.2.2.2.1 c) ∧ m 48 0 37 = r.2.2.2.2.1 ∧ m 48 0 38 = r.2.2.2.2.2.1 ∧ m 48 0 36 = r.2.2.2.2.2.2
theorem r_b251 {F : Nat} (hF : 2000 ≤ F) {σ : kS} {x1 x2 x3 x4 x5 sec : Int32} {s : Nat} {rr : (Int32 × Int32 × Int32 × Int32 × Int32 × Int32) → kS → Option kR} {Q : Option Value → kS → Prop} (hs : s < 100) (hsec : sec = nI s) (g m f : Nat → Int32) (p : Int32 × Int32) (hg : ∀ c, c < 8 → σ.1 64 0 c = g c ∧ σ.1 65 0 c = m c ∧ σ.1 66 0 c = f c) (h37 : σ.1 48 0 37 = p.1) (h38 : σ.1 48 0 38 = p.2)
    (hnx : ∀ (rr2 : (Int32 × Int32 × Int32 × Int32 × Int32 × Int32 × Int32 × Int32) → kS → Option kR) (σ' : kS), (∀ c, c < 8 → σ'.1 64 0 c = burnG f (σ.1 63 0 6) g c ∧ σ'.1 65 0 c = burnM f m c ∧ σ'.1 66 0 c = f c ∧ σ'.1 68 s c = burnG f (σ.1 63 0 6) g c ∧ σ'.1 70 s c = burnM f m c) → σ'.1 48 0 37 = (bgS f sec 8 p).1 → σ'.1 48 0 38 = (bgS f sec 8 p).2 → σ'.1 48 0 36 = σ.1 48 0 36 → FrS s σ σ' → Rn (f_X6_runs_b251 F rr rr2 (x1, x2, x3, x4, x5, sec, sumS (burnG f (σ.1 63 0 6) g) 8, 8) σ') Q) :
    Rn (kFix (f_X6_runs_b251 F rr) F (x1, x2, x3, x4, x5, sec, 0, 0) σ) Q := by
  refine n_fix (fun n x σ' => ∃ j, x = (x1, x2, x3, x4, x5, sec, sumS (burnG f (σ.1 63 0 6) g) j, nI j) ∧ j ≤ 8 ∧ n = 8 - j ∧ (∀ c, c < 8 → (c < j → σ'.1 64 0 c = burnG f (σ.1 63 0 6) g c ∧ σ'.1 65 0 c = burnM f m c ∧ σ'.1 68 s c = burnG f (σ.1 63 0 6) g c ∧ σ'.1 70 s c = burnM f m c) ∧ (j ≤ c → σ'.1 64 0 c = g c ∧ σ'.1 65 0 c = m c) ∧ σ'.1 66 0 c = f c) ∧ σ'.1 48 0 37 = (bgS f sec j p).1 ∧ σ'.1 48 0 38 = (bgS f sec j p).2 ∧ σ'.1 48 0 36 = σ.1 48 0 36 ∧ FrS s σ σ') ?_ F 8 _ σ (by omega) ⟨0, rfl, by omega, rfl, fun c hc => ⟨fun h => absurd h (by omega), fun _ => ⟨(hg c hc).1, (hg c hc).2.1⟩, (hg c hc).2.2⟩, h37, h38, rfl, FrS.refl σ⟩
  rintro r2 n x σ' ⟨j, rfl, hj, rfl, hI, hb1, hb2, h36, hfr⟩ ih
  by_cases k8 : j = 8
  · subst k8
    exact hnx r2 σ' (fun c hc => ⟨((hI c hc).1 hc).1, ((hI c hc).1 hc).2.1, (hI c hc).2.2, ((hI c hc).1 hc).2.2.1, ((hI c hc).1 hc).2.2.2⟩) hb1 hb2 h36 hfr
  have hj8 : j < 8 := by omega
  have ej : (nI j).toNatClampNeg = j := nI_c (by omega)
  have es' : (nI s).toNatClampNeg = s := nI_c (by omega)
  have es : nI j + 1 = nI (j + 1) := nI_s (by omega)
  have hkj : kin (nI j) 8 := (nI_kin (by omega)).mpr hj8
  have hks : kin (nI s) 100 := (nI_kin (by omega)).mpr hs
  have e63 : σ'.1 63 0 6 = σ.1 63 0 6 := hfr.1 63 0 6 (Or.inr (Or.inl rfl))
  obtain ⟨e64, e65⟩ := (hI j hj8).2.1 (Nat.le_refl _)
  have e66 := (hI j hj8).2.2
  have hlast : ∀ σ2 : kS, (∀ c, c < 8 → c ≠ j → σ2.1 64 0 c = σ'.1 64 0 c ∧ σ2.1 65 0 c = σ'.1 65 0 c) → (∀ c, c < 8 → σ2.1 66 0 c = σ'.1 66 0 c ∧ σ2.1 68 s c = σ'.1 68 s c ∧ σ2.1 70 s c = σ'.1 70 s c) → σ2.1 64 0 j = burnG f (σ.1 63 0 6) g j → σ2.1 65 0 j = burnM f m j → σ2.1 48 0 37 = (bgS f sec (j + 1) p).1 → σ2.1 48 0 38 = (bgS f sec (j + 1) p).2 → σ2.1 48 0 36 = σ'.1 48 0 36 → FrS s σ' σ2 → Rn (f_X6_runs_b323 F r2 x1 x2 x3 x4 x5 sec (sumS (burnG f (σ.1 63 0 6) g) j) (nI j) σ2) Q := by
    intro σ2 a1 a2 a3 a4 a5 a6 a7 a8
    unfold f_X6_runs_b323
    rw [hsec]
    simp only [ej, es', es]
    refine n_g hkj (n_b (n_g hks (n_b (n_g hkj (n_g hkj (n_b (n_g hks (n_b (n_g hkj (n_g hkj (n_b ?_)))))))))))
    rw [← hsec, a3]
    refine ih (8 - (j + 1)) _ _ (by omega) ⟨j + 1, rfl, by omega, rfl, fun c hc => ⟨fun h => ?_, fun h => ?_, (a2 c hc).1.trans (hI c hc).2.2⟩, a5, a6, a7.trans h36, ((hfr.trans a8).u (Or.inr (Or.inr (Or.inl ⟨Or.inl rfl, rfl⟩)))).u (Or.inr (Or.inr (Or.inl ⟨Or.inr rfl, rfl⟩)))⟩
    · simp only [kU_at]
      by_cases k : c = j
      · subst k
        simp [a3, a4]
      · simp [k]
        have := (hI c hc).1 (by omega)
        rw [(a1 c hc k).1, (a1 c hc k).2, (a2 c hc).2.1, (a2 c hc).2.2]
        exact this
    · simp only [kU_at]
      have k : ¬ c = j := by omega
      simp
      rw [(a1 c hc k).1, (a1 c hc k).2]
      exact (hI c hc).2.1 (by omega)
  unfold f_X6_runs_b251
  simp only [ej]
  refine n_f (by show ¬ nI 8 ≤ nI j; rw [nJ_le (by omega) (by omega)]; omega) (n_g hkj ?_)
  rw [e66, e63, e64]
  have hbg : bgS f sec (j + 1) p = if f j ≠ -1 ∧ (bgS f sec j p).1 = -1 then (sec, nI j) else bgS f sec j p := rfl
  refine n_if (fun q1 => ?_) (fun q1 => n_g hkj ?_)
  · have e : bgS f sec (j + 1) p = bgS f sec j p := by rw [hbg, if_neg (fun z => z.1 q1)]
    refine hlast σ' (fun c hc _ => ⟨rfl, rfl⟩) (fun c hc => ⟨rfl, rfl, rfl⟩) ?_ ?_ (by rw [e]; exact hb1) (by rw [e]; exact hb2) rfl (FrS.refl _)
    · unfold burnG; rw [if_neg (fun z => z.2 q1)]; exact e64
    · unfold burnM; rw [if_neg (fun z => z.2 q1)]; exact e65
  · rw [r_more, s_bi]
    refine n_g hkj (n_b (n_g hkj (n_b ?_)))
    have eG : burnG f (σ.1 63 0 6) g j = kmax 0 (g j - σ.1 63 0 6) := if_pos ⟨hj8, q1⟩
    have eM : burnM f m j = 0 := if_pos ⟨hj8, q1⟩
    refine n_if (fun q2 => n_b (n_b ?_)) (fun q2 => ?_)
    · have q2 : σ'.1 48 0 37 = -1 := q2
      have e : bgS f sec (j + 1) p = (sec, nI j) := by rw [hbg, if_pos ⟨q1, by rw [← hb1]; exact q2⟩]
      refine hlast _ (fun c hc k => ?_) (fun c hc => ⟨rfl, rfl, rfl⟩) ?_ ?_ ?_ ?_ rfl ?_
      · simp only [kU_at]; simp [k]
      · rw [eG]; simp [kU_at]
      · rw [eM]; simp [kU_at]
      · rw [e]; simp [kU_at]
      · rw [e]; simp [kU_at]
      · exact ((((FrS.refl _).u (Or.inl (Or.inr (Or.inl rfl)))).u (Or.inl (Or.inr (Or.inr rfl)))).u (Or.inr (Or.inl ⟨rfl, Or.inr (Or.inl rfl)⟩))).u (Or.inr (Or.inl ⟨rfl, Or.inr (Or.inr rfl)⟩))
    · have q2 : ¬ σ'.1 48 0 37 = -1 := q2
      have e : bgS f sec (j + 1) p = bgS f sec j p := by rw [hbg, if_neg (fun z => q2 (by rw [hb1]; exact z.2))]
      refine hlast _ (fun c hc k => ?_) (fun c hc => ⟨rfl, rfl, rfl⟩) ?_ ?_ ?_ ?_ rfl ?_
      · simp only [kU_at]; simp [k]
      · rw [eG]; simp [kU_at]
      · rw [eM]; simp [kU_at]
      · rw [e]; exact hb1
      · rw [e]; exact hb2
      · exact ((FrS.refl _).u (Or.inl (Or.inr (Or.inl rfl)))).u (Or.inl (Or.inr (Or.inr rfl)))
theorem r_second {F : Nat} (hF : 2000 ≤ F) {σ : kS} {w s : Nat} {y : yD} {n : Nat → Int32} {r : rS} {rr : (Int32 × Int32 × Int32 × Int32 × Int32 × Int32) → kS → Option kR} {Q : Option Value → kS → Prop} (hw : w < 6) (hs : s < 100) (hY : whyR y (σ.1 57 0 w) (fun j => σ.1 56 (14 * w + j)) (σ.1 54 w)) (hn : ∀ k, k < 10 → σ.1 63 0 k = n k) (hn5 : 1 ≤ (n 5).toInt) (hr : rfM σ.1 r) (hJ1 : r.2.2.2.2.1 = -1 → ∀ c, c < 8 → r.2.2.2.1 c = -1) (hJ2 : r.2.2.2.2.1 ≠ nI s)
    (hnx : ∀ σ', rfM σ'.1 (passS n y (nI s) r) → FrS s σ σ' → (σ'.1 75 0 s = (passS n y (nI s) r).1.1 ∧ σ'.1 76 0 s = (passS n y (nI s) r).1.2.1 ∧ σ'.1 77 0 s = (passS n y (nI s) r).1.2.2.1 ∧ σ'.1 78 0 s = (passS n y (nI s) r).1.2.2.2 ∧ ∀ c, c < 8 → σ'.1 68 s c = (passS n y (nI s) r).2.1 c ∧ σ'.1 70 s c = (passS n y (nI s) r).2.2.1 c) → Rn (rr (nI w, (passS n y (nI s) r).1.1, (passS n y (nI s) r).1.2.1, (passS n y (nI s) r).1.2.2.1, (passS n y (nI s) r).1.2.2.2, nI (s + 1)) σ') Q) :
    Rn (f_X6_runs_b34 F rr (nI w, r.1.1, r.1.2.1, r.1.2.2.1, r.1.2.2.2, nI s) σ) Q := by
  obtain ⟨hg, h37, h38, h36⟩ := hr
  have hy := wfY_of hY
  have hs1 : nI s ≠ -1 := fun z => by have z := i_eq.mp z; rw [nI_toInt (by omega)] at z; have z : (s : Int) = -1 := z; omega
  obtain ⟨wet, hwet⟩ : ∃ x, x = r.1.1 + n 0 := ⟨_, rfl⟩
  obtain ⟨sf, hsf⟩ : ∃ x, x = if n 1 ≤ wet then (kmax 0 (r.1.2.1 - n 4), kmax 0 (r.1.2.2.1 - n 3)) else (r.1.2.1, r.1.2.2.1) := ⟨_, rfl⟩
  obtain ⟨gm, hgm⟩ : ∃ x, x = leakS y (nI s) (yn y) (r.2.1, r.2.2.1) := ⟨_, rfl⟩
  obtain ⟨p, hp⟩ : ∃ x, x = sparkS y (nI s) (sf.1 - sf.2) wet r.1.2.2.2 gm.1 gm.2 (yn y) (r.2.2.2.1, r.2.2.2.2.1, r.2.2.2.2.2.1) := ⟨_, rfl⟩
  obtain ⟨f, hf⟩ : ∃ x, x = spreadS (n 5) (nI s) 8 p.1 := ⟨_, rfl⟩
  have hrf := ref_first hy (sec := nI s) (gap := sf.1 - sf.2) (wet := wet) (hgt := r.1.2.2.2) (sp := n 5) (g := gm.1) (m := gm.2) (f := r.2.2.2.1) (a := r.2.2.2.2.1) (b := r.2.2.2.2.2.1) hs1 hn5 hJ1 hJ2
  rw [← hp, ← hf] at hrf
  obtain ⟨hb, hz⟩ := hrf
  have hpass : passS n y (nI s) r = ((wet, sf.1, sf.2, if sumS (if p.2.1 = -1 then gm.1 else burnG (if p.2.1 = -1 then p.1 else f) (n 6) gm.1) 8 < n 7 then kmax 0 (r.1.2.2.2 - n 8) else r.1.2.2.2), (if p.2.1 = -1 then gm.1 else burnG (if p.2.1 = -1 then p.1 else f) (n 6) gm.1), (if p.2.1 = -1 then gm.2 else burnM (if p.2.1 = -1 then p.1 else f) gm.2), (if p.2.1 = -1 then p.1 else f), p.2.1, p.2.2, if sumS (if p.2.1 = -1 then gm.1 else burnG (if p.2.1 = -1 then p.1 else f) (n 6) gm.1) 8 < n 7 ∧ (if sumS (if p.2.1 = -1 then gm.1 else burnG (if p.2.1 = -1 then p.1 else f) (n 6) gm.1) 8 < n 7 then kmax 0 (r.1.2.2.2 - n 8) else r.1.2.2.2) = 0 ∧ r.2.2.2.2.2.2 = -1 then nI s else r.2.2.2.2.2.2) := by
    rw [hf, hp, hgm, hsf, hwet]
    rfl
  have eF : ∀ c, c < 8 → (if p.2.1 = -1 then p.1 else f) c = f c := fun c hc => by
    by_cases z : p.2.1 = -1
    · rw [if_pos z]; exact ((hz z c hc).1).symm
    · rw [if_neg z]
  have eG : ∀ c, c < 8 → (if p.2.1 = -1 then gm.1 else burnG (if p.2.1 = -1 then p.1 else f) (n 6) gm.1) c = burnG f (n 6) gm.1 c := fun c hc => by
    by_cases z : p.2.1 = -1
    · rw [if_pos z]; unfold burnG; rw [if_neg (fun q => q.2 (hz z c hc).2)]
    · rw [if_neg z, if_neg z]
  have eM : ∀ c, c < 8 → (if p.2.1 = -1 then gm.2 else burnM (if p.2.1 = -1 then p.1 else f) gm.2) c = burnM f gm.2 c := fun c hc => by
    by_cases z : p.2.1 = -1
    · rw [if_pos z]; unfold burnM; rw [if_neg (fun q => q.2 (hz z c hc).2)]
    · rw [if_neg z, if_neg z]
  rw [sumS_cg eG] at hpass
  generalize (if p.2.1 = -1 then gm.1 else burnG (if p.2.1 = -1 then p.1 else f) (n 6) gm.1) = gas at hpass eG
  generalize (if p.2.1 = -1 then gm.2 else burnM (if p.2.1 = -1 then p.1 else f) gm.2) = mixed at hpass eM
  generalize (if p.2.1 = -1 then p.1 else f) = fire at hpass eF
  obtain ⟨hgt, hhgt⟩ : ∃ x, x = (if sumS (burnG f (n 6) gm.1) 8 < n 7 then kmax 0 (r.1.2.2.2 - n 8) else r.1.2.2.2) := ⟨_, rfl⟩
  rw [← hhgt] at hpass
  obtain ⟨dn, hdn⟩ : ∃ x, x = (if sumS (burnG f (n 6) gm.1) 8 < n 7 ∧ hgt = 0 ∧ r.2.2.2.2.2.2 = -1 then nI s else r.2.2.2.2.2.2) := ⟨_, rfl⟩
  rw [← hdn] at hpass
  rw [hpass] at hnx
  have es : nI s + 1 = nI (s + 1) := nI_s (by omega)
  have es' : (nI s).toNatClampNeg = s := nI_c (by omega)
  have hks : kin (nI s) 100 := (nI_kin (by omega)).mpr hs
  have hmain : Rn (f_X6_runs_b88 F rr (nI w) wet sf.1 sf.2 r.1.2.2.2 (nI s) σ) Q := by
    unfold f_X6_runs_b88
    refine r_b91 hF hw hY (r.2.1, r.2.2.1) (fun c hc => ⟨(hg c hc).1, (hg c hc).2.1⟩) ?_
    intro σ1 a1 f1
    rw [← hgm] at a1
    obtain ⟨σ2, e2⟩ : ∃ σ2, σ2 = kU (kU (kU (kU σ1 60 0 0 (nI s)) 60 0 1 (sf.1 - sf.2)) 60 0 2 wet) 60 0 3 r.1.2.2.2 := ⟨_, rfl⟩
    rw [← e2]
    have f2 : Fr (sL [60]) σ1 σ2 := by rw [e2]; exact ((((Fr.refl _).u rfl).u rfl).u rfl).u rfl
    have hY2 : whyR y (σ2.1 57 0 w) (fun j => σ2.1 56 (14 * w + j)) (σ2.1 54 w) := by
      have e57 : σ2.1 57 0 w = σ.1 57 0 w := (f2.1 57 0 w rfl).trans (f1.1 57 0 w rfl)
      have e56 : σ2.1 56 = σ.1 56 := by funext i k; exact (f2.1 56 i k rfl).trans (f1.1 56 i k rfl)
      have e54 : σ2.1 54 = σ.1 54 := by funext i k; exact (f2.1 54 i k rfl).trans (f1.1 54 i k rfl)
      rw [e57, e56, e54]; exact hY
    refine r_b162 hF hw hY2 gm.1 gm.2 (r.2.2.2.1, r.2.2.2.2.1, r.2.2.2.2.2.1) (gap := sf.1 - sf.2) (wet := wet) (hgt := r.1.2.2.2) (fun c hc => ⟨(f2.1 64 0 c rfl).trans (a1 c hc).1, (f2.1 65 0 c rfl).trans (a1 c hc).2, (f2.1 66 0 c rfl).trans ((f1.1 66 0 c rfl).trans (hg c hc).2.2)⟩) (by rw [e2]; rfl) (by rw [e2]; rfl) (by rw [e2]; rfl) (by rw [e2]; rfl) ?_
    intro σ3 a3 f3
    rw [← hp] at a3
    have g63 : ∀ k, σ3.1 63 0 k = σ.1 63 0 k := fun k => (f3.1 63 0 k rfl).trans ((f2.1 63 0 k rfl).trans (f1.1 63 0 k rfl))
    refine r_b201 hF p.1 a3 ?_
    intro σ4 a4 f4
    rw [g63, hn 5 (by omega), ← hf] at a4
    have F4 : FrS s σ σ4 := (((FrS.l f1 (by simp)).trans (FrS.l f2 (by simp))).trans (FrS.l f3 (by simp))).trans (FrS.l f4 (by simp))
    have k48 : ∀ k, σ4.1 48 0 k = σ.1 48 0 k := fun k => (f4.1 48 0 k rfl).trans ((f3.1 48 0 k rfl).trans ((f2.1 48 0 k rfl).trans (f1.1 48 0 k rfl)))
    have g63' : ∀ k, σ4.1 63 0 k = σ.1 63 0 k := fun k => (f4.1 63 0 k rfl).trans (g63 k)
    refine r_b251 hF hs rfl gm.1 gm.2 f (r.2.2.2.2.1, r.2.2.2.2.2.1) (fun c hc => ⟨(f4.1 64 0 c rfl).trans ((f3.1 64 0 c rfl).trans ((f2.1 64 0 c rfl).trans (a1 c hc).1)), (f4.1 65 0 c rfl).trans ((f3.1 65 0 c rfl).trans ((f2.1 65 0 c rfl).trans (a1 c hc).2)), a4 c hc⟩) ((k48 37).trans h37) ((k48 38).trans h38) ?_
    intro rr2 σ5 a5 b5 c5 d5 f5
    rw [hb] at b5 c5
    rw [g63', hn 6 (by omega)] at a5 ⊢
    have g5 : ∀ k, σ5.1 63 0 k = σ.1 63 0 k := fun k => (f5.1 63 0 k (Or.inr (Or.inl rfl))).trans (g63' k)
    have e36 : σ5.1 48 0 36 = r.2.2.2.2.2.2 := d5.trans ((k48 36).trans h36)
    have F5 := F4.trans f5
    have hrec : ∀ σ6 : kS, (∀ c, c < 8 → σ6.1 64 0 c = σ5.1 64 0 c ∧ σ6.1 65 0 c = σ5.1 65 0 c ∧ σ6.1 66 0 c = σ5.1 66 0 c ∧ σ6.1 68 s c = σ5.1 68 s c ∧ σ6.1 70 s c = σ5.1 70 s c) → σ6.1 48 0 37 = σ5.1 48 0 37 → σ6.1 48 0 38 = σ5.1 48 0 38 → σ6.1 48 0 36 = dn → FrS s σ5 σ6 → Rn (f_X6_runs_b422 F rr (nI w) wet sf.1 sf.2 hgt (nI s) σ6) Q := by
      intro σ6 z1 z2 z3 z4 z5
      unfold f_X6_runs_b422
      simp only [es', es]
      refine n_g hks (n_b (n_g hks (n_b (n_g hks (n_b (n_g hks (n_b ?_)))))))
      refine hnx _ ⟨fun c hc => ⟨?_, ?_, ?_⟩, z2.trans b5, z3.trans c5, z4⟩ ((((((F5.trans z5).u ?_).u ?_).u ?_).u ?_)) ⟨?_, ?_, ?_, ?_, fun c hc => ⟨?_, ?_⟩⟩
      · exact ((z1 c hc).1.trans (a5 c hc).1).trans (eG c hc).symm
      · exact ((z1 c hc).2.1.trans (a5 c hc).2.1).trans (eM c hc).symm
      · exact ((z1 c hc).2.2.1.trans (a5 c hc).2.2.1).trans (eF c hc).symm
      · exact Or.inr (Or.inr (Or.inr ⟨Or.inl rfl, rfl⟩))
      · exact Or.inr (Or.inr (Or.inr ⟨Or.inr (Or.inl rfl), rfl⟩))
      · exact Or.inr (Or.inr (Or.inr ⟨Or.inr (Or.inr (Or.inl rfl)), rfl⟩))
      · exact Or.inr (Or.inr (Or.inr ⟨Or.inr (Or.inr (Or.inr rfl)), rfl⟩))
      · simp [kU_at]
      · simp [kU_at]
      · simp [kU_at]
      · simp [kU_at]
      · exact ((z1 c hc).2.2.2.1.trans (a5 c hc).2.2.2.1).trans (eG c hc).symm
      · exact ((z1 c hc).2.2.2.2.trans (a5 c hc).2.2.2.2).trans (eM c hc).symm
    unfold f_X6_runs_b251
    dsimp only
    refine n_t (by decide) ?_
    rw [g5, hn 7 (by omega)]
    refine n_if (fun q1 => ?_) (fun q1 => ?_)
    · have q2 := Int32.not_lt.mpr q1
      have eh : hgt = r.1.2.2.2 := by rw [hhgt, if_neg q2]
      rw [← eh]
      refine hrec σ5 (fun c hc => ⟨rfl, rfl, rfl, rfl, rfl⟩) rfl rfl ?_ (FrS.refl _)
      rw [hdn, if_neg (fun z => q2 z.1)]; exact e36
    · have q2 := Int32.not_le.mp q1
      rw [r_more, s_bi, g5, hn 8 (by omega)]
      have eh : hgt = kmax 0 (r.1.2.2.2 - n 8) := by rw [hhgt, if_pos q2]
      rw [← eh, e36]
      refine n_if (fun q3 => n_if (fun q4 => n_b ?_) (fun q4 => ?_)) (fun q3 => ?_)
      · refine hrec _ (fun c hc => ⟨rfl, rfl, rfl, rfl, rfl⟩) rfl rfl ?_ ((FrS.refl _).u (Or.inr (Or.inl ⟨rfl, Or.inl rfl⟩)))
        rw [hdn, if_pos ⟨q2, q3, q4⟩]; exact kU_here
      · refine hrec σ5 (fun c hc => ⟨rfl, rfl, rfl, rfl, rfl⟩) rfl rfl ?_ (FrS.refl _)
        rw [hdn, if_neg (fun z => q4 z.2.2)]; exact e36
      · refine hrec σ5 (fun c hc => ⟨rfl, rfl, rfl, rfl, rfl⟩) rfl rfl ?_ (FrS.refl _)
        rw [hdn, if_neg (fun z => q3 z.2.1)]; exact e36
  unfold f_X6_runs_b34
  dsimp only
  refine n_f (by show ¬ nI 100 ≤ nI s; rw [nJ_le (by omega) (by omega)]; omega) (n_b ?_)
  rw [hn 0 (by omega), hn 1 (by omega), ← hwet]
  refine n_if (fun q => ?_) (fun q => ?_)
  · have e : sf = (r.1.2.1, r.1.2.2.1) := by rw [hsf, if_neg (Int32.not_le.mpr q)]
    rw [e] at hmain
    exact hmain
  · have e : sf = (kmax 0 (r.1.2.1 - n 4), kmax 0 (r.1.2.2.1 - n 3)) := by rw [hsf, if_pos (Int32.not_lt.mp q)]
    rw [r_more, s_bi, r_more, s_bi, hn 3 (by omega), hn 4 (by omega)]
    rw [e] at hmain
    exact hmain
