/-! THE PARTS -/
def upF {α : Type} (s : Nat → α) (p : Nat) (v : α) : Nat → α := fun k => if k = p then v else s k
theorem upF_s {α : Type} {s : Nat → α} {p : Nat} {v : α} : upF s p v p = v := if_pos rfl
theorem upF_n {α : Type} {s : Nat → α} {p k : Nat} {v : α} (h : k ≠ p) : upF s p v k = s k := if_neg h
/-- one part from s to e, its kind and its value -/
def tokK (u : Nat → Nat) (n s e : Nat) (κ : Int32) (v : Nat) : Prop :=
  (∃ q, runE (fun j => isL (u j)) n s e ∧ wIs u s e q ∧ κ = kw q) ∨ (runE (fun j => isD (u j)) n s e ∧ κ = -22 ∧ v = cN u s (e - s)) ∨ (e = s + 1 ∧ ¬ isD (u s) ∧ ¬ isL (u s) ∧ κ = nI (u s))
def Tk (u : Nat → Nat) (n p : Nat) (s e : Nat → Nat) (kd : Nat → Int32) (vl : Nat → Nat) : Prop :=
  p ≤ s p ∧ (∀ k, k < p → s k < e k ∧ e k ≤ s (k + 1)) ∧ (∀ k, k < p → ∀ j, e k ≤ j → j < s (k + 1) → u j = 32) ∧ (∀ j, j < s 0 → u j = 32) ∧ (∀ k, k < p → u (s k) ≠ 32) ∧ (∀ k, k < p → tokK u n (s k) (e k) (kd k) (vl k))
theorem Tk.pl {u : Nat → Nat} {n p : Nat} {s e : Nat → Nat} {kd : Nat → Int32} {vl : Nat → Nat} (h : Tk u n p s e kd vl) : p ≤ s p := h.1
theorem Tk.se {u : Nat → Nat} {n p : Nat} {s e : Nat → Nat} {kd : Nat → Int32} {vl : Nat → Nat} (h : Tk u n p s e kd vl) : ∀ k, k < p → s k < e k ∧ e k ≤ s (k + 1) := h.2.1
theorem Tk.gap {u : Nat → Nat} {n p : Nat} {s e : Nat → Nat} {kd : Nat → Int32} {vl : Nat → Nat} (h : Tk u n p s e kd vl) : ∀ k, k < p → ∀ j, e k ≤ j → j < s (k + 1) → u j = 32 := h.2.2.1
theorem Tk.fst {u : Nat → Nat} {n p : Nat} {s e : Nat → Nat} {kd : Nat → Int32} {vl : Nat → Nat} (h : Tk u n p s e kd vl) : ∀ j, j < s 0 → u j = 32 := h.2.2.2.1
theorem Tk.nb {u : Nat → Nat} {n p : Nat} {s e : Nat → Nat} {kd : Nat → Int32} {vl : Nat → Nat} (h : Tk u n p s e kd vl) : ∀ k, k < p → u (s k) ≠ 32 := h.2.2.2.2.1
theorem Tk.kin {u : Nat → Nat} {n p : Nat} {s e : Nat → Nat} {kd : Nat → Int32} {vl : Nat → Nat} (h : Tk u n p s e kd vl) : ∀ k, k < p → tokK u n (s k) (e k) (kd k) (vl k) := h.2.2.2.2.2
def scS (g i k : Nat) : Bool := i == 0 && (g == 18 || g == 19 || g == 20 || (g == 2 && k == 6))
def tkS (p : Nat) (s : Nat → Nat) (kd : Nat → Int32) (vl : Nat → Nat) (σ : kS) : Prop := σ.1 2 0 6 = nI p ∧ ∀ k, k < p → σ.1 18 0 k = kd k ∧ σ.1 19 0 k = nI (s k) ∧ (kd k = -22 → σ.1 20 0 k = nI (vl k))
theorem clT_f {u : Nat → Nat} {n : Nat} {σ σ' : kS} (h : clT u n σ) (hf : Fz scS σ σ') : clT u n σ' := fun k hk => (hf.1 1 0 k rfl).trans (h k hk)
theorem Tk.ub {u : Nat → Nat} {n p : Nat} {s e : Nat → Nat} {kd : Nat → Int32} {vl : Nat → Nat} (h : Tk u n p s e kd vl) {x : Nat} (hx : s p = x) (z : u x = 32) : Tk u n p (upF s p (x + 1)) e kd vl := by
  have e0 : ∀ k, k < p → upF s p (x + 1) k = s k := fun k hk => upF_n (by omega)
  refine ⟨?_, ?_, ?_, ?_, ?_, ?_⟩
  · rw [upF_s]; have := h.pl; omega
  · intro k hk
    have a := h.se k hk
    rw [e0 k hk]
    by_cases y : k + 1 = p
    · rw [y, upF_s]; rw [y, hx] at a; omega
    · rw [upF_n y]; exact a
  · intro k hk j j1 j2
    by_cases y : k + 1 = p
    · rw [y, upF_s] at j2
      by_cases w : j = x
      · rw [w]; exact z
      · exact h.gap k hk j j1 (by rw [y, hx]; omega)
    · rw [upF_n y] at j2
      exact h.gap k hk j j1 j2
  · intro j hj
    by_cases y : 0 = p
    · rw [y, upF_s] at hj
      by_cases w : j = x
      · rw [w]; exact z
      · exact h.fst j (by rw [y, hx]; omega)
    · rw [upF_n y] at hj
      exact h.fst j hj
  · intro k hk; rw [e0 k hk]; exact h.nb k hk
  · intro k hk; rw [e0 k hk]; exact h.kin k hk
theorem Tk.ut {u : Nat → Nat} {n p : Nat} {s e : Nat → Nat} {kd : Nat → Int32} {vl : Nat → Nat} (h : Tk u n p s e kd vl) {x y v : Nat} {κ : Int32} (hx : s p = x) (z : u x ≠ 32) (hxy : x < y) (htk : tokK u n x y κ v) : Tk u n (p + 1) (upF s (p + 1) y) (upF e p y) (upF kd p κ) (upF vl p v) := by
  have e0 : ∀ k, k ≤ p → upF s (p + 1) y k = s k := fun k hk => upF_n (by omega)
  refine ⟨?_, ?_, ?_, ?_, ?_, ?_⟩
  · rw [upF_s]; have := h.pl; omega
  · intro k hk
    rw [e0 k (by omega)]
    by_cases w : k = p
    · rw [w, upF_s, upF_s, hx]; omega
    · rw [upF_n w, e0 (k + 1) (by omega)]; exact h.se k (by omega)
  · intro k hk j j1 j2
    by_cases w : k = p
    · rw [w, upF_s] at j1 j2; omega
    · rw [upF_n w] at j1; rw [e0 (k + 1) (by omega)] at j2; exact h.gap k (by omega) j j1 j2
  · intro j hj; rw [e0 0 (by omega)] at hj; exact h.fst j hj
  · intro k hk
    rw [e0 k (by omega)]
    by_cases w : k = p
    · rw [w, hx]; exact z
    · exact h.nb k (by omega)
  · intro k hk
    rw [e0 k (by omega)]
    by_cases w : k = p
    · rw [w, upF_s, upF_s, upF_s, hx]; exact htk
    · rw [upF_n w, upF_n w, upF_n w]; exact h.kin k (by omega)
/-- a state that has one part more -/
theorem tkS_u {p x y v : Nat} {κ : Int32} {s : Nat → Nat} {kd : Nat → Int32} {vl : Nat → Nat} {σ σ' : kS} (h : tkS p s kd vl σ) (hx : s p = x) (h6 : σ'.1 2 0 6 = nI (p + 1)) (ho : ∀ k, k < p → σ'.1 18 0 k = σ.1 18 0 k ∧ σ'.1 19 0 k = σ.1 19 0 k ∧ σ'.1 20 0 k = σ.1 20 0 k) (h18 : σ'.1 18 0 p = κ) (h19 : σ'.1 19 0 p = nI x) (h20 : κ = -22 → σ'.1 20 0 p = nI v) : tkS (p + 1) (upF s (p + 1) y) (upF kd p κ) (upF vl p v) σ' := by
  refine ⟨h6, fun k hk => ?_⟩
  rw [upF_n (show k ≠ p + 1 by omega)]
  by_cases w : k = p
  · rw [w, upF_s, upF_s, hx]; exact ⟨h18, h19, h20⟩
  · obtain ⟨a, b, c⟩ := ho k (by omega)
    rw [upF_n w, upF_n w, a, b, c]
    exact h.2 k (by omega)
theorem c_scan {F : Nat} (hF : 2000 ≤ F) {u : Nat → Nat} {n : Nat} {σ : kS} (hu : txt u n) (h : clT u n σ) :
    RV (f_X3_scan F (nI n) σ) (fun σ' => Fz scS σ σ' ∧ ∃ p s e kd vl, Tk u n p s e kd vl ∧ s p = n ∧ tkS p s kd vl σ' ∧ σ'.1 18 0 p = -24 ∧ σ'.1 19 0 p = nI n) := by
  have hn := hu.1
  unfold f_X3_scan
  refine n_b ?_
  refine n_fix (fun m x σ' => ∃ p s e kd vl y i, m = n - y ∧ y ≤ n ∧ i ≤ y ∧ x = (nI n, nI y, nI i) ∧ Fz scS σ σ' ∧ Tk u n p s e kd vl ∧ s p = y ∧ tkS p s kd vl σ') ?_ F (n - 0) _ _ (by omega) ⟨0, fun _ => 0, fun _ => 0, fun _ => 0, fun _ => 0, 0, 0, rfl, by omega, by omega, rfl, (Fz.refl σ).u rfl, ⟨Nat.zero_le _, fun k hk => absurd hk (Nat.not_lt_zero _), fun k hk => absurd hk (Nat.not_lt_zero _), fun k hk => absurd hk (Nat.not_lt_zero _), fun k hk => absurd hk (Nat.not_lt_zero _), fun k hk => absurd hk (Nat.not_lt_zero _)⟩, rfl, kU_here, fun k hk => absurd hk (by omega)⟩
  rintro rr m x σ' ⟨p, s, e, kd, vl, y, i, rfl, yn, iy, rfl, hf, ht, hsp, hst⟩ ih
  have hp : p ≤ y := hsp ▸ ht.pl
  have hcl := clT_f h hf
  unfold f_X3_scan_b10 f_X3_scan_b123 f_X3_scan_b117 f_X3_scan_b107
  dsimp only
  by_cases z : y = n
  · have hz : RV (kg (kin (σ'.1 2 0 6) 301) (kb (kU σ' 18 0 (σ'.1 2 0 6).toNatClampNeg (-24)) fun σ1 => kg (kin (σ1.1 2 0 6) 301) (kb (kU σ1 19 0 (σ1.1 2 0 6).toNatClampNeg (nI n)) fun σ3 => some (.inl none, σ3)))) (fun σ' => Fz scS σ σ' ∧ ∃ p s e kd vl, Tk u n p s e kd vl ∧ s p = n ∧ tkS p s kd vl σ' ∧ σ'.1 18 0 p = -24 ∧ σ'.1 19 0 p = nI n) := by
      rw [hst.1, nI_c (by omega)]
      refine n_g ((nI_kin (by omega)).mpr (by omega)) (n_b ?_)
      rw [kU_g (by decide), hst.1, nI_c (by omega)]
      refine n_g ((nI_kin (by omega)).mpr (by omega)) (n_b (n_v ⟨(hf.u rfl).u rfl, p, s, e, kd, vl, ht, by omega, ⟨?_, fun k hk => ?_⟩, ?_, kU_here⟩))
      · rw [kU_g (by decide), kU_g (by decide)]; exact hst.1
      · rw [kU_g (by decide), kU_k (by omega), kU_k (by omega), kU_g (by decide), kU_g (by decide), kU_g (by decide)]
        exact hst.2 k hk
      · rw [kU_g (by decide)]; exact kU_here
    exact n_if (fun _ => hz) (fun _ => n_if (fun _ => hz) (fun q => absurd (show nI n ≤ nI y by rw [nJ_le (by omega) (by omega)]; omega) q))
  · have hby := hu.2 y (by omega)
    refine n_f ?_ (n_f ?_ (n_g ((nI_kin (by omega)).mpr (by omega)) (n_b ?_)))
    · show ¬ nI 300 ≤ nI i
      rw [nJ_le (by omega) (by omega)]; omega
    · rw [nJ_le (by omega) (by omega)]; omega
    rw [nI_c (by omega), hcl y (by omega), (by_all ⟨u y, hby⟩).1, nI_s (show y < 2147483647 by omega), nI_s (show i < 2147483647 by omega)]
    show Rn (if nI (u y) = 32 then _ else _) _
    rw [show (32 : Int32) = nI 32 from rfl]
    refine n_if (fun q => ?_) (fun q => ?_)
    · rw [nI_inj (by omega) (by omega)] at q
      refine ih (n - (y + 1)) _ _ (by omega) ⟨p, upF s p (y + 1), e, kd, vl, y + 1, i + 1, rfl, by omega, by omega, rfl, hf, ht.ub hsp q, upF_s, hst.1, fun k hk => ?_⟩
      rw [upF_n (by omega)]; exact hst.2 k hk
    · rw [nI_inj (by omega) (by omega)] at q
      rw [hst.1, nI_c (by omega)]
      refine n_g ((nI_kin (by omega)).mpr (by omega)) (n_b ?_)
      have h6 : (kU σ' 19 0 p (nI y)).1 2 0 6 = nI p := by rw [kU_g (by decide)]; exact hst.1
      have hf1 : Fz scS σ (kU σ' 19 0 p (nI y)) := hf.u rfl
      have hc1 := clT_f h hf1
      by_cases d1 : isD (u y)
      · rw [(c_isDigU hby).1 d1, s_bi]
        refine n_f (by decide) ?_
        obtain ⟨b, hb, hbn⟩ := run_ex (p := fun j => isD (u j)) (n - y) y rfl yn
        have hyb : y < b := by
          have b1 := hb.1
          have b3 := hb.2.2
          by_cases w : y = b
          · subst w; exact absurd ⟨by omega, d1⟩ b3
          · omega
        rw [c_scanNumber hF hu hc1 hb hbn h6 (by omega), s_bi]
        refine n_b ?_
        have e6 : (kU (kU (kU σ' 19 0 p (nI y)) 18 0 p (-22)) 20 0 p (nI (cN u y (b - y)))).1 2 0 6 = nI p := by rw [kU_g (by decide), kU_g (by decide)]; exact h6
        rw [e6, nI_s (by omega)]
        refine ih (n - b) _ _ (by omega) ⟨p + 1, upF s (p + 1) b, upF e p b, upF kd p (-22), upF vl p (cN u y (b - y)), b, i + 1, rfl, hbn, by omega, by rw [nI_s (show i < 2147483647 by omega)], ((hf1.u rfl).u rfl).u rfl, ht.ut hsp q hyb (Or.inr (Or.inl ⟨hb, rfl, rfl⟩)), upF_s, tkS_u hst hsp kU_here (fun k hk => ⟨?_, ?_, ?_⟩) ?_ ?_ (fun _ => ?_)⟩
        · rw [kU_g (by decide), kU_g (by decide), kU_k (by omega), kU_g (by decide)]
        · rw [kU_g (by decide), kU_g (by decide), kU_g (by decide), kU_k (by omega)]
        · rw [kU_g (by decide), kU_k (by omega), kU_g (by decide), kU_g (by decide)]
        · rw [kU_g (by decide), kU_g (by decide)]; exact kU_here
        · rw [kU_g (by decide), kU_g (by decide), kU_g (by decide)]; exact kU_here
        · rw [kU_g (by decide)]; exact kU_here
      · rw [(c_isDigU hby).2 d1, s_bi]
        refine n_t rfl ?_
        by_cases l1 : isL (u y)
        · rw [(c_isLetU hby).1 l1, s_bi]
          refine n_f (by decide) ?_
          obtain ⟨b, hb, hbn⟩ := run_ex (p := fun j => isL (u j)) (n - y) y rfl yn
          have hyb : y < b := by
            have b1 := hb.1
            have b3 := hb.2.2
            by_cases w : y = b
            · subst w; exact absurd ⟨by omega, l1⟩ b3
            · omega
          obtain ⟨w, hw⟩ := wid_ex u y b
          rw [c_scanWord hF hu hc1 hb hbn hw h6 (by omega), s_bi]
          refine n_b ?_
          have e6 : (kU (kU σ' 19 0 p (nI y)) 18 0 p (kw w)).1 2 0 6 = nI p := by rw [kU_g (by decide)]; exact h6
          rw [e6, nI_s (by omega)]
          refine ih (n - b) _ _ (by omega) ⟨p + 1, upF s (p + 1) b, upF e p b, upF kd p (kw w), upF vl p 0, b, i + 1, rfl, hbn, by omega, by rw [nI_s (show i < 2147483647 by omega)], (hf1.u rfl).u rfl, ht.ut hsp q hyb (Or.inl ⟨w, hb, hw, rfl⟩), upF_s, tkS_u hst hsp kU_here (fun k hk => ⟨?_, ?_, ?_⟩) ?_ ?_ (fun hx => ?_)⟩
          · rw [kU_g (by decide), kU_k (by omega), kU_g (by decide)]
          · rw [kU_g (by decide), kU_g (by decide), kU_k (by omega)]
          · rw [kU_g (by decide), kU_g (by decide), kU_g (by decide)]
          · rw [kU_g (by decide)]; exact kU_here
          · rw [kU_g (by decide), kU_g (by decide)]; exact kU_here
          · exfalso
            rcases q_cases hw.1 hw.2.1 with rfl | rfl | rfl | rfl | rfl | rfl | rfl | rfl | rfl | rfl | rfl | rfl | rfl | rfl | rfl | rfl <;> exact absurd hx (by decide)
        · rw [(c_isLetU hby).2 l1, s_bi]
          refine n_t rfl ?_
          rw [h6, nI_c (by omega)]
          refine n_g ((nI_kin (by omega)).mpr (by omega)) (n_b (n_b ?_))
          have e6 : (kU (kU σ' 19 0 p (nI y)) 18 0 p (nI (u y))).1 2 0 6 = nI p := by rw [kU_g (by decide)]; exact h6
          rw [e6, nI_s (by omega)]
          refine ih (n - (y + 1)) _ _ (by omega) ⟨p + 1, upF s (p + 1) (y + 1), upF e p (y + 1), upF kd p (nI (u y)), upF vl p 0, y + 1, i + 1, rfl, by omega, by omega, by rw [nI_s (show i < 2147483647 by omega)], (hf1.u rfl).u rfl, ht.ut hsp q (by omega) (Or.inr (Or.inr ⟨rfl, d1, l1, rfl⟩)), upF_s, tkS_u hst hsp kU_here (fun k hk => ⟨?_, ?_, ?_⟩) ?_ ?_ (fun hx => ?_)⟩
          · rw [kU_g (by decide), kU_k (by omega), kU_g (by decide)]
          · rw [kU_g (by decide), kU_g (by decide), kU_k (by omega)]
          · rw [kU_g (by decide), kU_g (by decide), kU_g (by decide)]
          · rw [kU_g (by decide)]; exact kU_here
          · rw [kU_g (by decide), kU_g (by decide)]; exact kU_here
          · exfalso
            have hx := i_eq.mp hx
            rw [nI_toInt (by omega)] at hx
            have hx : (u y : Int) = -22 := hx
            omega
