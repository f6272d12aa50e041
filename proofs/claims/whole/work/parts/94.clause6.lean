/-! A WHOLE CLAUSE -/
def cC (j g i k : Nat) : Bool := cP g i k || (i == 0 && ((g == 10 && k == 0) || (k == j && (g == 11 || g == 12 || g == 13 || g == 14 || g == 15 || g == 16))))
def rC (j g i k : Nat) : Bool := rP g i k || (i == 0 && g == 48 && k == 9) || (g == 52 && i == j)
theorem bb_c : ∀ p i0 kj k0 g10 g11 g12 g13 g14 g15 g16 : Bool, (p || (i0 && ((g10 && k0) || (kj && (g11 || g12 || g13 || g14 || g15 || g16))))) = false → (p || (i0 && kj && (g12 || g13 || g14 || g15 || g16))) = false := by decide +kernel
theorem bb_r : ∀ p q g52 ij k1 k2 k3 : Bool, (p || q || (g52 && ij)) = false → (p || q || (g52 && ij && (k1 || k2 || k3))) = false := by decide +kernel
theorem bb_q : ∀ p i0 kj k0 g10 g11 g12 g13 g14 g15 g16 : Bool, (p || (i0 && ((g10 && k0) || g11 || g12 || g13 || g14 || g15 || g16))) = false → (p || (i0 && ((g10 && k0) || (kj && (g11 || g12 || g13 || g14 || g15 || g16))))) = false := by decide +kernel
theorem bb_s : ∀ p q g52 ij : Bool, (p || q || g52) = false → (p || q || (g52 && ij)) = false := by decide +kernel
theorem Fz.cc {j : Nat} {σ σ' : kS} (h : Fz (cJ j) σ σ') : Fz (cC j) σ σ' := h.sub fun _ _ _ q => bb_c _ _ _ _ _ _ _ _ _ _ _ q
theorem Fz.rc {j : Nat} {σ σ' : kS} (h : Fz (rJ j) σ σ') : Fz (rC j) σ σ' := h.sub fun _ _ _ q => bb_r _ _ _ _ _ _ _ q
theorem Fz.ccq {j : Nat} {σ σ' : kS} (h : Fz (cC j) σ σ') : Fz cQ σ σ' := h.sub fun _ _ k q => bb_q _ _ (k == j) _ _ _ _ _ _ _ _ q
theorem Fz.rcq {j : Nat} {σ σ' : kS} (h : Fz (rC j) σ σ') : Fz rQ σ σ' := h.sub fun _ i _ q => bb_s _ _ _ (i == j) q
section Clause6
variable {u : Nat → Nat} {n P : Nat} {s e : Nat → Nat} {kd : Nat → Int32} {vl : Nat → Nat}
/-- what both do behind the word of a clause -/
theorem c_open {F : Nat} {k c j : Nat} {σ : kS} {κ : Int32} (h : CR P s kd vl k c σ) (hP : P ≤ 300) (hk : k < P) (hj : j < 14) (he : kd k = κ) (h3 : κ = -17 ∨ κ = -18 ∨ κ = -19) :
    f_X3_readClause F (nI j) σ = kb (kU (kU (kU σ 2 0 7 (nI (k + 1))) 11 0 j κ) 10 0 0 (nI (j + 1))) fun σ9 => if κ = (-17) then (kBi (f_X3_readLeak F (nI j) σ9) fun c17 σ16 => f_X3_readClause_b109 F c17 σ16) else (if κ = (-18) then (kBi (f_X3_readSpark F (nI j) σ9) fun c15 σ14 => f_X3_readClause_b109 F c15 σ14) else (kBi (f_X3_readSet F (nI j) σ9) fun c13 σ12 => f_X3_readClause_b109 F c13 σ12)) := by
  have hh : f_X3_readClause F (nI j) σ = f_X3_readClause_b34 F (nI j) κ σ := by
    unfold f_X3_readClause
    rw [kg_t (c_kd h hP (by omega)).1, (c_kd h hP (by omega)).2, he, s_b]
    by_cases z1 : κ = -17
    · rw [if_pos z1]
    · by_cases z2 : κ = -18
      · rw [if_neg z1, if_pos z2]
      · have z3 : κ = -19 := by
          rcases h3 with h3 | h3 | h3
          · exact absurd h3 z1
          · exact absurd h3 z2
          · exact h3
        rw [if_neg z1, if_neg z2, if_pos z3]
  rw [hh]
  unfold f_X3_readClause_b34
  rw [if_pos (show nI j < 14 from (nJ_lt (a := j) (b := 14) (by omega) (by omega)).mpr hj), h.2.1, nI_s (by omega), s_b, kg_t ((nI_kin (by omega)).mpr hj), nI_c (by omega), s_b, nI_s (by omega)]
theorem c_full {F : Nat} {k c : Nat} {σ : kS} (h : CR P s kd vl k c σ) (hP : P ≤ 300) (hk : k < P) (h3 : kd k = -17 ∨ kd k = -18 ∨ kd k = -19) :
    f_X3_readClause F (nI 14) σ = some (.inl (some (.int 0)), kU (kU σ 2 0 2 3) 2 0 1 (nI (s k))) := by
  have hh : f_X3_readClause F (nI 14) σ = f_X3_readClause_b34 F (nI 14) (kd k) σ := by
    unfold f_X3_readClause
    rw [kg_t (c_kd h hP (by omega)).1, (c_kd h hP (by omega)).2, s_b]
    by_cases z1 : kd k = -17
    · rw [if_pos z1]
    · by_cases z2 : kd k = -18
      · rw [if_neg z1, if_pos z2]
      · have z3 : kd k = -19 := by
          rcases h3 with h3 | h3 | h3
          · exact absurd h3 z1
          · exact absurd h3 z2
          · exact h3
        rw [if_neg z1, if_neg z2, if_pos z3]
  rw [hh]
  unfold f_X3_readClause_b34
  rw [if_neg (by decide), c_fail h hP (by omega), s_bi]
  rfl
theorem c_none {F : Nat} {k c : Nat} {j : Int32} {σ : kS} (h : CR P s kd vl k c σ) (hP : P ≤ 300) (hk : k ≤ P) (z1 : kd k ≠ -17) (z2 : kd k ≠ -18) (z3 : kd k ≠ -19) :
    f_X3_readClause F j σ = some (.inl (some (.int 0)), kU (kU σ 2 0 2 1) 2 0 1 (nI (s k))) := by
  unfold f_X3_readClause
  rw [kg_t (c_kd h hP hk).1, (c_kd h hP hk).2, s_b, if_neg z1, if_neg z2, if_neg z3, c_fail h hP hk, s_bi]
  rfl
/-- the reference's three questions -/
theorem r_three {F : Nat} (hF : 2000 ≤ F) (E : Env u n P s e kd vl) {k c : Nat} {τ : kS} (hk : k ≤ P) (h : RR u n s k c 0 τ) :
    f_X6_clauseHere F τ = (if (if kd k = -17 then (1 : Int32) else 0) = 0 then (if (if kd k = -18 then (1 : Int32) else 0) = 0 then (if (if kd k = -19 then (1 : Int32) else 0) = 0 then (kBv (f_X6_wrong F 1 (nI (s k)) (atA τ (s k))) fun σ54 => f_X6_clauseHere_b83 F (if kd k = -17 then (1 : Int32) else 0) (if kd k = -18 then (1 : Int32) else 0) (if kd k = -19 then (1 : Int32) else 0) σ54) else (f_X6_clauseHere_b65 F (if kd k = -17 then (1 : Int32) else 0) (if kd k = -18 then (1 : Int32) else 0) (if kd k = -19 then (1 : Int32) else 0) (atA τ (s k)))) else (f_X6_clauseHere_b65 F (if kd k = -17 then (1 : Int32) else 0) (if kd k = -18 then (1 : Int32) else 0) (if kd k = -19 then (1 : Int32) else 0) (atA τ (s k)))) else (f_X6_clauseHere_b65 F (if kd k = -17 then (1 : Int32) else 0) (if kd k = -18 then (1 : Int32) else 0) (if kd k = -19 then (1 : Int32) else 0) (atA τ (s k)))) := by
  have hb := RR_a h (atK_r (u := u) (s := s) (k := k))
  unfold f_X6_clauseHere
  rw [show f_X6_isWord F 12 5 1 11 0 0 τ = _ from r_w' (w := 8) hF E hk h (by omega) (by omega), s_bi, show f_X6_isWord F 19 16 1 18 11 0 (atA τ (s k)) = _ from r_w0 (w := 9) hF E hk hb (by omega) (by omega), s_bi, show f_X6_isWord F 19 5 20 0 0 0 (atA τ (s k)) = _ from r_w0 (w := 10) hF E hk hb (by omega) (by omega), s_bi, kU_here]
  rfl
theorem r_65 {F : Nat} (hF : 2000 ≤ F) (E : Env u n P s e kd vl) {k c j w : Nat} {x1 x2 x3 : Int32} {τ : kS} (hk : k < P) (h : RR u n s k c 0 τ) (h1 : 8 ≤ w) (h2 : w ≤ 22) (hw : kd k = kw w) (h9 : τ.1 48 0 9 = nI j) (hj : j < 14) :
    f_X6_clauseHere_b65 F x1 x2 x3 (atA τ (s k)) = if x1 = 0 then (if x2 = 0 then (f_X6_clauseHere_b126 F x1 x2 x3 j j 0 2 (atA τ (e k))) else (f_X6_clauseHere_b126 F x1 x2 x3 j j 0 1 (atA τ (e k)))) else (f_X6_clauseHere_b126 F x1 x2 x3 j j 0 0 (atA τ (e k))) := by
  have hb := RR_a h (atK_r (u := u) (s := s) (k := k))
  unfold f_X6_clauseHere_b65 f_X6_clauseHere_b83
  have h9' : (atA τ (s k)).1 48 0 9 = nI j := by rw [kU_k (by decide)]; exact h9
  have h9'' : (atA τ (e k)).1 48 0 9 = nI j := by rw [kU_k (by decide)]; exact h9
  rw [h9', if_neg (show ¬ nI j = 14 from fun q => by have q : nI j = nI 14 := q; rw [nI_inj (by omega) (by omega)] at q; omega), if_pos hb.2.2.2.1, r_skip hF E (by omega) hb.1 kU_here h1 h2 hw, s_bv, show atA (atA τ (s k)) (e k) = atA τ (e k) from kU_kU, h9'', kg_t ((nI_kin (by omega)).mpr (by omega)), nI_c (by omega), s_b]
theorem r_65f {F : Nat} {x1 x2 x3 : Int32} {k c : Nat} {τ : kS} (h : RR u n s k c 0 τ) (h9 : τ.1 48 0 9 = nI 14) :
    f_X6_clauseHere_b65 F x1 x2 x3 (atA τ (s k)) = some (.inl none, kU (kU (atA τ (s k)) 48 0 6 3) 48 0 7 (nI (s k))) := by
  have hb := RR_a h (atK_r (u := u) (s := s) (k := k))
  unfold f_X6_clauseHere_b65 f_X6_clauseHere_b83
  have h9' : (atA τ (s k)).1 48 0 9 = 14 := by rw [kU_k (by decide)]; exact h9
  rw [if_pos h9', kU_here, r_wrong hb.2.2.2.1, s_bv, if_neg (by rw [kU_k (by decide), kU_here]; decide)]
end Clause6
