/-! BOTH READERS, SIDE BY SIDE -/
def cP (g i k : Nat) : Bool := i == 0 && ((g == 2 && (k == 1 || k == 2 || k == 7)) || (g == 10 && k == 8) || g == 17)
def rP (g i k : Nat) : Bool := i == 0 && ((g == 48 && (k == 4 || k == 5 || k == 6 || k == 7 || k == 8)) || g == 50)
def cST (P : Nat) (s : Nat → Nat) (kd : Nat → Int32) (vl : Nat → Nat) (σ : kS) : Prop := σ.1 2 0 6 = nI P ∧ ∀ k, k ≤ P → σ.1 18 0 k = kd k ∧ σ.1 19 0 k = nI (s k) ∧ (k < P → kd k = -22 → σ.1 20 0 k = nI (vl k))
def CR (P : Nat) (s : Nat → Nat) (kd : Nat → Int32) (vl : Nat → Nat) (k c : Nat) (σ : kS) : Prop := cST P s kd vl σ ∧ σ.1 2 0 7 = nI k ∧ σ.1 10 0 8 = nI c ∧ σ.1 2 0 2 = 0 ∧ σ.1 2 0 1 = -1
def RR (u : Nat → Nat) (n : Nat) (s : Nat → Nat) (k c o : Nat) (τ : kS) : Prop := refT u n τ ∧ (∃ a, τ.1 48 0 4 = nI a ∧ atK u s k a) ∧ τ.1 48 0 5 = nI o ∧ τ.1 48 0 6 = 0 ∧ τ.1 48 0 7 = -1 ∧ τ.1 48 0 8 = nI c
def CD (c : Nat) (σ τ : kS) : Prop := ∀ j, j < c → τ.1 50 0 j = trC (σ.1 17 0 j) ∧ rng (σ.1 17 0 j) (-16) 9999
def BD (u : Nat → Nat) (n : Nat) (σ τ : kS) : Prop := σ.1 2 0 2 ≠ 0 ∧ τ.1 48 0 6 = σ.1 2 0 2 ∧ τ.1 48 0 7 = σ.1 2 0 1 ∧ refT u n τ ∧ ∃ a, a ≤ 310 ∧ τ.1 48 0 4 = nI a
section Rels
variable {u : Nat → Nat} {n P : Nat} {s e : Nat → Nat} {kd : Nat → Int32} {vl : Nat → Nat}
theorem cST_f {S : Nat → Nat → Nat → Bool} {σ σ' : kS} (h : cST P s kd vl σ) (hf : Fz S σ σ') (hs : S 2 0 6 = false ∧ ∀ k, S 18 0 k = false ∧ S 19 0 k = false ∧ S 20 0 k = false) : cST P s kd vl σ' := by
  refine ⟨(hf.1 2 0 6 hs.1).trans h.1, fun k hk => ?_⟩
  rw [hf.1 18 0 k (hs.2 k).1, hf.1 19 0 k (hs.2 k).2.1, hf.1 20 0 k (hs.2 k).2.2]
  exact h.2 k hk
theorem cST_u {σ : kS} {g k : Nat} {v : Int32} (h : cST P s kd vl σ) (hg : cP g 0 k = true) : cST P s kd vl (kU σ g 0 k v) := cST_f h ((Fz.refl σ).u hg) ⟨rfl, fun _ => ⟨rfl, rfl, rfl⟩⟩
/-- one part on -/
theorem CR_n {k c : Nat} {σ : kS} (h : CR P s kd vl k c σ) {k' : Nat} : CR P s kd vl k' c (kU σ 2 0 7 (nI k')) := ⟨cST_u h.1 rfl, kU_here, by rw [kU_g (by decide)]; exact h.2.2.1, by rw [kU_k (by decide)]; exact h.2.2.2.1, by rw [kU_k (by decide)]; exact h.2.2.2.2⟩
theorem CR_w {k c : Nat} {σ : kS} {v : Int32} (h : CR P s kd vl k c σ) : CR P s kd vl k (c + 1) (kU (kU σ 17 0 c v) 10 0 8 (nI (c + 1))) := ⟨cST_u (cST_u h.1 rfl) rfl, by rw [kU_g (by decide), kU_g (by decide)]; exact h.2.1, kU_here, by rw [kU_g (by decide), kU_g (by decide)]; exact h.2.2.2.1, by rw [kU_g (by decide), kU_g (by decide)]; exact h.2.2.2.2⟩
theorem RR_a {k k' c o a : Nat} {τ : kS} (h : RR u n s k c o τ) (ha : atK u s k' a) : RR u n s k' c o (atA τ a) := ⟨refT_u h.1 (by decide), ⟨a, kU_here, ha⟩, by rw [kU_k (by decide)]; exact h.2.2.1, by rw [kU_k (by decide)]; exact h.2.2.2.1, by rw [kU_k (by decide)]; exact h.2.2.2.2.1, by rw [kU_k (by decide)]; exact h.2.2.2.2.2⟩
theorem RR_o {k c o o' : Nat} {τ : kS} (h : RR u n s k c o τ) : RR u n s k c o' (kU τ 48 0 5 (nI o')) := ⟨refT_u h.1 (by decide), by
  obtain ⟨a, h1, h2⟩ := h.2.1
  exact ⟨a, by rw [kU_k (by decide)]; exact h1, h2⟩, kU_here, by rw [kU_k (by decide)]; exact h.2.2.2.1, by rw [kU_k (by decide)]; exact h.2.2.2.2.1, by rw [kU_k (by decide)]; exact h.2.2.2.2.2⟩
theorem refT_g {τ : kS} {g i k : Nat} {v : Int32} (h : refT u n τ) (h1 : 48 ≠ g) (h2 : 49 ≠ g) : refT u n (kU τ g i k v) := ⟨by rw [kU_g h1]; exact h.1, fun j hj => by rw [kU_g h2]; exact h.2 j hj⟩
theorem RR_w {k c o : Nat} {τ : kS} {v : Int32} (h : RR u n s k c o τ) : RR u n s k (c + 1) o (kU (kU τ 50 0 c v) 48 0 8 (nI (c + 1))) := ⟨refT_u (refT_g h.1 (by decide) (by decide)) (by decide), by
  obtain ⟨a, h1, h2⟩ := h.2.1
  exact ⟨a, by rw [kU_k (by decide), kU_g (by decide)]; exact h1, h2⟩, by rw [kU_k (by decide), kU_g (by decide)]; exact h.2.2.1, by rw [kU_k (by decide), kU_g (by decide)]; exact h.2.2.2.1, by rw [kU_k (by decide), kU_g (by decide)]; exact h.2.2.2.2.1, kU_here⟩
theorem CD_w {c : Nat} {σ τ : kS} {v v' w w' : Int32} (h : CD c σ τ) (hv : v' = trC v) (hr : rng v (-16) 9999) : CD (c + 1) (kU (kU σ 17 0 c v) 10 0 8 w) (kU (kU τ 50 0 c v') 48 0 8 w') := fun j hj => by
  rw [kU_g (g := 48) (g' := 50) (by decide), kU_g (g := 10) (g' := 17) (by decide)]
  by_cases z : j = c
  · subst z; rw [kU_here, kU_here]; exact ⟨hv, hr⟩
  · rw [kU_k z, kU_k z]; exact h j (by omega)
/-- the class's small steps -/
theorem c_kd {k c : Nat} {σ : kS} (h : CR P s kd vl k c σ) (hP : P ≤ 300) (hk : k ≤ P) : kin (σ.1 2 0 7) 301 ∧ σ.1 18 0 (σ.1 2 0 7).toNatClampNeg = kd k := by
  rw [h.2.1, nI_c (by omega)]
  exact ⟨(nI_kin (by omega)).mpr (by omega), (h.1.2 k hk).1⟩
theorem c_fail {F k c : Nat} {σ : kS} {f : Int32} (h : CR P s kd vl k c σ) (hP : P ≤ 300) (hk : k ≤ P) : f_X3_fail F f σ = some (.inl (some (.int 0)), kU (kU σ 2 0 2 f) 2 0 1 (nI (s k))) := by
  unfold f_X3_fail
  rw [s_b, kU_k (by decide), h.2.1, kg_t ((nI_kin (by omega)).mpr (by omega)), nI_c (by omega), kU_g (by decide), (h.1.2 k hk).2.1]
  rfl
theorem c_takeY {F k c : Nat} {σ : kS} {κ : Int32} (h : CR P s kd vl k c σ) (hP : P ≤ 300) (hk : k < P) (he : kd k = κ) : f_X3_take F κ σ = some (.inl (some (.int 1)), kU σ 2 0 7 (nI (k + 1))) := by
  unfold f_X3_take
  rw [kg_t (c_kd h hP (by omega)).1, (c_kd h hP (by omega)).2, if_pos he, h.2.1, h.1.1, if_pos ((nJ_lt (by omega) (by omega)).mpr hk), nI_s (by omega)]
  rfl
theorem c_takeN {F k c : Nat} {σ : kS} {κ : Int32} (h : CR P s kd vl k c σ) (hP : P ≤ 300) (hk : k ≤ P) (he : kd k ≠ κ) : f_X3_take F κ σ = some (.inl (some (.int 0)), σ) := by
  unfold f_X3_take f_X3_take_b24
  rw [kg_t (c_kd h hP hk).1, (c_kd h hP hk).2, if_neg he]
theorem c_expY {F k c : Nat} {σ : kS} {κ : Int32} (h : CR P s kd vl k c σ) (hP : P ≤ 300) (hk : k < P) (he : kd k = κ) : f_X3_expect F κ σ = some (.inl (some (.int 1)), kU σ 2 0 7 (nI (k + 1))) := by
  unfold f_X3_expect f_X3_expect_b16 f_X3_expect_b21
  rw [c_takeY h hP hk he, s_bi, if_neg (by decide)]
  rfl
theorem c_expN {F k c : Nat} {σ : kS} {κ : Int32} (h : CR P s kd vl k c σ) (hP : P ≤ 300) (hk : k ≤ P) (he : kd k ≠ κ) : f_X3_expect F κ σ = some (.inl (some (.int 0)), kU (kU σ 2 0 2 1) 2 0 1 (nI (s k))) := by
  unfold f_X3_expect f_X3_expect_b16 f_X3_expect_b21
  rw [c_takeN h hP hk he, s_bi, if_pos rfl, c_fail h hP hk, s_bi, if_pos rfl]
  rfl
theorem c_write {F k c : Nat} {σ : kS} {v : Int32} (h : CR P s kd vl k c σ) (hc : c < 300) : f_X3_write F v σ = some (.inl (some (.int 1)), kU (kU σ 17 0 c v) 10 0 8 (nI (c + 1))) := by
  unfold f_X3_write
  rw [h.2.2.1, if_pos (by show nI c < nI 300; exact (nJ_lt (by omega) (by omega)).mpr hc), kg_t ((nI_kin (by omega)).mpr hc), nI_c (by omega), s_b, kU_g (by decide), h.2.2.1, nI_s (by omega)]
  rfl
theorem c_num {F k c lo hi : Nat} {σ : kS} (h : CR P s kd vl k c σ) (hP : P ≤ 300) (hk : k ≤ P) (hv : kd k = -22 → k < P ∧ vl k < 100000) (hhi : hi ≤ 9999) (hlo : lo ≤ hi) :
    (kd k = -22 → lo ≤ vl k → vl k ≤ hi → f_X3_number F (nI lo) (nI hi) σ = some (.inl (some (.int (nI (vl k)))), kU σ 2 0 7 (nI (k + 1)))) ∧
    (kd k = -22 → ¬ (lo ≤ vl k ∧ vl k ≤ hi) → f_X3_number F (nI lo) (nI hi) σ = some (.inl (some (.int (-1))), kU (kU σ 2 0 2 2) 2 0 1 (nI (s k)))) ∧
    (kd k ≠ -22 → f_X3_number F (nI lo) (nI hi) σ = some (.inl (some (.int (-1))), kU (kU σ 2 0 2 1) 2 0 1 (nI (s k)))) := by
  unfold f_X3_number f_X3_number_b42
  rw [kg_t (c_kd h hP hk).1, (c_kd h hP hk).2, kg_t (c_kd h hP hk).1]
  have h20 : kd k = -22 → σ.1 20 0 (σ.1 2 0 7).toNatClampNeg = nI (vl k) := fun hd => by
    rw [h.2.1, nI_c (by omega)]; exact (h.1.2 k hk).2.2 (hv hd).1 hd
  refine ⟨fun hd v1 v2 => ?_, fun hd vv => ?_, fun hd => ?_⟩
  · have := (hv hd).2
    rw [if_pos hd, h20 hd, s_b, if_neg (by rw [nJ_lt (by omega) (by omega)]; omega), if_pos (by rw [nJ_le (by omega) (by omega)]; omega), h.2.1, nI_s (by omega)]
    rfl
  · have := (hv hd).2
    rw [if_pos hd, h20 hd, s_b, c_fail h hP hk, s_bi]
    by_cases z : vl k < lo
    · rw [if_pos (by rw [nJ_lt (by omega) (by omega)]; omega)]
    · rw [if_neg (by rw [nJ_lt (by omega) (by omega)]; omega), if_neg (by rw [nJ_le (by omega) (by omega)]; omega)]
  · rw [if_neg hd, c_fail h hP hk, s_bi]
/-- the reference's small steps -/
theorem r_tells {F k c o : Nat} {τ : kS} {v : Int32} (h : RR u n s k c o τ) (hc : c < 400) : f_X6_tells F v τ = some (.inl none, kU (kU τ 50 0 c v) 48 0 8 (nI (c + 1))) := by
  unfold f_X6_tells
  rw [if_pos h.2.2.2.1, h.2.2.2.2.2, kg_t ((nI_kin (by omega)).mpr hc), nI_c (by omega), s_b, kU_g (by decide), h.2.2.2.2.2, nI_s (by omega)]
  rfl
theorem r_tellsN {F : Nat} {τ : kS} {v : Int32} (h : τ.1 48 0 6 ≠ 0) : f_X6_tells F v τ = some (.inl none, τ) := by
  unfold f_X6_tells
  rw [if_neg h]
theorem r_sgnN {F : Nat} {τ : kS} {v : Int32} (h : τ.1 48 0 6 ≠ 0) : f_X6_sign F v τ = some (.inl none, τ) := by
  unfold f_X6_sign
  rw [if_neg h]
theorem r_bl' {F : Nat} (hF : 2000 ≤ F) (E : Env u n P s e kd vl) {k c o : Nat} {τ : kS} (hk : k ≤ P) (h : RR u n s k c o τ) : f_X6_blanks F τ = some (.inl none, atA τ (s k)) := by
  obtain ⟨a, h1, h2⟩ := h.2.1
  exact r_bl hF E hk h.1 h1 h2
theorem r_w' {F : Nat} (hF : 2000 ≤ F) (E : Env u n P s e kd vl) {k c o w : Nat} {τ : kS} (hk : k ≤ P) (h : RR u n s k c o τ) (h1 : 8 ≤ w) (h2 : w ≤ 22) : rW F w τ = some (.inl (some (.int (if kd k = kw w then 1 else 0))), atA τ (s k)) := by
  obtain ⟨a, a1, a2⟩ := h.2.1
  exact r_w hF E hk h.1 a1 a2 h1 h2
theorem r_w0 {F : Nat} (hF : 2000 ≤ F) (E : Env u n P s e kd vl) {k c o w : Nat} {τ : kS} (hk : k ≤ P) (h : RR u n s k c o (atA τ (s k))) (h1 : 8 ≤ w) (h2 : w ≤ 22) : rW F w (atA τ (s k)) = some (.inl (some (.int (if kd k = kw w then 1 else 0))), atA τ (s k)) := by
  rw [r_w' hF E hk h h1 h2, show atA (atA τ (s k)) (s k) = atA τ (s k) from kU_kU]
theorem r_sgnY {F : Nat} (hF : 2000 ≤ F) (E : Env u n P s e kd vl) {k c o v : Nat} {τ : kS} (hk : k ≤ P) (h : RR u n s k c o τ) (hv : v < 256) (v1 : ¬ isD v) (v2 : ¬ isL v) (hd : kd k = nI v) : f_X6_sign F (nI v) τ = some (.inl none, atA τ (e k)) := by
  unfold f_X6_sign f_X6_sign_b46
  have hs := E.sn hk
  have hp := E.pn
  have ht := t_sgn E hk hv v1 v2
  rw [if_pos h.2.2.2.1, r_bl' hF E hk h, s_bv, kU_here, r_byte E hk (refT_u h.1 (by decide)), s_bi, if_pos (ht.1.mpr hd), kU_here, nI_s (by omega), s_b, kU_kU, (ht.2 hd).2]
theorem r_sgnX {F : Nat} (hF : 2000 ≤ F) (E : Env u n P s e kd vl) {k c o v : Nat} {τ : kS} (hk : k ≤ P) (h : RR u n s k c o τ) (hv : v < 256) (v1 : ¬ isD v) (v2 : ¬ isL v) (hd : kd k ≠ nI v) : f_X6_sign F (nI v) τ = some (.inl none, kU (kU (atA τ (s k)) 48 0 6 1) 48 0 7 (nI (s k))) := by
  unfold f_X6_sign f_X6_sign_b46
  have ht := t_sgn E hk hv v1 v2
  rw [if_pos h.2.2.2.1, r_bl' hF E hk h, s_bv, kU_here, r_byte E hk (refT_u h.1 (by decide)), s_bi, if_neg (fun hx => hd (ht.1.mp hx)), kU_here, r_wrong (by rw [kU_k (by decide)]; exact h.2.2.2.1), s_bv]
/-- both find the same fault -/
theorem BD_i {k c o x : Nat} {σ τ : kS} {f p : Int32} (h : RR u n s k c o τ) (hf : f ≠ 0) (hx : x ≤ 310) : BD u n (kU (kU σ 2 0 2 f) 2 0 1 p) (kU (kU (atA τ x) 48 0 6 f) 48 0 7 p) := by
  have e2 : (kU (kU σ 2 0 2 f) 2 0 1 p).1 2 0 2 = f := by rw [kU_k (by decide)]; exact kU_here
  refine ⟨by rw [e2]; exact hf, ?_, ?_, refT_u (refT_u (refT_u h.1 (by decide)) (by decide)) (by decide), x, hx, ?_⟩
  · rw [e2, kU_k (by decide)]; exact kU_here
  · rw [kU_here, kU_here]
  · rw [kU_k (by decide), kU_k (by decide)]; exact kU_here
theorem BD_a {a : Nat} {σ τ : kS} (h : BD u n σ τ) (ha : a ≤ 310) : BD u n σ (atA τ a) := ⟨h.1, by rw [kU_k (by decide)]; exact h.2.1, by rw [kU_k (by decide)]; exact h.2.2.1, refT_u h.2.2.2.1 (by decide), a, ha, kU_here⟩
theorem BD_o {v : Int32} {σ τ : kS} (h : BD u n σ τ) : BD u n σ (kU τ 48 0 5 v) := by
  obtain ⟨h1, h2, h3, h4, a, h5, h6⟩ := h
  exact ⟨h1, by rw [kU_k (by decide)]; exact h2, by rw [kU_k (by decide)]; exact h3, refT_u h4 (by decide), a, h5, by rw [kU_k (by decide)]; exact h6⟩
theorem BD_b {F : Nat} (hF : 2000 ≤ F) (hu : txt u n) {σ τ : kS} (h : BD u n σ τ) : ∃ b, f_X6_blanks F τ = some (.inl none, atA τ b) ∧ BD u n σ (atA τ b) := by
  obtain ⟨h1, h2, h3, h4, a, h5, h6⟩ := h
  obtain ⟨b, hb, hb'⟩ := blk_ex (u := u) (n := n) (n - a) a rfl
  have := hu.1
  exact ⟨b, m_blanks hF hu h4 h6 (by omega) hb, BD_a ⟨h1, h2, h3, h4, a, h5, h6⟩ (by omega)⟩
theorem BD_6 {σ τ : kS} (h : BD u n σ τ) : τ.1 48 0 6 ≠ 0 := by rw [h.2.1]; exact h.1
end Rels
