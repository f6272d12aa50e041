/-! CLAUSES -/
def clB (y : yD) (row : Nat → Nat → Int32) (code : Nat → Int32) (j : Nat) : Prop := row j 1 = y.2.2.1 j ∧
  ((yk y j = -17 ∧ row j 0 = 0 ∧ row j 2 = ya y j ∧ row j 3 = yf y j ∧ rng (row j 1) 0 7 ∧ rng (row j 2) 0 99 ∧ rng (row j 3) 0 99) ∨
   (yk y j = -18 ∧ row j 0 = 1 ∧ row j 2 = y.2.2.2.2.2.1 j ∧ row j 3 = y.2.2.2.2.2.2.1 j ∧ rng (row j 1) 0 7 ∧ 0 ≤ (row j 2).toInt ∧ (row j 2).toInt ≤ (row j 3).toInt ∧ (row j 3).toInt ≤ 300 ∧ (∀ k, ys y j ≤ k → k < ye y j → code k = trC (yc y k) ∧ rng (yc y k) (-16) 9999) ∧ wfS 18 (codeOf (yc y) (ys y j) (ye y j))) ∨
   (yk y j = -19 ∧ row j 0 = 2 ∧ row j 2 = ya y j ∧ rng (row j 1) 0 9 ∧ rng (row j 2) (leastN (yt y j)) (mostN (yt y j))))
theorem whyR_of {y : yD} {many : Int32} {row : Nat → Nat → Int32} {code : Nat → Int32} (h1 : y.1 = many) (h2 : rng many 0 14) (h3 : ∀ j, j < 14 → nI j < many → clB y row code j) : whyR y many row code := ⟨h1, h2, h3⟩
def cQ (g i k : Nat) : Bool := cP g i k || (i == 0 && ((g == 10 && k == 0) || g == 11 || g == 12 || g == 13 || g == 14 || g == 15 || g == 16))
def rQ (g i k : Nat) : Bool := rP g i k || (i == 0 && g == 48 && k == 9) || g == 52
section Clauses
variable {u : Nat → Nat} {n P : Nat} {s e : Nat → Nat} {kd : Nat → Int32} {vl : Nat → Nat}
theorem Fz.cq {σ σ' : kS} (h : Fz cP σ σ') : Fz cQ σ σ' := h.sub fun g i k q => by
  unfold cQ at q
  exact (Bool.or_eq_false_iff.mp q).1
theorem Fz.rq {σ σ' : kS} (h : Fz rP σ σ') : Fz rQ σ σ' := h.sub fun g i k q => by
  unfold rQ at q
  exact (Bool.or_eq_false_iff.mp (Bool.or_eq_false_iff.mp q).1).1
/-- cells of the class's clauses stand apart -/
theorem Rel_c {k c o g i x : Nat} {v : Int32} {σ τ : kS} (R : Rel u n P s kd vl k c o σ τ) (h2 : 2 ≠ g) (h10 : 10 ≠ g) (h17 : 17 ≠ g) (h18 : 18 ≠ g) (h19 : 19 ≠ g) (h20 : 20 ≠ g) : Rel u n P s kd vl k c o (kU σ g i x v) τ := by
  obtain ⟨⟨⟨a1, a2⟩, a3, a4, a5, a6⟩, b, d, e', f⟩ := R
  refine ⟨⟨⟨by rw [kU_g h2]; exact a1, fun k hk => ?_⟩, by rw [kU_g h2]; exact a3, by rw [kU_g h10]; exact a4, by rw [kU_g h2]; exact a5, by rw [kU_g h2]; exact a6⟩, b, d, e', CD_f f (fun j _ => by rw [kU_g h17]) (fun j _ => rfl)⟩
  rw [kU_g h18, kU_g h19, kU_g h20]
  exact a2 k hk
theorem Rel_10 {k c o : Nat} {v : Int32} {σ τ : kS} (R : Rel u n P s kd vl k c o σ τ) : Rel u n P s kd vl k c o (kU σ 10 0 0 v) τ := by
  obtain ⟨⟨⟨a1, a2⟩, a3, a4, a5, a6⟩, b, d, e', f⟩ := R
  refine ⟨⟨⟨by rw [kU_g (by decide)]; exact a1, fun k hk => ?_⟩, by rw [kU_g (by decide)]; exact a3, by rw [kU_k (by decide)]; exact a4, by rw [kU_g (by decide)]; exact a5, by rw [kU_g (by decide)]; exact a6⟩, b, d, e', CD_f f (fun j _ => by rw [kU_g (by decide)]) (fun j _ => rfl)⟩
  rw [kU_g (by decide), kU_g (by decide), kU_g (by decide)]
  exact a2 k hk
theorem Rel_52 {k c o i x : Nat} {v : Int32} {σ τ : kS} (R : Rel u n P s kd vl k c o σ τ) : Rel u n P s kd vl k c o σ (kU τ 52 i x v) := by
  obtain ⟨a, ⟨b1, ⟨p, b2, b3⟩, b4, b5, b6, b7⟩, d, e', f⟩ := R
  refine ⟨a, ⟨refT_g b1 (by decide) (by decide), ⟨p, by rw [kU_g (by decide)]; exact b2, b3⟩, by rw [kU_g (by decide)]; exact b4, by rw [kU_g (by decide)]; exact b5, by rw [kU_g (by decide)]; exact b6, by rw [kU_g (by decide)]; exact b7⟩, d, e', CD_f f (fun j _ => rfl) (fun j _ => by rw [kU_g (by decide)])⟩
theorem Rel_9 {k c o : Nat} {v : Int32} {σ τ : kS} (R : Rel u n P s kd vl k c o σ τ) : Rel u n P s kd vl k c o σ (kU τ 48 0 9 v) := by
  obtain ⟨a, ⟨b1, ⟨p, b2, b3⟩, b4, b5, b6, b7⟩, d, e', f⟩ := R
  refine ⟨a, ⟨refT_u b1 (by decide), ⟨p, by rw [kU_k (by decide)]; exact b2, b3⟩, by rw [kU_k (by decide)]; exact b4, by rw [kU_k (by decide)]; exact b5, by rw [kU_k (by decide)]; exact b6, by rw [kU_k (by decide)]; exact b7⟩, d, e', CD_f f (fun j _ => rfl) (fun j _ => by rw [kU_g (by decide)])⟩
theorem BD_c {g i x : Nat} {v : Int32} {σ τ : kS} (h : BD u n σ τ) (h2 : 2 ≠ g) : BD u n (kU σ g i x v) τ := by
  obtain ⟨h1, h3, h4, h5⟩ := h
  exact ⟨by rw [kU_g h2]; exact h1, by rw [kU_g h2]; exact h3, by rw [kU_g h2]; exact h4, h5⟩
theorem BD_52 {i x : Nat} {v : Int32} {σ τ : kS} (h : BD u n σ τ) : BD u n σ (kU τ 52 i x v) := by
  obtain ⟨h1, h2, h3, h4, a, h5, h6⟩ := h
  exact ⟨h1, by rw [kU_g (by decide)]; exact h2, by rw [kU_g (by decide)]; exact h3, refT_g h4 (by decide) (by decide), a, h5, by rw [kU_g (by decide)]; exact h6⟩
theorem BD_9 {v : Int32} {σ τ : kS} (h : BD u n σ τ) : BD u n σ (kU τ 48 0 9 v) := by
  obtain ⟨h1, h2, h3, h4, a, h5, h6⟩ := h
  exact ⟨h1, by rw [kU_k (by decide)]; exact h2, by rw [kU_k (by decide)]; exact h3, refT_u h4 (by decide), a, h5, by rw [kU_k (by decide)]; exact h6⟩
end Clauses
