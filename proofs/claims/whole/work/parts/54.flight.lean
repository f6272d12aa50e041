/-! THE CLASS'S FLIGHT. -/
def sL (l : List Nat) (g _k : Nat) : Bool := l.contains g
theorem Fr.l {l : List Nat} {σ σ' : kS} {T : Nat → Nat → Bool} (h : Fr (sL l) σ σ') (hs : ∀ g ∈ l, ∀ k, T g k = true) : Fr T σ σ' := by
  refine h.sub fun g k q => ?_
  by_cases c : g ∈ l
  · rw [hs g c k] at q; cases q
  · exact Bool.not_eq_true _ ▸ (fun e => c (List.contains_iff_mem.mp e))
def wfY (y : yD) : Prop := rng y.1 0 14 ∧ ∀ j, j < yn y →
  (yk y j = -17 ∧ rng (y.2.2.1 j) 0 7) ∨
  (yk y j = -18 ∧ rng (y.2.2.1 j) 0 7 ∧ 0 ≤ (y.2.2.2.2.2.1 j).toInt ∧ (y.2.2.2.2.2.1 j).toInt ≤ (y.2.2.2.2.2.2.1 j).toInt ∧ (y.2.2.2.2.2.2.1 j).toInt ≤ 300 ∧ (∀ k, ys y j ≤ k → k < ye y j → rng (yc y k) (-16) 9999) ∧ wfS 18 (codeOf (yc y) (ys y j) (ye y j))) ∨
  (yk y j = -19 ∧ rng (y.2.2.1 j) 0 9 ∧ rng (ya y j) (leastN (yt y j)) (mostN (yt y j)))
theorem wfY_of {y : yD} {many : Int32} {row : Nat → Nat → Int32} {code : Nat → Int32} (h : whyR y many row code) : wfY y := by
  obtain ⟨h1, h2, h3⟩ := h
  refine ⟨by rw [h1]; exact h2, fun j hj => ?_⟩
  have hj2 : (j : Int) < many.toInt := by
    have : j < many.toInt.toNat := by rw [← h1]; exact hj
    omega
  have hr := h2.2
  obtain ⟨e1, h4⟩ := h3 j (by omega) (by rw [i_lt, nI_toInt (by omega)]; exact hj2)
  rcases h4 with ⟨a1, a2, a3, a4, a5, a6, a7⟩ | ⟨a1, a2, a3, a4, a5, a6, a7, a8, a9, a10⟩ | ⟨a1, a2, a3, a4, a5⟩
  · exact Or.inl ⟨a1, by rw [← e1]; exact a5⟩
  · exact Or.inr (Or.inl ⟨a1, by rw [← e1]; exact a5, by rw [← a3]; exact a6, by rw [← a3, ← a4]; exact a7, by rw [← a4]; exact a8, fun k p q => (a9 k p q).2, a10⟩)
  · exact Or.inr (Or.inr ⟨a1, by rw [← e1]; exact a4, by rw [← a3]; exact a5⟩)
theorem up_at {f : Nat → Int32} {k : Nat} {v : Int32} {j : Nat} : up f k v j = if j = k then v else f j := rfl
/-! stacks -/
def stk (f : Nat → Int32) : List Int32 → Prop
  | [] => True
  | x :: t => f t.length = x ∧ stk f t
theorem stk_cg {f f' : Nat → Int32} : ∀ {st : List Int32}, (∀ k, k < st.length → f' k = f k) → stk f st → stk f' st
  | [], _, _ => trivial
  | x :: t, h, ⟨h1, h2⟩ => ⟨by rw [h _ (by simp)]; exact h1, stk_cg (fun k hk => h k (by simp; omega)) h2⟩
def evN (nm : Int32 → Int32) (f : Nat → Int32) (a : Nat) : Nat → List Int32
  | 0 => []
  | k + 1 => opS nm (f (a + k)) (evN nm f a k)
theorem codeOf_len {f : Nat → Int32} {a b : Nat} : (codeOf f a b).length = b - a := by simp [codeOf]
theorem codeOf_get {f : Nat → Int32} {a b k : Nat} (h : k < b - a) : (codeOf f a b)[k]? = some (f (a + k)) := by
  simp [codeOf, List.getElem?_map, List.getElem?_range h]
theorem evS_take {nm : Int32 → Int32} {f : Nat → Int32} {a b : Nat} : ∀ {k : Nat}, k ≤ b - a → evS nm [] ((codeOf f a b).take k) = evN nm f a k
  | 0, _ => rfl
  | k + 1, h => by
    rw [List.take_add_one, codeOf_get (by omega), evS, List.foldl_append]
    show opS nm (f (a + k)) (evS nm [] ((codeOf f a b).take k)) = opS nm (f (a + k)) (evN nm f a k)
    rw [evS_take (by omega)]
theorem evS_all {nm : Int32 → Int32} {f : Nat → Int32} {a b : Nat} : evS nm [] (codeOf f a b) = evN nm f a (b - a) := by
  rw [← evS_take (Nat.le_refl _), List.take_of_length_le (by rw [codeOf_len]; omega)]
theorem wf_at {d : Nat} {f : Nat → Int32} {a b : Nat} (h : wfS d (codeOf f a b)) (nm : Int32 → Int32) {k : Nat} (hk : k < b - a) : (evN nm f a k).length ≤ d ∧ (evN nm f a (k + 1)).length ≤ d ∧ (if -7 ≤ f (a + k) then 0 else if f (a + k) = -8 then 1 else 2) ≤ (evN nm f a k).length := by
  obtain ⟨v, hv⟩ := h nm
  obtain ⟨-, h2⟩ := hv []
  obtain ⟨h3, h4⟩ := h2 k (by rw [codeOf_len]; omega)
  obtain ⟨h5, -⟩ := h2 (k + 1) (by rw [codeOf_len]; omega)
  have h4 := h4 (by rw [codeOf_len]; omega)
  rw [evS_take (by omega)] at h3 h4
  rw [evS_take (by omega)] at h5
  rw [List.getD_eq_getElem?_getD, codeOf_get hk] at h4
  simp only [List.length_nil, Nat.zero_add, Option.getD_some] at h3 h4 h5
  exact ⟨h3, h5, h4⟩
theorem wf_end {d : Nat} {f : Nat → Int32} {a b : Nat} (h : wfS d (codeOf f a b)) (nm : Int32 → Int32) : ∃ v, evN nm f a (b - a) = [v] ∧ condS nm (codeOf f a b) = decide (v = 1) := by
  obtain ⟨v, hv⟩ := h nm
  obtain ⟨h1, -⟩ := hv []
  refine ⟨v, by rw [← evS_all]; exact h1, ?_⟩
  unfold condS
  rw [h1]
theorem x_seen {F : Nat} {code sec : Int32} {c : Nat} {tg : Int32} {σ : kS} (ht : tg = nI c) (hc : c < 8) (h : rng code (-7) (-1)) : f_X1_seen F code tg sec σ = some (.inl (some (.int (nmS sec (σ.1 6 0 7 - σ.1 6 0 8) (σ.1 6 0 6) (σ.1 6 0 9) (σ.1 36 0) (σ.1 37 0) (σ.1 38 0) c code))), σ) := by
  subst ht
  have hk : kin (nI c) 8 := (nI_kin (by omega)).mpr hc
  have ec : (nI c).toNatClampNeg = c := nI_c (by omega)
  unfold f_X1_seen nmS f_X1_seen_b91
  rw [ec]
  by_cases c6 : code = -6
  · subst c6
    rw [if_pos rfl, kg_t hk]; rfl
  rw [if_neg c6]
  by_cases c5 : code = -5
  · subst c5
    rw [if_pos rfl, kg_t hk]; rfl
  rw [if_neg c5]
  by_cases c4 : code = -4
  · subst c4
    rw [if_pos rfl]; rfl
  rw [if_neg c4]
  by_cases c3 : code = -3
  · subst c3
    rw [if_pos rfl]; rfl
  rw [if_neg c3]
  by_cases c2 : code = -2
  · subst c2
    rw [if_pos rfl]; rfl
  rw [if_neg c2]
  by_cases c1 : code = -1
  · subst c1
    rw [if_pos rfl]; rfl
  rw [if_neg c1, kg_t hk, if_neg c1, if_neg c2, if_neg c3, if_neg c4, if_neg c5, if_neg c6]
  by_cases q : σ.1 38 0 c = -1
  · rw [if_pos q, if_pos q]
  · rw [if_neg q, if_neg q]
theorem x_joined {F : Nat} {code l r : Int32} {σ : kS} : f_X1_joined F code l r σ = some (.inl (some (.int (joinS code l r))), σ) := by
  unfold f_X1_joined joinS f_X1_joined_b84 f_X1_joined_b73 f_X1_joined_b62
  by_cases c1 : code = -15
  · subst c1; rfl
  rw [if_neg c1]
  by_cases c2 : code = -14
  · subst c2; rfl
  rw [if_neg c2]
  by_cases c3 : code = -13
  · subst c3
    rw [if_pos rfl]
    by_cases q : l = r
    · rw [if_pos q]; show _ = some (Sum.inl (some (Value.int (if l = r then 1 else 0))), σ); rw [if_pos q]
    · rw [if_neg q]; show _ = some (Sum.inl (some (Value.int (if l = r then 1 else 0))), σ); rw [if_neg q]
  rw [if_neg c3]
  by_cases c4 : code = -12
  · subst c4
    rw [if_pos rfl]
    show _ = some (Sum.inl (some (Value.int (if r < l then 1 else 0))), σ)
    by_cases q : l ≤ r
    · rw [if_pos q, if_neg (Int32.not_lt.mpr q)]
    · rw [if_neg q, if_pos (Int32.not_le.mp q)]
  rw [if_neg c4]
  by_cases c5 : code = -11
  · subst c5
    rw [if_pos rfl]
    show _ = some (Sum.inl (some (Value.int (if l < r then 1 else 0))), σ)
    by_cases q : r ≤ l
    · rw [if_pos q, if_neg (Int32.not_lt.mpr q)]
    · rw [if_neg q, if_pos (Int32.not_le.mp q)]
  rw [if_neg c5]
  by_cases c6 : code = -10
  · subst c6; rfl
  rw [if_neg c6]
  by_cases c7 : code = -9
  · subst c7; rfl
  rw [if_neg c7, if_neg c7, if_neg c6, if_neg c5, if_neg c4, if_neg c3, if_neg c2, if_neg c1]
theorem nI_p {a : Nat} (ha : a < 2147483647) (h : 1 ≤ a) : nI a - 1 = nI (a - 1) := by
  rw [i_eq, nI_toInt (by omega), i_sub, nI_toInt (by omega)]
  · show (a : Int) - 1 = _
    omega
  · rw [nI_toInt (by omega)]; show _ ≤ _ - (1 : Int); omega
  · rw [nI_toInt (by omega)]; show _ - (1 : Int) < _; omega
theorem nI_m {a : Nat} (ha : a < 2147483647) (h : 1 ≤ a) : nI a + (-1) = nI (a - 1) := by
  rw [i_eq, nI_toInt (by omega), i_add, nI_toInt (by omega)]
  · show (a : Int) + (-1) = _
    omega
  · rw [nI_toInt (by omega)]; show _ ≤ _ + (-1 : Int); omega
  · rw [nI_toInt (by omega)]; show _ + (-1 : Int) < _; omega
theorem stk_u {σ : kS} {g : Nat} {st : List Int32} {n : Nat} {v : Int32} (hn : st.length ≤ n) (h : stk (σ.1 g 0) st) : stk ((kU σ g 0 n v).1 g 0) st :=
  stk_cg (fun k hk => by rw [kU_at, if_neg (fun q => by have := q.2.2; omega)]) h
theorem stk_p {σ : kS} {g : Nat} {st : List Int32} {v : Int32} (h : stk (σ.1 g 0) st) : stk ((kU σ g 0 st.length v).1 g 0) (v :: st) := ⟨kU_here, stk_u (Nat.le_refl _) h⟩
theorem x_holds {F : Nat} (hF : 2000 ≤ F) {σ : kS} {i j c a b : Nat} {sec : Int32} (hi : i < 8) (h5 : σ.1 6 0 5 = nI i) (hj : j < 14) (hc : c < 8) (h12 : σ.1 12 i j = nI c) (h15 : σ.1 15 i j = nI a) (h16 : σ.1 16 i j = nI b) (hab : a ≤ b) (hb : b ≤ 300) (hr : ∀ k, a ≤ k → k < b → rng (σ.1 17 i k) (-16) 9999) (hw : wfS 18 (codeOf (σ.1 17 i) a b)) :
    RI (f_X1_holds F (nI j) sec σ) (fun r σ' => r = (if condS (nmS sec (σ.1 6 0 7 - σ.1 6 0 8) (σ.1 6 0 6) (σ.1 6 0 9) (σ.1 36 0) (σ.1 37 0) (σ.1 38 0) c) (codeOf (σ.1 17 i) a b) = true then 1 else 0) ∧ Fr (sL [39]) σ σ') := by
  have ej : (nI j).toNatClampNeg = j := nI_c (by omega)
  have hkj : kin (nI j) 14 := (nI_kin (by omega)).mpr hj
  have ei : (nI i).toNatClampNeg = i := nI_c (by omega)
  have hki : i < kCnt 10 := hi
  let nm := nmS sec (σ.1 6 0 7 - σ.1 6 0 8) (σ.1 6 0 6) (σ.1 6 0 9) (σ.1 36 0) (σ.1 37 0) (σ.1 38 0) c
  let f := σ.1 17 i
  unfold f_X1_holds
  simp only [h5, ei, ej, s_b, h15]
  refine n_g hki (n_g hkj ?_)
  refine n_fix (fun n x σ' => ∃ k, x = (nI j, sec, nI (evN nm f a k).length, nI (a + k)) ∧ k ≤ b - a ∧ n = b - a - k ∧ stk (σ'.1 39 0) (evN nm f a k) ∧ Fr (sL [39]) σ σ') ?_ F (b - a) _ σ (by omega) ⟨0, rfl, by omega, by omega, trivial, Fr.refl σ⟩
  rintro rr n x σ' ⟨k, rfl, hk, rfl, hst, hfr⟩ ih
  have e5 : σ'.1 6 0 5 = nI i := (hfr.1 6 0 5 rfl).trans h5
  have e12 : σ'.1 12 i j = nI c := (hfr.1 12 i j rfl).trans h12
  have e16 : σ'.1 16 i j = nI b := (hfr.1 16 i j rfl).trans h16
  have e17 : σ'.1 17 i (a + k) = f (a + k) := hfr.1 17 i (a + k) rfl
  have eak : (nI (a + k)).toNatClampNeg = a + k := nI_c (by omega)
  unfold f_X1_holds_b13
  simp only [e5, ei, ej, s_b, e16, eak, e17, e12]
  refine n_g hki (n_g hkj (n_if (fun q => ?_) (fun q => ?_)))
  · rw [nJ_le (by omega) (by omega)] at q
    have ek : k = b - a := by omega
    subst ek
    obtain ⟨v, hv, hcd⟩ := wf_end hw nm
    rw [hv] at hst
    have hv0 : σ'.1 39 0 0 = v := hst.1
    rw [hv, show [v].length = 1 from rfl]
    refine n_if (fun q => absurd q (by decide)) (fun _ => n_g (by decide) ?_)
    show Rn (if σ'.1 39 0 0 = 1 then _ else _) _
    rw [hv0]
    show Rn _ (fun v σ' => ∃ r, v = some (Value.int r) ∧ (r = if condS nm (codeOf f a b) = true then 1 else 0) ∧ _)
    rw [hcd]
    refine n_if (fun q => ?_) (fun q => ?_)
    · unfold f_X1_holds_b185
      refine n_g rfl ?_
      refine n_i ⟨?_, hfr⟩
      rw [if_pos (by simpa using q)]
    · unfold f_X1_holds_b184 f_X1_holds_b185
      refine n_g rfl ?_
      refine n_i ⟨?_, hfr⟩
      rw [if_neg (by simpa using q)]
  · rw [nJ_le (by omega) (by omega)] at q
    have hkb : k < b - a := by omega
    obtain ⟨w1, w2, w3⟩ := wf_at hw nm hkb
    have w1 : (evN nm f a k).length ≤ 18 := w1
    have w3 : (if -7 ≤ f (a + k) then 0 else if f (a + k) = -8 then 1 else 2) ≤ (evN nm f a k).length := w3
    have hrk := hr (a + k) (by omega) (by omega)
    have eak1 : nI (a + k) + 1 = nI (a + (k + 1)) := nI_s (by omega)
    have hnx : ∀ (L : Nat) (σ'' : kS), L = (evN nm f a (k + 1)).length → stk (σ''.1 39 0) (evN nm f a (k + 1)) → Fr (sL [39]) σ σ'' → Rn (rr (nI j, sec, nI L, nI (a + k) + 1) σ'') _ := fun L σ'' hL hs hf => ih (b - a - (k + 1)) _ σ'' (by omega) ⟨k + 1, by rw [hL, eak1], by omega, rfl, hs, hf⟩
    refine n_g hki (n_g ((nI_kin (by omega)).mpr (by omega)) (n_if (fun q1 => ?_) (fun q1 => ?_)))
    · have q7 : ¬ (-7 ≤ f (a + k)) := Int32.not_le.mpr q1
      refine n_if (fun q2 => ?_) (fun q2 => ?_)
      · rw [if_neg q7, if_pos q2] at w3
        have hop : evN nm f a (k + 1) = opS nm (f (a + k)) (evN nm f a k) := rfl
        unfold opS at hop
        rw [if_neg q7, if_pos q2] at hop
        match hE : evN nm f a k, hst, w3, hop with
        | x :: t, hst, _, hop =>
          have hop : evN nm f a (k + 1) = (1 - x) :: t := hop
          rw [hE] at w1
          have hl : t.length < 18 := w1
          have e1 : nI (x :: t).length - 1 = nI t.length := nI_p (a := t.length + 1) (by omega) (by omega)
          have e2 : (nI t.length).toNatClampNeg = t.length := nI_c (by omega)
          have hk1 : kin (nI t.length) 32 := (nI_kin (by omega)).mpr (by omega)
          have hx : σ'.1 39 0 t.length = x := hst.1
          simp only [e1, e2, hx]
          refine n_if (fun q => absurd q ?_) (fun _ => n_g hk1 (n_g hk1 ?_))
          · show ¬ nI (t.length + 1) < nI 1
            rw [nJ_lt (by omega) (by omega)]; omega
          · refine hnx _ _ (by rw [hop]; rfl) ?_ (hfr.u rfl)
            rw [hop]
            exact stk_p hst.2
      · rw [if_neg q7, if_neg q2] at w3
        have hop : evN nm f a (k + 1) = opS nm (f (a + k)) (evN nm f a k) := rfl
        unfold opS at hop
        rw [if_neg q7, if_neg q2] at hop
        match hE : evN nm f a k, hst, w3, hop with
        | [x], _, w3, _ => exact absurd w3 (by simp)
        | y :: x :: t, hst, _, hop =>
          have hop : evN nm f a (k + 1) = joinS (f (a + k)) x y :: t := hop
          rw [hE] at w1
          have hl : t.length + 1 < 18 := w1
          have e1 : nI (y :: x :: t).length + (-1) = nI (t.length + 1) := nI_m (a := t.length + 2) (by omega) (by omega)
          have e1' : nI (t.length + 1) - 1 = nI t.length := nI_p (a := t.length + 1) (by omega) (by omega)
          have e2 : (nI t.length).toNatClampNeg = t.length := nI_c (by omega)
          have e2' : (nI (t.length + 1)).toNatClampNeg = t.length + 1 := nI_c (by omega)
          have hk1 : kin (nI t.length) 32 := (nI_kin (by omega)).mpr (by omega)
          have hk2 : kin (nI (t.length + 1)) 32 := (nI_kin (by omega)).mpr (by omega)
          have hy : σ'.1 39 0 (t.length + 1) = y := hst.1
          have hx : σ'.1 39 0 t.length = x := hst.2.1
          simp only [e1, e1', e2, e2', hx, hy, x_joined, s_bi]
          refine n_if (fun q => absurd q ?_) (fun _ => n_g hk1 (n_g hk2 (n_g hk1 ?_)))
          · show ¬ nI (t.length + 2) < nI 2
            rw [nJ_lt (by omega) (by omega)]; omega
          · refine hnx _ _ (by rw [hop]; rfl) ?_ (hfr.u rfl)
            rw [hop]
            exact stk_p hst.2.2
    · have q7 : -7 ≤ f (a + k) := Int32.not_lt.mp q1
      have eL : (nI (evN nm f a k).length).toNatClampNeg = (evN nm f a k).length := nI_c (by omega)
      have hkL : kin (nI (evN nm f a k).length) 32 := (nI_kin (by omega)).mpr (by omega)
      have eL1 : nI (evN nm f a k).length + 1 = nI ((evN nm f a k).length + 1) := nI_s (by omega)
      refine n_if (fun q => absurd q ?_) (fun _ => ?_)
      · show ¬ nI 32 ≤ _
        rw [nJ_le (by omega) (by omega)]; omega
      · have hgo : ∀ σ'' : kS, σ'' = σ' → ∀ v, v = (if 0 ≤ f (a + k) then f (a + k) else nm (f (a + k))) → Rn (f_X1_holds_b83 F rr (nI j) sec (nI (evN nm f a k).length) (nI (a + k)) (nI (evN nm f a k).length) v σ'') (fun v σ' => ∃ r, v = some (Value.int r) ∧ (r = if condS nm (codeOf f a b) = true then 1 else 0) ∧ Fr (sL [39]) σ σ') := by
          rintro σ'' rfl v hv
          have hop : evN nm f a (k + 1) = v :: evN nm f a k := by
            show opS nm (f (a + k)) (evN nm f a k) = _
            unfold opS
            rw [if_pos q7, hv]
          unfold f_X1_holds_b83 f_X1_holds_b158
          simp only [eL, s_b, eL1]
          refine n_g hkL (hnx _ _ (by rw [hop]; rfl) ?_ (hfr.u rfl))
          rw [hop]
          exact stk_p hst
        refine n_if (fun q2 => ?_) (fun q2 => ?_)
        · refine n_g hki (n_g hkj ?_)
          have hcr : rng (f (a + k)) (-7) (-1) := by
            rw [i_le] at q7
            rw [i_lt] at q2
            have q7 : -7 ≤ (f (a + k)).toInt := q7
            have q2 : (f (a + k)).toInt < 0 := q2
            exact ⟨q7, by omega⟩
          rw [x_seen rfl hc hcr, s_bi]
          refine hgo σ' rfl _ ?_
          rw [if_neg (Int32.not_le.mpr q2)]
          show nmS _ (σ'.1 6 0 7 - σ'.1 6 0 8) _ _ _ _ _ _ _ = nmS _ _ _ _ _ _ _ _ _
          have g6 : σ'.1 6 = σ.1 6 := by funext i k; exact hfr.1 6 i k rfl
          have g36 : σ'.1 36 = σ.1 36 := by funext i k; exact hfr.1 36 i k rfl
          have g37 : σ'.1 37 = σ.1 37 := by funext i k; exact hfr.1 37 i k rfl
          have g38 : σ'.1 38 = σ.1 38 := by funext i k; exact hfr.1 38 i k rfl
          rw [g6, g36, g37, g38]
        · exact hgo σ' rfl _ (by rw [if_pos (Int32.not_lt.mp q2)])
