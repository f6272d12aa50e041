/-! CODES THAT ARE WELL MADE -/
theorem evS_app {nm : Int32 → Int32} {st A B : List Int32} : evS nm st (A ++ B) = evS nm (evS nm st A) B := List.foldl_append
theorem wf_mono {d d' : Nat} {cs : List Int32} (h : wfS d cs) (hd : d ≤ d') : wfS d' cs := fun nm => by
  obtain ⟨v, hv⟩ := h nm
  refine ⟨v, fun st => ⟨(hv st).1, fun i hi => ?_⟩⟩
  obtain ⟨a, b⟩ := (hv st).2 i hi
  exact ⟨by omega, b⟩
def ndS (c : Int32) : Nat := if -7 ≤ c then 0 else if c = -8 then 1 else 2
theorem ndS_le {c : Int32} : ndS c ≤ 2 := by
  unfold ndS
  by_cases h : -7 ≤ c
  · rw [if_pos h]; omega
  · rw [if_neg h]
    by_cases h : c = -8
    · rw [if_pos h]; omega
    · rw [if_neg h]; omega
theorem wf_one {d : Nat} {c : Int32} (hc : -7 ≤ c) (hd : 1 ≤ d) : wfS d [c] := fun nm => by
  refine ⟨if 0 ≤ c then c else nm c, fun st => ⟨?_, fun i hi => ?_⟩⟩
  · show opS nm c st = _
    unfold opS
    rw [if_pos hc]
  · have hi : i ≤ 1 := hi
    by_cases z : i = 0
    · subst z
      refine ⟨by show st.length ≤ _; omega, fun _ => ?_⟩
      show st.length + (if -7 ≤ c then 0 else _) ≤ st.length
      rw [if_pos hc]; omega
    · have : i = 1 := by omega
      subst this
      refine ⟨?_, fun h => absurd h (by show ¬ 1 < 1; omega)⟩
      show (opS nm c st).length ≤ _
      unfold opS
      rw [if_pos hc]
      show st.length + 1 ≤ _
      omega
theorem wf_not {d : Nat} {A : List Int32} (h : wfS d A) : wfS d (A ++ [-8]) := fun nm => by
  obtain ⟨v, hv⟩ := h nm
  refine ⟨1 - v, fun st => ?_⟩
  obtain ⟨e1, e2⟩ := hv st
  have e3 : evS nm st (A ++ [-8]) = (1 - v) :: st := by
    rw [evS_app, e1]; rfl
  refine ⟨e3, fun i hi => ?_⟩
  rw [List.length_append] at hi ⊢
  have hi : i ≤ A.length + 1 := hi
  by_cases z : i ≤ A.length
  · obtain ⟨a, b⟩ := e2 i z
    rw [List.take_append_of_le_length z]
    refine ⟨a, fun _ => ?_⟩
    by_cases y : i < A.length
    · have := b y
      rw [List.getD_eq_getElem?_getD, List.getElem?_append_left y, ← List.getD_eq_getElem?_getD]
      exact this
    · have yi : i = A.length := by omega
      subst yi
      rw [List.take_length, e1, List.getD_eq_getElem?_getD, List.getElem?_append_right (Nat.le_refl _), Nat.sub_self]
      show st.length + (if -7 ≤ (-8 : Int32) then 0 else if (-8 : Int32) = -8 then 1 else 2) ≤ st.length + 1
      rw [if_neg (by decide), if_pos rfl]
      omega
  · have yi : i = A.length + 1 := by omega
    rw [List.take_of_length_le (by rw [List.length_append]; exact Nat.le_of_eq yi.symm), e3]
    have hA := (e2 A.length (Nat.le_refl _)).1
    rw [List.take_length, e1] at hA
    have hA : st.length + 1 ≤ st.length + d := hA
    refine ⟨hA, fun hx => ?_⟩
    have hx : i < A.length + 1 := hx
    omega
theorem opS_bin {nm : Int32 → Int32} {c x y : Int32} {st : List Int32} (h1 : ¬ -7 ≤ c) (h2 : c ≠ -8) : opS nm c (y :: x :: st) = joinS c x y :: st := by
  unfold opS
  rw [if_neg h1, if_neg h2]
theorem wf_bin {d d1 d2 : Nat} {A B : List Int32} {c : Int32} (hA : wfS d1 A) (hB : wfS d2 B) (h1 : d1 ≤ d) (h2 : d2 + 1 ≤ d) (c1 : ¬ -7 ≤ c) (c2 : c ≠ -8) : wfS d (A ++ (B ++ [c])) := fun nm => by
  obtain ⟨v, hv⟩ := hA nm
  obtain ⟨w, hw⟩ := hB nm
  refine ⟨joinS c v w, fun st => ?_⟩
  obtain ⟨a1, a2⟩ := hv st
  obtain ⟨b1, b2⟩ := hw (v :: st)
  have e3 : evS nm st (A ++ (B ++ [c])) = joinS c v w :: st := by
    rw [evS_app, evS_app, a1, b1]
    exact opS_bin c1 c2
  have hB1 := (b2 B.length (Nat.le_refl _)).1
  rw [List.take_length, b1] at hB1
  have hB1 : st.length + 1 + 1 ≤ st.length + 1 + d2 := hB1
  refine ⟨e3, fun i hi => ?_⟩
  rw [List.length_append, List.length_append] at hi ⊢
  have hi : i ≤ A.length + (B.length + 1) := hi
  by_cases z : i < A.length
  · obtain ⟨a, b⟩ := a2 i (by omega)
    rw [List.take_append_of_le_length (by omega)]
    refine ⟨by omega, fun _ => ?_⟩
    have := b z
    rw [List.getD_eq_getElem?_getD, List.getElem?_append_left z, ← List.getD_eq_getElem?_getD]
    exact this
  · obtain ⟨j, rfl⟩ : ∃ j, i = A.length + j := ⟨i - A.length, by omega⟩
    have et : (A ++ (B ++ [c])).take (A.length + j) = A ++ (B ++ [c]).take j := by
      rw [List.take_append, List.take_of_length_le (by omega), Nat.add_sub_cancel_left]
    have eg : (A ++ (B ++ [c])).getD (A.length + j) 0 = (B ++ [c]).getD j 0 := by
      rw [List.getD_eq_getElem?_getD, List.getElem?_append_right (by omega), Nat.add_sub_cancel_left, ← List.getD_eq_getElem?_getD]
    rw [et, eg, evS_app, a1]
    by_cases y : j < B.length
    · obtain ⟨a, b⟩ := b2 j (by omega)
      have b := b y
      have a : _ ≤ st.length + 1 + d2 := a
      have b : st.length + 1 + _ ≤ _ := b
      rw [List.take_append_of_le_length (by omega), List.getD_eq_getElem?_getD, List.getElem?_append_left y, ← List.getD_eq_getElem?_getD]
      exact ⟨by omega, fun _ => by omega⟩
    · by_cases x : j = B.length
      · subst x
        rw [List.take_append_of_le_length (Nat.le_refl _), List.take_length, b1]
        refine ⟨by show st.length + 1 + 1 ≤ _; omega, fun _ => ?_⟩
        have := ndS_le (c := (B ++ [c]).getD B.length 0)
        show st.length + ndS _ ≤ st.length + 1 + 1
        omega
      · have x : j = B.length + 1 := by omega
        rw [List.take_of_length_le (by rw [List.length_append]; exact Nat.le_of_eq x.symm), evS_app, b1]
        refine ⟨?_, fun hx => ?_⟩
        · show (opS nm c (w :: v :: st)).length ≤ _
          rw [opS_bin c1 c2]
          show st.length + 1 ≤ _
          omega
        · have hx : A.length + j < A.length + (B.length + 1) := hx
          omega
theorem co_app {f : Nat → Int32} {a b c : Nat} (h1 : a ≤ b) (h2 : b ≤ c) : codeOf f a c = codeOf f a b ++ codeOf f b c := by
  refine List.ext_getElem? fun k => ?_
  by_cases z : k < b - a
  · rw [List.getElem?_append_left (by rw [codeOf_len]; exact z), codeOf_get z, codeOf_get (by omega)]
  · rw [List.getElem?_append_right (by rw [codeOf_len]; omega), codeOf_len]
    by_cases y : k < c - a
    · rw [codeOf_get y, codeOf_get (by omega), show b + (k - (b - a)) = a + k by omega]
    · rw [List.getElem?_eq_none (by rw [codeOf_len]; omega), List.getElem?_eq_none (by rw [codeOf_len]; omega)]
theorem co_one {f : Nat → Int32} {a : Nat} : codeOf f a (a + 1) = [f a] := by
  show (List.range (a + 1 - a)).map _ = _
  rw [show a + 1 - a = 1 by omega]
  rfl
theorem co_cg {f g : Nat → Int32} {a b : Nat} (h : ∀ j, a ≤ j → j < b → g j = f j) : codeOf g a b = codeOf f a b := by
  refine List.ext_getElem? fun k => ?_
  by_cases z : k < b - a
  · rw [codeOf_get z, codeOf_get z, h (a + k) (by omega) (by omega)]
  · rw [List.getElem?_eq_none (by rw [codeOf_len]; omega), List.getElem?_eq_none (by rw [codeOf_len]; omega)]
