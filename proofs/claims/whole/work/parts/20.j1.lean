def f_J7_fill_F_mixed_b5 (F : Nat) (rr5 : (Int32 × Int32 × Int32) → kS → Option kR) (a : (Int32 × Int32 × Int32)) (σ : kS) : Option kR := match a with
  | (x1, x2, x3) => if x3 ≤ x2 then (some (.inl none, σ)) else (kg (kin x2 8) (kb (kU σ 37 0 x2.toNatClampNeg x1) fun σ2 => rr5 (x1, x2 + 1, x3) σ2))
set_option maxRecDepth 20000 in
theorem s_J7_fill_F_mixed_b5 {l : Launch} {E : kE} (hj : kEj E) (hn : kNorm E) (hl : l.stackTraces = false) {C : kC} {Q : kR → State → Prop} (hk : kOk (C, E, Q) cJ7_fill_53178 RJ7 4) (he : kEnd (C, E, Q) none id 0) (hro : kRo C l (0) (0) 0) (F : Nat) : ∀ (N9 : Nat) (x1 : Int32) (x2 : Int32) (x3 : Int32)  (σ : kS), Sm (C, E, Q) 4 0 5 [(0, .ref (kad E 37 0)), (1, .int x1), (2, .int x2), (3, .int x3)] [] σ (kFix (f_J7_fill_F_mixed_b5 F) N9 (x1, x2, x3) σ) := by
  intro N9
  induction N9 with
  | zero => intro x1 x2 x3  σ; exact k_no
  | succ N9 ih =>
    intro x1 x2 x3  σ
    show Sm _ _ _ _ _ _ _ (f_J7_fill_F_mixed_b5 F (kFix (f_J7_fill_F_mixed_b5 F) N9) (x1, x2, x3) σ)
    generalize kFix (f_J7_fill_F_mixed_b5 F) N9 = rr5 at ih
    have hrr5 := ih
    unfold f_J7_fill_F_mixed_b5
    dsimp only
    refine k_iload_n hk dJ7_fill_53178_5 2 rfl ?_
    refine k_iload_n hk dJ7_fill_53178_6 3 rfl ?_
    refine k_icmp_ge hk dJ7_fill_53178_7 20 (by decide) (fun h1 => ?_) (fun h1 => ?_)
    · exact k_return hk he dJ7_fill_53178_20 (by decide)
    · refine k_aload_n hk dJ7_fill_53178_10 0 rfl ?_
      refine k_iload_n hk dJ7_fill_53178_11 2 rfl ?_
      refine k_iload_n hk dJ7_fill_53178_12 1 rfl ?_
      refine k_iast hk dJ7_fill_53178_13 rfl (by decide) (fun h3 σ2 => ?_)
      refine k_iinc (lv' := [(2, .int (x2 + 1)), (0, .ref (kad E 37 0)), (1, .int x1), (3, .int x3)]) (j := 2) (y := x2 + 1) hk dJ7_fill_53178_14 rfl rfl (by decide) rfl ?_
      refine k_goto hk dJ7_fill_53178_17 5 (by decide) ?_
      exact k_sub [1, 2, 0, 3] rfl (hrr5 x1 (x2 + 1) x3  σ2)
def f_J7_fill_F_mixed (F : Nat) (a1 : Int32) (σ : kS) : Option kR := kFix (f_J7_fill_F_mixed_b5 F) F (a1, 0, 8) σ
set_option maxRecDepth 20000 in
theorem c_J7_fill_F_mixed {l : Launch} {E : kE} (hj : kEj E) (hn : kNorm E) (hl : l.stackTraces = false) (F : Nat) (a1 : Int32)  (σ : kS) : kMet l E yJ7_fill_53178 cJ7_fill_53178 4 none (0) (0) 0 id [.ref (kad E 37 0), .int a1] σ (f_J7_fill_F_mixed F a1 σ) := by
  refine k_met hj hn hl (by decide) (Nat.le_of_ble_eq_true rfl) (fun C Q hk he hro => ?_)
  have hk : kOk (C, E, Q) cJ7_fill_53178 RJ7 4 := hk
  show Sm (C, E, Q) 4 0 0 [(0, .ref (kad E 37 0)), (1, .int a1)] [] σ _
  unfold f_J7_fill_F_mixed
  refine k_iconst (v := 0) hk dJ7_fill_53178_0 (by decide) ?_
  refine k_istore_n (lv' := [(2, .int 0), (0, .ref (kad E 37 0)), (1, .int a1)]) hk dJ7_fill_53178_1 (by decide) rfl ?_
  refine k_aload_n hk dJ7_fill_53178_2 1 rfl ?_
  refine k_alen (v := 8) hk dJ7_fill_53178_3 rfl (by decide) (by decide) ?_
  refine k_istore_n (lv' := [(3, .int 8), (2, .int 0), (0, .ref (kad E 37 0)), (1, .int a1)]) hk dJ7_fill_53178_4 (by decide) rfl ?_
  exact k_sub [2, 3, 1, 0] rfl (s_J7_fill_F_mixed_b5 hj hn hl hk he hro F F a1 0 8  σ)
def f_J7_fill_F_began_b5 (F : Nat) (rr5 : (Int32 × Int32 × Int32) → kS → Option kR) (a : (Int32 × Int32 × Int32)) (σ : kS) : Option kR := match a with
  | (x1, x2, x3) => if x3 ≤ x2 then (some (.inl none, σ)) else (kg (kin x2 8) (kb (kU σ 38 0 x2.toNatClampNeg x1) fun σ2 => rr5 (x1, x2 + 1, x3) σ2))
set_option maxRecDepth 20000 in
theorem s_J7_fill_F_began_b5 {l : Launch} {E : kE} (hj : kEj E) (hn : kNorm E) (hl : l.stackTraces = false) {C : kC} {Q : kR → State → Prop} (hk : kOk (C, E, Q) cJ7_fill_53178 RJ7 4) (he : kEnd (C, E, Q) none id 0) (hro : kRo C l (0) (0) 0) (F : Nat) : ∀ (N9 : Nat) (x1 : Int32) (x2 : Int32) (x3 : Int32)  (σ : kS), Sm (C, E, Q) 4 0 5 [(0, .ref (kad E 38 0)), (1, .int x1), (2, .int x2), (3, .int x3)] [] σ (kFix (f_J7_fill_F_began_b5 F) N9 (x1, x2, x3) σ) := by
  intro N9
  induction N9 with
  | zero => intro x1 x2 x3  σ; exact k_no
  | succ N9 ih =>
    intro x1 x2 x3  σ
    show Sm _ _ _ _ _ _ _ (f_J7_fill_F_began_b5 F (kFix (f_J7_fill_F_began_b5 F) N9) (x1, x2, x3) σ)
    generalize kFix (f_J7_fill_F_began_b5 F) N9 = rr5 at ih
    have hrr5 := ih
    unfold f_J7_fill_F_began_b5
    dsimp only
    refine k_iload_n hk dJ7_fill_53178_5 2 rfl ?_
    refine k_iload_n hk dJ7_fill_53178_6 3 rfl ?_
    refine k_icmp_ge hk dJ7_fill_53178_7 20 (by decide) (fun h1 => ?_) (fun h1 => ?_)
    · exact k_return hk he dJ7_fill_53178_20 (by decide)
    · refine k_aload_n hk dJ7_fill_53178_10 0 rfl ?_
      refine k_iload_n hk dJ7_fill_53178_11 2 rfl ?_
      refine k_iload_n hk dJ7_fill_53178_12 1 rfl ?_
      refine k_iast hk dJ7_fill_53178_13 rfl (by decide) (fun h3 σ2 => ?_)
      refine k_iinc (lv' := [(2, .int (x2 + 1)), (0, .ref (kad E 38 0)), (1, .int x1), (3, .int x3)]) (j := 2) (y := x2 + 1) hk dJ7_fill_53178_14 rfl rfl (by decide) rfl ?_
      refine k_goto hk dJ7_fill_53178_17 5 (by decide) ?_
      exact k_sub [1, 2, 0, 3] rfl (hrr5 x1 (x2 + 1) x3  σ2)
def f_J7_fill_F_began (F : Nat) (a1 : Int32) (σ : kS) : Option kR := kFix (f_J7_fill_F_began_b5 F) F (a1, 0, 8) σ
set_option maxRecDepth 20000 in
theorem c_J7_fill_F_began {l : Launch} {E : kE} (hj : kEj E) (hn : kNorm E) (hl : l.stackTraces = false) (F : Nat) (a1 : Int32)  (σ : kS) : kMet l E yJ7_fill_53178 cJ7_fill_53178 4 none (0) (0) 0 id [.ref (kad E 38 0), .int a1] σ (f_J7_fill_F_began F a1 σ) := by
  refine k_met hj hn hl (by decide) (Nat.le_of_ble_eq_true rfl) (fun C Q hk he hro => ?_)
  have hk : kOk (C, E, Q) cJ7_fill_53178 RJ7 4 := hk
  show Sm (C, E, Q) 4 0 0 [(0, .ref (kad E 38 0)), (1, .int a1)] [] σ _
  unfold f_J7_fill_F_began
  refine k_iconst (v := 0) hk dJ7_fill_53178_0 (by decide) ?_
  refine k_istore_n (lv' := [(2, .int 0), (0, .ref (kad E 38 0)), (1, .int a1)]) hk dJ7_fill_53178_1 (by decide) rfl ?_
  refine k_aload_n hk dJ7_fill_53178_2 1 rfl ?_
  refine k_alen (v := 8) hk dJ7_fill_53178_3 rfl (by decide) (by decide) ?_
  refine k_istore_n (lv' := [(3, .int 8), (2, .int 0), (0, .ref (kad E 38 0)), (1, .int a1)]) hk dJ7_fill_53178_4 (by decide) rfl ?_
  exact k_sub [2, 3, 1, 0] rfl (s_J7_fill_F_began_b5 hj hn hl hk he hro F F a1 0 8  σ)
def f_J7_fill_S_knownBurnt_b5 (F : Nat) (rr5 : (Int32 × Int32 × Int32) → kS → Option kR) (a : (Int32 × Int32 × Int32)) (σ : kS) : Option kR := match a with
  | (x1, x2, x3) => if x3 ≤ x2 then (some (.inl none, σ)) else (kg (kin x2 6) (kb (kU σ 8 0 x2.toNatClampNeg x1) fun σ2 => rr5 (x1, x2 + 1, x3) σ2))
set_option maxRecDepth 20000 in
theorem s_J7_fill_S_knownBurnt_b5 {l : Launch} {E : kE} (hj : kEj E) (hn : kNorm E) (hl : l.stackTraces = false) {C : kC} {Q : kR → State → Prop} (hk : kOk (C, E, Q) cJ7_fill_53178 RJ7 4) (he : kEnd (C, E, Q) none id 0) (hro : kRo C l (0) (0) 0) (F : Nat) : ∀ (N9 : Nat) (x1 : Int32) (x2 : Int32) (x3 : Int32)  (σ : kS), Sm (C, E, Q) 4 0 5 [(0, .ref (kad E 8 0)), (1, .int x1), (2, .int x2), (3, .int x3)] [] σ (kFix (f_J7_fill_S_knownBurnt_b5 F) N9 (x1, x2, x3) σ) := by
  intro N9
  induction N9 with
  | zero => intro x1 x2 x3  σ; exact k_no
  | succ N9 ih =>
    intro x1 x2 x3  σ
    show Sm _ _ _ _ _ _ _ (f_J7_fill_S_knownBurnt_b5 F (kFix (f_J7_fill_S_knownBurnt_b5 F) N9) (x1, x2, x3) σ)
    generalize kFix (f_J7_fill_S_knownBurnt_b5 F) N9 = rr5 at ih
    have hrr5 := ih
    unfold f_J7_fill_S_knownBurnt_b5
    dsimp only
    refine k_iload_n hk dJ7_fill_53178_5 2 rfl ?_
    refine k_iload_n hk dJ7_fill_53178_6 3 rfl ?_
    refine k_icmp_ge hk dJ7_fill_53178_7 20 (by decide) (fun h1 => ?_) (fun h1 => ?_)
    · exact k_return hk he dJ7_fill_53178_20 (by decide)
    · refine k_aload_n hk dJ7_fill_53178_10 0 rfl ?_
      refine k_iload_n hk dJ7_fill_53178_11 2 rfl ?_
      refine k_iload_n hk dJ7_fill_53178_12 1 rfl ?_
      refine k_iast hk dJ7_fill_53178_13 rfl (by decide) (fun h3 σ2 => ?_)
      refine k_iinc (lv' := [(2, .int (x2 + 1)), (0, .ref (kad E 8 0)), (1, .int x1), (3, .int x3)]) (j := 2) (y := x2 + 1) hk dJ7_fill_53178_14 rfl rfl (by decide) rfl ?_
      refine k_goto hk dJ7_fill_53178_17 5 (by decide) ?_
      exact k_sub [1, 2, 0, 3] rfl (hrr5 x1 (x2 + 1) x3  σ2)
def f_J7_fill_S_knownBurnt (F : Nat) (a1 : Int32) (σ : kS) : Option kR := kFix (f_J7_fill_S_knownBurnt_b5 F) F (a1, 0, 6) σ
set_option maxRecDepth 20000 in
theorem c_J7_fill_S_knownBurnt {l : Launch} {E : kE} (hj : kEj E) (hn : kNorm E) (hl : l.stackTraces = false) (F : Nat) (a1 : Int32)  (σ : kS) : kMet l E yJ7_fill_53178 cJ7_fill_53178 4 none (0) (0) 0 id [.ref (kad E 8 0), .int a1] σ (f_J7_fill_S_knownBurnt F a1 σ) := by
  refine k_met hj hn hl (by decide) (Nat.le_of_ble_eq_true rfl) (fun C Q hk he hro => ?_)
  have hk : kOk (C, E, Q) cJ7_fill_53178 RJ7 4 := hk
  show Sm (C, E, Q) 4 0 0 [(0, .ref (kad E 8 0)), (1, .int a1)] [] σ _
  unfold f_J7_fill_S_knownBurnt
  refine k_iconst (v := 0) hk dJ7_fill_53178_0 (by decide) ?_
  refine k_istore_n (lv' := [(2, .int 0), (0, .ref (kad E 8 0)), (1, .int a1)]) hk dJ7_fill_53178_1 (by decide) rfl ?_
  refine k_aload_n hk dJ7_fill_53178_2 1 rfl ?_
  refine k_alen (v := 6) hk dJ7_fill_53178_3 rfl (by decide) (by decide) ?_
  refine k_istore_n (lv' := [(3, .int 6), (2, .int 0), (0, .ref (kad E 8 0)), (1, .int a1)]) hk dJ7_fill_53178_4 (by decide) rfl ?_
  exact k_sub [2, 3, 1, 0] rfl (s_J7_fill_S_knownBurnt_b5 hj hn hl hk he hro F F a1 0 6  σ)
def f_J3_checkIndexN_b9 (F : Nat) (x0 : Int32) (x1 : Int32) (σ : kS) : Option kR := none
set_option maxRecDepth 20000 in
theorem s_J3_checkIndexN_b9 {l : Launch} {E : kE} (hj : kEj E) (hn : kNorm E) (hl : l.stackTraces = false) {C : kC} {Q : kR → State → Prop} (hk : kOk (C, E, Q) cJ3_checkIndex_8e157 RJ3 3) (he : kEnd (C, E, Q) (some .int) id 0) (hro : kRo C l (0) (0) 0) (F : Nat) : ∀ (x0 : Int32) (x1 : Int32)  (σ : kS), Sm (C, E, Q) 3 0 9 [(0, .int x0), (1, .int x1), (2, .null)] [] σ (f_J3_checkIndexN_b9 F x0 x1 σ) := by
  intro x0 x1  σ
  unfold f_J3_checkIndexN_b9
  exact k_no
def f_J3_checkIndexN (F : Nat) (a0 : Int32) (a1 : Int32) (σ : kS) : Option kR := if a0 < 0 then (f_J3_checkIndexN_b9 F a0 a1 σ) else (if a0 < a1 then (some (.inl (some (.int a0)), σ)) else (f_J3_checkIndexN_b9 F a0 a1 σ))
set_option maxRecDepth 20000 in
theorem c_J3_checkIndexN {l : Launch} {E : kE} (hj : kEj E) (hn : kNorm E) (hl : l.stackTraces = false) (F : Nat) (a0 : Int32) (a1 : Int32)  (σ : kS) : kMet l E yJ3_checkIndex_8e157 cJ3_checkIndex_8e157 3 (some .int) (0) (0) 0 id [.int a0, .int a1, .null] σ (f_J3_checkIndexN F a0 a1 σ) := by
  refine k_met hj hn hl (by decide) (Nat.le_of_ble_eq_true rfl) (fun C Q hk he hro => ?_)
  have hk : kOk (C, E, Q) cJ3_checkIndex_8e157 RJ3 3 := hk
  show Sm (C, E, Q) 3 0 0 [(0, .int a0), (1, .int a1), (2, .null)] [] σ _
  unfold f_J3_checkIndexN
  refine k_iload_n hk dJ3_checkIndex_8e157_0 0 rfl ?_
  refine k_if_lt hk dJ3_checkIndex_8e157_1 9 (by decide) (fun h1 => ?_) (fun h1 => ?_)
  · exact k_sub [0, 1, 2] rfl (s_J3_checkIndexN_b9 hj hn hl hk he hro F  a0 a1  σ)
  · refine k_iload_n hk dJ3_checkIndex_8e157_4 0 rfl ?_
    refine k_iload_n hk dJ3_checkIndex_8e157_5 1 rfl ?_
    refine k_icmp_lt hk dJ3_checkIndex_8e157_6 16 (by decide) (fun h2 => ?_) (fun h2 => ?_)
    · refine k_iload_n hk dJ3_checkIndex_8e157_16 0 rfl ?_
      exact k_ireturn hk he dJ3_checkIndex_8e157_17 (by decide)
    · exact k_sub [0, 1, 2] rfl (s_J3_checkIndexN_b9 hj hn hl hk he hro F  a0 a1  σ)
def f_J3_checkIndexA_b9 (F : Nat) (x0 : Int32) (x1 : Int32) (x2 : Nat) (σ : kS) : Option kR := none
set_option maxRecDepth 20000 in
theorem s_J3_checkIndexA_b9 {l : Launch} {E : kE} (hj : kEj E) (hn : kNorm E) (hl : l.stackTraces = false) {C : kC} {Q : kR → State → Prop} (hk : kOk (C, E, Q) cJ3_checkIndex_8e157 RJ3 3) (he : kEnd (C, E, Q) (some .int) id 0) (hro : kRo C l (0) (0) 0) (F : Nat) : ∀ (x0 : Int32) (x1 : Int32) (x2 : Nat)  (σ : kS), Sm (C, E, Q) 3 0 9 [(0, .int x0), (1, .int x1), (2, .ref x2)] [] σ (f_J3_checkIndexA_b9 F x0 x1 x2 σ) := by
  intro x0 x1 x2  σ
  unfold f_J3_checkIndexA_b9
  exact k_no
def f_J3_checkIndexA (F : Nat) (a0 : Int32) (a1 : Int32) (a2 : Nat) (σ : kS) : Option kR := if a0 < 0 then (f_J3_checkIndexA_b9 F a0 a1 a2 σ) else (if a0 < a1 then (some (.inl (some (.int a0)), σ)) else (f_J3_checkIndexA_b9 F a0 a1 a2 σ))
set_option maxRecDepth 20000 in
theorem c_J3_checkIndexA {l : Launch} {E : kE} (hj : kEj E) (hn : kNorm E) (hl : l.stackTraces = false) (F : Nat) (a0 : Int32) (a1 : Int32) (a2 : Nat)  (σ : kS) : kMet l E yJ3_checkIndex_8e157 cJ3_checkIndex_8e157 3 (some .int) (0) (0) 0 id [.int a0, .int a1, .ref a2] σ (f_J3_checkIndexA F a0 a1 a2 σ) := by
  refine k_met hj hn hl (by decide) (Nat.le_of_ble_eq_true rfl) (fun C Q hk he hro => ?_)
  have hk : kOk (C, E, Q) cJ3_checkIndex_8e157 RJ3 3 := hk
  show Sm (C, E, Q) 3 0 0 [(0, .int a0), (1, .int a1), (2, .ref a2)] [] σ _
  unfold f_J3_checkIndexA
  refine k_iload_n hk dJ3_checkIndex_8e157_0 0 rfl ?_
  refine k_if_lt hk dJ3_checkIndex_8e157_1 9 (by decide) (fun h1 => ?_) (fun h1 => ?_)
  · exact k_sub [0, 1, 2] rfl (s_J3_checkIndexA_b9 hj hn hl hk he hro F  a0 a1 a2  σ)
  · refine k_iload_n hk dJ3_checkIndex_8e157_4 0 rfl ?_
    refine k_iload_n hk dJ3_checkIndex_8e157_5 1 rfl ?_
    refine k_icmp_lt hk dJ3_checkIndex_8e157_6 16 (by decide) (fun h2 => ?_) (fun h2 => ?_)
    · refine k_iload_n hk dJ3_checkIndex_8e157_16 0 rfl ?_
      exact k_ireturn hk he dJ3_checkIndex_8e157_17 (by decide)
    · exact k_sub [0, 1, 2] rfl (s_J3_checkIndexA_b9 hj hn hl hk he hro F  a0 a1 a2  σ)
def f_J0_checkIndex (F : Nat) (a0 : Int32) (a1 : Int32) (σ : kS) : Option kR := kBi (f_J3_checkIndexN F a0 a1 σ) fun _ σ2 => some (.inl none, σ2)
theorem c_J0_checkIndex {l : Launch} {E : kE} (hj : kEj E) (hn : kNorm E) (hl : l.stackTraces = false) (F : Nat) (a0 : Int32) (a1 : Int32) (σ : kS) : kMet l E yJ0_checkIndex_df160 cJ0_checkIndex_df160 2 none 1 40 0 id [.int a0, .int a1] σ (f_J0_checkIndex F a0 a1 σ) := by
  refine k_met hj hn hl (by decide) (Nat.le_of_ble_eq_true rfl) (fun C Q hk he hro => ?_)
  have hk : kOk (C, E, Q) cJ0_checkIndex_df160 RJ0 2 := hk
  show Sm (C, E, Q) 2 0 0 [(0, .int a0), (1, .int a1)] [] σ _
  unfold f_J0_checkIndex
  refine k_iload_n hk dJ0_checkIndex_df160_0 0 rfl ?_
  refine k_iload_n hk dJ0_checkIndex_df160_1 1 rfl ?_
  refine k_sfmt hk dJ0_checkIndex_df160_2 (kTB_mk (by decide +kernel) rfl) (fun v hv => ?_)
  rcases hv with rfl | ⟨a, rfl⟩
  · refine k_callSi (As := [.int a0, .int a1, .null]) (rest := []) hk he hro (c_J3_checkIndexN hj hn hl F a0 a1 σ) dJ0_checkIndex_df160_5 cw_RJ0_1059 ⟨by decide, by decide⟩ (by decide) rfl (Nat.le_of_ble_eq_true rfl) (fun c5 σ4 => ?_)
    refine k_pop hk dJ0_checkIndex_df160_8 rfl ?_
    exact k_return hk he dJ0_checkIndex_df160_9 (by decide)
  · have e9 : f_J3_checkIndexA F a0 a1 a σ = f_J3_checkIndexN F a0 a1 σ := rfl
    rw [← e9]
    refine k_callSi (As := [.int a0, .int a1, .ref a]) (rest := []) hk he hro (c_J3_checkIndexA hj hn hl F a0 a1 a σ) dJ0_checkIndex_df160_5 cw_RJ0_1059 ⟨by decide, by decide⟩ (by decide) rfl (Nat.le_of_ble_eq_true rfl) (fun c5 σ4 => ?_)
    refine k_pop hk dJ0_checkIndex_df160_8 rfl ?_
    exact k_return hk he dJ0_checkIndex_df160_9 (by decide)
def f_J1_charAt (F : Nat) (a0 : Nat) (a1 : Int32) (σ : kS) : Option kR := kBv (f_J0_checkIndex F a1 (nI (kTls.getD a0 0)) σ) fun σ1 => kg (kin a1 (kTls.getD a0 0)) (some (.inl (some (.int (((((kTbs.getD a0 []).getD a1.toNatClampNeg 0) &&& 255).toUInt32 % 65536).toInt32))), σ1))
set_option maxRecDepth 20000 in
theorem c_J1_charAt {l : Launch} {E : kE} (hj : kEj E) (hn : kNorm E) (hl : l.stackTraces = false) (F : Nat) (a0 : Nat) (a1 : Int32) (ha0 : a0 < 23) (σ : kS) : kMet l E yJ1_charAt_3b067 cJ1_charAt_3b067 2 (some .char) (2) (61) 0 id [.ref (ktv E a0), .int a1] σ (f_J1_charAt F a0 a1 σ) := by
  refine k_met hj hn hl (by decide) (Nat.le_of_ble_eq_true rfl) (fun C Q hk he hro => ?_)
  have hk : kOk (C, E, Q) cJ1_charAt_3b067 RJ1 2 := hk
  show Sm (C, E, Q) 2 0 0 [(0, .ref (ktv E a0)), (1, .int a1)] [] σ _
  unfold f_J1_charAt
  refine k_iload_n hk dJ1_charAt_3b067_0 1 rfl ?_
  refine k_aload_n hk dJ1_charAt_3b067_1 0 rfl ?_
  refine k_slen hk dJ1_charAt_3b067_2 ha0 ?_
  refine k_callSv (As := [.int a1, .int (nI (kTls.getD a0 0))]) (rest := []) hk he hro (c_J0_checkIndex hj hn hl F a1 (nI (kTls.getD a0 0))  σ) dJ1_charAt_3b067_3 cw_RJ1_9 ⟨by decide, by decide⟩ (by decide) rfl (Nat.le_of_ble_eq_true rfl) (fun σ1 => ?_)
  refine k_aload_n hk dJ1_charAt_3b067_6 0 rfl ?_
  refine k_iload_n hk dJ1_charAt_3b067_7 1 rfl ?_
  refine k_sald hk dJ1_charAt_3b067_8 ha0 (fun h2 => ?_)
  refine k_sipush (v := 255) hk dJ1_charAt_3b067_9 (by decide) ?_
  refine k_iand hk dJ1_charAt_3b067_12 ?_
  refine k_i2c hk dJ1_charAt_3b067_13 ?_
  exact k_nreturn hk he dJ1_charAt_3b067_14 (by decide) (pk_nc _)
def f_J0_coder_b14 (F : Nat) (t0 : Int32) (σ : kS) : Option kR := kg (narrow .byte (.int t0) = .int t0) (some (.inl (some (.int t0)), σ))
set_option maxRecDepth 20000 in
theorem s_J0_coder_b14 {l : Launch} {E : kE} (hj : kEj E) (hn : kNorm E) (hl : l.stackTraces = false) {C : kC} {Q : kR → State → Prop} (hk : kOk (C, E, Q) cJ0_coder_7d493 RJ0 1) (he : kEnd (C, E, Q) (some .byte) id 0) (hro : kRo C l (0) (0) 0) (F : Nat) : ∀ (t0 : Int32)  (σ : kS), Sm (C, E, Q) 1 0 14 [] [.int t0] σ (f_J0_coder_b14 F t0 σ) := by
  intro t0  σ
  unfold f_J0_coder_b14
  exact k_nreturn_g hk he dJ0_coder_7d493_14 (by decide)
def f_J0_coder (F : Nat) (a0 : Nat) (σ : kS) : Option kR := if (1 : Int32) = 0 then (f_J0_coder_b14 F 1 σ) else (f_J0_coder_b14 F 0 σ)
set_option maxRecDepth 20000 in
theorem c_J0_coder {l : Launch} {E : kE} (hj : kEj E) (hn : kNorm E) (hl : l.stackTraces = false) (F : Nat) (a0 : Nat) (ha0 : a0 < 23) (σ : kS) : kMet l E yJ0_coder_7d493 cJ0_coder_7d493 1 (some .byte) (0) (0) 0 id [.ref (ktx E a0)] σ (f_J0_coder F a0 σ) := by
  refine k_met hj hn hl (by decide) (Nat.le_of_ble_eq_true rfl) (fun C Q hk he hro => ?_)
  have hk : kOk (C, E, Q) cJ0_coder_7d493 RJ0 1 := hk
  show Sm (C, E, Q) 1 0 0 [(0, .ref (ktx E a0))] [] σ _
  unfold f_J0_coder
  refine k_scmp hk dJ0_coder_7d493_0 (kTB_mk (by decide +kernel) rfl) ?_
  refine k_if_eq hk dJ0_coder_7d493_3 13 (by decide) (fun h1 => ?_) (fun h1 => ?_)
  · refine k_iconst (v := 1) hk dJ0_coder_7d493_13 (by decide) ?_
    exact k_sub [] rfl (s_J0_coder_b14 hj hn hl hk he hro F  1  σ)
  · refine k_aload_n hk dJ0_coder_7d493_6 0 rfl ?_
    refine k_scod hk dJ0_coder_7d493_7 ha0 (kTB_mk (by decide +kernel) rfl) ?_
    refine k_goto hk dJ0_coder_7d493_10 14 (by decide) ?_
    exact k_sub [] rfl (s_J0_coder_b14 hj hn hl hk he hro F  0  σ)
def f_J0_isLatin1_b18 (F : Nat) (t0 : Int32) (σ : kS) : Option kR := kg (narrow .boolean (.int t0) = .int t0) (some (.inl (some (.int t0)), σ))
set_option maxRecDepth 20000 in
theorem s_J0_isLatin1_b18 {l : Launch} {E : kE} (hj : kEj E) (hn : kNorm E) (hl : l.stackTraces = false) {C : kC} {Q : kR → State → Prop} (hk : kOk (C, E, Q) cJ0_isLatin1_aae02 RJ0 1) (he : kEnd (C, E, Q) (some .boolean) id 0) (hro : kRo C l (0) (0) 0) (F : Nat) : ∀ (t0 : Int32)  (σ : kS), Sm (C, E, Q) 1 0 18 [] [.int t0] σ (f_J0_isLatin1_b18 F t0 σ) := by
  intro t0  σ
  unfold f_J0_isLatin1_b18
  exact k_zreturn hk he dJ0_isLatin1_aae02_18 (by decide)
def f_J0_isLatin1_b17 (F : Nat)  (σ : kS) : Option kR := f_J0_isLatin1_b18 F 0 σ
set_option maxRecDepth 20000 in
theorem s_J0_isLatin1_b17 {l : Launch} {E : kE} (hj : kEj E) (hn : kNorm E) (hl : l.stackTraces = false) {C : kC} {Q : kR → State → Prop} (hk : kOk (C, E, Q) cJ0_isLatin1_aae02 RJ0 1) (he : kEnd (C, E, Q) (some .boolean) id 0) (hro : kRo C l (0) (0) 0) (F : Nat) : ∀   (σ : kS), Sm (C, E, Q) 1 0 17 [] [] σ (f_J0_isLatin1_b17 F  σ) := by
  intro   σ
  unfold f_J0_isLatin1_b17
  refine k_iconst (v := 0) hk dJ0_isLatin1_aae02_17 (by decide) ?_
  exact k_sub [] rfl (s_J0_isLatin1_b18 hj hn hl hk he hro F  0  σ)
def f_J0_isLatin1 (F : Nat) (a0 : Nat) (σ : kS) : Option kR := if (1 : Int32) = 0 then (f_J0_isLatin1_b17 F  σ) else (if (0 : Int32) = 0 then (f_J0_isLatin1_b18 F 1 σ) else (f_J0_isLatin1_b17 F  σ))
set_option maxRecDepth 20000 in
theorem c_J0_isLatin1 {l : Launch} {E : kE} (hj : kEj E) (hn : kNorm E) (hl : l.stackTraces = false) (F : Nat) (a0 : Nat) (ha0 : a0 < 23) (σ : kS) : kMet l E yJ0_isLatin1_aae02 cJ0_isLatin1_aae02 1 (some .boolean) (0) (0) 0 id [.ref (ktx E a0)] σ (f_J0_isLatin1 F a0 σ) := by
  refine k_met hj hn hl (by decide) (Nat.le_of_ble_eq_true rfl) (fun C Q hk he hro => ?_)
  have hk : kOk (C, E, Q) cJ0_isLatin1_aae02 RJ0 1 := hk
  show Sm (C, E, Q) 1 0 0 [(0, .ref (ktx E a0))] [] σ _
  unfold f_J0_isLatin1
  refine k_scmp hk dJ0_isLatin1_aae02_0 (kTB_mk (by decide +kernel) rfl) ?_
  refine k_if_eq hk dJ0_isLatin1_aae02_3 17 (by decide) (fun h1 => ?_) (fun h1 => ?_)
  · exact k_sub [] rfl (s_J0_isLatin1_b17 hj hn hl hk he hro F    σ)
  · refine k_aload_n hk dJ0_isLatin1_aae02_6 0 rfl ?_
    refine k_scod hk dJ0_isLatin1_aae02_7 ha0 (kTB_mk (by decide +kernel) rfl) ?_
    refine k_if_ne hk dJ0_isLatin1_aae02_10 17 (by decide) (fun h2 => ?_) (fun h2 => ?_)
    · exact k_sub [] rfl (s_J0_isLatin1_b17 hj hn hl hk he hro F    σ)
    · refine k_iconst (v := 1) hk dJ0_isLatin1_aae02_13 (by decide) ?_
      refine k_goto hk dJ0_isLatin1_aae02_14 18 (by decide) ?_
      exact k_sub [] rfl (s_J0_isLatin1_b18 hj hn hl hk he hro F  1  σ)
def f_J0_length (F : Nat) (a0 : Nat) (σ : kS) : Option kR := kBi (f_J0_coder F a0 σ) fun c2 σ1 => some (.inl (some (.int ((nI (kTls.getD a0 0)) >>> (c2 &&& 31)))), σ1)
set_option maxRecDepth 20000 in
theorem c_J0_length {l : Launch} {E : kE} (hj : kEj E) (hn : kNorm E) (hl : l.stackTraces = false) (F : Nat) (a0 : Nat) (ha0 : a0 < 23) (σ : kS) : kMet l E yJ0_length_8abf5 cJ0_length_8abf5 1 (some .int) (1) (20) 0 id [.ref (ktx E a0)] σ (f_J0_length F a0 σ) := by
  refine k_met hj hn hl (by decide) (Nat.le_of_ble_eq_true rfl) (fun C Q hk he hro => ?_)
  have hk : kOk (C, E, Q) cJ0_length_8abf5 RJ0 1 := hk
  show Sm (C, E, Q) 1 0 0 [(0, .ref (ktx E a0))] [] σ _
  unfold f_J0_length
  refine k_aload_n hk dJ0_length_8abf5_0 0 rfl ?_
  refine k_sval hk dJ0_length_8abf5_1 ha0 (kTB_mk (by decide +kernel) rfl) ?_
  refine k_slen hk dJ0_length_8abf5_4 ha0 ?_
  refine k_aload_n hk dJ0_length_8abf5_5 0 rfl ?_
  refine k_callT (As := []) (rest := [.int (nI (kTls.getD a0 0))]) hk he hro (c_J0_coder hj hn hl F a0 ha0 σ) dJ0_length_8abf5_6 cw_RJ0_335 ha0 rfl ⟨by decide, by decide⟩ (by decide) rfl (Nat.le_of_ble_eq_true rfl) (fun c2 σ1 => ?_)
  refine k_ishr hk dJ0_length_8abf5_9 ?_
  exact k_ireturn hk he dJ0_length_8abf5_10 (by decide)
def f_J0_charAt (F : Nat) (a0 : Nat) (a1 : Int32) (σ : kS) : Option kR := kBi (f_J0_isLatin1 F a0 σ) fun c2 σ1 => if c2 = 0 then (none) else (kBi (f_J1_charAt F a0 a1 σ1) fun c5 σ4 => kg (narrow .char (.int c5) = .int c5) (some (.inl (some (.int c5)), σ4)))
set_option maxRecDepth 20000 in
theorem c_J0_charAt {l : Launch} {E : kE} (hj : kEj E) (hn : kNorm E) (hl : l.stackTraces = false) (F : Nat) (a0 : Nat) (a1 : Int32) (ha0 : a0 < 23) (σ : kS) : kMet l E yJ0_charAt_5068e cJ0_charAt_5068e 2 (some .char) (3) (82) 0 id [.ref (ktx E a0), .int a1] σ (f_J0_charAt F a0 a1 σ) := by
  refine k_met hj hn hl (by decide) (Nat.le_of_ble_eq_true rfl) (fun C Q hk he hro => ?_)
  have hk : kOk (C, E, Q) cJ0_charAt_5068e RJ0 2 := hk
  show Sm (C, E, Q) 2 0 0 [(0, .ref (ktx E a0)), (1, .int a1)] [] σ _
  unfold f_J0_charAt
  refine k_aload_n hk dJ0_charAt_5068e_0 0 rfl ?_
  refine k_callT (As := []) (rest := []) hk he hro (c_J0_isLatin1 hj hn hl F a0 ha0 σ) dJ0_charAt_5068e_1 cw_RJ0_492 ha0 rfl ⟨by decide, by decide⟩ (by decide) rfl (Nat.le_of_ble_eq_true rfl) (fun c2 σ1 => ?_)
  refine k_if_eq hk dJ0_charAt_5068e_4 16 (by decide) (fun h3 => ?_) (fun h3 => ?_)
  · refine k_aload_n hk dJ0_charAt_5068e_16 0 rfl ?_
    refine k_sval hk dJ0_charAt_5068e_17 ha0 (kTB_mk (by decide +kernel) rfl) ?_
    refine k_iload_n hk dJ0_charAt_5068e_20 1 rfl ?_
    exact k_no
  · refine k_aload_n hk dJ0_charAt_5068e_7 0 rfl ?_
    refine k_sval hk dJ0_charAt_5068e_8 ha0 (kTB_mk (by decide +kernel) rfl) ?_
    refine k_iload_n hk dJ0_charAt_5068e_11 1 rfl ?_
    refine k_callSi (As := [.ref (ktv E a0), .int a1]) (rest := []) hk he hro (c_J1_charAt hj hn hl F a0 a1 ha0 σ1) dJ0_charAt_5068e_12 cw_RJ0_495 ⟨by decide, by decide⟩ (by decide) rfl (Nat.le_of_ble_eq_true rfl) (fun c5 σ4 => ?_)
    exact k_nreturn_g hk he dJ0_charAt_5068e_15 (by decide)
