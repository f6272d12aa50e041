def f_X2_wrongOf (F : Nat) (a0 : Nat) (a1 : Int32) (σ : kS) : Option kR := kg (kin a1 10) (kg (kin a1 10) (kb (kmin 8 ((σ.1 28 a0 a1.toNatClampNeg) + ((σ.1 29 a0 a1.toNatClampNeg) / 10))) fun y3 => some (.inl (some (.int y3)), σ)))
set_option maxRecDepth 20000 in
theorem c_X2_wrongOf {l : Launch} {E : kE} (hj : kEj E) (hn : kNorm E) (hl : l.stackTraces = false) (F : Nat) (a0 : Nat) (a1 : Int32) (ha0 : a0 < kCnt 4) (σ : kS) : kMet l E yX2_wrongOf cX2_wrongOf 2 (some .int) (1) (24) 0 id [.ref (kad E 4 a0), .int a1] σ (f_X2_wrongOf F a0 a1 σ) := by
  refine k_met hj hn hl (by decide) (Nat.le_of_ble_eq_true rfl) (fun C Q hk he hro => ?_)
  have hk : kOk (C, E, Q) cX2_wrongOf RX2 2 := hk
  show Sm (C, E, Q) 2 0 0 [(0, .ref (kad E 4 a0)), (1, .int a1)] [] σ _
  unfold f_X2_wrongOf
  refine k_bipush (v := 8) hk dX2_wrongOf_0 (by decide) ?_
  refine k_aload_n hk dX2_wrongOf_2 0 rfl ?_
  refine k_getr (k := 8) 28 a0 hk dX2_wrongOf_3 rfl ha0 kc2 (by decide) fl_RX2_37 rfl rfl ?_
  refine k_iload_n hk dX2_wrongOf_6 1 rfl ?_
  refine k_iald hk dX2_wrongOf_7 rfl ha0 (fun h1 => ?_)
  refine k_aload_n hk dX2_wrongOf_8 0 rfl ?_
  refine k_getr (k := 9) 29 a0 hk dX2_wrongOf_9 rfl ha0 kc2 (by decide) fl_RX2_40 rfl rfl ?_
  refine k_iload_n hk dX2_wrongOf_12 1 rfl ?_
  refine k_iald hk dX2_wrongOf_13 rfl ha0 (fun h2 => ?_)
  refine k_bipush (v := 10) hk dX2_wrongOf_14 (by decide) ?_
  refine k_idiv_c hk dX2_wrongOf_16 (by decide) ?_
  refine k_iadd hk dX2_wrongOf_17 ?_
  refine k_mmin hk hro dX2_wrongOf_18 cw_RX2_79 ⟨by decide, Nat.le_of_ble_eq_true rfl⟩ (by decide) (fun y3 => ?_)
  exact k_ireturn hk he dX2_wrongOf_21 (by decide)
def f_X2_costOf_b30 (F : Nat) (rr4 : (Nat × Int32 × Int32 × Int32) → kS → Option kR) (x0 : Nat) (x1 : Int32) (x2 : Int32) (x3 : Int32) (σ : kS) : Option kR := rr4 (x0, x1, x2, x3 + 1) σ
set_option maxRecDepth 20000 in
theorem s_X2_costOf_b30 {l : Launch} {E : kE} (hj : kEj E) (hn : kNorm E) (hl : l.stackTraces = false) {C : kC} {Q : kR → State → Prop} (hk : kOk (C, E, Q) cX2_costOf RX2 4) (he : kEnd (C, E, Q) (some .int) id 0) (hro : kRo C l (0) (0) 0) (F : Nat) (rr4 : (Nat × Int32 × Int32 × Int32) → kS → Option kR) (hrr4 : ∀ (x0 : Nat) (x1 : Int32) (x2 : Int32) (x3 : Int32) (hx0 : x0 < kCnt 4) (σ : kS), Sm (C, E, Q) 4 0 4 [(0, .ref (kad E 4 x0)), (1, .int x1), (2, .int x2), (3, .int x3)] [] σ (rr4 (x0, x1, x2, x3) σ)) : ∀ (x0 : Nat) (x1 : Int32) (x2 : Int32) (x3 : Int32) (hx0 : x0 < kCnt 4) (σ : kS), Sm (C, E, Q) 4 0 30 [(0, .ref (kad E 4 x0)), (1, .int x1), (2, .int x2), (3, .int x3)] [] σ (f_X2_costOf_b30 F rr4 x0 x1 x2 x3 σ) := by
  intro x0 x1 x2 x3 hx0 σ
  unfold f_X2_costOf_b30
  refine k_iinc (lv' := [(3, .int (x3 + 1)), (0, .ref (kad E 4 x0)), (1, .int x1), (2, .int x2)]) (j := 3) (y := x3 + 1) hk dX2_costOf_30 rfl rfl (by decide) rfl ?_
  refine k_goto hk dX2_costOf_33 4 (by decide) ?_
  exact k_sub [1, 2, 3, 0] rfl (hrr4 x0 x1 x2 (x3 + 1) hx0 σ)
def f_X2_costOf_b4 (F : Nat) (rr4 : (Nat × Int32 × Int32 × Int32) → kS → Option kR) (a : (Nat × Int32 × Int32 × Int32)) (σ : kS) : Option kR := match a with
  | (x0, x1, x2, x3) => if (σ.1 4 x0 13) ≤ x3 then (some (.inl (some (.int x2)), σ)) else (if ((x1 >>> (x3 &&& 31)) &&& 1) = 1 then (kg (kin x3 5) (kb (x2 + (σ.1 34 x0 x3.toNatClampNeg)) fun y4 => f_X2_costOf_b30 F rr4 x0 x1 y4 x3 σ)) else (f_X2_costOf_b30 F rr4 x0 x1 x2 x3 σ))
set_option maxRecDepth 20000 in
theorem s_X2_costOf_b4 {l : Launch} {E : kE} (hj : kEj E) (hn : kNorm E) (hl : l.stackTraces = false) {C : kC} {Q : kR → State → Prop} (hk : kOk (C, E, Q) cX2_costOf RX2 4) (he : kEnd (C, E, Q) (some .int) id 0) (hro : kRo C l (0) (0) 0) (F : Nat) : ∀ (N9 : Nat) (x0 : Nat) (x1 : Int32) (x2 : Int32) (x3 : Int32) (hx0 : x0 < kCnt 4) (σ : kS), Sm (C, E, Q) 4 0 4 [(0, .ref (kad E 4 x0)), (1, .int x1), (2, .int x2), (3, .int x3)] [] σ (kFix (f_X2_costOf_b4 F) N9 (x0, x1, x2, x3) σ) := by
  intro N9
  induction N9 with
  | zero => intro x0 x1 x2 x3 hx0 σ; exact k_no
  | succ N9 ih =>
    intro x0 x1 x2 x3 hx0 σ
    show Sm _ _ _ _ _ _ _ (f_X2_costOf_b4 F (kFix (f_X2_costOf_b4 F) N9) (x0, x1, x2, x3) σ)
    generalize kFix (f_X2_costOf_b4 F) N9 = rr4 at ih
    have hrr4 := ih
    unfold f_X2_costOf_b4
    dsimp only
    refine k_iload_n hk dX2_costOf_4 3 rfl ?_
    refine k_aload_n hk dX2_costOf_5 0 rfl ?_
    refine k_getf (k := 13) hk dX2_costOf_6 rfl hx0 kc2 (by decide) fl_RX2_52 rfl ?_
    refine k_icmp_ge hk dX2_costOf_9 36 (by decide) (fun h1 => ?_) (fun h1 => ?_)
    · refine k_iload_n hk dX2_costOf_36 2 rfl ?_
      exact k_ireturn hk he dX2_costOf_37 (by decide)
    · refine k_iload_n hk dX2_costOf_12 1 rfl ?_
      refine k_iload_n hk dX2_costOf_13 3 rfl ?_
      refine k_ishr hk dX2_costOf_14 ?_
      refine k_iconst (v := 1) hk dX2_costOf_15 (by decide) ?_
      refine k_iand hk dX2_costOf_16 ?_
      refine k_iconst (v := 1) hk dX2_costOf_17 (by decide) ?_
      refine k_icmp_ne hk dX2_costOf_18 30 (by decide) (fun h2 => ?_) (fun h2 => ?_)
      · exact k_sub [0, 1, 2, 3] rfl (s_X2_costOf_b30 hj hn hl hk he hro F rr4 hrr4  x0 x1 x2 x3 hx0 σ)
      · refine k_iload_n hk dX2_costOf_21 2 rfl ?_
        refine k_aload_n hk dX2_costOf_22 0 rfl ?_
        refine k_getr (k := 16) 34 x0 hk dX2_costOf_23 rfl hx0 kc2 (by decide) fl_RX2_61 rfl rfl ?_
        refine k_iload_n hk dX2_costOf_26 3 rfl ?_
        refine k_iald hk dX2_costOf_27 rfl hx0 (fun h3 => ?_)
        refine k_iadd hk dX2_costOf_28 ?_
        refine k_nm (fun y4 => ?_)
        refine k_istore_n (lv' := [(2, .int y4), (0, .ref (kad E 4 x0)), (1, .int x1), (3, .int x3)]) hk dX2_costOf_29 (by decide) rfl ?_
        exact k_sub [1, 2, 0, 3] rfl (s_X2_costOf_b30 hj hn hl hk he hro F rr4 hrr4  x0 x1 y4 x3 hx0 σ)
def f_X2_costOf (F : Nat) (a0 : Nat) (a1 : Int32) (σ : kS) : Option kR := kFix (f_X2_costOf_b4 F) F (a0, a1, 0, 0) σ
set_option maxRecDepth 20000 in
theorem c_X2_costOf {l : Launch} {E : kE} (hj : kEj E) (hn : kNorm E) (hl : l.stackTraces = false) (F : Nat) (a0 : Nat) (a1 : Int32) (ha0 : a0 < kCnt 4) (σ : kS) : kMet l E yX2_costOf cX2_costOf 4 (some .int) (0) (0) 0 id [.ref (kad E 4 a0), .int a1] σ (f_X2_costOf F a0 a1 σ) := by
  refine k_met hj hn hl (by decide) (Nat.le_of_ble_eq_true rfl) (fun C Q hk he hro => ?_)
  have hk : kOk (C, E, Q) cX2_costOf RX2 4 := hk
  show Sm (C, E, Q) 4 0 0 [(0, .ref (kad E 4 a0)), (1, .int a1)] [] σ _
  unfold f_X2_costOf
  refine k_iconst (v := 0) hk dX2_costOf_0 (by decide) ?_
  refine k_istore_n (lv' := [(2, .int 0), (0, .ref (kad E 4 a0)), (1, .int a1)]) hk dX2_costOf_1 (by decide) rfl ?_
  refine k_iconst (v := 0) hk dX2_costOf_2 (by decide) ?_
  refine k_istore_n (lv' := [(3, .int 0), (2, .int 0), (0, .ref (kad E 4 a0)), (1, .int a1)]) hk dX2_costOf_3 (by decide) rfl ?_
  exact k_sub [2, 3, 1, 0] rfl (s_X2_costOf_b4 hj hn hl hk he hro F F a0 a1 0 0 ha0 σ)
def f_X2_applyOptions_b49 (F : Nat) (rr2 : (Nat × Int32 × Int32) → kS → Option kR) (x0 : Nat) (x1 : Int32) (x3 : Int32) (σ : kS) : Option kR := rr2 (x0, x1, x3 + 1) σ
set_option maxRecDepth 20000 in
theorem s_X2_applyOptions_b49 {l : Launch} {E : kE} (hj : kEj E) (hn : kNorm E) (hl : l.stackTraces = false) {C : kC} {Q : kR → State → Prop} (hk : kOk (C, E, Q) cX2_applyOptions RX2 5) (he : kEnd (C, E, Q) none id 0) (hro : kRo C l (0) (0) 0) (F : Nat) (rr2 : (Nat × Int32 × Int32) → kS → Option kR) (hrr2 : ∀ (x0 : Nat) (x1 : Int32) (x3 : Int32) (hx0 : x0 < kCnt 4) (σ : kS), Sm (C, E, Q) 5 0 2 [(0, .ref (kad E 4 x0)), (1, .int x1), (2, .ref (kad E 35 0)), (3, .int x3)] [] σ (rr2 (x0, x1, x3) σ)) : ∀ (x0 : Nat) (x1 : Int32) (x3 : Int32) (hx0 : x0 < kCnt 4) (σ : kS), Sm (C, E, Q) 5 0 49 [(0, .ref (kad E 4 x0)), (1, .int x1), (2, .ref (kad E 35 0)), (3, .int x3)] [] σ (f_X2_applyOptions_b49 F rr2 x0 x1 x3 σ) := by
  intro x0 x1 x3 hx0 σ
  unfold f_X2_applyOptions_b49
  refine k_iinc (lv' := [(3, .int (x3 + 1)), (0, .ref (kad E 4 x0)), (1, .int x1), (2, .ref (kad E 35 0))]) (j := 3) (y := x3 + 1) hk dX2_applyOptions_49 rfl rfl (by decide) rfl ?_
  refine k_goto hk dX2_applyOptions_52 2 (by decide) ?_
  exact k_sub [1, 2, 3, 0] rfl (hrr2 x0 x1 (x3 + 1) hx0 σ)
def f_X2_applyOptions_b2 (F : Nat) (rr2 : (Nat × Int32 × Int32) → kS → Option kR) (a : (Nat × Int32 × Int32)) (σ : kS) : Option kR := match a with
  | (x0, x1, x3) => if (σ.1 4 x0 13) ≤ x3 then (some (.inl none, σ)) else (kg (kin x3 5) (kb (σ.1 32 x0 x3.toNatClampNeg) fun y3 => if ((x1 >>> (x3 &&& 31)) &&& 1) = 1 then (if y3 < 0 then (f_X2_applyOptions_b49 F rr2 x0 x1 x3 σ) else (if 10 ≤ y3 then (f_X2_applyOptions_b49 F rr2 x0 x1 x3 σ) else (kg (kin x3 5) (kg (kin y3 10) (kb (kU σ 35 0 y3.toNatClampNeg (σ.1 33 x0 x3.toNatClampNeg)) fun σ8 => f_X2_applyOptions_b49 F rr2 x0 x1 x3 σ8))))) else (f_X2_applyOptions_b49 F rr2 x0 x1 x3 σ)))
set_option maxRecDepth 20000 in
theorem s_X2_applyOptions_b2 {l : Launch} {E : kE} (hj : kEj E) (hn : kNorm E) (hl : l.stackTraces = false) {C : kC} {Q : kR → State → Prop} (hk : kOk (C, E, Q) cX2_applyOptions RX2 5) (he : kEnd (C, E, Q) none id 0) (hro : kRo C l (0) (0) 0) (F : Nat) : ∀ (N9 : Nat) (x0 : Nat) (x1 : Int32) (x3 : Int32) (hx0 : x0 < kCnt 4) (σ : kS), Sm (C, E, Q) 5 0 2 [(0, .ref (kad E 4 x0)), (1, .int x1), (2, .ref (kad E 35 0)), (3, .int x3)] [] σ (kFix (f_X2_applyOptions_b2 F) N9 (x0, x1, x3) σ) := by
  intro N9
  induction N9 with
  | zero => intro x0 x1 x3 hx0 σ; exact k_no
  | succ N9 ih =>
    intro x0 x1 x3 hx0 σ
    show Sm _ _ _ _ _ _ _ (f_X2_applyOptions_b2 F (kFix (f_X2_applyOptions_b2 F) N9) (x0, x1, x3) σ)
    generalize kFix (f_X2_applyOptions_b2 F) N9 = rr2 at ih
    have hrr2 := ih
    unfold f_X2_applyOptions_b2
    dsimp only
    refine k_iload_n hk dX2_applyOptions_2 3 rfl ?_
    refine k_aload_n hk dX2_applyOptions_3 0 rfl ?_
    refine k_getf (k := 13) hk dX2_applyOptions_4 rfl hx0 kc2 (by decide) fl_RX2_52 rfl ?_
    refine k_icmp_ge hk dX2_applyOptions_7 55 (by decide) (fun h1 => ?_) (fun h1 => ?_)
    · exact k_return hk he dX2_applyOptions_55 (by decide)
    · refine k_aload_n hk dX2_applyOptions_10 0 rfl ?_
      refine k_getr (k := 14) 32 x0 hk dX2_applyOptions_11 rfl hx0 kc2 (by decide) fl_RX2_55 rfl rfl ?_
      refine k_iload_n hk dX2_applyOptions_14 3 rfl ?_
      refine k_iald hk dX2_applyOptions_15 rfl hx0 (fun h2 => ?_)
      refine k_nm (fun y3 => ?_)
      refine k_istore (lv' := [(4, .int y3), (0, .ref (kad E 4 x0)), (1, .int x1), (2, .ref (kad E 35 0)), (3, .int x3)]) hk dX2_applyOptions_16 (by decide) rfl ?_
      refine k_iload_n hk dX2_applyOptions_18 2 rfl ?_
      refine k_iload_n hk dX2_applyOptions_19 4 rfl ?_
      refine k_ishr hk dX2_applyOptions_20 ?_
      refine k_iconst (v := 1) hk dX2_applyOptions_21 (by decide) ?_
      refine k_iand hk dX2_applyOptions_22 ?_
      refine k_iconst (v := 1) hk dX2_applyOptions_23 (by decide) ?_
      refine k_icmp_ne hk dX2_applyOptions_24 49 (by decide) (fun h4 => ?_) (fun h4 => ?_)
      · exact k_sub [1, 2, 3, 4] rfl (s_X2_applyOptions_b49 hj hn hl hk he hro F rr2 hrr2  x0 x1 x3 hx0 σ)
      · refine k_iload hk dX2_applyOptions_27 0 rfl ?_
        refine k_if_lt hk dX2_applyOptions_29 49 (by decide) (fun h5 => ?_) (fun h5 => ?_)
        · exact k_sub [1, 2, 3, 4] rfl (s_X2_applyOptions_b49 hj hn hl hk he hro F rr2 hrr2  x0 x1 x3 hx0 σ)
        · refine k_iload hk dX2_applyOptions_32 0 rfl ?_
          refine k_aload_n hk dX2_applyOptions_34 3 rfl ?_
          refine k_alen (v := 10) hk dX2_applyOptions_35 rfl (by decide) (by decide) ?_
          refine k_icmp_ge hk dX2_applyOptions_36 49 (by decide) (fun h6 => ?_) (fun h6 => ?_)
          · exact k_sub [1, 2, 3, 4] rfl (s_X2_applyOptions_b49 hj hn hl hk he hro F rr2 hrr2  x0 x1 x3 hx0 σ)
          · refine k_aload_n hk dX2_applyOptions_39 3 rfl ?_
            refine k_iload hk dX2_applyOptions_40 0 rfl ?_
            refine k_aload_n hk dX2_applyOptions_42 1 rfl ?_
            refine k_getr (k := 15) 33 x0 hk dX2_applyOptions_43 rfl hx0 kc2 (by decide) fl_RX2_58 rfl rfl ?_
            refine k_iload_n hk dX2_applyOptions_46 4 rfl ?_
            refine k_iald hk dX2_applyOptions_47 rfl hx0 (fun h7 => ?_)
            refine k_iast hk dX2_applyOptions_48 rfl (by decide) (fun h9 σ8 => ?_)
            exact k_sub [1, 2, 3, 4] rfl (s_X2_applyOptions_b49 hj hn hl hk he hro F rr2 hrr2  x0 x1 x3 hx0 σ8)
def f_X2_applyOptions (F : Nat) (a0 : Nat) (a1 : Int32) (σ : kS) : Option kR := kFix (f_X2_applyOptions_b2 F) F (a0, a1, 0) σ
set_option maxRecDepth 20000 in
theorem c_X2_applyOptions {l : Launch} {E : kE} (hj : kEj E) (hn : kNorm E) (hl : l.stackTraces = false) (F : Nat) (a0 : Nat) (a1 : Int32) (ha0 : a0 < kCnt 4) (σ : kS) : kMet l E yX2_applyOptions cX2_applyOptions 5 none (0) (0) 0 id [.ref (kad E 4 a0), .int a1, .ref (kad E 35 0)] σ (f_X2_applyOptions F a0 a1 σ) := by
  refine k_met hj hn hl (by decide) (Nat.le_of_ble_eq_true rfl) (fun C Q hk he hro => ?_)
  have hk : kOk (C, E, Q) cX2_applyOptions RX2 5 := hk
  show Sm (C, E, Q) 5 0 0 [(0, .ref (kad E 4 a0)), (1, .int a1), (2, .ref (kad E 35 0))] [] σ _
  unfold f_X2_applyOptions
  refine k_iconst (v := 0) hk dX2_applyOptions_0 (by decide) ?_
  refine k_istore_n (lv' := [(3, .int 0), (0, .ref (kad E 4 a0)), (1, .int a1), (2, .ref (kad E 35 0))]) hk dX2_applyOptions_1 (by decide) rfl ?_
  exact k_sub [1, 2, 3, 0] rfl (s_X2_applyOptions_b2 hj hn hl hk he hro F F a0 a1 0 ha0 σ)
def f_X2_copyFrom (F : Nat) (a0 : Nat) (a1 : Nat) (σ : kS) : Option kR := kb (kCp σ 21 a1 21 a0 0 10) fun σ1 => kb (kCp σ1 22 a1 22 a0 0 8) fun σ2 => kb (kCp σ2 23 a1 23 a0 0 6) fun σ3 => kb (kU σ3 4 a0 3 (σ3.1 4 a1 3)) fun σ4 => kb (kCp σ4 24 a1 24 a0 0 10) fun σ5 => kb (kCp σ5 25 a1 25 a0 0 10) fun σ6 => kb (kCp σ6 26 a1 26 a0 0 10) fun σ7 => kb (kCp σ7 27 a1 27 a0 0 10) fun σ8 => kb (kCp σ8 28 a1 28 a0 0 10) fun σ9 => kb (kCp σ9 29 a1 29 a0 0 10) fun σ10 => kb (kU σ10 4 a0 10 (σ10.1 4 a1 10)) fun σ11 => kb (kCp σ11 30 a1 30 a0 0 10) fun σ12 => kb (kCp σ12 31 a1 31 a0 0 10) fun σ13 => kb (kU σ13 4 a0 13 (σ13.1 4 a1 13)) fun σ14 => kb (kCp σ14 32 a1 32 a0 0 5) fun σ15 => kb (kCp σ15 33 a1 33 a0 0 5) fun σ16 => kb (kCp σ16 34 a1 34 a0 0 5) fun σ17 => some (.inl none, σ17)
set_option maxRecDepth 20000 in
theorem c_X2_copyFrom {l : Launch} {E : kE} (hj : kEj E) (hn : kNorm E) (hl : l.stackTraces = false) (F : Nat) (a0 : Nat) (a1 : Nat) (ha0 : a0 < kCnt 4) (ha1 : a1 < kCnt 4) (σ : kS) : kMet l E yX2_copyFrom cX2_copyFrom 2 none (2) (60) 0 id [.ref (kad E 4 a0), .ref (kad E 4 a1)] σ (f_X2_copyFrom F a0 a1 σ) := by
  refine k_met hj hn hl (by decide) (Nat.le_of_ble_eq_true rfl) (fun C Q hk he hro => ?_)
  have hk : kOk (C, E, Q) cX2_copyFrom RX2 2 := hk
  show Sm (C, E, Q) 2 0 0 [(0, .ref (kad E 4 a0)), (1, .ref (kad E 4 a1))] [] σ _
  unfold f_X2_copyFrom
  refine k_aload_n hk dX2_copyFrom_0 1 rfl ?_
  refine k_getr (k := 0) 21 a1 hk dX2_copyFrom_1 rfl ha1 kc2 (by decide) fl_RX2_9 rfl rfl ?_
  refine k_iconst (v := 0) hk dX2_copyFrom_4 (by decide) ?_
  refine k_aload_n hk dX2_copyFrom_5 0 rfl ?_
  refine k_getr (k := 0) 21 a0 hk dX2_copyFrom_6 rfl ha0 kc2 (by decide) fl_RX2_9 rfl rfl ?_
  refine k_iconst (v := 0) hk dX2_copyFrom_9 (by decide) ?_
  refine k_bipush (v := 10) hk dX2_copyFrom_10 (by decide) ?_
  refine k_copy_c (dpn := 0) (len := 10) hk hro dX2_copyFrom_12 ac_RX2_67 rfl rfl ha1 ha0 (by decide) (by decide) (by decide) (by decide) (by decide) (by decide) ⟨by decide, Nat.le_of_ble_eq_true rfl⟩ (fun σ1 => ?_)
  refine k_aload_n hk dX2_copyFrom_15 1 rfl ?_
  refine k_getr (k := 1) 22 a1 hk dX2_copyFrom_16 rfl ha1 kc2 (by decide) fl_RX2_15 rfl rfl ?_
  refine k_iconst (v := 0) hk dX2_copyFrom_19 (by decide) ?_
  refine k_aload_n hk dX2_copyFrom_20 0 rfl ?_
  refine k_getr (k := 1) 22 a0 hk dX2_copyFrom_21 rfl ha0 kc2 (by decide) fl_RX2_15 rfl rfl ?_
  refine k_iconst (v := 0) hk dX2_copyFrom_24 (by decide) ?_
  refine k_bipush (v := 8) hk dX2_copyFrom_25 (by decide) ?_
  refine k_copy_c (dpn := 0) (len := 8) hk hro dX2_copyFrom_27 ac_RX2_67 rfl rfl ha1 ha0 (by decide) (by decide) (by decide) (by decide) (by decide) (by decide) ⟨by decide, Nat.le_of_ble_eq_true rfl⟩ (fun σ2 => ?_)
  refine k_aload_n hk dX2_copyFrom_30 1 rfl ?_
  refine k_getr (k := 2) 23 a1 hk dX2_copyFrom_31 rfl ha1 kc2 (by decide) fl_RX2_18 rfl rfl ?_
  refine k_iconst (v := 0) hk dX2_copyFrom_34 (by decide) ?_
  refine k_aload_n hk dX2_copyFrom_35 0 rfl ?_
  refine k_getr (k := 2) 23 a0 hk dX2_copyFrom_36 rfl ha0 kc2 (by decide) fl_RX2_18 rfl rfl ?_
  refine k_iconst (v := 0) hk dX2_copyFrom_39 (by decide) ?_
  refine k_bipush (v := 6) hk dX2_copyFrom_40 (by decide) ?_
  refine k_copy_c (dpn := 0) (len := 6) hk hro dX2_copyFrom_42 ac_RX2_67 rfl rfl ha1 ha0 (by decide) (by decide) (by decide) (by decide) (by decide) (by decide) ⟨by decide, Nat.le_of_ble_eq_true rfl⟩ (fun σ3 => ?_)
  refine k_aload_n hk dX2_copyFrom_45 0 rfl ?_
  refine k_aload_n hk dX2_copyFrom_46 1 rfl ?_
  refine k_getf (k := 3) hk dX2_copyFrom_47 rfl ha1 kc2 (by decide) fl_RX2_21 rfl ?_
  refine k_putf (k := 3) hk dX2_copyFrom_50 rfl ha0 kc2 (by decide) fl_RX2_21 rfl rfl rfl rfl (fun σ4 => ?_)
  refine k_aload_n hk dX2_copyFrom_53 1 rfl ?_
  refine k_getr (k := 4) 24 a1 hk dX2_copyFrom_54 rfl ha1 kc2 (by decide) fl_RX2_25 rfl rfl ?_
  refine k_iconst (v := 0) hk dX2_copyFrom_57 (by decide) ?_
  refine k_aload_n hk dX2_copyFrom_58 0 rfl ?_
  refine k_getr (k := 4) 24 a0 hk dX2_copyFrom_59 rfl ha0 kc2 (by decide) fl_RX2_25 rfl rfl ?_
  refine k_iconst (v := 0) hk dX2_copyFrom_62 (by decide) ?_
  refine k_bipush (v := 10) hk dX2_copyFrom_63 (by decide) ?_
  refine k_copy_c (dpn := 0) (len := 10) hk hro dX2_copyFrom_65 ac_RX2_67 rfl rfl ha1 ha0 (by decide) (by decide) (by decide) (by decide) (by decide) (by decide) ⟨by decide, Nat.le_of_ble_eq_true rfl⟩ (fun σ5 => ?_)
  refine k_aload_n hk dX2_copyFrom_68 1 rfl ?_
  refine k_getr (k := 5) 25 a1 hk dX2_copyFrom_69 rfl ha1 kc2 (by decide) fl_RX2_28 rfl rfl ?_
  refine k_iconst (v := 0) hk dX2_copyFrom_72 (by decide) ?_
  refine k_aload_n hk dX2_copyFrom_73 0 rfl ?_
  refine k_getr (k := 5) 25 a0 hk dX2_copyFrom_74 rfl ha0 kc2 (by decide) fl_RX2_28 rfl rfl ?_
  refine k_iconst (v := 0) hk dX2_copyFrom_77 (by decide) ?_
  refine k_bipush (v := 10) hk dX2_copyFrom_78 (by decide) ?_
  refine k_copy_c (dpn := 0) (len := 10) hk hro dX2_copyFrom_80 ac_RX2_67 rfl rfl ha1 ha0 (by decide) (by decide) (by decide) (by decide) (by decide) (by decide) ⟨by decide, Nat.le_of_ble_eq_true rfl⟩ (fun σ6 => ?_)
  refine k_aload_n hk dX2_copyFrom_83 1 rfl ?_
  refine k_getr (k := 6) 26 a1 hk dX2_copyFrom_84 rfl ha1 kc2 (by decide) fl_RX2_31 rfl rfl ?_
  refine k_iconst (v := 0) hk dX2_copyFrom_87 (by decide) ?_
  refine k_aload_n hk dX2_copyFrom_88 0 rfl ?_
  refine k_getr (k := 6) 26 a0 hk dX2_copyFrom_89 rfl ha0 kc2 (by decide) fl_RX2_31 rfl rfl ?_
  refine k_iconst (v := 0) hk dX2_copyFrom_92 (by decide) ?_
  refine k_bipush (v := 10) hk dX2_copyFrom_93 (by decide) ?_
  refine k_copy_c (dpn := 0) (len := 10) hk hro dX2_copyFrom_95 ac_RX2_67 rfl rfl ha1 ha0 (by decide) (by decide) (by decide) (by decide) (by decide) (by decide) ⟨by decide, Nat.le_of_ble_eq_true rfl⟩ (fun σ7 => ?_)
  refine k_aload_n hk dX2_copyFrom_98 1 rfl ?_
  refine k_getr (k := 7) 27 a1 hk dX2_copyFrom_99 rfl ha1 kc2 (by decide) fl_RX2_34 rfl rfl ?_
  refine k_iconst (v := 0) hk dX2_copyFrom_102 (by decide) ?_
  refine k_aload_n hk dX2_copyFrom_103 0 rfl ?_
  refine k_getr (k := 7) 27 a0 hk dX2_copyFrom_104 rfl ha0 kc2 (by decide) fl_RX2_34 rfl rfl ?_
  refine k_iconst (v := 0) hk dX2_copyFrom_107 (by decide) ?_
  refine k_bipush (v := 10) hk dX2_copyFrom_108 (by decide) ?_
  refine k_copy_c (dpn := 0) (len := 10) hk hro dX2_copyFrom_110 ac_RX2_67 rfl rfl ha1 ha0 (by decide) (by decide) (by decide) (by decide) (by decide) (by decide) ⟨by decide, Nat.le_of_ble_eq_true rfl⟩ (fun σ8 => ?_)
  refine k_aload_n hk dX2_copyFrom_113 1 rfl ?_
  refine k_getr (k := 8) 28 a1 hk dX2_copyFrom_114 rfl ha1 kc2 (by decide) fl_RX2_37 rfl rfl ?_
  refine k_iconst (v := 0) hk dX2_copyFrom_117 (by decide) ?_
  refine k_aload_n hk dX2_copyFrom_118 0 rfl ?_
  refine k_getr (k := 8) 28 a0 hk dX2_copyFrom_119 rfl ha0 kc2 (by decide) fl_RX2_37 rfl rfl ?_
  refine k_iconst (v := 0) hk dX2_copyFrom_122 (by decide) ?_
  refine k_bipush (v := 10) hk dX2_copyFrom_123 (by decide) ?_
  refine k_copy_c (dpn := 0) (len := 10) hk hro dX2_copyFrom_125 ac_RX2_67 rfl rfl ha1 ha0 (by decide) (by decide) (by decide) (by decide) (by decide) (by decide) ⟨by decide, Nat.le_of_ble_eq_true rfl⟩ (fun σ9 => ?_)
  refine k_aload_n hk dX2_copyFrom_128 1 rfl ?_
  refine k_getr (k := 9) 29 a1 hk dX2_copyFrom_129 rfl ha1 kc2 (by decide) fl_RX2_40 rfl rfl ?_
  refine k_iconst (v := 0) hk dX2_copyFrom_132 (by decide) ?_
  refine k_aload_n hk dX2_copyFrom_133 0 rfl ?_
  refine k_getr (k := 9) 29 a0 hk dX2_copyFrom_134 rfl ha0 kc2 (by decide) fl_RX2_40 rfl rfl ?_
  refine k_iconst (v := 0) hk dX2_copyFrom_137 (by decide) ?_
  refine k_bipush (v := 10) hk dX2_copyFrom_138 (by decide) ?_
  refine k_copy_c (dpn := 0) (len := 10) hk hro dX2_copyFrom_140 ac_RX2_67 rfl rfl ha1 ha0 (by decide) (by decide) (by decide) (by decide) (by decide) (by decide) ⟨by decide, Nat.le_of_ble_eq_true rfl⟩ (fun σ10 => ?_)
  refine k_aload_n hk dX2_copyFrom_143 0 rfl ?_
  refine k_aload_n hk dX2_copyFrom_144 1 rfl ?_
  refine k_getf (k := 10) hk dX2_copyFrom_145 rfl ha1 kc2 (by decide) fl_RX2_43 rfl ?_
  refine k_putf (k := 10) hk dX2_copyFrom_148 rfl ha0 kc2 (by decide) fl_RX2_43 rfl rfl rfl rfl (fun σ11 => ?_)
  refine k_aload_n hk dX2_copyFrom_151 1 rfl ?_
  refine k_getr (k := 11) 30 a1 hk dX2_copyFrom_152 rfl ha1 kc2 (by decide) fl_RX2_46 rfl rfl ?_
  refine k_iconst (v := 0) hk dX2_copyFrom_155 (by decide) ?_
  refine k_aload_n hk dX2_copyFrom_156 0 rfl ?_
  refine k_getr (k := 11) 30 a0 hk dX2_copyFrom_157 rfl ha0 kc2 (by decide) fl_RX2_46 rfl rfl ?_
  refine k_iconst (v := 0) hk dX2_copyFrom_160 (by decide) ?_
  refine k_bipush (v := 10) hk dX2_copyFrom_161 (by decide) ?_
  refine k_copy_c (dpn := 0) (len := 10) hk hro dX2_copyFrom_163 ac_RX2_67 rfl rfl ha1 ha0 (by decide) (by decide) (by decide) (by decide) (by decide) (by decide) ⟨by decide, Nat.le_of_ble_eq_true rfl⟩ (fun σ12 => ?_)
  refine k_aload_n hk dX2_copyFrom_166 1 rfl ?_
  refine k_getr (k := 12) 31 a1 hk dX2_copyFrom_167 rfl ha1 kc2 (by decide) fl_RX2_49 rfl rfl ?_
  refine k_iconst (v := 0) hk dX2_copyFrom_170 (by decide) ?_
  refine k_aload_n hk dX2_copyFrom_171 0 rfl ?_
  refine k_getr (k := 12) 31 a0 hk dX2_copyFrom_172 rfl ha0 kc2 (by decide) fl_RX2_49 rfl rfl ?_
  refine k_iconst (v := 0) hk dX2_copyFrom_175 (by decide) ?_
  refine k_bipush (v := 10) hk dX2_copyFrom_176 (by decide) ?_
  refine k_copy_c (dpn := 0) (len := 10) hk hro dX2_copyFrom_178 ac_RX2_67 rfl rfl ha1 ha0 (by decide) (by decide) (by decide) (by decide) (by decide) (by decide) ⟨by decide, Nat.le_of_ble_eq_true rfl⟩ (fun σ13 => ?_)
  refine k_aload_n hk dX2_copyFrom_181 0 rfl ?_
  refine k_aload_n hk dX2_copyFrom_182 1 rfl ?_
  refine k_getf (k := 13) hk dX2_copyFrom_183 rfl ha1 kc2 (by decide) fl_RX2_52 rfl ?_
  refine k_putf (k := 13) hk dX2_copyFrom_186 rfl ha0 kc2 (by decide) fl_RX2_52 rfl rfl rfl rfl (fun σ14 => ?_)
  refine k_aload_n hk dX2_copyFrom_189 1 rfl ?_
  refine k_getr (k := 14) 32 a1 hk dX2_copyFrom_190 rfl ha1 kc2 (by decide) fl_RX2_55 rfl rfl ?_
  refine k_iconst (v := 0) hk dX2_copyFrom_193 (by decide) ?_
  refine k_aload_n hk dX2_copyFrom_194 0 rfl ?_
  refine k_getr (k := 14) 32 a0 hk dX2_copyFrom_195 rfl ha0 kc2 (by decide) fl_RX2_55 rfl rfl ?_
  refine k_iconst (v := 0) hk dX2_copyFrom_198 (by decide) ?_
  refine k_iconst (v := 5) hk dX2_copyFrom_199 (by decide) ?_
  refine k_copy_c (dpn := 0) (len := 5) hk hro dX2_copyFrom_200 ac_RX2_67 rfl rfl ha1 ha0 (by decide) (by decide) (by decide) (by decide) (by decide) (by decide) ⟨by decide, Nat.le_of_ble_eq_true rfl⟩ (fun σ15 => ?_)
  refine k_aload_n hk dX2_copyFrom_203 1 rfl ?_
  refine k_getr (k := 15) 33 a1 hk dX2_copyFrom_204 rfl ha1 kc2 (by decide) fl_RX2_58 rfl rfl ?_
  refine k_iconst (v := 0) hk dX2_copyFrom_207 (by decide) ?_
  refine k_aload_n hk dX2_copyFrom_208 0 rfl ?_
  refine k_getr (k := 15) 33 a0 hk dX2_copyFrom_209 rfl ha0 kc2 (by decide) fl_RX2_58 rfl rfl ?_
  refine k_iconst (v := 0) hk dX2_copyFrom_212 (by decide) ?_
  refine k_iconst (v := 5) hk dX2_copyFrom_213 (by decide) ?_
  refine k_copy_c (dpn := 0) (len := 5) hk hro dX2_copyFrom_214 ac_RX2_67 rfl rfl ha1 ha0 (by decide) (by decide) (by decide) (by decide) (by decide) (by decide) ⟨by decide, Nat.le_of_ble_eq_true rfl⟩ (fun σ16 => ?_)
  refine k_aload_n hk dX2_copyFrom_217 1 rfl ?_
  refine k_getr (k := 16) 34 a1 hk dX2_copyFrom_218 rfl ha1 kc2 (by decide) fl_RX2_61 rfl rfl ?_
  refine k_iconst (v := 0) hk dX2_copyFrom_221 (by decide) ?_
  refine k_aload_n hk dX2_copyFrom_222 0 rfl ?_
  refine k_getr (k := 16) 34 a0 hk dX2_copyFrom_223 rfl ha0 kc2 (by decide) fl_RX2_61 rfl rfl ?_
  refine k_iconst (v := 0) hk dX2_copyFrom_226 (by decide) ?_
  refine k_iconst (v := 5) hk dX2_copyFrom_227 (by decide) ?_
  refine k_copy_c (dpn := 0) (len := 5) hk hro dX2_copyFrom_228 ac_RX2_67 rfl rfl ha1 ha0 (by decide) (by decide) (by decide) (by decide) (by decide) (by decide) ⟨by decide, Nat.le_of_ble_eq_true rfl⟩ (fun σ17 => ?_)
  exact k_return hk he dX2_copyFrom_231 (by decide)
def f_X4_copyFrom (F : Nat) (a0 : Nat) (a1 : Nat) (σ : kS) : Option kR := kb (kU σ 10 a0 0 (σ.1 10 a1 0)) fun σ1 => kb (kCp σ1 11 a1 11 a0 0 14) fun σ2 => kb (kCp σ2 12 a1 12 a0 0 14) fun σ3 => kb (kCp σ3 13 a1 13 a0 0 14) fun σ4 => kb (kCp σ4 14 a1 14 a0 0 14) fun σ5 => kb (kCp σ5 15 a1 15 a0 0 14) fun σ6 => kb (kCp σ6 16 a1 16 a0 0 14) fun σ7 => kb (kCp σ7 17 a1 17 a0 0 300) fun σ8 => kb (kU σ8 10 a0 8 (σ8.1 10 a1 8)) fun σ9 => some (.inl none, σ9)
set_option maxRecDepth 20000 in
theorem c_X4_copyFrom {l : Launch} {E : kE} (hj : kEj E) (hn : kNorm E) (hl : l.stackTraces = false) (F : Nat) (a0 : Nat) (a1 : Nat) (ha0 : a0 < kCnt 10) (ha1 : a1 < kCnt 10) (σ : kS) : kMet l E yX4_copyFrom cX4_copyFrom 2 none (2) (60) 0 id [.ref (kad E 10 a0), .ref (kad E 10 a1)] σ (f_X4_copyFrom F a0 a1 σ) := by
  refine k_met hj hn hl (by decide) (Nat.le_of_ble_eq_true rfl) (fun C Q hk he hro => ?_)
  have hk : kOk (C, E, Q) cX4_copyFrom RX4 2 := hk
  show Sm (C, E, Q) 2 0 0 [(0, .ref (kad E 10 a0)), (1, .ref (kad E 10 a1))] [] σ _
  unfold f_X4_copyFrom
  refine k_aload_n hk dX4_copyFrom_0 0 rfl ?_
  refine k_aload_n hk dX4_copyFrom_1 1 rfl ?_
  refine k_getf (k := 0) hk dX4_copyFrom_2 rfl ha1 kc4 (by decide) fl_RX4_9 rfl ?_
  refine k_putf (k := 0) hk dX4_copyFrom_5 rfl ha0 kc4 (by decide) fl_RX4_9 rfl rfl rfl rfl (fun σ1 => ?_)
  refine k_aload_n hk dX4_copyFrom_8 1 rfl ?_
  refine k_getr (k := 1) 11 a1 hk dX4_copyFrom_9 rfl ha1 kc4 (by decide) fl_RX4_15 rfl rfl ?_
  refine k_iconst (v := 0) hk dX4_copyFrom_12 (by decide) ?_
  refine k_aload_n hk dX4_copyFrom_13 0 rfl ?_
  refine k_getr (k := 1) 11 a0 hk dX4_copyFrom_14 rfl ha0 kc4 (by decide) fl_RX4_15 rfl rfl ?_
  refine k_iconst (v := 0) hk dX4_copyFrom_17 (by decide) ?_
  refine k_bipush (v := 14) hk dX4_copyFrom_18 (by decide) ?_
  refine k_copy_c (dpn := 0) (len := 14) hk hro dX4_copyFrom_20 ac_RX4_40 rfl rfl ha1 ha0 (by decide) (by decide) (by decide) (by decide) (by decide) (by decide) ⟨by decide, Nat.le_of_ble_eq_true rfl⟩ (fun σ2 => ?_)
  refine k_aload_n hk dX4_copyFrom_23 1 rfl ?_
  refine k_getr (k := 2) 12 a1 hk dX4_copyFrom_24 rfl ha1 kc4 (by decide) fl_RX4_19 rfl rfl ?_
  refine k_iconst (v := 0) hk dX4_copyFrom_27 (by decide) ?_
  refine k_aload_n hk dX4_copyFrom_28 0 rfl ?_
  refine k_getr (k := 2) 12 a0 hk dX4_copyFrom_29 rfl ha0 kc4 (by decide) fl_RX4_19 rfl rfl ?_
  refine k_iconst (v := 0) hk dX4_copyFrom_32 (by decide) ?_
  refine k_bipush (v := 14) hk dX4_copyFrom_33 (by decide) ?_
  refine k_copy_c (dpn := 0) (len := 14) hk hro dX4_copyFrom_35 ac_RX4_40 rfl rfl ha1 ha0 (by decide) (by decide) (by decide) (by decide) (by decide) (by decide) ⟨by decide, Nat.le_of_ble_eq_true rfl⟩ (fun σ3 => ?_)
  refine k_aload_n hk dX4_copyFrom_38 1 rfl ?_
  refine k_getr (k := 3) 13 a1 hk dX4_copyFrom_39 rfl ha1 kc4 (by decide) fl_RX4_22 rfl rfl ?_
  refine k_iconst (v := 0) hk dX4_copyFrom_42 (by decide) ?_
  refine k_aload_n hk dX4_copyFrom_43 0 rfl ?_
  refine k_getr (k := 3) 13 a0 hk dX4_copyFrom_44 rfl ha0 kc4 (by decide) fl_RX4_22 rfl rfl ?_
  refine k_iconst (v := 0) hk dX4_copyFrom_47 (by decide) ?_
  refine k_bipush (v := 14) hk dX4_copyFrom_48 (by decide) ?_
  refine k_copy_c (dpn := 0) (len := 14) hk hro dX4_copyFrom_50 ac_RX4_40 rfl rfl ha1 ha0 (by decide) (by decide) (by decide) (by decide) (by decide) (by decide) ⟨by decide, Nat.le_of_ble_eq_true rfl⟩ (fun σ4 => ?_)
  refine k_aload_n hk dX4_copyFrom_53 1 rfl ?_
  refine k_getr (k := 4) 14 a1 hk dX4_copyFrom_54 rfl ha1 kc4 (by decide) fl_RX4_25 rfl rfl ?_
  refine k_iconst (v := 0) hk dX4_copyFrom_57 (by decide) ?_
  refine k_aload_n hk dX4_copyFrom_58 0 rfl ?_
  refine k_getr (k := 4) 14 a0 hk dX4_copyFrom_59 rfl ha0 kc4 (by decide) fl_RX4_25 rfl rfl ?_
  refine k_iconst (v := 0) hk dX4_copyFrom_62 (by decide) ?_
  refine k_bipush (v := 14) hk dX4_copyFrom_63 (by decide) ?_
  refine k_copy_c (dpn := 0) (len := 14) hk hro dX4_copyFrom_65 ac_RX4_40 rfl rfl ha1 ha0 (by decide) (by decide) (by decide) (by decide) (by decide) (by decide) ⟨by decide, Nat.le_of_ble_eq_true rfl⟩ (fun σ5 => ?_)
  refine k_aload_n hk dX4_copyFrom_68 1 rfl ?_
  refine k_getr (k := 5) 15 a1 hk dX4_copyFrom_69 rfl ha1 kc4 (by decide) fl_RX4_28 rfl rfl ?_
  refine k_iconst (v := 0) hk dX4_copyFrom_72 (by decide) ?_
  refine k_aload_n hk dX4_copyFrom_73 0 rfl ?_
  refine k_getr (k := 5) 15 a0 hk dX4_copyFrom_74 rfl ha0 kc4 (by decide) fl_RX4_28 rfl rfl ?_
  refine k_iconst (v := 0) hk dX4_copyFrom_77 (by decide) ?_
  refine k_bipush (v := 14) hk dX4_copyFrom_78 (by decide) ?_
  refine k_copy_c (dpn := 0) (len := 14) hk hro dX4_copyFrom_80 ac_RX4_40 rfl rfl ha1 ha0 (by decide) (by decide) (by decide) (by decide) (by decide) (by decide) ⟨by decide, Nat.le_of_ble_eq_true rfl⟩ (fun σ6 => ?_)
  refine k_aload_n hk dX4_copyFrom_83 1 rfl ?_
  refine k_getr (k := 6) 16 a1 hk dX4_copyFrom_84 rfl ha1 kc4 (by decide) fl_RX4_31 rfl rfl ?_
  refine k_iconst (v := 0) hk dX4_copyFrom_87 (by decide) ?_
  refine k_aload_n hk dX4_copyFrom_88 0 rfl ?_
  refine k_getr (k := 6) 16 a0 hk dX4_copyFrom_89 rfl ha0 kc4 (by decide) fl_RX4_31 rfl rfl ?_
  refine k_iconst (v := 0) hk dX4_copyFrom_92 (by decide) ?_
  refine k_bipush (v := 14) hk dX4_copyFrom_93 (by decide) ?_
  refine k_copy_c (dpn := 0) (len := 14) hk hro dX4_copyFrom_95 ac_RX4_40 rfl rfl ha1 ha0 (by decide) (by decide) (by decide) (by decide) (by decide) (by decide) ⟨by decide, Nat.le_of_ble_eq_true rfl⟩ (fun σ7 => ?_)
  refine k_aload_n hk dX4_copyFrom_98 1 rfl ?_
  refine k_getr (k := 7) 17 a1 hk dX4_copyFrom_99 rfl ha1 kc4 (by decide) fl_RX4_34 rfl rfl ?_
  refine k_iconst (v := 0) hk dX4_copyFrom_102 (by decide) ?_
  refine k_aload_n hk dX4_copyFrom_103 0 rfl ?_
  refine k_getr (k := 7) 17 a0 hk dX4_copyFrom_104 rfl ha0 kc4 (by decide) fl_RX4_34 rfl rfl ?_
  refine k_iconst (v := 0) hk dX4_copyFrom_107 (by decide) ?_
  refine k_sipush (v := 300) hk dX4_copyFrom_108 (by decide) ?_
  refine k_copy_c (dpn := 0) (len := 300) hk hro dX4_copyFrom_111 ac_RX4_40 rfl rfl ha1 ha0 (by decide) (by decide) (by decide) (by decide) (by decide) (by decide) ⟨by decide, Nat.le_of_ble_eq_true rfl⟩ (fun σ8 => ?_)
  refine k_aload_n hk dX4_copyFrom_114 0 rfl ?_
  refine k_aload_n hk dX4_copyFrom_115 1 rfl ?_
  refine k_getf (k := 8) hk dX4_copyFrom_116 rfl ha1 kc4 (by decide) fl_RX4_37 rfl ?_
  refine k_putf (k := 8) hk dX4_copyFrom_119 rfl ha0 kc4 (by decide) fl_RX4_37 rfl rfl rfl rfl (fun σ9 => ?_)
  exact k_return hk he dX4_copyFrom_122 (by decide)
