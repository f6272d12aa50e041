def f_X5_testWhy_b12 (F : Nat)  (σ : kS) : Option kR := some (.inr "java/util/NoSuchElementException", σ)
set_option maxRecDepth 20000 in
theorem s_X5_testWhy_b12 {l : Launch} {E : kE} (hj : kEj E) (hn : kNorm E) (hl : l.stackTraces = false) {C : kC} {Q : kR → State → Prop} (hk : kOk (C, E, Q) cX5_testWhy RX5 2) (he : kEnd (C, E, Q) none id 1) (hro : kRo C l (8) (140) 1) (F : Nat) : ∀   (σ : kS), Sm (C, E, Q) 2 0 12 [] [] σ (f_X5_testWhy_b12 F  σ) := by
  intro   σ
  unfold f_X5_testWhy_b12
  exact k_throwNW (t := 2) hk he hro dX5_testWhy_12 dX5_testWhy_15 dX5_testWhy_16 dX5_testWhy_19 dX5_testWhy_22 (by decide) rfl rfl th_RX5_299_303 ⟨by decide, Nat.le_of_ble_eq_true rfl⟩ (by decide)
def f_X5_testWhy (F : Nat) (a1 : Int32) (σ : kS) : Option kR := if a1 < 0 then (f_X5_testWhy_b12 F  σ) else (if a1 < (σ.1 0 0 5) then (some (.inl none, σ)) else (f_X5_testWhy_b12 F  σ))
set_option maxRecDepth 20000 in
theorem c_X5_testWhy {l : Launch} {E : kE} (hj : kEj E) (hn : kNorm E) (hl : l.stackTraces = false) (F : Nat) (a1 : Int32)  (σ : kS) : kMet l E yX5_testWhy cX5_testWhy 2 none (8) (140) 1 id [.ref (kad E 0 0), .int a1] σ (f_X5_testWhy F a1 σ) := by
  refine k_met hj hn hl (by decide) (Nat.le_of_ble_eq_true rfl) (fun C Q hk he hro => ?_)
  have hk : kOk (C, E, Q) cX5_testWhy RX5 2 := hk
  show Sm (C, E, Q) 2 0 0 [(0, .ref (kad E 0 0)), (1, .int a1)] [] σ _
  unfold f_X5_testWhy
  refine k_iload_n hk dX5_testWhy_0 1 rfl ?_
  refine k_if_lt hk dX5_testWhy_1 12 (by decide) (fun h1 => ?_) (fun h1 => ?_)
  · exact k_sub [] rfl (s_X5_testWhy_b12 hj hn hl hk he hro F    σ)
  · refine k_iload_n hk dX5_testWhy_4 1 rfl ?_
    refine k_aload_n hk dX5_testWhy_5 0 rfl ?_
    refine k_getf (k := 5) hk dX5_testWhy_6 rfl (by decide) kc5 (by decide) fl_RX5_33 rfl ?_
    refine k_icmp_lt hk dX5_testWhy_9 23 (by decide) (fun h2 => ?_) (fun h2 => ?_)
    · exact k_return hk he dX5_testWhy_23 (by decide)
    · exact k_sub [] rfl (s_X5_testWhy_b12 hj hn hl hk he hro F    σ)
def f_X5_testRow_b15 (F : Nat)  (σ : kS) : Option kR := some (.inr "java/lang/IndexOutOfBoundsException", σ)
set_option maxRecDepth 20000 in
theorem s_X5_testRow_b15 {l : Launch} {E : kE} (hj : kEj E) (hn : kNorm E) (hl : l.stackTraces = false) {C : kC} {Q : kR → State → Prop} (hk : kOk (C, E, Q) cX5_testRow RX5 2) (he : kEnd (C, E, Q) none id 1) (hro : kRo C l (8) (140) 1) (F : Nat) : ∀   (σ : kS), Sm (C, E, Q) 2 0 15 [] [] σ (f_X5_testRow_b15 F  σ) := by
  intro   σ
  unfold f_X5_testRow_b15
  exact k_throwW (t := 3) hk he hro dX5_testRow_15 dX5_testRow_18 dX5_testRow_19 dX5_testRow_22 dX5_testRow_25 (by decide) rfl rfl th_RX5_304_308 ⟨by decide, Nat.le_of_ble_eq_true rfl⟩ (by decide)
def f_X5_testRow (F : Nat) (a1 : Int32) (σ : kS) : Option kR := if a1 < 0 then (f_X5_testRow_b15 F  σ) else (if a1 < (σ.1 4 0 3) then (some (.inl none, σ)) else (f_X5_testRow_b15 F  σ))
set_option maxRecDepth 20000 in
theorem c_X5_testRow {l : Launch} {E : kE} (hj : kEj E) (hn : kNorm E) (hl : l.stackTraces = false) (F : Nat) (a1 : Int32)  (σ : kS) : kMet l E yX5_testRow cX5_testRow 2 none (8) (140) 1 id [.ref (kad E 0 0), .int a1] σ (f_X5_testRow F a1 σ) := by
  refine k_met hj hn hl (by decide) (Nat.le_of_ble_eq_true rfl) (fun C Q hk he hro => ?_)
  have hk : kOk (C, E, Q) cX5_testRow RX5 2 := hk
  show Sm (C, E, Q) 2 0 0 [(0, .ref (kad E 0 0)), (1, .int a1)] [] σ _
  unfold f_X5_testRow
  refine k_iload_n hk dX5_testRow_0 1 rfl ?_
  refine k_if_lt hk dX5_testRow_1 15 (by decide) (fun h1 => ?_) (fun h1 => ?_)
  · exact k_sub [] rfl (s_X5_testRow_b15 hj hn hl hk he hro F    σ)
  · refine k_iload_n hk dX5_testRow_4 1 rfl ?_
    refine k_aload_n hk dX5_testRow_5 0 rfl ?_
    refine k_getr (k := 6) 4 0 hk dX5_testRow_6 rfl (by decide) kc5 (by decide) fl_RX5_39 rfl rfl ?_
    refine k_getf (k := 3) hk dX5_testRow_9 rfl (by decide) kc2 (by decide) fl_RX5_177 rfl ?_
    refine k_icmp_lt hk dX5_testRow_12 26 (by decide) (fun h2 => ?_) (fun h2 => ?_)
    · exact k_return hk he dX5_testRow_26 (by decide)
    · exact k_sub [] rfl (s_X5_testRow_b15 hj hn hl hk he hro F    σ)
def f_X5_testCell_b10 (F : Nat)  (σ : kS) : Option kR := some (.inr "java/lang/IndexOutOfBoundsException", σ)
set_option maxRecDepth 20000 in
theorem s_X5_testCell_b10 {l : Launch} {E : kE} (hj : kEj E) (hn : kNorm E) (hl : l.stackTraces = false) {C : kC} {Q : kR → State → Prop} (hk : kOk (C, E, Q) cX5_testCell RX5 1) (he : kEnd (C, E, Q) none id 1) (hro : kRo C l (8) (140) 1) (F : Nat) : ∀   (σ : kS), Sm (C, E, Q) 1 0 10 [] [] σ (f_X5_testCell_b10 F  σ) := by
  intro   σ
  unfold f_X5_testCell_b10
  exact k_throwW (t := 4) hk he hro dX5_testCell_10 dX5_testCell_13 dX5_testCell_14 dX5_testCell_17 dX5_testCell_20 (by decide) rfl rfl th_RX5_304_308 ⟨by decide, Nat.le_of_ble_eq_true rfl⟩ (by decide)
def f_X5_testCell (F : Nat) (a0 : Int32) (σ : kS) : Option kR := if a0 < 0 then (f_X5_testCell_b10 F  σ) else (if a0 < 8 then (some (.inl none, σ)) else (f_X5_testCell_b10 F  σ))
set_option maxRecDepth 20000 in
theorem c_X5_testCell {l : Launch} {E : kE} (hj : kEj E) (hn : kNorm E) (hl : l.stackTraces = false) (F : Nat) (a0 : Int32)  (σ : kS) : kMet l E yX5_testCell cX5_testCell 1 none (8) (140) 1 id [.int a0] σ (f_X5_testCell F a0 σ) := by
  refine k_met hj hn hl (by decide) (Nat.le_of_ble_eq_true rfl) (fun C Q hk he hro => ?_)
  have hk : kOk (C, E, Q) cX5_testCell RX5 1 := hk
  show Sm (C, E, Q) 1 0 0 [(0, .int a0)] [] σ _
  unfold f_X5_testCell
  refine k_iload_n hk dX5_testCell_0 0 rfl ?_
  refine k_if_lt hk dX5_testCell_1 10 (by decide) (fun h1 => ?_) (fun h1 => ?_)
  · exact k_sub [] rfl (s_X5_testCell_b10 hj hn hl hk he hro F    σ)
  · refine k_iload_n hk dX5_testCell_4 0 rfl ?_
    refine k_bipush (v := 8) hk dX5_testCell_5 (by decide) ?_
    refine k_icmp_lt hk dX5_testCell_7 21 (by decide) (fun h2 => ?_) (fun h2 => ?_)
    · exact k_return hk he dX5_testCell_21 (by decide)
    · exact k_sub [] rfl (s_X5_testCell_b10 hj hn hl hk he hro F    σ)
def f_X5_testWithin_b10 (F : Nat)  (σ : kS) : Option kR := some (.inr "java/lang/IllegalArgumentException", σ)
set_option maxRecDepth 20000 in
theorem s_X5_testWithin_b10 {l : Launch} {E : kE} (hj : kEj E) (hn : kNorm E) (hl : l.stackTraces = false) {C : kC} {Q : kR → State → Prop} (hk : kOk (C, E, Q) cX5_testWithin RX5 3) (he : kEnd (C, E, Q) none id 1) (hro : kRo C l (8) (140) 1) (F : Nat) : ∀   (σ : kS), Sm (C, E, Q) 3 0 10 [] [] σ (f_X5_testWithin_b10 F  σ) := by
  intro   σ
  unfold f_X5_testWithin_b10
  exact k_throwW (t := 5) hk he hro dX5_testWithin_10 dX5_testWithin_13 dX5_testWithin_14 dX5_testWithin_17 dX5_testWithin_20 (by decide) rfl rfl th_RX5_73_77 ⟨by decide, Nat.le_of_ble_eq_true rfl⟩ (by decide)
def f_X5_testWithin (F : Nat) (a0 : Int32) (a1 : Int32) (a2 : Int32) (σ : kS) : Option kR := if a0 < a1 then (f_X5_testWithin_b10 F  σ) else (if a0 ≤ a2 then (some (.inl none, σ)) else (f_X5_testWithin_b10 F  σ))
set_option maxRecDepth 20000 in
theorem c_X5_testWithin {l : Launch} {E : kE} (hj : kEj E) (hn : kNorm E) (hl : l.stackTraces = false) (F : Nat) (a0 : Int32) (a1 : Int32) (a2 : Int32)  (σ : kS) : kMet l E yX5_testWithin cX5_testWithin 3 none (8) (140) 1 id [.int a0, .int a1, .int a2] σ (f_X5_testWithin F a0 a1 a2 σ) := by
  refine k_met hj hn hl (by decide) (Nat.le_of_ble_eq_true rfl) (fun C Q hk he hro => ?_)
  have hk : kOk (C, E, Q) cX5_testWithin RX5 3 := hk
  show Sm (C, E, Q) 3 0 0 [(0, .int a0), (1, .int a1), (2, .int a2)] [] σ _
  unfold f_X5_testWithin
  refine k_iload_n hk dX5_testWithin_0 0 rfl ?_
  refine k_iload_n hk dX5_testWithin_1 1 rfl ?_
  refine k_icmp_lt hk dX5_testWithin_2 10 (by decide) (fun h1 => ?_) (fun h1 => ?_)
  · exact k_sub [] rfl (s_X5_testWithin_b10 hj hn hl hk he hro F    σ)
  · refine k_iload_n hk dX5_testWithin_5 0 rfl ?_
    refine k_iload_n hk dX5_testWithin_6 2 rfl ?_
    refine k_icmp_le hk dX5_testWithin_7 21 (by decide) (fun h2 => ?_) (fun h2 => ?_)
    · exact k_return hk he dX5_testWithin_21 (by decide)
    · exact k_sub [] rfl (s_X5_testWithin_b10 hj hn hl hk he hro F    σ)
def f_X5_testNumber_b28 (F : Nat)  (σ : kS) : Option kR := some (.inr "java/lang/IllegalArgumentException", σ)
set_option maxRecDepth 20000 in
theorem s_X5_testNumber_b28 {l : Launch} {E : kE} (hj : kEj E) (hn : kNorm E) (hl : l.stackTraces = false) {C : kC} {Q : kR → State → Prop} (hk : kOk (C, E, Q) cX5_testNumber RX5 2) (he : kEnd (C, E, Q) none id 1) (hro : kRo C l (8) (140) 1) (F : Nat) : ∀   (σ : kS), Sm (C, E, Q) 2 0 28 [] [] σ (f_X5_testNumber_b28 F  σ) := by
  intro   σ
  unfold f_X5_testNumber_b28
  exact k_throwW (t := 6) hk he hro dX5_testNumber_28 dX5_testNumber_31 dX5_testNumber_32 dX5_testNumber_35 dX5_testNumber_38 (by decide) rfl rfl th_RX5_73_77 ⟨by decide, Nat.le_of_ble_eq_true rfl⟩ (by decide)
def f_X5_testNumber (F : Nat) (a0 : Int32) (a1 : Int32) (σ : kS) : Option kR := if a0 < 0 then (f_X5_testNumber_b28 F  σ) else (if 10 ≤ a0 then (f_X5_testNumber_b28 F  σ) else (kg (kin a0 10) (if a1 < ((kZv 1).getD a0.toNatClampNeg 0) then (f_X5_testNumber_b28 F  σ) else (kg (kin a0 10) (if a1 ≤ ((kZv 2).getD a0.toNatClampNeg 0) then (some (.inl none, σ)) else (f_X5_testNumber_b28 F  σ))))))
set_option maxRecDepth 20000 in
theorem c_X5_testNumber {l : Launch} {E : kE} (hj : kEj E) (hn : kNorm E) (hl : l.stackTraces = false) (F : Nat) (a0 : Int32) (a1 : Int32)  (σ : kS) : kMet l E yX5_testNumber cX5_testNumber 2 none (8) (140) 1 id [.int a0, .int a1] σ (f_X5_testNumber F a0 a1 σ) := by
  refine k_met hj hn hl (by decide) (Nat.le_of_ble_eq_true rfl) (fun C Q hk he hro => ?_)
  have hk : kOk (C, E, Q) cX5_testNumber RX5 2 := hk
  show Sm (C, E, Q) 2 0 0 [(0, .int a0), (1, .int a1)] [] σ _
  unfold f_X5_testNumber
  refine k_iload_n hk dX5_testNumber_0 0 rfl ?_
  refine k_if_lt hk dX5_testNumber_1 28 (by decide) (fun h1 => ?_) (fun h1 => ?_)
  · exact k_sub [] rfl (s_X5_testNumber_b28 hj hn hl hk he hro F    σ)
  · refine k_iload_n hk dX5_testNumber_4 0 rfl ?_
    refine k_bipush (v := 10) hk dX5_testNumber_5 (by decide) ?_
    refine k_icmp_ge hk dX5_testNumber_7 28 (by decide) (fun h2 => ?_) (fun h2 => ?_)
    · exact k_sub [] rfl (s_X5_testNumber_b28 hj hn hl hk he hro F    σ)
    · refine k_iload_n hk dX5_testNumber_10 1 rfl ?_
      refine k_tget (t := 1) hk dX5_testNumber_11 (by decide) gs_RX5_313 ?_
      refine k_iload_n hk dX5_testNumber_14 0 rfl ?_
      refine k_tald hk dX5_testNumber_15 (by decide) (fun h3 => ?_)
      refine k_icmp_lt hk dX5_testNumber_16 28 (by decide) (fun h4 => ?_) (fun h4 => ?_)
      · exact k_sub [] rfl (s_X5_testNumber_b28 hj hn hl hk he hro F    σ)
      · refine k_iload_n hk dX5_testNumber_19 1 rfl ?_
        refine k_tget (t := 2) hk dX5_testNumber_20 (by decide) gs_RX5_278 ?_
        refine k_iload_n hk dX5_testNumber_23 0 rfl ?_
        refine k_tald hk dX5_testNumber_24 (by decide) (fun h5 => ?_)
        refine k_icmp_le hk dX5_testNumber_25 39 (by decide) (fun h6 => ?_) (fun h6 => ?_)
        · exact k_return hk he dX5_testNumber_39 (by decide)
        · exact k_sub [] rfl (s_X5_testNumber_b28 hj hn hl hk he hro F    σ)
def f_X5_testRowValue_b75 (F : Nat)  (σ : kS) : Option kR := some (.inl none, σ)
set_option maxRecDepth 20000 in
theorem s_X5_testRowValue_b75 {l : Launch} {E : kE} (hj : kEj E) (hn : kNorm E) (hl : l.stackTraces = false) {C : kC} {Q : kR → State → Prop} (hk : kOk (C, E, Q) cX5_testRowValue RX5 2) (he : kEnd (C, E, Q) none id 4) (hro : kRo C l (9) (162) 4) (F : Nat) : ∀   (σ : kS), Sm (C, E, Q) 2 1 75 [] [] σ (f_X5_testRowValue_b75 F  σ) := by
  intro   σ
  unfold f_X5_testRowValue_b75
  exact k_return hk he dX5_testRowValue_75 (by decide)
def f_X5_testRowValue (F : Nat) (a0 : Int32) (a1 : Int32) (σ : kS) : Option kR := if a0 = 0 then (kBv (f_X5_testWithin F a1 0 1 σ) fun σ2 => f_X5_testRowValue_b75 F  σ2) else (if a0 = 1 then (kBv (f_X5_testWithin F a1 0 7 σ) fun σ4 => f_X5_testRowValue_b75 F  σ4) else (if a0 = 2 then (kBv (f_X5_testWithin F a1 0 99 σ) fun σ6 => f_X5_testRowValue_b75 F  σ6) else (if a0 = 4 then (kBv (f_X5_testWithin F a1 0 99 σ) fun σ8 => f_X5_testRowValue_b75 F  σ8) else (kBv (f_X5_testWithin F a1 (-9999) 9999 σ) fun σ9 => f_X5_testRowValue_b75 F  σ9))))
set_option maxRecDepth 20000 in
theorem c_X5_testRowValue {l : Launch} {E : kE} (hj : kEj E) (hn : kNorm E) (hl : l.stackTraces = false) (F : Nat) (a0 : Int32) (a1 : Int32)  (σ : kS) : kMet l E yX5_testRowValue cX5_testRowValue 2 none (9) (162) 4 id [.int a0, .int a1] σ (f_X5_testRowValue F a0 a1 σ) := by
  refine k_met hj hn hl (by decide) (Nat.le_of_ble_eq_true rfl) (fun C Q hk he hro => ?_)
  have hk : kOk (C, E, Q) cX5_testRowValue RX5 2 := hk
  show Sm (C, E, Q) 2 0 0 [(0, .int a0), (1, .int a1)] [] σ _
  unfold f_X5_testRowValue
  refine k_iload_n hk dX5_testRowValue_0 0 rfl ?_
  refine k_ite (fun h1 => ?_) (fun h1 => ?_)
  · refine k_tin (v := 0) hk dX5_testRowValue_1 h1 (by decide) (by decide) rfl 36 (by decide) ?_
    refine k_iload_n hk dX5_testRowValue_36 1 rfl ?_
    refine k_iconst (v := 0) hk dX5_testRowValue_37 (by decide) ?_
    refine k_iconst (v := 1) hk dX5_testRowValue_38 (by decide) ?_
    refine k_callSv (As := [.int a1, .int 0, .int 1]) (rest := []) hk he hro (c_X5_testWithin hj hn hl F a1 0 1  σ) dX5_testRowValue_39 cw_RX5_97 ⟨by decide, by decide⟩ (by decide) rfl (Nat.le_of_ble_eq_true rfl) (fun σ2 => ?_)
    refine k_goto hk dX5_testRowValue_42 75 (by decide) ?_
    exact k_sub [] rfl (s_X5_testRowValue_b75 hj hn hl hk he hro F    σ2)
  · skip
    refine k_ite (fun h3 => ?_) (fun h3 => ?_)
    · refine k_tin (v := 1) hk dX5_testRowValue_1 h3 (by decide) (by decide) rfl 45 (by decide) ?_
      refine k_iload_n hk dX5_testRowValue_45 1 rfl ?_
      refine k_iconst (v := 0) hk dX5_testRowValue_46 (by decide) ?_
      refine k_bipush (v := 7) hk dX5_testRowValue_47 (by decide) ?_
      refine k_callSv (As := [.int a1, .int 0, .int 7]) (rest := []) hk he hro (c_X5_testWithin hj hn hl F a1 0 7  σ) dX5_testRowValue_49 cw_RX5_97 ⟨by decide, by decide⟩ (by decide) rfl (Nat.le_of_ble_eq_true rfl) (fun σ4 => ?_)
      refine k_goto hk dX5_testRowValue_52 75 (by decide) ?_
      exact k_sub [] rfl (s_X5_testRowValue_b75 hj hn hl hk he hro F    σ4)
    · skip
      refine k_ite (fun h5 => ?_) (fun h5 => ?_)
      · refine k_tin (v := 2) hk dX5_testRowValue_1 h5 (by decide) (by decide) rfl 55 (by decide) ?_
        refine k_iload_n hk dX5_testRowValue_55 1 rfl ?_
        refine k_iconst (v := 0) hk dX5_testRowValue_56 (by decide) ?_
        refine k_bipush (v := 99) hk dX5_testRowValue_57 (by decide) ?_
        refine k_callSv (As := [.int a1, .int 0, .int 99]) (rest := []) hk he hro (c_X5_testWithin hj hn hl F a1 0 99  σ) dX5_testRowValue_59 cw_RX5_97 ⟨by decide, by decide⟩ (by decide) rfl (Nat.le_of_ble_eq_true rfl) (fun σ6 => ?_)
        refine k_goto hk dX5_testRowValue_62 75 (by decide) ?_
        exact k_sub [] rfl (s_X5_testRowValue_b75 hj hn hl hk he hro F    σ6)
      · skip
        refine k_ite (fun h7 => ?_) (fun h7 => ?_)
        · refine k_tin (v := 4) hk dX5_testRowValue_1 h7 (by decide) (by decide) rfl 55 (by decide) ?_
          refine k_iload_n hk dX5_testRowValue_55 1 rfl ?_
          refine k_iconst (v := 0) hk dX5_testRowValue_56 (by decide) ?_
          refine k_bipush (v := 99) hk dX5_testRowValue_57 (by decide) ?_
          refine k_callSv (As := [.int a1, .int 0, .int 99]) (rest := []) hk he hro (c_X5_testWithin hj hn hl F a1 0 99  σ) dX5_testRowValue_59 cw_RX5_97 ⟨by decide, by decide⟩ (by decide) rfl (Nat.le_of_ble_eq_true rfl) (fun σ8 => ?_)
          refine k_goto hk dX5_testRowValue_62 75 (by decide) ?_
          exact k_sub [] rfl (s_X5_testRowValue_b75 hj hn hl hk he hro F    σ8)
        · skip
          refine k_tdef hk dX5_testRowValue_1 [3] (by decide) (by have h1q := k_neI h1 (a := 0) (by decide); have h3q := k_neI h3 (a := 1) (by decide); have h5q := k_neI h5 (a := 2) (by decide); have h7q := k_neI h7 (a := 4) (by decide); simp only [List.mem_cons, List.not_mem_nil, or_false]; omega) 65 (by decide) ?_
          refine k_iload_n hk dX5_testRowValue_65 1 rfl ?_
          refine k_sipush (v := (-9999)) hk dX5_testRowValue_66 (by decide) ?_
          refine k_sipush (v := 9999) hk dX5_testRowValue_69 (by decide) ?_
          refine k_callSv (As := [.int a1, .int (-9999), .int 9999]) (rest := []) hk he hro (c_X5_testWithin hj hn hl F a1 (-9999) 9999  σ) dX5_testRowValue_72 cw_RX5_97 ⟨by decide, by decide⟩ (by decide) rfl (Nat.le_of_ble_eq_true rfl) (fun σ9 => ?_)
          exact k_sub [] rfl (s_X5_testRowValue_b75 hj hn hl hk he hro F    σ9)
def f_X5_testBits (F : Nat) (a0 : Int32) (a1 : Int32) (σ : kS) : Option kR := if (a0 &&& (((1 <<< (a1 &&& 31)) - 1) ^^^ (-1))) = 0 then (some (.inl none, σ)) else (some (.inr "java/lang/IllegalArgumentException", σ))
set_option maxRecDepth 20000 in
theorem c_X5_testBits {l : Launch} {E : kE} (hj : kEj E) (hn : kNorm E) (hl : l.stackTraces = false) (F : Nat) (a0 : Int32) (a1 : Int32)  (σ : kS) : kMet l E yX5_testBits cX5_testBits 2 none (8) (140) 1 id [.int a0, .int a1] σ (f_X5_testBits F a0 a1 σ) := by
  refine k_met hj hn hl (by decide) (Nat.le_of_ble_eq_true rfl) (fun C Q hk he hro => ?_)
  have hk : kOk (C, E, Q) cX5_testBits RX5 2 := hk
  show Sm (C, E, Q) 2 0 0 [(0, .int a0), (1, .int a1)] [] σ _
  unfold f_X5_testBits
  refine k_iload_n hk dX5_testBits_0 0 rfl ?_
  refine k_iconst (v := 1) hk dX5_testBits_1 (by decide) ?_
  refine k_iload_n hk dX5_testBits_2 1 rfl ?_
  refine k_ishl hk dX5_testBits_3 ?_
  refine k_iconst (v := 1) hk dX5_testBits_4 (by decide) ?_
  refine k_isub hk dX5_testBits_5 ?_
  refine k_iconst (v := (-1)) hk dX5_testBits_6 (by decide) ?_
  refine k_ixor hk dX5_testBits_7 ?_
  refine k_iand hk dX5_testBits_8 ?_
  refine k_if_eq hk dX5_testBits_9 23 (by decide) (fun h1 => ?_) (fun h1 => ?_)
  · exact k_return hk he dX5_testBits_23 (by decide)
  · exact k_throwW (t := 7) hk he hro dX5_testBits_12 dX5_testBits_15 dX5_testBits_16 dX5_testBits_19 dX5_testBits_22 (by decide) rfl rfl th_RX5_73_77 ⟨by decide, Nat.le_of_ble_eq_true rfl⟩ (by decide)
def f_X5_forgetBurnt (F : Nat)  (σ : kS) : Option kR := kBv (f_J7_fill_S_knownBurnt F (-1) σ) fun σ1 => some (.inl none, σ1)
set_option maxRecDepth 20000 in
theorem c_X5_forgetBurnt {l : Launch} {E : kE} (hj : kEj E) (hn : kNorm E) (hl : l.stackTraces = false) (F : Nat)   (σ : kS) : kMet l E yX5_forgetBurnt cX5_forgetBurnt 1 none (1) (23) 0 id [.ref (kad E 0 0)] σ (f_X5_forgetBurnt F  σ) := by
  refine k_met hj hn hl (by decide) (Nat.le_of_ble_eq_true rfl) (fun C Q hk he hro => ?_)
  have hk : kOk (C, E, Q) cX5_forgetBurnt RX5 1 := hk
  show Sm (C, E, Q) 1 0 0 [(0, .ref (kad E 0 0))] [] σ _
  unfold f_X5_forgetBurnt
  refine k_aload_n hk dX5_forgetBurnt_0 0 rfl ?_
  refine k_getr (k := 11) 8 0 hk dX5_forgetBurnt_1 rfl (by decide) kc5 (by decide) fl_RX5_63 rfl rfl ?_
  refine k_iconst (v := (-1)) hk dX5_forgetBurnt_4 (by decide) ?_
  refine k_callSv (As := [.ref (kad E 8 0), .int (-1)]) (rest := []) hk he hro (c_J7_fill_S_knownBurnt hj hn hl F (-1)  σ) dX5_forgetBurnt_5 cw_RX5_324 ⟨by decide, by decide⟩ (by decide) rfl (Nat.le_of_ble_eq_true rfl) (fun σ1 => ?_)
  exact k_return hk he dX5_forgetBurnt_8 (by decide)
def f_X5_forgetRuns_b2 (F : Nat) (rr2 : Int32 → kS → Option kR) (a : Int32) (σ : kS) : Option kR := match a with
  | x1 => if 6 ≤ x1 then (kBv (f_X5_forgetBurnt F  σ) fun σ2 => some (.inl none, σ2)) else (kg (kin x1 6) (kb (x1.toNatClampNeg) fun j3 => kb (kU σ 40 j3 0 0) fun σ4 => rr2 (x1 + 1) σ4))
set_option maxRecDepth 20000 in
theorem s_X5_forgetRuns_b2 {l : Launch} {E : kE} (hj : kEj E) (hn : kNorm E) (hl : l.stackTraces = false) {C : kC} {Q : kR → State → Prop} (hk : kOk (C, E, Q) cX5_forgetRuns RX5 2) (he : kEnd (C, E, Q) none id 0) (hro : kRo C l (2) (43) 0) (F : Nat) : ∀ (N9 : Nat) (x1 : Int32)  (σ : kS), Sm (C, E, Q) 2 0 2 [(0, .ref (kad E 0 0)), (1, .int x1)] [] σ (kFix (f_X5_forgetRuns_b2 F) N9 x1 σ) := by
  intro N9
  induction N9 with
  | zero => intro x1  σ; exact k_no
  | succ N9 ih =>
    intro x1  σ
    show Sm _ _ _ _ _ _ _ (f_X5_forgetRuns_b2 F (kFix (f_X5_forgetRuns_b2 F) N9) x1 σ)
    generalize kFix (f_X5_forgetRuns_b2 F) N9 = rr2 at ih
    have hrr2 := ih
    unfold f_X5_forgetRuns_b2
    dsimp only
    refine k_iload_n hk dX5_forgetRuns_2 1 rfl ?_
    refine k_bipush (v := 6) hk dX5_forgetRuns_3 (by decide) ?_
    refine k_icmp_ge hk dX5_forgetRuns_5 24 (by decide) (fun h1 => ?_) (fun h1 => ?_)
    · refine k_aload_n hk dX5_forgetRuns_24 0 rfl ?_
      refine k_callVv (As := []) (rest := []) hk he hro (c_X5_forgetBurnt hj hn hl F   σ) dX5_forgetRuns_25 cw_RX5_235 rfl (by decide) kc5 rfl ⟨by decide, by decide⟩ (by decide) rfl (Nat.le_of_ble_eq_true rfl) (fun σ2 => ?_)
      exact k_return hk he dX5_forgetRuns_28 (by decide)
    · refine k_aload_n hk dX5_forgetRuns_8 0 rfl ?_
      refine k_getr (k := 10) 7 0 hk dX5_forgetRuns_9 rfl (by decide) kc5 (by decide) fl_RX5_59 rfl rfl ?_
      refine k_iload_n hk dX5_forgetRuns_12 1 rfl ?_
      refine k_aaldj (g' := 40) (fun z => z) hk dX5_forgetRuns_13 rfl rfl rfl (by decide) (fun z => rfl) (by decide) (fun j3 hj3 => ?_)
      refine k_iconst (v := 0) hk dX5_forgetRuns_14 (by decide) ?_
      refine k_putf (k := 0) hk dX5_forgetRuns_15 rfl hj3 kc0 (by decide) fl_RX5_320 rfl rfl rfl rfl (fun σ4 => ?_)
      refine k_iinc (lv' := [(1, .int (x1 + 1)), (0, .ref (kad E 0 0))]) (j := 1) (y := x1 + 1) hk dX5_forgetRuns_18 rfl rfl (by decide) rfl ?_
      refine k_goto hk dX5_forgetRuns_21 2 (by decide) ?_
      exact k_sub [1, 0] rfl (hrr2 (x1 + 1)  σ4)
def f_X5_forgetRuns (F : Nat)  (σ : kS) : Option kR := kFix (f_X5_forgetRuns_b2 F) F 0 σ
set_option maxRecDepth 20000 in
theorem c_X5_forgetRuns {l : Launch} {E : kE} (hj : kEj E) (hn : kNorm E) (hl : l.stackTraces = false) (F : Nat)   (σ : kS) : kMet l E yX5_forgetRuns cX5_forgetRuns 2 none (2) (43) 0 id [.ref (kad E 0 0)] σ (f_X5_forgetRuns F  σ) := by
  refine k_met hj hn hl (by decide) (Nat.le_of_ble_eq_true rfl) (fun C Q hk he hro => ?_)
  have hk : kOk (C, E, Q) cX5_forgetRuns RX5 2 := hk
  show Sm (C, E, Q) 2 0 0 [(0, .ref (kad E 0 0))] [] σ _
  unfold f_X5_forgetRuns
  refine k_iconst (v := 0) hk dX5_forgetRuns_0 (by decide) ?_
  refine k_istore_n (lv' := [(1, .int 0), (0, .ref (kad E 0 0))]) hk dX5_forgetRuns_1 (by decide) rfl ?_
  exact k_sub [1, 0] rfl (s_X5_forgetRuns_b2 hj hn hl hk he hro F F 0  σ)
def f_X5_feed_b72 (F : Nat) (rr18 : (Int32 × Int32 × Int32 × Int32 × Int32 × Int32) → kS → Option kR) (rr72 : (Int32 × Int32 × Int32 × Int32 × Int32 × Int32 × Int32 × Int32) → kS → Option kR) (a : (Int32 × Int32 × Int32 × Int32 × Int32 × Int32 × Int32 × Int32)) (σ : kS) : Option kR := match a with
  | (x1, x2, x3, x4, x5, x6, x7, x8) => if x8 < 0 then (rr18 (x1, x2, x3, x4, x5, x6 + 1) σ) else (kg (kin (σ.1 0 0 1) 300) (kb (kU σ 1 0 (σ.1 0 0 1).toNatClampNeg ((x7 >>> (x8 &&& 31)).toInt8.toInt32).toInt8.toInt32) fun σ2 => kb (kU σ2 0 0 1 ((σ2.1 0 0 1) + 1)) fun σ4 => rr72 (x1, x2, x3, x4, x5, x6, x7, x8 + (-8)) σ4))
set_option maxRecDepth 20000 in
theorem s_X5_feed_b72 {l : Launch} {E : kE} (hj : kEj E) (hn : kNorm E) (hl : l.stackTraces = false) {C : kC} {Q : kR → State → Prop} (hk : kOk (C, E, Q) cX5_feed RX5 9) (he : kEnd (C, E, Q) (some .int) id 0) (hro : kRo C l (0) (0) 0) (F : Nat) (rr18 : (Int32 × Int32 × Int32 × Int32 × Int32 × Int32) → kS → Option kR) (hrr18 : ∀ (x1 : Int32) (x2 : Int32) (x3 : Int32) (x4 : Int32) (x5 : Int32) (x6 : Int32)  (σ : kS), Sm (C, E, Q) 9 0 18 [(0, .ref (kad E 0 0)), (1, .int x1), (2, .int x2), (3, .int x3), (4, .int x4), (5, .int x5), (6, .int x6)] [] σ (rr18 (x1, x2, x3, x4, x5, x6) σ)) : ∀ (N9 : Nat) (x1 : Int32) (x2 : Int32) (x3 : Int32) (x4 : Int32) (x5 : Int32) (x6 : Int32) (x7 : Int32) (x8 : Int32)  (σ : kS), Sm (C, E, Q) 9 0 72 [(0, .ref (kad E 0 0)), (1, .int x1), (2, .int x2), (3, .int x3), (4, .int x4), (5, .int x5), (6, .int x6), (7, .int x7), (8, .int x8)] [] σ (kFix (f_X5_feed_b72 F rr18) N9 (x1, x2, x3, x4, x5, x6, x7, x8) σ) := by
  intro N9
  induction N9 with
  | zero => intro x1 x2 x3 x4 x5 x6 x7 x8  σ; exact k_no
  | succ N9 ih =>
    intro x1 x2 x3 x4 x5 x6 x7 x8  σ
    show Sm _ _ _ _ _ _ _ (f_X5_feed_b72 F rr18 (kFix (f_X5_feed_b72 F rr18) N9) (x1, x2, x3, x4, x5, x6, x7, x8) σ)
    generalize kFix (f_X5_feed_b72 F rr18) N9 = rr72 at ih
    have hrr72 := ih
    unfold f_X5_feed_b72
    dsimp only
    refine k_iload hk dX5_feed_72 8 rfl ?_
    refine k_if_lt hk dX5_feed_74 108 (by decide) (fun h1 => ?_) (fun h1 => ?_)
    · refine k_iinc (lv' := [(6, .int (x6 + 1)), (0, .ref (kad E 0 0)), (1, .int x1), (2, .int x2), (3, .int x3), (4, .int x4), (5, .int x5), (7, .int x7), (8, .int x8)]) (j := 6) (y := x6 + 1) hk dX5_feed_108 rfl rfl (by decide) rfl ?_
      refine k_goto hk dX5_feed_111 18 (by decide) ?_
      exact k_sub [1, 2, 3, 4, 5, 6, 0] rfl (hrr18 x1 x2 x3 x4 x5 (x6 + 1)  σ)
    · refine k_aload_n hk dX5_feed_77 0 rfl ?_
      refine k_getr (k := 0) 1 0 hk dX5_feed_78 rfl (by decide) kc5 (by decide) fl_RX5_9 rfl rfl ?_
      refine k_aload_n hk dX5_feed_81 0 rfl ?_
      refine k_getf (k := 1) hk dX5_feed_82 rfl (by decide) kc5 (by decide) fl_RX5_13 rfl ?_
      refine k_iload hk dX5_feed_85 7 rfl ?_
      refine k_iload hk dX5_feed_87 8 rfl ?_
      refine k_ishr hk dX5_feed_89 ?_
      refine k_i2b hk dX5_feed_90 ?_
      refine k_bast hk dX5_feed_91 rfl (by decide) (fun h3 σ2 => ?_)
      refine k_aload_n hk dX5_feed_92 0 rfl ?_
      refine k_dup hk dX5_feed_93 rfl ?_
      refine k_getf (k := 1) hk dX5_feed_94 rfl (by decide) kc5 (by decide) fl_RX5_13 rfl ?_
      refine k_iconst (v := 1) hk dX5_feed_97 (by decide) ?_
      refine k_iadd hk dX5_feed_98 ?_
      refine k_putf (k := 1) hk dX5_feed_99 rfl (by decide) kc5 (by decide) fl_RX5_13 rfl rfl rfl rfl (fun σ4 => ?_)
      refine k_iinc (lv' := [(8, .int (x8 + (-8))), (0, .ref (kad E 0 0)), (1, .int x1), (2, .int x2), (3, .int x3), (4, .int x4), (5, .int x5), (6, .int x6), (7, .int x7)]) (j := 8) (y := x8 + (-8)) hk dX5_feed_102 rfl rfl (by decide) rfl ?_
      refine k_goto hk dX5_feed_105 72 (by decide) ?_
      exact k_sub [1, 2, 3, 4, 5, 6, 7, 8, 0] rfl (hrr72 x1 x2 x3 x4 x5 x6 x7 (x8 + (-8))  σ4)
def f_X5_feed_b66 (F : Nat) (rr18 : (Int32 × Int32 × Int32 × Int32 × Int32 × Int32) → kS → Option kR) (x1 : Int32) (x2 : Int32) (x3 : Int32) (x4 : Int32) (x5 : Int32) (x6 : Int32) (t0 : Int32) (σ : kS) : Option kR := kFix (f_X5_feed_b72 F rr18) F (x1, x2, x3, x4, x5, x6, t0, 24) σ
set_option maxRecDepth 20000 in
theorem s_X5_feed_b66 {l : Launch} {E : kE} (hj : kEj E) (hn : kNorm E) (hl : l.stackTraces = false) {C : kC} {Q : kR → State → Prop} (hk : kOk (C, E, Q) cX5_feed RX5 9) (he : kEnd (C, E, Q) (some .int) id 0) (hro : kRo C l (0) (0) 0) (F : Nat) (rr18 : (Int32 × Int32 × Int32 × Int32 × Int32 × Int32) → kS → Option kR) (hrr18 : ∀ (x1 : Int32) (x2 : Int32) (x3 : Int32) (x4 : Int32) (x5 : Int32) (x6 : Int32)  (σ : kS), Sm (C, E, Q) 9 0 18 [(0, .ref (kad E 0 0)), (1, .int x1), (2, .int x2), (3, .int x3), (4, .int x4), (5, .int x5), (6, .int x6)] [] σ (rr18 (x1, x2, x3, x4, x5, x6) σ)) : ∀ (x1 : Int32) (x2 : Int32) (x3 : Int32) (x4 : Int32) (x5 : Int32) (x6 : Int32) (t0 : Int32)  (σ : kS), Sm (C, E, Q) 9 0 66 [(0, .ref (kad E 0 0)), (1, .int x1), (2, .int x2), (3, .int x3), (4, .int x4), (5, .int x5), (6, .int x6)] [.int t0] σ (f_X5_feed_b66 F rr18 x1 x2 x3 x4 x5 x6 t0 σ) := by
  intro x1 x2 x3 x4 x5 x6 t0  σ
  unfold f_X5_feed_b66
  refine k_istore (lv' := [(7, .int t0), (0, .ref (kad E 0 0)), (1, .int x1), (2, .int x2), (3, .int x3), (4, .int x4), (5, .int x5), (6, .int x6)]) hk dX5_feed_66 (by decide) rfl ?_
  refine k_bipush (v := 24) hk dX5_feed_68 (by decide) ?_
  refine k_istore (lv' := [(8, .int 24), (7, .int t0), (0, .ref (kad E 0 0)), (1, .int x1), (2, .int x2), (3, .int x3), (4, .int x4), (5, .int x5), (6, .int x6)]) hk dX5_feed_70 (by decide) rfl ?_
  exact k_sub [2, 3, 4, 5, 6, 7, 8, 1, 0] rfl (s_X5_feed_b72 hj hn hl hk he hro F rr18 hrr18 F x1 x2 x3 x4 x5 x6 t0 24  σ)
def f_X5_feed_b18 (F : Nat) (rr18 : (Int32 × Int32 × Int32 × Int32 × Int32 × Int32) → kS → Option kR) (a : (Int32 × Int32 × Int32 × Int32 × Int32 × Int32)) (σ : kS) : Option kR := match a with
  | (x1, x2, x3, x4, x5, x6) => if 5 ≤ x6 then (some (.inl (some (.int (σ.1 0 0 1))), σ)) else (if x6 = 0 then (f_X5_feed_b66 F rr18 x1 x2 x3 x4 x5 x6 x1 σ) else (if x6 = 1 then (f_X5_feed_b66 F rr18 x1 x2 x3 x4 x5 x6 x2 σ) else (if x6 = 2 then (f_X5_feed_b66 F rr18 x1 x2 x3 x4 x5 x6 x3 σ) else (if x6 = 3 then (f_X5_feed_b66 F rr18 x1 x2 x3 x4 x5 x6 x4 σ) else (f_X5_feed_b66 F rr18 x1 x2 x3 x4 x5 x6 x5 σ)))))
set_option maxRecDepth 20000 in
theorem s_X5_feed_b18 {l : Launch} {E : kE} (hj : kEj E) (hn : kNorm E) (hl : l.stackTraces = false) {C : kC} {Q : kR → State → Prop} (hk : kOk (C, E, Q) cX5_feed RX5 9) (he : kEnd (C, E, Q) (some .int) id 0) (hro : kRo C l (0) (0) 0) (F : Nat) : ∀ (N9 : Nat) (x1 : Int32) (x2 : Int32) (x3 : Int32) (x4 : Int32) (x5 : Int32) (x6 : Int32)  (σ : kS), Sm (C, E, Q) 9 0 18 [(0, .ref (kad E 0 0)), (1, .int x1), (2, .int x2), (3, .int x3), (4, .int x4), (5, .int x5), (6, .int x6)] [] σ (kFix (f_X5_feed_b18 F) N9 (x1, x2, x3, x4, x5, x6) σ) := by
  intro N9
  induction N9 with
  | zero => intro x1 x2 x3 x4 x5 x6  σ; exact k_no
  | succ N9 ih =>
    intro x1 x2 x3 x4 x5 x6  σ
    show Sm _ _ _ _ _ _ _ (f_X5_feed_b18 F (kFix (f_X5_feed_b18 F) N9) (x1, x2, x3, x4, x5, x6) σ)
    generalize kFix (f_X5_feed_b18 F) N9 = rr18 at ih
    have hrr18 := ih
    unfold f_X5_feed_b18
    dsimp only
    refine k_iload hk dX5_feed_18 6 rfl ?_
    refine k_iconst (v := 5) hk dX5_feed_20 (by decide) ?_
    refine k_icmp_ge hk dX5_feed_21 114 (by decide) (fun h5 => ?_) (fun h5 => ?_)
    · refine k_aload_n hk dX5_feed_114 0 rfl ?_
      refine k_getf (k := 1) hk dX5_feed_115 rfl (by decide) kc5 (by decide) fl_RX5_13 rfl ?_
      exact k_ireturn hk he dX5_feed_118 (by decide)
    · refine k_iload hk dX5_feed_24 6 rfl ?_
      refine k_if_ne hk dX5_feed_26 33 (by decide) (fun h6 => ?_) (fun h6 => ?_)
      · refine k_iload hk dX5_feed_33 6 rfl ?_
        refine k_iconst (v := 1) hk dX5_feed_35 (by decide) ?_
        refine k_icmp_ne hk dX5_feed_36 43 (by decide) (fun h7 => ?_) (fun h7 => ?_)
        · refine k_iload hk dX5_feed_43 6 rfl ?_
          refine k_iconst (v := 2) hk dX5_feed_45 (by decide) ?_
          refine k_icmp_ne hk dX5_feed_46 53 (by decide) (fun h8 => ?_) (fun h8 => ?_)
          · refine k_iload hk dX5_feed_53 6 rfl ?_
            refine k_iconst (v := 3) hk dX5_feed_55 (by decide) ?_
            refine k_icmp_ne hk dX5_feed_56 64 (by decide) (fun h9 => ?_) (fun h9 => ?_)
            · refine k_iload hk dX5_feed_64 5 rfl ?_
              exact k_sub [0, 1, 2, 3, 4, 5, 6] rfl (s_X5_feed_b66 hj hn hl hk he hro F rr18 hrr18  x1 x2 x3 x4 x5 x6 x5  σ)
            · refine k_iload hk dX5_feed_59 4 rfl ?_
              refine k_goto hk dX5_feed_61 66 (by decide) ?_
              exact k_sub [0, 1, 2, 3, 4, 5, 6] rfl (s_X5_feed_b66 hj hn hl hk he hro F rr18 hrr18  x1 x2 x3 x4 x5 x6 x4  σ)
          · refine k_iload_n hk dX5_feed_49 3 rfl ?_
            refine k_goto hk dX5_feed_50 66 (by decide) ?_
            exact k_sub [0, 1, 2, 3, 4, 5, 6] rfl (s_X5_feed_b66 hj hn hl hk he hro F rr18 hrr18  x1 x2 x3 x4 x5 x6 x3  σ)
        · refine k_iload_n hk dX5_feed_39 2 rfl ?_
          refine k_goto hk dX5_feed_40 66 (by decide) ?_
          exact k_sub [0, 1, 2, 3, 4, 5, 6] rfl (s_X5_feed_b66 hj hn hl hk he hro F rr18 hrr18  x1 x2 x3 x4 x5 x6 x2  σ)
      · refine k_iload_n hk dX5_feed_29 1 rfl ?_
        refine k_goto hk dX5_feed_30 66 (by decide) ?_
        exact k_sub [0, 1, 2, 3, 4, 5, 6] rfl (s_X5_feed_b66 hj hn hl hk he hro F rr18 hrr18  x1 x2 x3 x4 x5 x6 x1  σ)
def f_X5_feed (F : Nat) (a1 : Int32) (a2 : Int32) (a3 : Int32) (a4 : Int32) (a5 : Int32) (σ : kS) : Option kR := if ((σ.1 0 0 1) + 20) ≤ 300 then (kFix (f_X5_feed_b18 F) F (a1, a2, a3, a4, a5, 0) σ) else (some (.inl (some (.int (-1))), σ))
set_option maxRecDepth 20000 in
theorem c_X5_feed {l : Launch} {E : kE} (hj : kEj E) (hn : kNorm E) (hl : l.stackTraces = false) (F : Nat) (a1 : Int32) (a2 : Int32) (a3 : Int32) (a4 : Int32) (a5 : Int32)  (σ : kS) : kMet l E yX5_feed cX5_feed 9 (some .int) (0) (0) 0 id [.ref (kad E 0 0), .int a1, .int a2, .int a3, .int a4, .int a5] σ (f_X5_feed F a1 a2 a3 a4 a5 σ) := by
  refine k_met hj hn hl (by decide) (Nat.le_of_ble_eq_true rfl) (fun C Q hk he hro => ?_)
  have hk : kOk (C, E, Q) cX5_feed RX5 9 := hk
  show Sm (C, E, Q) 9 0 0 [(0, .ref (kad E 0 0)), (1, .int a1), (2, .int a2), (3, .int a3), (4, .int a4), (5, .int a5)] [] σ _
  unfold f_X5_feed
  refine k_aload_n hk dX5_feed_0 0 rfl ?_
  refine k_getf (k := 1) hk dX5_feed_1 rfl (by decide) kc5 (by decide) fl_RX5_13 rfl ?_
  refine k_bipush (v := 20) hk dX5_feed_4 (by decide) ?_
  refine k_iadd hk dX5_feed_6 ?_
  refine k_sipush (v := 300) hk dX5_feed_7 (by decide) ?_
  refine k_icmp_le hk dX5_feed_10 15 (by decide) (fun h10 => ?_) (fun h10 => ?_)
  · refine k_iconst (v := 0) hk dX5_feed_15 (by decide) ?_
    refine k_istore (lv' := [(6, .int 0), (0, .ref (kad E 0 0)), (1, .int a1), (2, .int a2), (3, .int a3), (4, .int a4), (5, .int a5)]) hk dX5_feed_16 (by decide) rfl ?_
    exact k_sub [1, 2, 3, 4, 5, 6, 0] rfl (s_X5_feed_b18 hj hn hl hk he hro F F a1 a2 a3 a4 a5 0  σ)
  · refine k_iconst (v := (-1)) hk dX5_feed_13 (by decide) ?_
    exact k_ireturn hk he dX5_feed_14 (by decide)
def f_X5_why_b12 (F : Nat)  (σ : kS) : Option kR := some (.inr "java/lang/IllegalArgumentException", σ)
set_option maxRecDepth 20000 in
theorem s_X5_why_b12 {l : Launch} {E : kE} (hj : kEj E) (hn : kNorm E) (hl : l.stackTraces = false) {C : kC} {Q : kR → State → Prop} (hk : kOk (C, E, Q) cX5_why RX5 3) (he : kEnd (C, E, Q) (some .int) id 1) (hro : kRo C l (355) (8013) 1) (F : Nat) : ∀   (σ : kS), Sm (C, E, Q) 3 0 12 [] [] σ (f_X5_why_b12 F  σ) := by
  intro   σ
  unfold f_X5_why_b12
  exact k_throw (t := 0) hk he hro dX5_why_12 dX5_why_15 dX5_why_16 dX5_why_18 dX5_why_21 (by decide) rfl rfl th_RX5_73_77 ⟨by decide, Nat.le_of_ble_eq_true rfl⟩ (by decide)
def f_X5_why (F : Nat) (a1 : Int32) (σ : kS) : Option kR := if a1 < 0 then (f_X5_why_b12 F  σ) else (if a1 ≤ (σ.1 0 0 1) then (kb (kU σ 0 0 1 0) fun σ3 => if (σ3.1 0 0 5) < 6 then (kBi (f_X3_read F a1 σ3) fun c6 σ5 => kb (kU σ5 0 0 3 (σ5.1 2 0 1)) fun σ7 => if c6 = 0 then (kg (kin (σ7.1 0 0 5) 6) (kb ((σ7.1 0 0 5).toNatClampNeg + 2) fun j9 => kBv (f_X4_copyFrom F j9 0 σ7) fun σ10 => kb (kU σ10 0 0 5 ((σ10.1 0 0 5) + 1)) fun σ11 => some (.inl (some (.int ((σ11.1 0 0 5) - 1))), σ11))) else (some (.inl (some (.int (c6 - 10))), σ7))) else (kb (kU σ3 0 0 3 (-1)) fun σ12 => some (.inl (some (.int (-1))), σ12))) else (f_X5_why_b12 F  σ))
set_option maxRecDepth 20000 in
theorem c_X5_why {l : Launch} {E : kE} (hj : kEj E) (hn : kNorm E) (hl : l.stackTraces = false) (F : Nat) (a1 : Int32)  (σ : kS) : kMet l E yX5_why cX5_why 3 (some .int) (355) (8013) 1 id [.ref (kad E 0 0), .int a1] σ (f_X5_why F a1 σ) := by
  refine k_met hj hn hl (by decide) (Nat.le_of_ble_eq_true rfl) (fun C Q hk he hro => ?_)
  have hk : kOk (C, E, Q) cX5_why RX5 3 := hk
  show Sm (C, E, Q) 3 0 0 [(0, .ref (kad E 0 0)), (1, .int a1)] [] σ _
  unfold f_X5_why
  refine k_iload_n hk dX5_why_0 1 rfl ?_
  refine k_if_lt hk dX5_why_1 12 (by decide) (fun h1 => ?_) (fun h1 => ?_)
  · exact k_sub [] rfl (s_X5_why_b12 hj hn hl hk he hro F    σ)
  · refine k_iload_n hk dX5_why_4 1 rfl ?_
    refine k_aload_n hk dX5_why_5 0 rfl ?_
    refine k_getf (k := 1) hk dX5_why_6 rfl (by decide) kc5 (by decide) fl_RX5_13 rfl ?_
    refine k_icmp_le hk dX5_why_9 22 (by decide) (fun h2 => ?_) (fun h2 => ?_)
    · refine k_aload_n hk dX5_why_22 0 rfl ?_
      refine k_iconst (v := 0) hk dX5_why_23 (by decide) ?_
      refine k_putf (k := 1) hk dX5_why_24 rfl (by decide) kc5 (by decide) fl_RX5_13 rfl rfl rfl rfl (fun σ3 => ?_)
      refine k_aload_n hk dX5_why_27 0 rfl ?_
      refine k_getf (k := 5) hk dX5_why_28 rfl (by decide) kc5 (by decide) fl_RX5_33 rfl ?_
      refine k_bipush (v := 6) hk dX5_why_31 (by decide) ?_
      refine k_icmp_lt hk dX5_why_33 43 (by decide) (fun h4 => ?_) (fun h4 => ?_)
      · refine k_aload_n hk dX5_why_43 0 rfl ?_
        refine k_getr (k := 2) 2 0 hk dX5_why_44 rfl (by decide) kc5 (by decide) fl_RX5_20 rfl rfl ?_
        refine k_aload_n hk dX5_why_47 0 rfl ?_
        refine k_getr (k := 0) 1 0 hk dX5_why_48 rfl (by decide) kc5 (by decide) fl_RX5_9 rfl rfl ?_
        refine k_iload_n hk dX5_why_51 1 rfl ?_
        refine k_callVi (As := [.ref (kad E 1 0), .int a1]) (rest := []) hk he hro (c_X3_read hj hn hl F a1  σ3) dX5_why_52 cw_RX5_80 rfl (by decide) kc3 rfl ⟨by decide, by decide⟩ (by decide) rfl (Nat.le_of_ble_eq_true rfl) (fun c6 σ5 => ?_)
        refine k_istore_n (lv' := [(2, .int c6), (0, .ref (kad E 0 0)), (1, .int a1)]) hk dX5_why_55 (by decide) rfl ?_
        refine k_aload_n hk dX5_why_56 1 rfl ?_
        refine k_aload_n hk dX5_why_57 1 rfl ?_
        refine k_getr (k := 2) 2 0 hk dX5_why_58 rfl (by decide) kc5 (by decide) fl_RX5_20 rfl rfl ?_
        refine k_getf (k := 1) hk dX5_why_61 rfl (by decide) kc3 (by decide) fl_RX5_84 rfl ?_
        refine k_putf (k := 3) hk dX5_why_64 rfl (by decide) kc5 (by decide) fl_RX5_24 rfl rfl rfl rfl (fun σ7 => ?_)
        refine k_iload_n hk dX5_why_67 0 rfl ?_
        refine k_if_eq hk dX5_why_68 76 (by decide) (fun h8 => ?_) (fun h8 => ?_)
        · refine k_aload_n hk dX5_why_76 1 rfl ?_
          refine k_getr (k := 4) 3 0 hk dX5_why_77 rfl (by decide) kc5 (by decide) fl_RX5_29 rfl rfl ?_
          refine k_aload_n hk dX5_why_80 1 rfl ?_
          refine k_getf (k := 5) hk dX5_why_81 rfl (by decide) kc5 (by decide) fl_RX5_33 rfl ?_
          refine k_aaldj (g' := 10) (fun z => z + 2) hk dX5_why_84 rfl rfl rfl (by decide) (fun z => rfl) (by decide) (fun j9 hj9 => ?_)
          refine k_aload_n hk dX5_why_85 1 rfl ?_
          refine k_getr (k := 2) 2 0 hk dX5_why_86 rfl (by decide) kc5 (by decide) fl_RX5_20 rfl rfl ?_
          refine k_getr (k := 0) 10 0 hk dX5_why_89 rfl (by decide) kc3 (by decide) fl_RX5_85 rfl rfl ?_
          refine k_callVv (As := [.ref (kad E 10 0)]) (rest := []) hk he hro (c_X4_copyFrom hj hn hl F j9 0 hj9 (by decide) σ7) dX5_why_92 cw_RX5_89 rfl hj9 kc4 rfl ⟨by decide, by decide⟩ (by decide) rfl (Nat.le_of_ble_eq_true rfl) (fun σ10 => ?_)
          refine k_aload_n hk dX5_why_95 1 rfl ?_
          refine k_dup hk dX5_why_96 rfl ?_
          refine k_getf (k := 5) hk dX5_why_97 rfl (by decide) kc5 (by decide) fl_RX5_33 rfl ?_
          refine k_iconst (v := 1) hk dX5_why_100 (by decide) ?_
          refine k_iadd hk dX5_why_101 ?_
          refine k_putf (k := 5) hk dX5_why_102 rfl (by decide) kc5 (by decide) fl_RX5_33 rfl rfl rfl rfl (fun σ11 => ?_)
          refine k_aload_n hk dX5_why_105 1 rfl ?_
          refine k_getf (k := 5) hk dX5_why_106 rfl (by decide) kc5 (by decide) fl_RX5_33 rfl ?_
          refine k_iconst (v := 1) hk dX5_why_109 (by decide) ?_
          refine k_isub hk dX5_why_110 ?_
          exact k_ireturn hk he dX5_why_111 (by decide)
        · refine k_iload_n hk dX5_why_71 0 rfl ?_
          refine k_bipush (v := 10) hk dX5_why_72 (by decide) ?_
          refine k_isub hk dX5_why_74 ?_
          exact k_ireturn hk he dX5_why_75 (by decide)
      · refine k_aload_n hk dX5_why_36 0 rfl ?_
        refine k_iconst (v := (-1)) hk dX5_why_37 (by decide) ?_
        refine k_putf (k := 3) hk dX5_why_38 rfl (by decide) kc5 (by decide) fl_RX5_24 rfl rfl rfl rfl (fun σ12 => ?_)
        refine k_iconst (v := (-1)) hk dX5_why_41 (by decide) ?_
        exact k_ireturn hk he dX5_why_42 (by decide)
    · exact k_sub [] rfl (s_X5_why_b12 hj hn hl hk he hro F    σ)
def f_X5_fault (F : Nat)  (σ : kS) : Option kR := some (.inl (some (.int (σ.1 0 0 3))), σ)
set_option maxRecDepth 20000 in
theorem c_X5_fault {l : Launch} {E : kE} (hj : kEj E) (hn : kNorm E) (hl : l.stackTraces = false) (F : Nat)   (σ : kS) : kMet l E yX5_fault cX5_fault 1 (some .int) (0) (0) 0 id [.ref (kad E 0 0)] σ (f_X5_fault F  σ) := by
  refine k_met hj hn hl (by decide) (Nat.le_of_ble_eq_true rfl) (fun C Q hk he hro => ?_)
  have hk : kOk (C, E, Q) cX5_fault RX5 1 := hk
  show Sm (C, E, Q) 1 0 0 [(0, .ref (kad E 0 0))] [] σ _
  unfold f_X5_fault
  refine k_aload_n hk dX5_fault_0 0 rfl ?_
  refine k_getf (k := 3) hk dX5_fault_1 rfl (by decide) kc5 (by decide) fl_RX5_24 rfl ?_
  exact k_ireturn hk he dX5_fault_4 (by decide)
def f_X5_weigh (F : Nat) (a1 : Int32) (a2 : Int32) (σ : kS) : Option kR := kBv (f_X5_testWhy F a1 σ) fun σ1 => kBv (f_X5_testWithin F a2 1 99 σ1) fun σ2 => kg (kin a1 6) (kb (σ2.1 23 0 a1.toNatClampNeg) fun y4 => kg (kin a1 6) (kb (kU σ2 23 0 a1.toNatClampNeg a2) fun σ5 => some (.inl (some (.int y4)), σ5)))
set_option maxRecDepth 20000 in
theorem c_X5_weigh {l : Launch} {E : kE} (hj : kEj E) (hn : kNorm E) (hl : l.stackTraces = false) (F : Nat) (a1 : Int32) (a2 : Int32)  (σ : kS) : kMet l E yX5_weigh cX5_weigh 4 (some .int) (9) (162) 2 id [.ref (kad E 0 0), .int a1, .int a2] σ (f_X5_weigh F a1 a2 σ) := by
  refine k_met hj hn hl (by decide) (Nat.le_of_ble_eq_true rfl) (fun C Q hk he hro => ?_)
  have hk : kOk (C, E, Q) cX5_weigh RX5 4 := hk
  show Sm (C, E, Q) 4 0 0 [(0, .ref (kad E 0 0)), (1, .int a1), (2, .int a2)] [] σ _
  unfold f_X5_weigh
  refine k_aload_n hk dX5_weigh_0 0 rfl ?_
  refine k_iload_n hk dX5_weigh_1 1 rfl ?_
  refine k_callVv (As := [.int a1]) (rest := []) hk he hro (c_X5_testWhy hj hn hl F a1  σ) dX5_weigh_2 cw_RX5_93 rfl (by decide) kc5 rfl ⟨by decide, by decide⟩ (by decide) rfl (Nat.le_of_ble_eq_true rfl) (fun σ1 => ?_)
  refine k_iload_n hk dX5_weigh_5 2 rfl ?_
  refine k_iconst (v := 1) hk dX5_weigh_6 (by decide) ?_
  refine k_bipush (v := 99) hk dX5_weigh_7 (by decide) ?_
  refine k_callSv (As := [.int a2, .int 1, .int 99]) (rest := []) hk he hro (c_X5_testWithin hj hn hl F a2 1 99  σ1) dX5_weigh_9 cw_RX5_97 ⟨by decide, by decide⟩ (by decide) rfl (Nat.le_of_ble_eq_true rfl) (fun σ2 => ?_)
  refine k_aload_n hk dX5_weigh_12 0 rfl ?_
  refine k_getr (k := 6) 4 0 hk dX5_weigh_13 rfl (by decide) kc5 (by decide) fl_RX5_39 rfl rfl ?_
  refine k_getr (k := 2) 23 0 hk dX5_weigh_16 rfl (by decide) kc2 (by decide) fl_RX5_101 rfl rfl ?_
  refine k_iload_n hk dX5_weigh_19 1 rfl ?_
  refine k_iald hk dX5_weigh_20 rfl (by decide) (fun h3 => ?_)
  refine k_nm (fun y4 => ?_)
  refine k_istore_n (lv' := [(3, .int y4), (0, .ref (kad E 0 0)), (1, .int a1), (2, .int a2)]) hk dX5_weigh_21 (by decide) rfl ?_
  refine k_aload_n hk dX5_weigh_22 1 rfl ?_
  refine k_getr (k := 6) 4 0 hk dX5_weigh_23 rfl (by decide) kc5 (by decide) fl_RX5_39 rfl rfl ?_
  refine k_getr (k := 2) 23 0 hk dX5_weigh_26 rfl (by decide) kc2 (by decide) fl_RX5_101 rfl rfl ?_
  refine k_iload_n hk dX5_weigh_29 2 rfl ?_
  refine k_iload_n hk dX5_weigh_30 3 rfl ?_
  refine k_iast hk dX5_weigh_31 rfl (by decide) (fun h6 σ5 => ?_)
  refine k_iload_n hk dX5_weigh_32 0 rfl ?_
  exact k_ireturn hk he dX5_weigh_33 (by decide)
def f_X5_set (F : Nat) (a1 : Int32) (a2 : Int32) (σ : kS) : Option kR := kBv (f_X5_testNumber F a1 a2 σ) fun σ1 => kg (kin a1 10) (kb (σ1.1 21 0 a1.toNatClampNeg) fun y3 => kg (kin a1 10) (kb (kU σ1 21 0 a1.toNatClampNeg a2) fun σ4 => kBv (f_X5_forgetRuns F  σ4) fun σ6 => some (.inl (some (.int y3)), σ6)))
set_option maxRecDepth 20000 in
theorem c_X5_set {l : Launch} {E : kE} (hj : kEj E) (hn : kNorm E) (hl : l.stackTraces = false) (F : Nat) (a1 : Int32) (a2 : Int32)  (σ : kS) : kMet l E yX5_set cX5_set 4 (some .int) (9) (161) 1 id [.ref (kad E 0 0), .int a1, .int a2] σ (f_X5_set F a1 a2 σ) := by
  refine k_met hj hn hl (by decide) (Nat.le_of_ble_eq_true rfl) (fun C Q hk he hro => ?_)
  have hk : kOk (C, E, Q) cX5_set RX5 4 := hk
  show Sm (C, E, Q) 4 0 0 [(0, .ref (kad E 0 0)), (1, .int a1), (2, .int a2)] [] σ _
  unfold f_X5_set
  refine k_iload_n hk dX5_set_0 1 rfl ?_
  refine k_iload_n hk dX5_set_1 2 rfl ?_
  refine k_callSv (As := [.int a1, .int a2]) (rest := []) hk he hro (c_X5_testNumber hj hn hl F a1 a2  σ) dX5_set_2 cw_RX5_104 ⟨by decide, by decide⟩ (by decide) rfl (Nat.le_of_ble_eq_true rfl) (fun σ1 => ?_)
  refine k_aload_n hk dX5_set_5 0 rfl ?_
  refine k_getr (k := 6) 4 0 hk dX5_set_6 rfl (by decide) kc5 (by decide) fl_RX5_39 rfl rfl ?_
  refine k_getr (k := 0) 21 0 hk dX5_set_9 rfl (by decide) kc2 (by decide) fl_RX5_108 rfl rfl ?_
  refine k_iload_n hk dX5_set_12 1 rfl ?_
  refine k_iald hk dX5_set_13 rfl (by decide) (fun h2 => ?_)
  refine k_nm (fun y3 => ?_)
  refine k_istore_n (lv' := [(3, .int y3), (0, .ref (kad E 0 0)), (1, .int a1), (2, .int a2)]) hk dX5_set_14 (by decide) rfl ?_
  refine k_aload_n hk dX5_set_15 1 rfl ?_
  refine k_getr (k := 6) 4 0 hk dX5_set_16 rfl (by decide) kc5 (by decide) fl_RX5_39 rfl rfl ?_
  refine k_getr (k := 0) 21 0 hk dX5_set_19 rfl (by decide) kc2 (by decide) fl_RX5_108 rfl rfl ?_
  refine k_iload_n hk dX5_set_22 2 rfl ?_
  refine k_iload_n hk dX5_set_23 3 rfl ?_
  refine k_iast hk dX5_set_24 rfl (by decide) (fun h5 σ4 => ?_)
  refine k_aload_n hk dX5_set_25 1 rfl ?_
  refine k_callVv (As := []) (rest := []) hk he hro (c_X5_forgetRuns hj hn hl F   σ4) dX5_set_26 cw_RX5_111 rfl (by decide) kc5 rfl ⟨by decide, by decide⟩ (by decide) rfl (Nat.le_of_ble_eq_true rfl) (fun σ6 => ?_)
  refine k_iload_n hk dX5_set_29 0 rfl ?_
  exact k_ireturn hk he dX5_set_30 (by decide)
def f_X5_fill (F : Nat) (a1 : Int32) (a2 : Int32) (σ : kS) : Option kR := kBv (f_X5_testCell F a1 σ) fun σ1 => kBv (f_X5_testWithin F a2 0 999 σ1) fun σ2 => kg (kin a1 8) (kb (σ2.1 22 0 a1.toNatClampNeg) fun y4 => kg (kin a1 8) (kb (kU σ2 22 0 a1.toNatClampNeg a2) fun σ5 => kBv (f_X5_forgetRuns F  σ5) fun σ7 => some (.inl (some (.int y4)), σ7)))
set_option maxRecDepth 20000 in
theorem c_X5_fill {l : Launch} {E : kE} (hj : kEj E) (hn : kNorm E) (hl : l.stackTraces = false) (F : Nat) (a1 : Int32) (a2 : Int32)  (σ : kS) : kMet l E yX5_fill cX5_fill 4 (some .int) (9) (162) 2 id [.ref (kad E 0 0), .int a1, .int a2] σ (f_X5_fill F a1 a2 σ) := by
  refine k_met hj hn hl (by decide) (Nat.le_of_ble_eq_true rfl) (fun C Q hk he hro => ?_)
  have hk : kOk (C, E, Q) cX5_fill RX5 4 := hk
  show Sm (C, E, Q) 4 0 0 [(0, .ref (kad E 0 0)), (1, .int a1), (2, .int a2)] [] σ _
  unfold f_X5_fill
  refine k_iload_n hk dX5_fill_0 1 rfl ?_
  refine k_callSv (As := [.int a1]) (rest := []) hk he hro (c_X5_testCell hj hn hl F a1  σ) dX5_fill_1 cw_RX5_114 ⟨by decide, by decide⟩ (by decide) rfl (Nat.le_of_ble_eq_true rfl) (fun σ1 => ?_)
  refine k_iload_n hk dX5_fill_4 2 rfl ?_
  refine k_iconst (v := 0) hk dX5_fill_5 (by decide) ?_
  refine k_sipush (v := 999) hk dX5_fill_6 (by decide) ?_
  refine k_callSv (As := [.int a2, .int 0, .int 999]) (rest := []) hk he hro (c_X5_testWithin hj hn hl F a2 0 999  σ1) dX5_fill_9 cw_RX5_97 ⟨by decide, by decide⟩ (by decide) rfl (Nat.le_of_ble_eq_true rfl) (fun σ2 => ?_)
  refine k_aload_n hk dX5_fill_12 0 rfl ?_
  refine k_getr (k := 6) 4 0 hk dX5_fill_13 rfl (by decide) kc5 (by decide) fl_RX5_39 rfl rfl ?_
  refine k_getr (k := 1) 22 0 hk dX5_fill_16 rfl (by decide) kc2 (by decide) fl_RX5_117 rfl rfl ?_
  refine k_iload_n hk dX5_fill_19 1 rfl ?_
  refine k_iald hk dX5_fill_20 rfl (by decide) (fun h3 => ?_)
  refine k_nm (fun y4 => ?_)
  refine k_istore_n (lv' := [(3, .int y4), (0, .ref (kad E 0 0)), (1, .int a1), (2, .int a2)]) hk dX5_fill_21 (by decide) rfl ?_
  refine k_aload_n hk dX5_fill_22 1 rfl ?_
  refine k_getr (k := 6) 4 0 hk dX5_fill_23 rfl (by decide) kc5 (by decide) fl_RX5_39 rfl rfl ?_
  refine k_getr (k := 1) 22 0 hk dX5_fill_26 rfl (by decide) kc2 (by decide) fl_RX5_117 rfl rfl ?_
  refine k_iload_n hk dX5_fill_29 2 rfl ?_
  refine k_iload_n hk dX5_fill_30 3 rfl ?_
  refine k_iast hk dX5_fill_31 rfl (by decide) (fun h6 σ5 => ?_)
  refine k_aload_n hk dX5_fill_32 1 rfl ?_
  refine k_callVv (As := []) (rest := []) hk he hro (c_X5_forgetRuns hj hn hl F   σ5) dX5_fill_33 cw_RX5_111 rfl (by decide) kc5 rfl ⟨by decide, by decide⟩ (by decide) rfl (Nat.le_of_ble_eq_true rfl) (fun σ7 => ?_)
  refine k_iload_n hk dX5_fill_36 0 rfl ?_
  exact k_ireturn hk he dX5_fill_37 (by decide)
def f_X5_row (F : Nat) (a1 : Int32) (a2 : Int32) (a3 : Int32) (a4 : Int32) (a5 : Int32) (σ : kS) : Option kR := kBv (f_X5_testWithin F a1 0 5 σ) fun σ1 => kBv (f_X5_testWithin F a2 0 99 σ1) fun σ2 => kBv (f_X5_testWithin F a3 0 7 σ2) fun σ3 => kBv (f_X5_testRowValue F a1 a4 σ3) fun σ4 => kBv (f_X5_testWithin F a5 0 8 σ4) fun σ5 => kb (σ5.1 4 0 3) fun y6 => if y6 < 10 then (kg (kin y6 10) (kb (kU σ5 24 0 y6.toNatClampNeg a1) fun σ8 => kg (kin y6 10) (kb (kU σ8 25 0 y6.toNatClampNeg a2) fun σ10 => kg (kin y6 10) (kb (kU σ10 26 0 y6.toNatClampNeg a3) fun σ12 => kg (kin y6 10) (kb (kU σ12 27 0 y6.toNatClampNeg a4) fun σ14 => kg (kin y6 10) (kb (kU σ14 28 0 y6.toNatClampNeg a5) fun σ16 => kg (kin y6 10) (kb (kU σ16 29 0 y6.toNatClampNeg 0) fun σ18 => kb (kU σ18 4 0 3 (y6 + 1)) fun σ20 => some (.inl (some (.int y6)), σ20)))))))) else (some (.inl (some (.int (-1))), σ5))
set_option maxRecDepth 20000 in
theorem c_X5_row {l : Launch} {E : kE} (hj : kEj E) (hn : kNorm E) (hl : l.stackTraces = false) (F : Nat) (a1 : Int32) (a2 : Int32) (a3 : Int32) (a4 : Int32) (a5 : Int32)  (σ : kS) : kMet l E yX5_row cX5_row 7 (some .int) (10) (183) 8 id [.ref (kad E 0 0), .int a1, .int a2, .int a3, .int a4, .int a5] σ (f_X5_row F a1 a2 a3 a4 a5 σ) := by
  refine k_met hj hn hl (by decide) (Nat.le_of_ble_eq_true rfl) (fun C Q hk he hro => ?_)
  have hk : kOk (C, E, Q) cX5_row RX5 7 := hk
  show Sm (C, E, Q) 7 0 0 [(0, .ref (kad E 0 0)), (1, .int a1), (2, .int a2), (3, .int a3), (4, .int a4), (5, .int a5)] [] σ _
  unfold f_X5_row
  refine k_iload_n hk dX5_row_0 1 rfl ?_
  refine k_iconst (v := 0) hk dX5_row_1 (by decide) ?_
  refine k_iconst (v := 5) hk dX5_row_2 (by decide) ?_
  refine k_callSv (As := [.int a1, .int 0, .int 5]) (rest := []) hk he hro (c_X5_testWithin hj hn hl F a1 0 5  σ) dX5_row_3 cw_RX5_97 ⟨by decide, by decide⟩ (by decide) rfl (Nat.le_of_ble_eq_true rfl) (fun σ1 => ?_)
  refine k_iload_n hk dX5_row_6 2 rfl ?_
  refine k_iconst (v := 0) hk dX5_row_7 (by decide) ?_
  refine k_bipush (v := 99) hk dX5_row_8 (by decide) ?_
  refine k_callSv (As := [.int a2, .int 0, .int 99]) (rest := []) hk he hro (c_X5_testWithin hj hn hl F a2 0 99  σ1) dX5_row_10 cw_RX5_97 ⟨by decide, by decide⟩ (by decide) rfl (Nat.le_of_ble_eq_true rfl) (fun σ2 => ?_)
  refine k_iload_n hk dX5_row_13 3 rfl ?_
  refine k_iconst (v := 0) hk dX5_row_14 (by decide) ?_
  refine k_bipush (v := 7) hk dX5_row_15 (by decide) ?_
  refine k_callSv (As := [.int a3, .int 0, .int 7]) (rest := []) hk he hro (c_X5_testWithin hj hn hl F a3 0 7  σ2) dX5_row_17 cw_RX5_97 ⟨by decide, by decide⟩ (by decide) rfl (Nat.le_of_ble_eq_true rfl) (fun σ3 => ?_)
  refine k_iload_n hk dX5_row_20 1 rfl ?_
  refine k_iload hk dX5_row_21 4 rfl ?_
  refine k_callSv (As := [.int a1, .int a4]) (rest := []) hk he hro (c_X5_testRowValue hj hn hl F a1 a4  σ3) dX5_row_23 cw_RX5_174 ⟨by decide, by decide⟩ (by decide) rfl (Nat.le_of_ble_eq_true rfl) (fun σ4 => ?_)
  refine k_iload hk dX5_row_26 5 rfl ?_
  refine k_iconst (v := 0) hk dX5_row_28 (by decide) ?_
  refine k_bipush (v := 8) hk dX5_row_29 (by decide) ?_
  refine k_callSv (As := [.int a5, .int 0, .int 8]) (rest := []) hk he hro (c_X5_testWithin hj hn hl F a5 0 8  σ4) dX5_row_31 cw_RX5_97 ⟨by decide, by decide⟩ (by decide) rfl (Nat.le_of_ble_eq_true rfl) (fun σ5 => ?_)
  refine k_aload_n hk dX5_row_34 0 rfl ?_
  refine k_getr (k := 6) 4 0 hk dX5_row_35 rfl (by decide) kc5 (by decide) fl_RX5_39 rfl rfl ?_
  refine k_getf (k := 3) hk dX5_row_38 rfl (by decide) kc2 (by decide) fl_RX5_177 rfl ?_
  refine k_nm (fun y6 => ?_)
  refine k_istore (lv' := [(6, .int y6), (0, .ref (kad E 0 0)), (1, .int a1), (2, .int a2), (3, .int a3), (4, .int a4), (5, .int a5)]) hk dX5_row_41 (by decide) rfl ?_
  refine k_iload hk dX5_row_43 0 rfl ?_
  refine k_bipush (v := 10) hk dX5_row_45 (by decide) ?_
  refine k_icmp_lt hk dX5_row_47 52 (by decide) (fun h7 => ?_) (fun h7 => ?_)
  · refine k_aload_n hk dX5_row_52 1 rfl ?_
    refine k_getr (k := 6) 4 0 hk dX5_row_53 rfl (by decide) kc5 (by decide) fl_RX5_39 rfl rfl ?_
    refine k_getr (k := 4) 24 0 hk dX5_row_56 rfl (by decide) kc2 (by decide) fl_RX5_180 rfl rfl ?_
    refine k_iload hk dX5_row_59 0 rfl ?_
    refine k_iload_n hk dX5_row_61 2 rfl ?_
    refine k_iast hk dX5_row_62 rfl (by decide) (fun h9 σ8 => ?_)
    refine k_aload_n hk dX5_row_63 1 rfl ?_
    refine k_getr (k := 6) 4 0 hk dX5_row_64 rfl (by decide) kc5 (by decide) fl_RX5_39 rfl rfl ?_
    refine k_getr (k := 5) 25 0 hk dX5_row_67 rfl (by decide) kc2 (by decide) fl_RX5_183 rfl rfl ?_
    refine k_iload hk dX5_row_70 0 rfl ?_
    refine k_iload_n hk dX5_row_72 3 rfl ?_
    refine k_iast hk dX5_row_73 rfl (by decide) (fun h11 σ10 => ?_)
    refine k_aload_n hk dX5_row_74 1 rfl ?_
    refine k_getr (k := 6) 4 0 hk dX5_row_75 rfl (by decide) kc5 (by decide) fl_RX5_39 rfl rfl ?_
    refine k_getr (k := 6) 26 0 hk dX5_row_78 rfl (by decide) kc2 (by decide) fl_RX5_186 rfl rfl ?_
    refine k_iload hk dX5_row_81 0 rfl ?_
    refine k_iload_n hk dX5_row_83 4 rfl ?_
    refine k_iast hk dX5_row_84 rfl (by decide) (fun h13 σ12 => ?_)
    refine k_aload_n hk dX5_row_85 1 rfl ?_
    refine k_getr (k := 6) 4 0 hk dX5_row_86 rfl (by decide) kc5 (by decide) fl_RX5_39 rfl rfl ?_
    refine k_getr (k := 7) 27 0 hk dX5_row_89 rfl (by decide) kc2 (by decide) fl_RX5_189 rfl rfl ?_
    refine k_iload hk dX5_row_92 0 rfl ?_
    refine k_iload hk dX5_row_94 5 rfl ?_
    refine k_iast hk dX5_row_96 rfl (by decide) (fun h15 σ14 => ?_)
    refine k_aload_n hk dX5_row_97 1 rfl ?_
    refine k_getr (k := 6) 4 0 hk dX5_row_98 rfl (by decide) kc5 (by decide) fl_RX5_39 rfl rfl ?_
    refine k_getr (k := 8) 28 0 hk dX5_row_101 rfl (by decide) kc2 (by decide) fl_RX5_192 rfl rfl ?_
    refine k_iload hk dX5_row_104 0 rfl ?_
    refine k_iload hk dX5_row_106 6 rfl ?_
    refine k_iast hk dX5_row_108 rfl (by decide) (fun h17 σ16 => ?_)
    refine k_aload_n hk dX5_row_109 1 rfl ?_
    refine k_getr (k := 6) 4 0 hk dX5_row_110 rfl (by decide) kc5 (by decide) fl_RX5_39 rfl rfl ?_
    refine k_getr (k := 9) 29 0 hk dX5_row_113 rfl (by decide) kc2 (by decide) fl_RX5_195 rfl rfl ?_
    refine k_iload hk dX5_row_116 0 rfl ?_
    refine k_iconst (v := 0) hk dX5_row_118 (by decide) ?_
    refine k_iast hk dX5_row_119 rfl (by decide) (fun h19 σ18 => ?_)
    refine k_aload_n hk dX5_row_120 1 rfl ?_
    refine k_getr (k := 6) 4 0 hk dX5_row_121 rfl (by decide) kc5 (by decide) fl_RX5_39 rfl rfl ?_
    refine k_iload hk dX5_row_124 0 rfl ?_
    refine k_iconst (v := 1) hk dX5_row_126 (by decide) ?_
    refine k_iadd hk dX5_row_127 ?_
    refine k_putf (k := 3) hk dX5_row_128 rfl (by decide) kc2 (by decide) fl_RX5_177 rfl rfl rfl rfl (fun σ20 => ?_)
    refine k_iload hk dX5_row_131 0 rfl ?_
    exact k_ireturn hk he dX5_row_133 (by decide)
  · refine k_iconst (v := (-1)) hk dX5_row_50 (by decide) ?_
    exact k_ireturn hk he dX5_row_51 (by decide)
def f_X5_asked (F : Nat) (a1 : Int32) (a2 : Int32) (σ : kS) : Option kR := kBv (f_X5_testRow F a1 σ) fun σ1 => kBv (f_X5_testWithin F a2 0 99 σ1) fun σ2 => kg (kin a1 10) (kb (kU σ2 29 0 a1.toNatClampNeg a2) fun σ3 => kBi (f_X2_wrongOf F 0 a1 σ3) fun c6 σ5 => some (.inl (some (.int c6)), σ5))
set_option maxRecDepth 20000 in
theorem c_X5_asked {l : Launch} {E : kE} (hj : kEj E) (hn : kNorm E) (hl : l.stackTraces = false) (F : Nat) (a1 : Int32) (a2 : Int32)  (σ : kS) : kMet l E yX5_asked cX5_asked 3 (some .int) (9) (162) 2 id [.ref (kad E 0 0), .int a1, .int a2] σ (f_X5_asked F a1 a2 σ) := by
  refine k_met hj hn hl (by decide) (Nat.le_of_ble_eq_true rfl) (fun C Q hk he hro => ?_)
  have hk : kOk (C, E, Q) cX5_asked RX5 3 := hk
  show Sm (C, E, Q) 3 0 0 [(0, .ref (kad E 0 0)), (1, .int a1), (2, .int a2)] [] σ _
  unfold f_X5_asked
  refine k_aload_n hk dX5_asked_0 0 rfl ?_
  refine k_iload_n hk dX5_asked_1 1 rfl ?_
  refine k_callVv (As := [.int a1]) (rest := []) hk he hro (c_X5_testRow hj hn hl F a1  σ) dX5_asked_2 cw_RX5_198 rfl (by decide) kc5 rfl ⟨by decide, by decide⟩ (by decide) rfl (Nat.le_of_ble_eq_true rfl) (fun σ1 => ?_)
  refine k_iload_n hk dX5_asked_5 2 rfl ?_
  refine k_iconst (v := 0) hk dX5_asked_6 (by decide) ?_
  refine k_bipush (v := 99) hk dX5_asked_7 (by decide) ?_
  refine k_callSv (As := [.int a2, .int 0, .int 99]) (rest := []) hk he hro (c_X5_testWithin hj hn hl F a2 0 99  σ1) dX5_asked_9 cw_RX5_97 ⟨by decide, by decide⟩ (by decide) rfl (Nat.le_of_ble_eq_true rfl) (fun σ2 => ?_)
  refine k_aload_n hk dX5_asked_12 0 rfl ?_
  refine k_getr (k := 6) 4 0 hk dX5_asked_13 rfl (by decide) kc5 (by decide) fl_RX5_39 rfl rfl ?_
  refine k_getr (k := 9) 29 0 hk dX5_asked_16 rfl (by decide) kc2 (by decide) fl_RX5_195 rfl rfl ?_
  refine k_iload_n hk dX5_asked_19 1 rfl ?_
  refine k_iload_n hk dX5_asked_20 2 rfl ?_
  refine k_iast hk dX5_asked_21 rfl (by decide) (fun h4 σ3 => ?_)
  refine k_aload_n hk dX5_asked_22 0 rfl ?_
  refine k_getr (k := 6) 4 0 hk dX5_asked_23 rfl (by decide) kc5 (by decide) fl_RX5_39 rfl rfl ?_
  refine k_iload_n hk dX5_asked_26 1 rfl ?_
  refine k_callVi (As := [.int a1]) (rest := []) hk he hro (c_X2_wrongOf hj hn hl F 0 a1 (by decide) σ3) dX5_asked_27 cw_RX5_201 rfl (by decide) kc2 rfl ⟨by decide, by decide⟩ (by decide) rfl (Nat.le_of_ble_eq_true rfl) (fun c6 σ5 => ?_)
  exact k_ireturn hk he dX5_asked_30 (by decide)
def f_X5_before (F : Nat) (a1 : Int32) (a2 : Int32) (σ : kS) : Option kR := kBv (f_X5_testNumber F 0 a1 σ) fun σ1 => kBv (f_X5_testNumber F 2 a2 σ1) fun σ2 => kb (σ2.1 4 0 10) fun y3 => if y3 < 10 then (kg (kin y3 10) (kb (kU σ2 30 0 y3.toNatClampNeg a1) fun σ5 => kg (kin y3 10) (kb (kU σ5 31 0 y3.toNatClampNeg a2) fun σ7 => kb (kU σ7 4 0 10 (y3 + 1)) fun σ9 => kBv (f_X5_forgetBurnt F  σ9) fun σ10 => some (.inl (some (.int (σ10.1 4 0 10))), σ10)))) else (some (.inl (some (.int (-1))), σ2))
set_option maxRecDepth 20000 in
theorem c_X5_before {l : Launch} {E : kE} (hj : kEj E) (hn : kNorm E) (hl : l.stackTraces = false) (F : Nat) (a1 : Int32) (a2 : Int32)  (σ : kS) : kMet l E yX5_before cX5_before 4 (some .int) (9) (161) 2 id [.ref (kad E 0 0), .int a1, .int a2] σ (f_X5_before F a1 a2 σ) := by
  refine k_met hj hn hl (by decide) (Nat.le_of_ble_eq_true rfl) (fun C Q hk he hro => ?_)
  have hk : kOk (C, E, Q) cX5_before RX5 4 := hk
  show Sm (C, E, Q) 4 0 0 [(0, .ref (kad E 0 0)), (1, .int a1), (2, .int a2)] [] σ _
  unfold f_X5_before
  refine k_iconst (v := 0) hk dX5_before_0 (by decide) ?_
  refine k_iload_n hk dX5_before_1 1 rfl ?_
  refine k_callSv (As := [.int 0, .int a1]) (rest := []) hk he hro (c_X5_testNumber hj hn hl F 0 a1  σ) dX5_before_2 cw_RX5_104 ⟨by decide, by decide⟩ (by decide) rfl (Nat.le_of_ble_eq_true rfl) (fun σ1 => ?_)
  refine k_iconst (v := 2) hk dX5_before_5 (by decide) ?_
  refine k_iload_n hk dX5_before_6 2 rfl ?_
  refine k_callSv (As := [.int 2, .int a2]) (rest := []) hk he hro (c_X5_testNumber hj hn hl F 2 a2  σ1) dX5_before_7 cw_RX5_104 ⟨by decide, by decide⟩ (by decide) rfl (Nat.le_of_ble_eq_true rfl) (fun σ2 => ?_)
  refine k_aload_n hk dX5_before_10 0 rfl ?_
  refine k_getr (k := 6) 4 0 hk dX5_before_11 rfl (by decide) kc5 (by decide) fl_RX5_39 rfl rfl ?_
  refine k_getf (k := 10) hk dX5_before_14 rfl (by decide) kc2 (by decide) fl_RX5_226 rfl ?_
  refine k_nm (fun y3 => ?_)
  refine k_istore_n (lv' := [(3, .int y3), (0, .ref (kad E 0 0)), (1, .int a1), (2, .int a2)]) hk dX5_before_17 (by decide) rfl ?_
  refine k_iload_n hk dX5_before_18 0 rfl ?_
  refine k_bipush (v := 10) hk dX5_before_19 (by decide) ?_
  refine k_icmp_lt hk dX5_before_21 26 (by decide) (fun h4 => ?_) (fun h4 => ?_)
  · refine k_aload_n hk dX5_before_26 1 rfl ?_
    refine k_getr (k := 6) 4 0 hk dX5_before_27 rfl (by decide) kc5 (by decide) fl_RX5_39 rfl rfl ?_
    refine k_getr (k := 11) 30 0 hk dX5_before_30 rfl (by decide) kc2 (by decide) fl_RX5_229 rfl rfl ?_
    refine k_iload_n hk dX5_before_33 0 rfl ?_
    refine k_iload_n hk dX5_before_34 2 rfl ?_
    refine k_iast hk dX5_before_35 rfl (by decide) (fun h6 σ5 => ?_)
    refine k_aload_n hk dX5_before_36 1 rfl ?_
    refine k_getr (k := 6) 4 0 hk dX5_before_37 rfl (by decide) kc5 (by decide) fl_RX5_39 rfl rfl ?_
    refine k_getr (k := 12) 31 0 hk dX5_before_40 rfl (by decide) kc2 (by decide) fl_RX5_232 rfl rfl ?_
    refine k_iload_n hk dX5_before_43 0 rfl ?_
    refine k_iload_n hk dX5_before_44 3 rfl ?_
    refine k_iast hk dX5_before_45 rfl (by decide) (fun h8 σ7 => ?_)
    refine k_aload_n hk dX5_before_46 1 rfl ?_
    refine k_getr (k := 6) 4 0 hk dX5_before_47 rfl (by decide) kc5 (by decide) fl_RX5_39 rfl rfl ?_
    refine k_iload_n hk dX5_before_50 0 rfl ?_
    refine k_iconst (v := 1) hk dX5_before_51 (by decide) ?_
    refine k_iadd hk dX5_before_52 ?_
    refine k_putf (k := 10) hk dX5_before_53 rfl (by decide) kc2 (by decide) fl_RX5_226 rfl rfl rfl rfl (fun σ9 => ?_)
    refine k_aload_n hk dX5_before_56 1 rfl ?_
    refine k_callVv (As := []) (rest := []) hk he hro (c_X5_forgetBurnt hj hn hl F   σ9) dX5_before_57 cw_RX5_235 rfl (by decide) kc5 rfl ⟨by decide, by decide⟩ (by decide) rfl (Nat.le_of_ble_eq_true rfl) (fun σ10 => ?_)
    refine k_aload_n hk dX5_before_60 1 rfl ?_
    refine k_getr (k := 6) 4 0 hk dX5_before_61 rfl (by decide) kc5 (by decide) fl_RX5_39 rfl rfl ?_
    refine k_getf (k := 10) hk dX5_before_64 rfl (by decide) kc2 (by decide) fl_RX5_226 rfl ?_
    exact k_ireturn hk he dX5_before_67 (by decide)
  · refine k_iconst (v := (-1)) hk dX5_before_24 (by decide) ?_
    exact k_ireturn hk he dX5_before_25 (by decide)
def f_X5_option (F : Nat) (a1 : Int32) (a2 : Int32) (a3 : Int32) (σ : kS) : Option kR := kBv (f_X5_testNumber F a1 a2 σ) fun σ1 => kBv (f_X5_testWithin F a3 0 999 σ1) fun σ2 => kb (σ2.1 4 0 13) fun y3 => if y3 < 5 then (kg (kin y3 5) (kb (kU σ2 32 0 y3.toNatClampNeg a1) fun σ5 => kg (kin y3 5) (kb (kU σ5 33 0 y3.toNatClampNeg a2) fun σ7 => kg (kin y3 5) (kb (kU σ7 34 0 y3.toNatClampNeg a3) fun σ9 => kb (kU σ9 4 0 13 (y3 + 1)) fun σ11 => some (.inl (some (.int y3)), σ11))))) else (some (.inl (some (.int (-1))), σ2))
set_option maxRecDepth 20000 in
theorem c_X5_option {l : Launch} {E : kE} (hj : kEj E) (hn : kNorm E) (hl : l.stackTraces = false) (F : Nat) (a1 : Int32) (a2 : Int32) (a3 : Int32)  (σ : kS) : kMet l E yX5_option cX5_option 5 (some .int) (9) (162) 2 id [.ref (kad E 0 0), .int a1, .int a2, .int a3] σ (f_X5_option F a1 a2 a3 σ) := by
  refine k_met hj hn hl (by decide) (Nat.le_of_ble_eq_true rfl) (fun C Q hk he hro => ?_)
  have hk : kOk (C, E, Q) cX5_option RX5 5 := hk
  show Sm (C, E, Q) 5 0 0 [(0, .ref (kad E 0 0)), (1, .int a1), (2, .int a2), (3, .int a3)] [] σ _
  unfold f_X5_option
  refine k_iload_n hk dX5_option_0 1 rfl ?_
  refine k_iload_n hk dX5_option_1 2 rfl ?_
  refine k_callSv (As := [.int a1, .int a2]) (rest := []) hk he hro (c_X5_testNumber hj hn hl F a1 a2  σ) dX5_option_2 cw_RX5_104 ⟨by decide, by decide⟩ (by decide) rfl (Nat.le_of_ble_eq_true rfl) (fun σ1 => ?_)
  refine k_iload_n hk dX5_option_5 3 rfl ?_
  refine k_iconst (v := 0) hk dX5_option_6 (by decide) ?_
  refine k_sipush (v := 999) hk dX5_option_7 (by decide) ?_
  refine k_callSv (As := [.int a3, .int 0, .int 999]) (rest := []) hk he hro (c_X5_testWithin hj hn hl F a3 0 999  σ1) dX5_option_10 cw_RX5_97 ⟨by decide, by decide⟩ (by decide) rfl (Nat.le_of_ble_eq_true rfl) (fun σ2 => ?_)
  refine k_aload_n hk dX5_option_13 0 rfl ?_
  refine k_getr (k := 6) 4 0 hk dX5_option_14 rfl (by decide) kc5 (by decide) fl_RX5_39 rfl rfl ?_
  refine k_getf (k := 13) hk dX5_option_17 rfl (by decide) kc2 (by decide) fl_RX5_241 rfl ?_
  refine k_nm (fun y3 => ?_)
  refine k_istore (lv' := [(4, .int y3), (0, .ref (kad E 0 0)), (1, .int a1), (2, .int a2), (3, .int a3)]) hk dX5_option_20 (by decide) rfl ?_
  refine k_iload hk dX5_option_22 0 rfl ?_
  refine k_iconst (v := 5) hk dX5_option_24 (by decide) ?_
  refine k_icmp_lt hk dX5_option_25 30 (by decide) (fun h4 => ?_) (fun h4 => ?_)
  · refine k_aload_n hk dX5_option_30 1 rfl ?_
    refine k_getr (k := 6) 4 0 hk dX5_option_31 rfl (by decide) kc5 (by decide) fl_RX5_39 rfl rfl ?_
    refine k_getr (k := 14) 32 0 hk dX5_option_34 rfl (by decide) kc2 (by decide) fl_RX5_244 rfl rfl ?_
    refine k_iload hk dX5_option_37 0 rfl ?_
    refine k_iload_n hk dX5_option_39 2 rfl ?_
    refine k_iast hk dX5_option_40 rfl (by decide) (fun h6 σ5 => ?_)
    refine k_aload_n hk dX5_option_41 1 rfl ?_
    refine k_getr (k := 6) 4 0 hk dX5_option_42 rfl (by decide) kc5 (by decide) fl_RX5_39 rfl rfl ?_
    refine k_getr (k := 15) 33 0 hk dX5_option_45 rfl (by decide) kc2 (by decide) fl_RX5_247 rfl rfl ?_
    refine k_iload hk dX5_option_48 0 rfl ?_
    refine k_iload_n hk dX5_option_50 3 rfl ?_
    refine k_iast hk dX5_option_51 rfl (by decide) (fun h8 σ7 => ?_)
    refine k_aload_n hk dX5_option_52 1 rfl ?_
    refine k_getr (k := 6) 4 0 hk dX5_option_53 rfl (by decide) kc5 (by decide) fl_RX5_39 rfl rfl ?_
    refine k_getr (k := 16) 34 0 hk dX5_option_56 rfl (by decide) kc2 (by decide) fl_RX5_250 rfl rfl ?_
    refine k_iload hk dX5_option_59 0 rfl ?_
    refine k_iload_n hk dX5_option_61 4 rfl ?_
    refine k_iast hk dX5_option_62 rfl (by decide) (fun h10 σ9 => ?_)
    refine k_aload_n hk dX5_option_63 1 rfl ?_
    refine k_getr (k := 6) 4 0 hk dX5_option_64 rfl (by decide) kc5 (by decide) fl_RX5_39 rfl rfl ?_
    refine k_iload hk dX5_option_67 0 rfl ?_
    refine k_iconst (v := 1) hk dX5_option_69 (by decide) ?_
    refine k_iadd hk dX5_option_70 ?_
    refine k_putf (k := 13) hk dX5_option_71 rfl (by decide) kc2 (by decide) fl_RX5_241 rfl rfl rfl rfl (fun σ11 => ?_)
    refine k_iload hk dX5_option_74 0 rfl ?_
    exact k_ireturn hk he dX5_option_76 (by decide)
  · refine k_iconst (v := (-1)) hk dX5_option_28 (by decide) ?_
    exact k_ireturn hk he dX5_option_29 (by decide)
def f_X5_image (F : Nat)  (σ : kS) : Option kR := if (σ.1 0 0 8) < 3 then (kg (kin (σ.1 0 0 8) 3) (kb ((σ.1 0 0 8).toNatClampNeg + 1) fun j2 => kBv (f_X2_copyFrom F j2 0 σ) fun σ3 => kb (kU σ3 0 0 8 ((σ3.1 0 0 8) + 1)) fun σ4 => some (.inl (some (.int (σ4.1 0 0 8))), σ4))) else (some (.inl (some (.int (-1))), σ))
set_option maxRecDepth 20000 in
theorem c_X5_image {l : Launch} {E : kE} (hj : kEj E) (hn : kNorm E) (hl : l.stackTraces = false) (F : Nat)   (σ : kS) : kMet l E yX5_image cX5_image 1 (some .int) (3) (81) 0 id [.ref (kad E 0 0)] σ (f_X5_image F  σ) := by
  refine k_met hj hn hl (by decide) (Nat.le_of_ble_eq_true rfl) (fun C Q hk he hro => ?_)
  have hk : kOk (C, E, Q) cX5_image RX5 1 := hk
  show Sm (C, E, Q) 1 0 0 [(0, .ref (kad E 0 0))] [] σ _
  unfold f_X5_image
  refine k_aload_n hk dX5_image_0 0 rfl ?_
  refine k_getf (k := 8) hk dX5_image_1 rfl (by decide) kc5 (by decide) fl_RX5_47 rfl ?_
  refine k_iconst (v := 3) hk dX5_image_4 (by decide) ?_
  refine k_icmp_lt hk dX5_image_5 10 (by decide) (fun h1 => ?_) (fun h1 => ?_)
  · refine k_aload_n hk dX5_image_10 0 rfl ?_
    refine k_getr (k := 7) 5 0 hk dX5_image_11 rfl (by decide) kc5 (by decide) fl_RX5_43 rfl rfl ?_
    refine k_aload_n hk dX5_image_14 0 rfl ?_
    refine k_getf (k := 8) hk dX5_image_15 rfl (by decide) kc5 (by decide) fl_RX5_47 rfl ?_
    refine k_aaldj (g' := 4) (fun z => z + 1) hk dX5_image_18 rfl rfl rfl (by decide) (fun z => rfl) (by decide) (fun j2 hj2 => ?_)
    refine k_aload_n hk dX5_image_19 0 rfl ?_
    refine k_getr (k := 6) 4 0 hk dX5_image_20 rfl (by decide) kc5 (by decide) fl_RX5_39 rfl rfl ?_
    refine k_callVv (As := [.ref (kad E 4 0)]) (rest := []) hk he hro (c_X2_copyFrom hj hn hl F j2 0 hj2 (by decide) σ) dX5_image_23 cw_RX5_297 rfl hj2 kc2 rfl ⟨by decide, by decide⟩ (by decide) rfl (Nat.le_of_ble_eq_true rfl) (fun σ3 => ?_)
    refine k_aload_n hk dX5_image_26 0 rfl ?_
    refine k_dup hk dX5_image_27 rfl ?_
    refine k_getf (k := 8) hk dX5_image_28 rfl (by decide) kc5 (by decide) fl_RX5_47 rfl ?_
    refine k_iconst (v := 1) hk dX5_image_31 (by decide) ?_
    refine k_iadd hk dX5_image_32 ?_
    refine k_putf (k := 8) hk dX5_image_33 rfl (by decide) kc5 (by decide) fl_RX5_47 rfl rfl rfl rfl (fun σ4 => ?_)
    refine k_aload_n hk dX5_image_36 0 rfl ?_
    refine k_getf (k := 8) hk dX5_image_37 rfl (by decide) kc5 (by decide) fl_RX5_47 rfl ?_
    exact k_ireturn hk he dX5_image_40 (by decide)
  · refine k_iconst (v := (-1)) hk dX5_image_8 (by decide) ?_
    exact k_ireturn hk he dX5_image_9 (by decide)
def f_X5_restore (F : Nat)  (σ : kS) : Option kR := if 0 < (σ.1 0 0 8) then (kb (kU σ 0 0 8 ((σ.1 0 0 8) - 1)) fun σ2 => kg (kin (σ2.1 0 0 8) 3) (kb ((σ2.1 0 0 8).toNatClampNeg + 1) fun j3 => kBv (f_X2_copyFrom F 0 j3 σ2) fun σ4 => kBv (f_X5_forgetRuns F  σ4) fun σ5 => some (.inl (some (.int (σ5.1 0 0 8))), σ5))) else (some (.inl (some (.int (-1))), σ))
set_option maxRecDepth 20000 in
theorem c_X5_restore {l : Launch} {E : kE} (hj : kEj E) (hn : kNorm E) (hl : l.stackTraces = false) (F : Nat)   (σ : kS) : kMet l E yX5_restore cX5_restore 1 (some .int) (3) (81) 0 id [.ref (kad E 0 0)] σ (f_X5_restore F  σ) := by
  refine k_met hj hn hl (by decide) (Nat.le_of_ble_eq_true rfl) (fun C Q hk he hro => ?_)
  have hk : kOk (C, E, Q) cX5_restore RX5 1 := hk
  show Sm (C, E, Q) 1 0 0 [(0, .ref (kad E 0 0))] [] σ _
  unfold f_X5_restore
  refine k_aload_n hk dX5_restore_0 0 rfl ?_
  refine k_getf (k := 8) hk dX5_restore_1 rfl (by decide) kc5 (by decide) fl_RX5_47 rfl ?_
  refine k_if_gt hk dX5_restore_4 9 (by decide) (fun h1 => ?_) (fun h1 => ?_)
  · refine k_aload_n hk dX5_restore_9 0 rfl ?_
    refine k_dup hk dX5_restore_10 rfl ?_
    refine k_getf (k := 8) hk dX5_restore_11 rfl (by decide) kc5 (by decide) fl_RX5_47 rfl ?_
    refine k_iconst (v := 1) hk dX5_restore_14 (by decide) ?_
    refine k_isub hk dX5_restore_15 ?_
    refine k_putf (k := 8) hk dX5_restore_16 rfl (by decide) kc5 (by decide) fl_RX5_47 rfl rfl rfl rfl (fun σ2 => ?_)
    refine k_aload_n hk dX5_restore_19 0 rfl ?_
    refine k_getr (k := 6) 4 0 hk dX5_restore_20 rfl (by decide) kc5 (by decide) fl_RX5_39 rfl rfl ?_
    refine k_aload_n hk dX5_restore_23 0 rfl ?_
    refine k_getr (k := 7) 5 0 hk dX5_restore_24 rfl (by decide) kc5 (by decide) fl_RX5_43 rfl rfl ?_
    refine k_aload_n hk dX5_restore_27 0 rfl ?_
    refine k_getf (k := 8) hk dX5_restore_28 rfl (by decide) kc5 (by decide) fl_RX5_47 rfl ?_
    refine k_aaldj (g' := 4) (fun z => z + 1) hk dX5_restore_31 rfl rfl rfl (by decide) (fun z => rfl) (by decide) (fun j3 hj3 => ?_)
    refine k_callVv (As := [.ref (kad E 4 j3)]) (rest := []) hk he hro (c_X2_copyFrom hj hn hl F 0 j3 (by decide) hj3 σ2) dX5_restore_32 cw_RX5_297 rfl (by decide) kc2 rfl ⟨by decide, by decide⟩ (by decide) rfl (Nat.le_of_ble_eq_true rfl) (fun σ4 => ?_)
    refine k_aload_n hk dX5_restore_35 0 rfl ?_
    refine k_callVv (As := []) (rest := []) hk he hro (c_X5_forgetRuns hj hn hl F   σ4) dX5_restore_36 cw_RX5_111 rfl (by decide) kc5 rfl ⟨by decide, by decide⟩ (by decide) rfl (Nat.le_of_ble_eq_true rfl) (fun σ5 => ?_)
    refine k_aload_n hk dX5_restore_39 0 rfl ?_
    refine k_getf (k := 8) hk dX5_restore_40 rfl (by decide) kc5 (by decide) fl_RX5_47 rfl ?_
    exact k_ireturn hk he dX5_restore_43 (by decide)
  · refine k_iconst (v := (-1)) hk dX5_restore_7 (by decide) ?_
    exact k_ireturn hk he dX5_restore_8 (by decide)
def f_X5_count_b107 (F : Nat) (t0 : Int32) (σ : kS) : Option kR := some (.inl (some (.int t0)), σ)
set_option maxRecDepth 20000 in
theorem s_X5_count_b107 {l : Launch} {E : kE} (hj : kEj E) (hn : kNorm E) (hl : l.stackTraces = false) {C : kC} {Q : kR → State → Prop} (hk : kOk (C, E, Q) cX5_count RX5 2) (he : kEnd (C, E, Q) (some .int) id 0) (hro : kRo C l (0) (0) 0) (F : Nat) : ∀ (t0 : Int32)  (σ : kS), Sm (C, E, Q) 2 0 107 [] [.int t0] σ (f_X5_count_b107 F t0 σ) := by
  intro t0  σ
  unfold f_X5_count_b107
  exact k_ireturn hk he dX5_count_107 (by decide)
def f_X5_count_b106 (F : Nat)  (σ : kS) : Option kR := f_X5_count_b107 F (-1) σ
set_option maxRecDepth 20000 in
theorem s_X5_count_b106 {l : Launch} {E : kE} (hj : kEj E) (hn : kNorm E) (hl : l.stackTraces = false) {C : kC} {Q : kR → State → Prop} (hk : kOk (C, E, Q) cX5_count RX5 2) (he : kEnd (C, E, Q) (some .int) id 0) (hro : kRo C l (0) (0) 0) (F : Nat) : ∀   (σ : kS), Sm (C, E, Q) 2 0 106 [] [] σ (f_X5_count_b106 F  σ) := by
  intro   σ
  unfold f_X5_count_b106
  refine k_iconst (v := (-1)) hk dX5_count_106 (by decide) ?_
  exact k_sub [] rfl (s_X5_count_b107 hj hn hl hk he hro F  (-1)  σ)
def f_X5_count (F : Nat) (a1 : Int32) (σ : kS) : Option kR := if a1 = 0 then (some (.inl (some (.int (σ.1 0 0 5))), σ)) else (if a1 = 1 then (some (.inl (some (.int (σ.1 4 0 3))), σ)) else (if a1 = 2 then (some (.inl (some (.int (σ.1 4 0 10))), σ)) else (if a1 = 3 then (some (.inl (some (.int (σ.1 4 0 13))), σ)) else (if a1 = 4 then (some (.inl (some (.int (σ.1 0 0 8))), σ)) else (if a1 = 5 then (some (.inl (some (.int (σ.1 0 0 1))), σ)) else (if a1 < 10 then (f_X5_count_b106 F  σ) else (if 20 ≤ a1 then (f_X5_count_b106 F  σ) else (kg (kin (a1 - 10) 10) (f_X5_count_b107 F (σ.1 21 0 (a1 - 10).toNatClampNeg) σ)))))))))
set_option maxRecDepth 20000 in
theorem c_X5_count {l : Launch} {E : kE} (hj : kEj E) (hn : kNorm E) (hl : l.stackTraces = false) (F : Nat) (a1 : Int32)  (σ : kS) : kMet l E yX5_count cX5_count 2 (some .int) (0) (0) 0 id [.ref (kad E 0 0), .int a1] σ (f_X5_count F a1 σ) := by
  refine k_met hj hn hl (by decide) (Nat.le_of_ble_eq_true rfl) (fun C Q hk he hro => ?_)
  have hk : kOk (C, E, Q) cX5_count RX5 2 := hk
  show Sm (C, E, Q) 2 0 0 [(0, .ref (kad E 0 0)), (1, .int a1)] [] σ _
  unfold f_X5_count
  refine k_iload_n hk dX5_count_0 1 rfl ?_
  refine k_ite (fun h1 => ?_) (fun h1 => ?_)
  · refine k_tin (v := 0) hk dX5_count_1 h1 (by decide) (by decide) rfl 40 (by decide) ?_
    refine k_aload_n hk dX5_count_40 0 rfl ?_
    refine k_getf (k := 5) hk dX5_count_41 rfl (by decide) kc5 (by decide) fl_RX5_33 rfl ?_
    exact k_ireturn hk he dX5_count_44 (by decide)
  · skip
    refine k_ite (fun h2 => ?_) (fun h2 => ?_)
    · refine k_tin (v := 1) hk dX5_count_1 h2 (by decide) (by decide) rfl 45 (by decide) ?_
      refine k_aload_n hk dX5_count_45 0 rfl ?_
      refine k_getr (k := 6) 4 0 hk dX5_count_46 rfl (by decide) kc5 (by decide) fl_RX5_39 rfl rfl ?_
      refine k_getf (k := 3) hk dX5_count_49 rfl (by decide) kc2 (by decide) fl_RX5_177 rfl ?_
      exact k_ireturn hk he dX5_count_52 (by decide)
    · skip
      refine k_ite (fun h3 => ?_) (fun h3 => ?_)
      · refine k_tin (v := 2) hk dX5_count_1 h3 (by decide) (by decide) rfl 53 (by decide) ?_
        refine k_aload_n hk dX5_count_53 0 rfl ?_
        refine k_getr (k := 6) 4 0 hk dX5_count_54 rfl (by decide) kc5 (by decide) fl_RX5_39 rfl rfl ?_
        refine k_getf (k := 10) hk dX5_count_57 rfl (by decide) kc2 (by decide) fl_RX5_226 rfl ?_
        exact k_ireturn hk he dX5_count_60 (by decide)
      · skip
        refine k_ite (fun h4 => ?_) (fun h4 => ?_)
        · refine k_tin (v := 3) hk dX5_count_1 h4 (by decide) (by decide) rfl 61 (by decide) ?_
          refine k_aload_n hk dX5_count_61 0 rfl ?_
          refine k_getr (k := 6) 4 0 hk dX5_count_62 rfl (by decide) kc5 (by decide) fl_RX5_39 rfl rfl ?_
          refine k_getf (k := 13) hk dX5_count_65 rfl (by decide) kc2 (by decide) fl_RX5_241 rfl ?_
          exact k_ireturn hk he dX5_count_68 (by decide)
        · skip
          refine k_ite (fun h5 => ?_) (fun h5 => ?_)
          · refine k_tin (v := 4) hk dX5_count_1 h5 (by decide) (by decide) rfl 69 (by decide) ?_
            refine k_aload_n hk dX5_count_69 0 rfl ?_
            refine k_getf (k := 8) hk dX5_count_70 rfl (by decide) kc5 (by decide) fl_RX5_47 rfl ?_
            exact k_ireturn hk he dX5_count_73 (by decide)
          · skip
            refine k_ite (fun h6 => ?_) (fun h6 => ?_)
            · refine k_tin (v := 5) hk dX5_count_1 h6 (by decide) (by decide) rfl 74 (by decide) ?_
              refine k_aload_n hk dX5_count_74 0 rfl ?_
              refine k_getf (k := 1) hk dX5_count_75 rfl (by decide) kc5 (by decide) fl_RX5_13 rfl ?_
              exact k_ireturn hk he dX5_count_78 (by decide)
            · skip
              refine k_tout hk dX5_count_1 (by have h1q := k_neI h1 (a := 0) (by decide); have h2q := k_neI h2 (a := 1) (by decide); have h3q := k_neI h3 (a := 2) (by decide); have h4q := k_neI h4 (a := 3) (by decide); have h5q := k_neI h5 (a := 4) (by decide); have h6q := k_neI h6 (a := 5) (by decide); omega) 79 (by decide) ?_
              refine k_iload_n hk dX5_count_79 1 rfl ?_
              refine k_bipush (v := 10) hk dX5_count_80 (by decide) ?_
              refine k_icmp_lt hk dX5_count_82 106 (by decide) (fun h7 => ?_) (fun h7 => ?_)
              · exact k_sub [] rfl (s_X5_count_b106 hj hn hl hk he hro F    σ)
              · refine k_iload_n hk dX5_count_85 1 rfl ?_
                refine k_bipush (v := 20) hk dX5_count_86 (by decide) ?_
                refine k_icmp_ge hk dX5_count_88 106 (by decide) (fun h8 => ?_) (fun h8 => ?_)
                · exact k_sub [] rfl (s_X5_count_b106 hj hn hl hk he hro F    σ)
                · refine k_aload_n hk dX5_count_91 0 rfl ?_
                  refine k_getr (k := 6) 4 0 hk dX5_count_92 rfl (by decide) kc5 (by decide) fl_RX5_39 rfl rfl ?_
                  refine k_getr (k := 0) 21 0 hk dX5_count_95 rfl (by decide) kc2 (by decide) fl_RX5_108 rfl rfl ?_
                  refine k_iload_n hk dX5_count_98 1 rfl ?_
                  refine k_bipush (v := 10) hk dX5_count_99 (by decide) ?_
                  refine k_isub hk dX5_count_101 ?_
                  refine k_iald hk dX5_count_102 rfl (by decide) (fun h9 => ?_)
                  refine k_goto hk dX5_count_103 107 (by decide) ?_
                  exact k_sub [] rfl (s_X5_count_b107 hj hn hl hk he hro F  (σ.1 21 0 (a1 - 10).toNatClampNeg)  σ)
