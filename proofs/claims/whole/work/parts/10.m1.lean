def f_X6_in_b15 (F : Nat) (t0 : Int32) (σ : kS) : Option kR := kg (narrow .boolean (.int t0) = .int t0) (some (.inl (some (.int t0)), σ))
set_option maxRecDepth 20000 in
theorem s_X6_in_b15 {l : Launch} {E : kE} (hj : kEj E) (hn : kNorm E) (hl : l.stackTraces = false) {C : kC} {Q : kR → State → Prop} (hk : kOk (C, E, Q) cX6_in RX6 3) (he : kEnd (C, E, Q) (some .boolean) id 0) (hro : kRo C l (0) (0) 0) (F : Nat) : ∀ (t0 : Int32)  (σ : kS), Sm (C, E, Q) 3 0 15 [] [.int t0] σ (f_X6_in_b15 F t0 σ) := by
  intro t0  σ
  unfold f_X6_in_b15
  exact k_zreturn hk he dX6_in_15 (by decide)
def f_X6_in_b14 (F : Nat)  (σ : kS) : Option kR := f_X6_in_b15 F 0 σ
set_option maxRecDepth 20000 in
theorem s_X6_in_b14 {l : Launch} {E : kE} (hj : kEj E) (hn : kNorm E) (hl : l.stackTraces = false) {C : kC} {Q : kR → State → Prop} (hk : kOk (C, E, Q) cX6_in RX6 3) (he : kEnd (C, E, Q) (some .boolean) id 0) (hro : kRo C l (0) (0) 0) (F : Nat) : ∀   (σ : kS), Sm (C, E, Q) 3 0 14 [] [] σ (f_X6_in_b14 F  σ) := by
  intro   σ
  unfold f_X6_in_b14
  refine k_iconst (v := 0) hk dX6_in_14 (by decide) ?_
  exact k_sub [] rfl (s_X6_in_b15 hj hn hl hk he hro F  0  σ)
def f_X6_in (F : Nat) (a0 : Int32) (a1 : Int32) (a2 : Int32) (σ : kS) : Option kR := if a0 < a1 then (f_X6_in_b14 F  σ) else (if a2 < a0 then (f_X6_in_b14 F  σ) else (f_X6_in_b15 F 1 σ))
set_option maxRecDepth 20000 in
theorem c_X6_in {l : Launch} {E : kE} (hj : kEj E) (hn : kNorm E) (hl : l.stackTraces = false) (F : Nat) (a0 : Int32) (a1 : Int32) (a2 : Int32)  (σ : kS) : kMet l E yX6_in cX6_in 3 (some .boolean) (0) (0) 0 id [.int a0, .int a1, .int a2] σ (f_X6_in F a0 a1 a2 σ) := by
  refine k_met hj hn hl (by decide) (Nat.le_of_ble_eq_true rfl) (fun C Q hk he hro => ?_)
  have hk : kOk (C, E, Q) cX6_in RX6 3 := hk
  show Sm (C, E, Q) 3 0 0 [(0, .int a0), (1, .int a1), (2, .int a2)] [] σ _
  unfold f_X6_in
  refine k_iload_n hk dX6_in_0 0 rfl ?_
  refine k_iload_n hk dX6_in_1 1 rfl ?_
  refine k_icmp_lt hk dX6_in_2 14 (by decide) (fun h1 => ?_) (fun h1 => ?_)
  · exact k_sub [] rfl (s_X6_in_b14 hj hn hl hk he hro F    σ)
  · refine k_iload_n hk dX6_in_5 0 rfl ?_
    refine k_iload_n hk dX6_in_6 2 rfl ?_
    refine k_icmp_gt hk dX6_in_7 14 (by decide) (fun h2 => ?_) (fun h2 => ?_)
    · exact k_sub [] rfl (s_X6_in_b14 hj hn hl hk he hro F    σ)
    · refine k_iconst (v := 1) hk dX6_in_10 (by decide) ?_
      refine k_goto hk dX6_in_11 15 (by decide) ?_
      exact k_sub [] rfl (s_X6_in_b15 hj hn hl hk he hro F  1  σ)
def f_X6_less_b10 (F : Nat) (t0 : Int32) (σ : kS) : Option kR := some (.inl (some (.int t0)), σ)
set_option maxRecDepth 20000 in
theorem s_X6_less_b10 {l : Launch} {E : kE} (hj : kEj E) (hn : kNorm E) (hl : l.stackTraces = false) {C : kC} {Q : kR → State → Prop} (hk : kOk (C, E, Q) cX6_less RX6 2) (he : kEnd (C, E, Q) (some .int) id 0) (hro : kRo C l (0) (0) 0) (F : Nat) : ∀ (t0 : Int32)  (σ : kS), Sm (C, E, Q) 2 0 10 [] [.int t0] σ (f_X6_less_b10 F t0 σ) := by
  intro t0  σ
  unfold f_X6_less_b10
  exact k_ireturn hk he dX6_less_10 (by decide)
def f_X6_less (F : Nat) (a0 : Int32) (a1 : Int32) (σ : kS) : Option kR := if a1 ≤ a0 then (f_X6_less_b10 F a1 σ) else (f_X6_less_b10 F a0 σ)
set_option maxRecDepth 20000 in
theorem c_X6_less {l : Launch} {E : kE} (hj : kEj E) (hn : kNorm E) (hl : l.stackTraces = false) (F : Nat) (a0 : Int32) (a1 : Int32)  (σ : kS) : kMet l E yX6_less cX6_less 2 (some .int) (0) (0) 0 id [.int a0, .int a1] σ (f_X6_less F a0 a1 σ) := by
  refine k_met hj hn hl (by decide) (Nat.le_of_ble_eq_true rfl) (fun C Q hk he hro => ?_)
  have hk : kOk (C, E, Q) cX6_less RX6 2 := hk
  show Sm (C, E, Q) 2 0 0 [(0, .int a0), (1, .int a1)] [] σ _
  unfold f_X6_less
  refine k_iload_n hk dX6_less_0 0 rfl ?_
  refine k_iload_n hk dX6_less_1 1 rfl ?_
  refine k_icmp_ge hk dX6_less_2 9 (by decide) (fun h1 => ?_) (fun h1 => ?_)
  · refine k_iload_n hk dX6_less_9 1 rfl ?_
    exact k_sub [] rfl (s_X6_less_b10 hj hn hl hk he hro F  a1  σ)
  · refine k_iload_n hk dX6_less_5 0 rfl ?_
    refine k_goto hk dX6_less_6 10 (by decide) ?_
    exact k_sub [] rfl (s_X6_less_b10 hj hn hl hk he hro F  a0  σ)
def f_X6_more_b10 (F : Nat) (t0 : Int32) (σ : kS) : Option kR := some (.inl (some (.int t0)), σ)
set_option maxRecDepth 20000 in
theorem s_X6_more_b10 {l : Launch} {E : kE} (hj : kEj E) (hn : kNorm E) (hl : l.stackTraces = false) {C : kC} {Q : kR → State → Prop} (hk : kOk (C, E, Q) cX6_more RX6 2) (he : kEnd (C, E, Q) (some .int) id 0) (hro : kRo C l (0) (0) 0) (F : Nat) : ∀ (t0 : Int32)  (σ : kS), Sm (C, E, Q) 2 0 10 [] [.int t0] σ (f_X6_more_b10 F t0 σ) := by
  intro t0  σ
  unfold f_X6_more_b10
  exact k_ireturn hk he dX6_more_10 (by decide)
def f_X6_more (F : Nat) (a0 : Int32) (a1 : Int32) (σ : kS) : Option kR := if a0 ≤ a1 then (f_X6_more_b10 F a1 σ) else (f_X6_more_b10 F a0 σ)
set_option maxRecDepth 20000 in
theorem c_X6_more {l : Launch} {E : kE} (hj : kEj E) (hn : kNorm E) (hl : l.stackTraces = false) (F : Nat) (a0 : Int32) (a1 : Int32)  (σ : kS) : kMet l E yX6_more cX6_more 2 (some .int) (0) (0) 0 id [.int a0, .int a1] σ (f_X6_more F a0 a1 σ) := by
  refine k_met hj hn hl (by decide) (Nat.le_of_ble_eq_true rfl) (fun C Q hk he hro => ?_)
  have hk : kOk (C, E, Q) cX6_more RX6 2 := hk
  show Sm (C, E, Q) 2 0 0 [(0, .int a0), (1, .int a1)] [] σ _
  unfold f_X6_more
  refine k_iload_n hk dX6_more_0 0 rfl ?_
  refine k_iload_n hk dX6_more_1 1 rfl ?_
  refine k_icmp_le hk dX6_more_2 9 (by decide) (fun h1 => ?_) (fun h1 => ?_)
  · refine k_iload_n hk dX6_more_9 1 rfl ?_
    exact k_sub [] rfl (s_X6_more_b10 hj hn hl hk he hro F  a1  σ)
  · refine k_iload_n hk dX6_more_5 0 rfl ?_
    refine k_goto hk dX6_more_6 10 (by decide) ?_
    exact k_sub [] rfl (s_X6_more_b10 hj hn hl hk he hro F  a0  σ)
def f_X6_lowest_b10 (F : Nat) (t0 : Int32) (σ : kS) : Option kR := some (.inl (some (.int t0)), σ)
set_option maxRecDepth 20000 in
theorem s_X6_lowest_b10 {l : Launch} {E : kE} (hj : kEj E) (hn : kNorm E) (hl : l.stackTraces = false) {C : kC} {Q : kR → State → Prop} (hk : kOk (C, E, Q) cX6_lowest RX6 1) (he : kEnd (C, E, Q) (some .int) id 0) (hro : kRo C l (0) (0) 0) (F : Nat) : ∀ (t0 : Int32)  (σ : kS), Sm (C, E, Q) 1 0 10 [] [.int t0] σ (f_X6_lowest_b10 F t0 σ) := by
  intro t0  σ
  unfold f_X6_lowest_b10
  exact k_ireturn hk he dX6_lowest_10 (by decide)
def f_X6_lowest (F : Nat) (a0 : Int32) (σ : kS) : Option kR := if a0 = 5 then (f_X6_lowest_b10 F 1 σ) else (f_X6_lowest_b10 F 0 σ)
set_option maxRecDepth 20000 in
theorem c_X6_lowest {l : Launch} {E : kE} (hj : kEj E) (hn : kNorm E) (hl : l.stackTraces = false) (F : Nat) (a0 : Int32)  (σ : kS) : kMet l E yX6_lowest cX6_lowest 1 (some .int) (0) (0) 0 id [.int a0] σ (f_X6_lowest F a0 σ) := by
  refine k_met hj hn hl (by decide) (Nat.le_of_ble_eq_true rfl) (fun C Q hk he hro => ?_)
  have hk : kOk (C, E, Q) cX6_lowest RX6 1 := hk
  show Sm (C, E, Q) 1 0 0 [(0, .int a0)] [] σ _
  unfold f_X6_lowest
  refine k_iload_n hk dX6_lowest_0 0 rfl ?_
  refine k_iconst (v := 5) hk dX6_lowest_1 (by decide) ?_
  refine k_icmp_ne hk dX6_lowest_2 9 (by decide) (fun h1 => ?_) (fun h1 => ?_)
  · refine k_iconst (v := 0) hk dX6_lowest_9 (by decide) ?_
    exact k_sub [] rfl (s_X6_lowest_b10 hj hn hl hk he hro F  0  σ)
  · refine k_iconst (v := 1) hk dX6_lowest_5 (by decide) ?_
    refine k_goto hk dX6_lowest_6 10 (by decide) ?_
    exact k_sub [] rfl (s_X6_lowest_b10 hj hn hl hk he hro F  1  σ)
def f_X6_highest_b46 (F : Nat) (t0 : Int32) (σ : kS) : Option kR := some (.inl (some (.int t0)), σ)
set_option maxRecDepth 20000 in
theorem s_X6_highest_b46 {l : Launch} {E : kE} (hj : kEj E) (hn : kNorm E) (hl : l.stackTraces = false) {C : kC} {Q : kR → State → Prop} (hk : kOk (C, E, Q) cX6_highest RX6 1) (he : kEnd (C, E, Q) (some .int) id 0) (hro : kRo C l (0) (0) 0) (F : Nat) : ∀ (t0 : Int32)  (σ : kS), Sm (C, E, Q) 1 0 46 [] [.int t0] σ (f_X6_highest_b46 F t0 σ) := by
  intro t0  σ
  unfold f_X6_highest_b46
  exact k_ireturn hk he dX6_highest_46 (by decide)
def f_X6_highest_b38 (F : Nat)  (σ : kS) : Option kR := f_X6_highest_b46 F 999 σ
set_option maxRecDepth 20000 in
theorem s_X6_highest_b38 {l : Launch} {E : kE} (hj : kEj E) (hn : kNorm E) (hl : l.stackTraces = false) {C : kC} {Q : kR → State → Prop} (hk : kOk (C, E, Q) cX6_highest RX6 1) (he : kEnd (C, E, Q) (some .int) id 0) (hro : kRo C l (0) (0) 0) (F : Nat) : ∀   (σ : kS), Sm (C, E, Q) 1 0 38 [] [] σ (f_X6_highest_b38 F  σ) := by
  intro   σ
  unfold f_X6_highest_b38
  refine k_sipush (v := 999) hk dX6_highest_38 (by decide) ?_
  refine k_goto hk dX6_highest_41 46 (by decide) ?_
  exact k_sub [] rfl (s_X6_highest_b46 hj hn hl hk he hro F  999  σ)
def f_X6_highest (F : Nat) (a0 : Int32) (σ : kS) : Option kR := if a0 = 5 then (f_X6_highest_b46 F 20 σ) else (if a0 = 7 then (f_X6_highest_b46 F 9999 σ) else (if a0 = 1 then (f_X6_highest_b38 F  σ) else (if a0 = 2 then (f_X6_highest_b38 F  σ) else (if a0 = 9 then (f_X6_highest_b38 F  σ) else (f_X6_highest_b46 F 99 σ)))))
set_option maxRecDepth 20000 in
theorem c_X6_highest {l : Launch} {E : kE} (hj : kEj E) (hn : kNorm E) (hl : l.stackTraces = false) (F : Nat) (a0 : Int32)  (σ : kS) : kMet l E yX6_highest cX6_highest 1 (some .int) (0) (0) 0 id [.int a0] σ (f_X6_highest F a0 σ) := by
  refine k_met hj hn hl (by decide) (Nat.le_of_ble_eq_true rfl) (fun C Q hk he hro => ?_)
  have hk : kOk (C, E, Q) cX6_highest RX6 1 := hk
  show Sm (C, E, Q) 1 0 0 [(0, .int a0)] [] σ _
  unfold f_X6_highest
  refine k_iload_n hk dX6_highest_0 0 rfl ?_
  refine k_iconst (v := 5) hk dX6_highest_1 (by decide) ?_
  refine k_icmp_ne hk dX6_highest_2 10 (by decide) (fun h1 => ?_) (fun h1 => ?_)
  · refine k_iload_n hk dX6_highest_10 0 rfl ?_
    refine k_bipush (v := 7) hk dX6_highest_11 (by decide) ?_
    refine k_icmp_ne hk dX6_highest_13 22 (by decide) (fun h2 => ?_) (fun h2 => ?_)
    · refine k_iload_n hk dX6_highest_22 0 rfl ?_
      refine k_iconst (v := 1) hk dX6_highest_23 (by decide) ?_
      refine k_icmp_eq hk dX6_highest_24 38 (by decide) (fun h3 => ?_) (fun h3 => ?_)
      · exact k_sub [] rfl (s_X6_highest_b38 hj hn hl hk he hro F    σ)
      · refine k_iload_n hk dX6_highest_27 0 rfl ?_
        refine k_iconst (v := 2) hk dX6_highest_28 (by decide) ?_
        refine k_icmp_eq hk dX6_highest_29 38 (by decide) (fun h4 => ?_) (fun h4 => ?_)
        · exact k_sub [] rfl (s_X6_highest_b38 hj hn hl hk he hro F    σ)
        · refine k_iload_n hk dX6_highest_32 0 rfl ?_
          refine k_bipush (v := 9) hk dX6_highest_33 (by decide) ?_
          refine k_icmp_ne hk dX6_highest_35 44 (by decide) (fun h5 => ?_) (fun h5 => ?_)
          · refine k_bipush (v := 99) hk dX6_highest_44 (by decide) ?_
            exact k_sub [] rfl (s_X6_highest_b46 hj hn hl hk he hro F  99  σ)
          · exact k_sub [] rfl (s_X6_highest_b38 hj hn hl hk he hro F    σ)
    · refine k_sipush (v := 9999) hk dX6_highest_16 (by decide) ?_
      refine k_goto hk dX6_highest_19 46 (by decide) ?_
      exact k_sub [] rfl (s_X6_highest_b46 hj hn hl hk he hro F  9999  σ)
  · refine k_bipush (v := 20) hk dX6_highest_5 (by decide) ?_
    refine k_goto hk dX6_highest_7 46 (by decide) ?_
    exact k_sub [] rfl (s_X6_highest_b46 hj hn hl hk he hro F  20  σ)
def f_X6_isDigit_b17 (F : Nat) (t0 : Int32) (σ : kS) : Option kR := kg (narrow .boolean (.int t0) = .int t0) (some (.inl (some (.int t0)), σ))
set_option maxRecDepth 20000 in
theorem s_X6_isDigit_b17 {l : Launch} {E : kE} (hj : kEj E) (hn : kNorm E) (hl : l.stackTraces = false) {C : kC} {Q : kR → State → Prop} (hk : kOk (C, E, Q) cX6_isDigit RX6 1) (he : kEnd (C, E, Q) (some .boolean) id 0) (hro : kRo C l (0) (0) 0) (F : Nat) : ∀ (t0 : Int32)  (σ : kS), Sm (C, E, Q) 1 0 17 [] [.int t0] σ (f_X6_isDigit_b17 F t0 σ) := by
  intro t0  σ
  unfold f_X6_isDigit_b17
  exact k_zreturn hk he dX6_isDigit_17 (by decide)
def f_X6_isDigit_b16 (F : Nat)  (σ : kS) : Option kR := f_X6_isDigit_b17 F 0 σ
set_option maxRecDepth 20000 in
theorem s_X6_isDigit_b16 {l : Launch} {E : kE} (hj : kEj E) (hn : kNorm E) (hl : l.stackTraces = false) {C : kC} {Q : kR → State → Prop} (hk : kOk (C, E, Q) cX6_isDigit RX6 1) (he : kEnd (C, E, Q) (some .boolean) id 0) (hro : kRo C l (0) (0) 0) (F : Nat) : ∀   (σ : kS), Sm (C, E, Q) 1 0 16 [] [] σ (f_X6_isDigit_b16 F  σ) := by
  intro   σ
  unfold f_X6_isDigit_b16
  refine k_iconst (v := 0) hk dX6_isDigit_16 (by decide) ?_
  exact k_sub [] rfl (s_X6_isDigit_b17 hj hn hl hk he hro F  0  σ)
def f_X6_isDigit (F : Nat) (a0 : Int32) (σ : kS) : Option kR := if a0 < 48 then (f_X6_isDigit_b16 F  σ) else (if 57 < a0 then (f_X6_isDigit_b16 F  σ) else (f_X6_isDigit_b17 F 1 σ))
set_option maxRecDepth 20000 in
theorem c_X6_isDigit {l : Launch} {E : kE} (hj : kEj E) (hn : kNorm E) (hl : l.stackTraces = false) (F : Nat) (a0 : Int32)  (σ : kS) : kMet l E yX6_isDigit cX6_isDigit 1 (some .boolean) (0) (0) 0 id [.int a0] σ (f_X6_isDigit F a0 σ) := by
  refine k_met hj hn hl (by decide) (Nat.le_of_ble_eq_true rfl) (fun C Q hk he hro => ?_)
  have hk : kOk (C, E, Q) cX6_isDigit RX6 1 := hk
  show Sm (C, E, Q) 1 0 0 [(0, .int a0)] [] σ _
  unfold f_X6_isDigit
  refine k_iload_n hk dX6_isDigit_0 0 rfl ?_
  refine k_bipush (v := 48) hk dX6_isDigit_1 (by decide) ?_
  refine k_icmp_lt hk dX6_isDigit_3 16 (by decide) (fun h1 => ?_) (fun h1 => ?_)
  · exact k_sub [] rfl (s_X6_isDigit_b16 hj hn hl hk he hro F    σ)
  · refine k_iload_n hk dX6_isDigit_6 0 rfl ?_
    refine k_bipush (v := 57) hk dX6_isDigit_7 (by decide) ?_
    refine k_icmp_gt hk dX6_isDigit_9 16 (by decide) (fun h2 => ?_) (fun h2 => ?_)
    · exact k_sub [] rfl (s_X6_isDigit_b16 hj hn hl hk he hro F    σ)
    · refine k_iconst (v := 1) hk dX6_isDigit_12 (by decide) ?_
      refine k_goto hk dX6_isDigit_13 17 (by decide) ?_
      exact k_sub [] rfl (s_X6_isDigit_b17 hj hn hl hk he hro F  1  σ)
def f_X6_word_b82 (F : Nat) (t0 : Int32) (σ : kS) : Option kR := some (.inl (some (.int t0)), σ)
set_option maxRecDepth 20000 in
theorem s_X6_word_b82 {l : Launch} {E : kE} (hj : kEj E) (hn : kNorm E) (hl : l.stackTraces = false) {C : kC} {Q : kR → State → Prop} (hk : kOk (C, E, Q) cX6_word RX6 7) (he : kEnd (C, E, Q) (some .int) id 0) (hro : kRo C l (0) (0) 0) (F : Nat) : ∀ (t0 : Int32)  (σ : kS), Sm (C, E, Q) 7 0 82 [] [.int t0] σ (f_X6_word_b82 F t0 σ) := by
  intro t0  σ
  unfold f_X6_word_b82
  exact k_ireturn hk he dX6_word_82 (by decide)
def f_X6_word_b62 (F : Nat) (x5 : Int32) (t0 : Int32) (σ : kS) : Option kR := if x5 = 0 then (f_X6_word_b82 F t0 σ) else (f_X6_word_b82 F ((27 * t0) + x5) σ)
set_option maxRecDepth 20000 in
theorem s_X6_word_b62 {l : Launch} {E : kE} (hj : kEj E) (hn : kNorm E) (hl : l.stackTraces = false) {C : kC} {Q : kR → State → Prop} (hk : kOk (C, E, Q) cX6_word RX6 7) (he : kEnd (C, E, Q) (some .int) id 0) (hro : kRo C l (0) (0) 0) (F : Nat) : ∀ (x5 : Int32) (t0 : Int32)  (σ : kS), Sm (C, E, Q) 7 0 62 [(5, .int x5)] [.int t0] σ (f_X6_word_b62 F x5 t0 σ) := by
  intro x5 t0  σ
  unfold f_X6_word_b62
  refine k_istore (lv' := [(6, .int t0), (5, .int x5)]) hk dX6_word_62 (by decide) rfl ?_
  refine k_iload hk dX6_word_64 1 rfl ?_
  refine k_if_ne hk dX6_word_66 74 (by decide) (fun h1 => ?_) (fun h1 => ?_)
  · refine k_bipush (v := 27) hk dX6_word_74 (by decide) ?_
    refine k_iload hk dX6_word_76 0 rfl ?_
    refine k_imul hk dX6_word_78 ?_
    refine k_iload hk dX6_word_79 1 rfl ?_
    refine k_iadd hk dX6_word_81 ?_
    exact k_sub [] rfl (s_X6_word_b82 hj hn hl hk he hro F  ((27 * t0) + x5)  σ)
  · refine k_iload hk dX6_word_69 0 rfl ?_
    refine k_goto hk dX6_word_71 82 (by decide) ?_
    exact k_sub [] rfl (s_X6_word_b82 hj hn hl hk he hro F  t0  σ)
def f_X6_word_b42 (F : Nat) (x4 : Int32) (x5 : Int32) (t0 : Int32) (σ : kS) : Option kR := if x4 = 0 then (f_X6_word_b62 F x5 t0 σ) else (f_X6_word_b62 F x5 ((27 * t0) + x4) σ)
set_option maxRecDepth 20000 in
theorem s_X6_word_b42 {l : Launch} {E : kE} (hj : kEj E) (hn : kNorm E) (hl : l.stackTraces = false) {C : kC} {Q : kR → State → Prop} (hk : kOk (C, E, Q) cX6_word RX6 7) (he : kEnd (C, E, Q) (some .int) id 0) (hro : kRo C l (0) (0) 0) (F : Nat) : ∀ (x4 : Int32) (x5 : Int32) (t0 : Int32)  (σ : kS), Sm (C, E, Q) 7 0 42 [(4, .int x4), (5, .int x5)] [.int t0] σ (f_X6_word_b42 F x4 x5 t0 σ) := by
  intro x4 x5 t0  σ
  unfold f_X6_word_b42
  refine k_istore (lv' := [(6, .int t0), (4, .int x4), (5, .int x5)]) hk dX6_word_42 (by decide) rfl ?_
  refine k_iload hk dX6_word_44 1 rfl ?_
  refine k_if_ne hk dX6_word_46 54 (by decide) (fun h2 => ?_) (fun h2 => ?_)
  · refine k_bipush (v := 27) hk dX6_word_54 (by decide) ?_
    refine k_iload hk dX6_word_56 0 rfl ?_
    refine k_imul hk dX6_word_58 ?_
    refine k_iload hk dX6_word_59 1 rfl ?_
    refine k_iadd hk dX6_word_61 ?_
    exact k_sub [2] rfl (s_X6_word_b62 hj hn hl hk he hro F  x5 ((27 * t0) + x4)  σ)
  · refine k_iload hk dX6_word_49 0 rfl ?_
    refine k_goto hk dX6_word_51 62 (by decide) ?_
    exact k_sub [2] rfl (s_X6_word_b62 hj hn hl hk he hro F  x5 t0  σ)
def f_X6_word_b24 (F : Nat) (x3 : Int32) (x4 : Int32) (x5 : Int32) (t0 : Int32) (σ : kS) : Option kR := if x3 = 0 then (f_X6_word_b42 F x4 x5 t0 σ) else (f_X6_word_b42 F x4 x5 ((27 * t0) + x3) σ)
set_option maxRecDepth 20000 in
theorem s_X6_word_b24 {l : Launch} {E : kE} (hj : kEj E) (hn : kNorm E) (hl : l.stackTraces = false) {C : kC} {Q : kR → State → Prop} (hk : kOk (C, E, Q) cX6_word RX6 7) (he : kEnd (C, E, Q) (some .int) id 0) (hro : kRo C l (0) (0) 0) (F : Nat) : ∀ (x3 : Int32) (x4 : Int32) (x5 : Int32) (t0 : Int32)  (σ : kS), Sm (C, E, Q) 7 0 24 [(3, .int x3), (4, .int x4), (5, .int x5)] [.int t0] σ (f_X6_word_b24 F x3 x4 x5 t0 σ) := by
  intro x3 x4 x5 t0  σ
  unfold f_X6_word_b24
  refine k_istore (lv' := [(6, .int t0), (3, .int x3), (4, .int x4), (5, .int x5)]) hk dX6_word_24 (by decide) rfl ?_
  refine k_iload_n hk dX6_word_26 1 rfl ?_
  refine k_if_ne hk dX6_word_27 35 (by decide) (fun h3 => ?_) (fun h3 => ?_)
  · refine k_bipush (v := 27) hk dX6_word_35 (by decide) ?_
    refine k_iload hk dX6_word_37 0 rfl ?_
    refine k_imul hk dX6_word_39 ?_
    refine k_iload_n hk dX6_word_40 1 rfl ?_
    refine k_iadd hk dX6_word_41 ?_
    exact k_sub [2, 3] rfl (s_X6_word_b42 hj hn hl hk he hro F  x4 x5 ((27 * t0) + x3)  σ)
  · refine k_iload hk dX6_word_30 0 rfl ?_
    refine k_goto hk dX6_word_32 42 (by decide) ?_
    exact k_sub [2, 3] rfl (s_X6_word_b42 hj hn hl hk he hro F  x4 x5 t0  σ)
def f_X6_word (F : Nat) (a0 : Int32) (a1 : Int32) (a2 : Int32) (a3 : Int32) (a4 : Int32) (a5 : Int32) (σ : kS) : Option kR := kb ((27 * a0) + a1) fun y4 => if a2 = 0 then (f_X6_word_b24 F a3 a4 a5 y4 σ) else (f_X6_word_b24 F a3 a4 a5 ((27 * y4) + a2) σ)
set_option maxRecDepth 20000 in
theorem c_X6_word {l : Launch} {E : kE} (hj : kEj E) (hn : kNorm E) (hl : l.stackTraces = false) (F : Nat) (a0 : Int32) (a1 : Int32) (a2 : Int32) (a3 : Int32) (a4 : Int32) (a5 : Int32)  (σ : kS) : kMet l E yX6_word cX6_word 7 (some .int) (0) (0) 0 id [.int a0, .int a1, .int a2, .int a3, .int a4, .int a5] σ (f_X6_word F a0 a1 a2 a3 a4 a5 σ) := by
  refine k_met hj hn hl (by decide) (Nat.le_of_ble_eq_true rfl) (fun C Q hk he hro => ?_)
  have hk : kOk (C, E, Q) cX6_word RX6 7 := hk
  show Sm (C, E, Q) 7 0 0 [(0, .int a0), (1, .int a1), (2, .int a2), (3, .int a3), (4, .int a4), (5, .int a5)] [] σ _
  unfold f_X6_word
  refine k_bipush (v := 27) hk dX6_word_0 (by decide) ?_
  refine k_iload_n hk dX6_word_2 0 rfl ?_
  refine k_imul hk dX6_word_3 ?_
  refine k_iload_n hk dX6_word_4 1 rfl ?_
  refine k_iadd hk dX6_word_5 ?_
  refine k_nm (fun y4 => ?_)
  refine k_istore (lv' := [(6, .int y4), (0, .int a0), (1, .int a1), (2, .int a2), (3, .int a3), (4, .int a4), (5, .int a5)]) hk dX6_word_6 (by decide) rfl ?_
  refine k_iload_n hk dX6_word_8 3 rfl ?_
  refine k_if_ne hk dX6_word_9 17 (by decide) (fun h5 => ?_) (fun h5 => ?_)
  · refine k_bipush (v := 27) hk dX6_word_17 (by decide) ?_
    refine k_iload hk dX6_word_19 0 rfl ?_
    refine k_imul hk dX6_word_21 ?_
    refine k_iload_n hk dX6_word_22 3 rfl ?_
    refine k_iadd hk dX6_word_23 ?_
    exact k_sub [4, 5, 6] rfl (s_X6_word_b24 hj hn hl hk he hro F  a3 a4 a5 ((27 * y4) + a2)  σ)
  · refine k_iload hk dX6_word_12 0 rfl ?_
    refine k_goto hk dX6_word_14 24 (by decide) ?_
    exact k_sub [4, 5, 6] rfl (s_X6_word_b24 hj hn hl hk he hro F  a3 a4 a5 y4  σ)
def f_X6_worked_b120 (F : Nat) (t0 : Int32) (σ : kS) : Option kR := some (.inl (some (.int t0)), σ)
set_option maxRecDepth 20000 in
theorem s_X6_worked_b120 {l : Launch} {E : kE} (hj : kEj E) (hn : kNorm E) (hl : l.stackTraces = false) {C : kC} {Q : kR → State → Prop} (hk : kOk (C, E, Q) cX6_worked RX6 3) (he : kEnd (C, E, Q) (some .int) id 0) (hro : kRo C l (0) (0) 0) (F : Nat) : ∀ (t0 : Int32)  (σ : kS), Sm (C, E, Q) 3 0 120 [] [.int t0] σ (f_X6_worked_b120 F t0 σ) := by
  intro t0  σ
  unfold f_X6_worked_b120
  exact k_ireturn hk he dX6_worked_120 (by decide)
def f_X6_worked_b109 (F : Nat) (t0 : Int32) (σ : kS) : Option kR := some (.inl (some (.int t0)), σ)
set_option maxRecDepth 20000 in
theorem s_X6_worked_b109 {l : Launch} {E : kE} (hj : kEj E) (hn : kNorm E) (hl : l.stackTraces = false) {C : kC} {Q : kR → State → Prop} (hk : kOk (C, E, Q) cX6_worked RX6 3) (he : kEnd (C, E, Q) (some .int) id 0) (hro : kRo C l (0) (0) 0) (F : Nat) : ∀ (t0 : Int32)  (σ : kS), Sm (C, E, Q) 3 0 109 [] [.int t0] σ (f_X6_worked_b109 F t0 σ) := by
  intro t0  σ
  unfold f_X6_worked_b109
  exact k_ireturn hk he dX6_worked_109 (by decide)
def f_X6_worked_b98 (F : Nat) (t0 : Int32) (σ : kS) : Option kR := some (.inl (some (.int t0)), σ)
set_option maxRecDepth 20000 in
theorem s_X6_worked_b98 {l : Launch} {E : kE} (hj : kEj E) (hn : kNorm E) (hl : l.stackTraces = false) {C : kC} {Q : kR → State → Prop} (hk : kOk (C, E, Q) cX6_worked RX6 3) (he : kEnd (C, E, Q) (some .int) id 0) (hro : kRo C l (0) (0) 0) (F : Nat) : ∀ (t0 : Int32)  (σ : kS), Sm (C, E, Q) 3 0 98 [] [.int t0] σ (f_X6_worked_b98 F t0 σ) := by
  intro t0  σ
  unfold f_X6_worked_b98
  exact k_ireturn hk he dX6_worked_98 (by decide)
def f_X6_worked (F : Nat) (a0 : Int32) (a1 : Int32) (a2 : Int32) (σ : kS) : Option kR := if a0 = 10020 then (some (.inl (some (.int (a1 + a2))), σ)) else (if a0 = 10021 then (some (.inl (some (.int (a1 - a2))), σ)) else (if a0 = 10022 then (some (.inl (some (.int (a1 * a2))), σ)) else (if a0 = 10030 then (if a2 ≤ a1 then (f_X6_worked_b98 F 0 σ) else (f_X6_worked_b98 F 1 σ)) else (if a0 = 10031 then (if a1 ≤ a2 then (f_X6_worked_b109 F 0 σ) else (f_X6_worked_b109 F 1 σ)) else (if a0 = 10032 then (if a1 = a2 then (f_X6_worked_b120 F 1 σ) else (f_X6_worked_b120 F 0 σ)) else (if a0 = 10034 then (some (.inl (some (.int (a1 &&& a2))), σ)) else (some (.inl (some (.int (a1 ||| a2))), σ))))))))
set_option maxRecDepth 20000 in
theorem c_X6_worked {l : Launch} {E : kE} (hj : kEj E) (hn : kNorm E) (hl : l.stackTraces = false) (F : Nat) (a0 : Int32) (a1 : Int32) (a2 : Int32)  (σ : kS) : kMet l E yX6_worked cX6_worked 3 (some .int) (0) (0) 0 id [.int a0, .int a1, .int a2] σ (f_X6_worked F a0 a1 a2 σ) := by
  refine k_met hj hn hl (by decide) (Nat.le_of_ble_eq_true rfl) (fun C Q hk he hro => ?_)
  have hk : kOk (C, E, Q) cX6_worked RX6 3 := hk
  show Sm (C, E, Q) 3 0 0 [(0, .int a0), (1, .int a1), (2, .int a2)] [] σ _
  unfold f_X6_worked
  refine k_iload_n hk dX6_worked_0 0 rfl ?_
  refine k_ite (fun h1 => ?_) (fun h1 => ?_)
  · refine k_tin (v := 10020) hk dX6_worked_1 h1 (by decide) (by decide) rfl 76 (by decide) ?_
    refine k_iload_n hk dX6_worked_76 1 rfl ?_
    refine k_iload_n hk dX6_worked_77 2 rfl ?_
    refine k_iadd hk dX6_worked_78 ?_
    exact k_ireturn hk he dX6_worked_79 (by decide)
  · skip
    refine k_ite (fun h2 => ?_) (fun h2 => ?_)
    · refine k_tin (v := 10021) hk dX6_worked_1 h2 (by decide) (by decide) rfl 80 (by decide) ?_
      refine k_iload_n hk dX6_worked_80 1 rfl ?_
      refine k_iload_n hk dX6_worked_81 2 rfl ?_
      refine k_isub hk dX6_worked_82 ?_
      exact k_ireturn hk he dX6_worked_83 (by decide)
    · skip
      refine k_ite (fun h3 => ?_) (fun h3 => ?_)
      · refine k_tin (v := 10022) hk dX6_worked_1 h3 (by decide) (by decide) rfl 84 (by decide) ?_
        refine k_iload_n hk dX6_worked_84 1 rfl ?_
        refine k_iload_n hk dX6_worked_85 2 rfl ?_
        refine k_imul hk dX6_worked_86 ?_
        exact k_ireturn hk he dX6_worked_87 (by decide)
      · skip
        refine k_ite (fun h4 => ?_) (fun h4 => ?_)
        · refine k_tin (v := 10030) hk dX6_worked_1 h4 (by decide) (by decide) rfl 88 (by decide) ?_
          refine k_iload_n hk dX6_worked_88 1 rfl ?_
          refine k_iload_n hk dX6_worked_89 2 rfl ?_
          refine k_icmp_ge hk dX6_worked_90 97 (by decide) (fun h5 => ?_) (fun h5 => ?_)
          · refine k_iconst (v := 0) hk dX6_worked_97 (by decide) ?_
            exact k_sub [] rfl (s_X6_worked_b98 hj hn hl hk he hro F  0  σ)
          · refine k_iconst (v := 1) hk dX6_worked_93 (by decide) ?_
            refine k_goto hk dX6_worked_94 98 (by decide) ?_
            exact k_sub [] rfl (s_X6_worked_b98 hj hn hl hk he hro F  1  σ)
        · skip
          refine k_ite (fun h6 => ?_) (fun h6 => ?_)
          · refine k_tin (v := 10031) hk dX6_worked_1 h6 (by decide) (by decide) rfl 99 (by decide) ?_
            refine k_iload_n hk dX6_worked_99 1 rfl ?_
            refine k_iload_n hk dX6_worked_100 2 rfl ?_
            refine k_icmp_le hk dX6_worked_101 108 (by decide) (fun h7 => ?_) (fun h7 => ?_)
            · refine k_iconst (v := 0) hk dX6_worked_108 (by decide) ?_
              exact k_sub [] rfl (s_X6_worked_b109 hj hn hl hk he hro F  0  σ)
            · refine k_iconst (v := 1) hk dX6_worked_104 (by decide) ?_
              refine k_goto hk dX6_worked_105 109 (by decide) ?_
              exact k_sub [] rfl (s_X6_worked_b109 hj hn hl hk he hro F  1  σ)
          · skip
            refine k_ite (fun h8 => ?_) (fun h8 => ?_)
            · refine k_tin (v := 10032) hk dX6_worked_1 h8 (by decide) (by decide) rfl 110 (by decide) ?_
              refine k_iload_n hk dX6_worked_110 1 rfl ?_
              refine k_iload_n hk dX6_worked_111 2 rfl ?_
              refine k_icmp_ne hk dX6_worked_112 119 (by decide) (fun h9 => ?_) (fun h9 => ?_)
              · refine k_iconst (v := 0) hk dX6_worked_119 (by decide) ?_
                exact k_sub [] rfl (s_X6_worked_b120 hj hn hl hk he hro F  0  σ)
              · refine k_iconst (v := 1) hk dX6_worked_115 (by decide) ?_
                refine k_goto hk dX6_worked_116 120 (by decide) ?_
                exact k_sub [] rfl (s_X6_worked_b120 hj hn hl hk he hro F  1  σ)
            · skip
              refine k_ite (fun h10 => ?_) (fun h10 => ?_)
              · refine k_tin (v := 10034) hk dX6_worked_1 h10 (by decide) (by decide) rfl 121 (by decide) ?_
                refine k_iload_n hk dX6_worked_121 1 rfl ?_
                refine k_iload_n hk dX6_worked_122 2 rfl ?_
                refine k_iand hk dX6_worked_123 ?_
                exact k_ireturn hk he dX6_worked_124 (by decide)
              · skip
                refine k_tdef hk dX6_worked_1 [10023, 10024, 10025, 10026, 10027, 10028, 10029, 10033] (by decide) (by have h1q := k_neI h1 (a := 10020) (by decide); have h2q := k_neI h2 (a := 10021) (by decide); have h3q := k_neI h3 (a := 10022) (by decide); have h4q := k_neI h4 (a := 10030) (by decide); have h6q := k_neI h6 (a := 10031) (by decide); have h8q := k_neI h8 (a := 10032) (by decide); have h10q := k_neI h10 (a := 10034) (by decide); simp only [List.mem_cons, List.not_mem_nil, or_false]; omega) 125 (by decide) ?_
                refine k_iload_n hk dX6_worked_125 1 rfl ?_
                refine k_iload_n hk dX6_worked_126 2 rfl ?_
                refine k_ior hk dX6_worked_127 ?_
                exact k_ireturn hk he dX6_worked_128 (by decide)
def f_X6_isNear_b23 (F : Nat) (t0 : Int32) (σ : kS) : Option kR := kg (narrow .boolean (.int t0) = .int t0) (some (.inl (some (.int t0)), σ))
set_option maxRecDepth 20000 in
theorem s_X6_isNear_b23 {l : Launch} {E : kE} (hj : kEj E) (hn : kNorm E) (hl : l.stackTraces = false) {C : kC} {Q : kR → State → Prop} (hk : kOk (C, E, Q) cX6_isNear RX6 2) (he : kEnd (C, E, Q) (some .boolean) id 0) (hro : kRo C l (1) (22) 0) (F : Nat) : ∀ (t0 : Int32)  (σ : kS), Sm (C, E, Q) 2 0 23 [] [.int t0] σ (f_X6_isNear_b23 F t0 σ) := by
  intro t0  σ
  unfold f_X6_isNear_b23
  exact k_zreturn hk he dX6_isNear_23 (by decide)
def f_X6_isNear_b22 (F : Nat)  (σ : kS) : Option kR := f_X6_isNear_b23 F 0 σ
set_option maxRecDepth 20000 in
theorem s_X6_isNear_b22 {l : Launch} {E : kE} (hj : kEj E) (hn : kNorm E) (hl : l.stackTraces = false) {C : kC} {Q : kR → State → Prop} (hk : kOk (C, E, Q) cX6_isNear RX6 2) (he : kEnd (C, E, Q) (some .boolean) id 0) (hro : kRo C l (1) (22) 0) (F : Nat) : ∀   (σ : kS), Sm (C, E, Q) 2 0 22 [] [] σ (f_X6_isNear_b22 F  σ) := by
  intro   σ
  unfold f_X6_isNear_b22
  refine k_iconst (v := 0) hk dX6_isNear_22 (by decide) ?_
  exact k_sub [] rfl (s_X6_isNear_b23 hj hn hl hk he hro F  0  σ)
def f_X6_isNear (F : Nat) (a0 : Int32) (a1 : Int32) (σ : kS) : Option kR := if a0 = (-1) then (f_X6_isNear_b22 F  σ) else (kBi (f_X6_in F a0 (a1 - 1) (a1 + 1) σ) fun c3 σ2 => if c3 = 0 then (f_X6_isNear_b22 F  σ2) else (f_X6_isNear_b23 F 1 σ2))
set_option maxRecDepth 20000 in
theorem c_X6_isNear {l : Launch} {E : kE} (hj : kEj E) (hn : kNorm E) (hl : l.stackTraces = false) (F : Nat) (a0 : Int32) (a1 : Int32)  (σ : kS) : kMet l E yX6_isNear cX6_isNear 2 (some .boolean) (1) (22) 0 id [.int a0, .int a1] σ (f_X6_isNear F a0 a1 σ) := by
  refine k_met hj hn hl (by decide) (Nat.le_of_ble_eq_true rfl) (fun C Q hk he hro => ?_)
  have hk : kOk (C, E, Q) cX6_isNear RX6 2 := hk
  show Sm (C, E, Q) 2 0 0 [(0, .int a0), (1, .int a1)] [] σ _
  unfold f_X6_isNear
  refine k_iload_n hk dX6_isNear_0 0 rfl ?_
  refine k_iconst (v := (-1)) hk dX6_isNear_1 (by decide) ?_
  refine k_icmp_eq hk dX6_isNear_2 22 (by decide) (fun h1 => ?_) (fun h1 => ?_)
  · exact k_sub [] rfl (s_X6_isNear_b22 hj hn hl hk he hro F    σ)
  · refine k_iload_n hk dX6_isNear_5 0 rfl ?_
    refine k_iload_n hk dX6_isNear_6 1 rfl ?_
    refine k_iconst (v := 1) hk dX6_isNear_7 (by decide) ?_
    refine k_isub hk dX6_isNear_8 ?_
    refine k_iload_n hk dX6_isNear_9 1 rfl ?_
    refine k_iconst (v := 1) hk dX6_isNear_10 (by decide) ?_
    refine k_iadd hk dX6_isNear_11 ?_
    refine k_callSi (As := [.int a0, .int (a1 - 1), .int (a1 + 1)]) (rest := []) hk he hro (c_X6_in hj hn hl F a0 (a1 - 1) (a1 + 1)  σ) dX6_isNear_12 cw_RX6_150 ⟨by decide, by decide⟩ (by decide) rfl (Nat.le_of_ble_eq_true rfl) (fun c3 σ2 => ?_)
    refine k_if_eq hk dX6_isNear_15 22 (by decide) (fun h4 => ?_) (fun h4 => ?_)
    · exact k_sub [] rfl (s_X6_isNear_b22 hj hn hl hk he hro F    σ2)
    · refine k_iconst (v := 1) hk dX6_isNear_18 (by decide) ?_
      refine k_goto hk dX6_isNear_19 23 (by decide) ?_
      exact k_sub [] rfl (s_X6_isNear_b23 hj hn hl hk he hro F  1  σ2)
def f_X6_thrown (F : Nat)  (σ : kS) : Option kR := some (.inl (some (.int (σ.1 48 0 0))), σ)
set_option maxRecDepth 20000 in
theorem c_X6_thrown {l : Launch} {E : kE} (hj : kEj E) (hn : kNorm E) (hl : l.stackTraces = false) (F : Nat)   (σ : kS) : kMet l E yX6_thrown cX6_thrown 1 (some .int) (0) (0) 0 id [.ref (kad E 48 0)] σ (f_X6_thrown F  σ) := by
  refine k_met hj hn hl (by decide) (Nat.le_of_ble_eq_true rfl) (fun C Q hk he hro => ?_)
  have hk : kOk (C, E, Q) cX6_thrown RX6 1 := hk
  show Sm (C, E, Q) 1 0 0 [(0, .ref (kad E 48 0))] [] σ _
  unfold f_X6_thrown
  refine k_aload_n hk dX6_thrown_0 0 rfl ?_
  refine k_getf (k := 0) hk dX6_thrown_1 rfl (by decide) kc6 (by decide) fl_RX6_113 rfl ?_
  exact k_ireturn hk he dX6_thrown_4 (by decide)
def f_X6_bad_b28 (F : Nat) (t0 : Int32) (σ : kS) : Option kR := kg (narrow .boolean (.int t0) = .int t0) (some (.inl (some (.int t0)), σ))
set_option maxRecDepth 20000 in
theorem s_X6_bad_b28 {l : Launch} {E : kE} (hj : kEj E) (hn : kNorm E) (hl : l.stackTraces = false) {C : kC} {Q : kR → State → Prop} (hk : kOk (C, E, Q) cX6_bad RX6 3) (he : kEnd (C, E, Q) (some .boolean) id 0) (hro : kRo C l (0) (0) 0) (F : Nat) : ∀ (t0 : Int32)  (σ : kS), Sm (C, E, Q) 3 0 28 [] [.int t0] σ (f_X6_bad_b28 F t0 σ) := by
  intro t0  σ
  unfold f_X6_bad_b28
  exact k_zreturn hk he dX6_bad_28 (by decide)
def f_X6_bad_b16 (F : Nat)  (σ : kS) : Option kR := if (σ.1 48 0 0) = 0 then (f_X6_bad_b28 F 0 σ) else (f_X6_bad_b28 F 1 σ)
set_option maxRecDepth 20000 in
theorem s_X6_bad_b16 {l : Launch} {E : kE} (hj : kEj E) (hn : kNorm E) (hl : l.stackTraces = false) {C : kC} {Q : kR → State → Prop} (hk : kOk (C, E, Q) cX6_bad RX6 3) (he : kEnd (C, E, Q) (some .boolean) id 0) (hro : kRo C l (0) (0) 0) (F : Nat) : ∀   (σ : kS), Sm (C, E, Q) 3 0 16 [(0, .ref (kad E 48 0))] [] σ (f_X6_bad_b16 F  σ) := by
  intro   σ
  unfold f_X6_bad_b16
  refine k_aload_n hk dX6_bad_16 0 rfl ?_
  refine k_getf (k := 0) hk dX6_bad_17 rfl (by decide) kc6 (by decide) fl_RX6_113 rfl ?_
  refine k_if_eq hk dX6_bad_20 27 (by decide) (fun h1 => ?_) (fun h1 => ?_)
  · refine k_iconst (v := 0) hk dX6_bad_27 (by decide) ?_
    exact k_sub [] rfl (s_X6_bad_b28 hj hn hl hk he hro F  0  σ)
  · refine k_iconst (v := 1) hk dX6_bad_23 (by decide) ?_
    refine k_goto hk dX6_bad_24 28 (by decide) ?_
    exact k_sub [] rfl (s_X6_bad_b28 hj hn hl hk he hro F  1  σ)
def f_X6_bad (F : Nat) (a1 : Int32) (a2 : Int32) (σ : kS) : Option kR := if a1 = 0 then (f_X6_bad_b16 F  σ) else (if (σ.1 48 0 0) = 0 then (kb (kU σ 48 0 0 a2) fun σ4 => f_X6_bad_b16 F  σ4) else (f_X6_bad_b16 F  σ))
set_option maxRecDepth 20000 in
theorem c_X6_bad {l : Launch} {E : kE} (hj : kEj E) (hn : kNorm E) (hl : l.stackTraces = false) (F : Nat) (a1 : Int32) (a2 : Int32)  (σ : kS) : kMet l E yX6_bad cX6_bad 3 (some .boolean) (0) (0) 0 id [.ref (kad E 48 0), .int a1, .int a2] σ (f_X6_bad F a1 a2 σ) := by
  refine k_met hj hn hl (by decide) (Nat.le_of_ble_eq_true rfl) (fun C Q hk he hro => ?_)
  have hk : kOk (C, E, Q) cX6_bad RX6 3 := hk
  show Sm (C, E, Q) 3 0 0 [(0, .ref (kad E 48 0)), (1, .int a1), (2, .int a2)] [] σ _
  unfold f_X6_bad
  refine k_iload_n hk dX6_bad_0 1 rfl ?_
  refine k_if_eq hk dX6_bad_1 16 (by decide) (fun h2 => ?_) (fun h2 => ?_)
  · exact k_sub [0] rfl (s_X6_bad_b16 hj hn hl hk he hro F    σ)
  · refine k_aload_n hk dX6_bad_4 0 rfl ?_
    refine k_getf (k := 0) hk dX6_bad_5 rfl (by decide) kc6 (by decide) fl_RX6_113 rfl ?_
    refine k_if_ne hk dX6_bad_8 16 (by decide) (fun h3 => ?_) (fun h3 => ?_)
    · exact k_sub [0] rfl (s_X6_bad_b16 hj hn hl hk he hro F    σ)
    · refine k_aload_n hk dX6_bad_11 0 rfl ?_
      refine k_iload_n hk dX6_bad_12 2 rfl ?_
      refine k_putf (k := 0) hk dX6_bad_13 rfl (by decide) kc6 (by decide) fl_RX6_113 rfl rfl rfl rfl (fun σ4 => ?_)
      exact k_sub [0] rfl (s_X6_bad_b16 hj hn hl hk he hro F    σ4)
def f_X6_feed_b76 (F : Nat) (rr23 : (Int32 × Int32 × Int32 × Int32 × Int32 × Int32) → kS → Option kR) (x1 : Int32) (x2 : Int32) (x3 : Int32) (x4 : Int32) (x5 : Int32) (x6 : Int32) (t0 : Int32) (σ : kS) : Option kR := kg (kin (σ.1 48 0 1) 300) (kb (kU σ 49 0 (σ.1 48 0 1).toNatClampNeg ((t0 >>> ((24 - (8 * (x6 - x6 / 4 * 4))) &&& 31)) &&& 255)) fun σ1 => kb (kU σ1 48 0 1 ((σ1.1 48 0 1) + 1)) fun σ3 => rr23 (x1, x2, x3, x4, x5, x6 + 1) σ3)
set_option maxRecDepth 20000 in
theorem s_X6_feed_b76 {l : Launch} {E : kE} (hj : kEj E) (hn : kNorm E) (hl : l.stackTraces = false) {C : kC} {Q : kR → State → Prop} (hk : kOk (C, E, Q) cX6_feed RX6 8) (he : kEnd (C, E, Q) (some .int) id 0) (hro : kRo C l (0) (0) 0) (F : Nat) (rr23 : (Int32 × Int32 × Int32 × Int32 × Int32 × Int32) → kS → Option kR) (hrr23 : ∀ (x1 : Int32) (x2 : Int32) (x3 : Int32) (x4 : Int32) (x5 : Int32) (x6 : Int32)  (σ : kS), Sm (C, E, Q) 8 0 23 [(0, .ref (kad E 48 0)), (1, .int x1), (2, .int x2), (3, .int x3), (4, .int x4), (5, .int x5), (6, .int x6)] [] σ (rr23 (x1, x2, x3, x4, x5, x6) σ)) : ∀ (x1 : Int32) (x2 : Int32) (x3 : Int32) (x4 : Int32) (x5 : Int32) (x6 : Int32) (t0 : Int32)  (σ : kS), Sm (C, E, Q) 8 0 76 [(0, .ref (kad E 48 0)), (1, .int x1), (2, .int x2), (3, .int x3), (4, .int x4), (5, .int x5), (6, .int x6)] [.int t0] σ (f_X6_feed_b76 F rr23 x1 x2 x3 x4 x5 x6 t0 σ) := by
  intro x1 x2 x3 x4 x5 x6 t0  σ
  unfold f_X6_feed_b76
  refine k_istore (lv' := [(7, .int t0), (0, .ref (kad E 48 0)), (1, .int x1), (2, .int x2), (3, .int x3), (4, .int x4), (5, .int x5), (6, .int x6)]) hk dX6_feed_76 (by decide) rfl ?_
  refine k_aload_n hk dX6_feed_78 1 rfl ?_
  refine k_getr (k := 10) 49 0 hk dX6_feed_79 rfl (by decide) kc6 (by decide) fl_RX6_13 rfl rfl ?_
  refine k_aload_n hk dX6_feed_82 1 rfl ?_
  refine k_getf (k := 1) hk dX6_feed_83 rfl (by decide) kc6 (by decide) fl_RX6_116 rfl ?_
  refine k_iload hk dX6_feed_86 0 rfl ?_
  refine k_bipush (v := 24) hk dX6_feed_88 (by decide) ?_
  refine k_bipush (v := 8) hk dX6_feed_90 (by decide) ?_
  refine k_iload hk dX6_feed_92 7 rfl ?_
  refine k_iconst (v := 4) hk dX6_feed_94 (by decide) ?_
  refine k_irem_c hk dX6_feed_95 (by decide) ?_
  refine k_imul hk dX6_feed_96 ?_
  refine k_isub hk dX6_feed_97 ?_
  refine k_ishr hk dX6_feed_98 ?_
  refine k_sipush (v := 255) hk dX6_feed_99 (by decide) ?_
  refine k_iand hk dX6_feed_102 ?_
  refine k_iast hk dX6_feed_103 rfl (by decide) (fun h2 σ1 => ?_)
  refine k_aload_n hk dX6_feed_104 1 rfl ?_
  refine k_dup hk dX6_feed_105 rfl ?_
  refine k_getf (k := 1) hk dX6_feed_106 rfl (by decide) kc6 (by decide) fl_RX6_116 rfl ?_
  refine k_iconst (v := 1) hk dX6_feed_109 (by decide) ?_
  refine k_iadd hk dX6_feed_110 ?_
  refine k_putf (k := 1) hk dX6_feed_111 rfl (by decide) kc6 (by decide) fl_RX6_116 rfl rfl rfl rfl (fun σ3 => ?_)
  refine k_iinc (lv' := [(6, .int (x6 + 1)), (7, .int t0), (0, .ref (kad E 48 0)), (1, .int x1), (2, .int x2), (3, .int x3), (4, .int x4), (5, .int x5)]) (j := 7) (y := x6 + 1) hk dX6_feed_114 rfl rfl (by decide) rfl ?_
  refine k_goto hk dX6_feed_117 23 (by decide) ?_
  exact k_sub [2, 3, 4, 5, 6, 7, 0] rfl (hrr23 x1 x2 x3 x4 x5 (x6 + 1)  σ3)
def f_X6_feed_b23 (F : Nat) (rr23 : (Int32 × Int32 × Int32 × Int32 × Int32 × Int32) → kS → Option kR) (a : (Int32 × Int32 × Int32 × Int32 × Int32 × Int32)) (σ : kS) : Option kR := match a with
  | (x1, x2, x3, x4, x5, x6) => if 20 ≤ x6 then (some (.inl (some (.int (σ.1 48 0 1))), σ)) else (if 4 ≤ x6 then (if 8 ≤ x6 then (if 12 ≤ x6 then (if 16 ≤ x6 then (f_X6_feed_b76 F rr23 x1 x2 x3 x4 x5 x6 x5 σ) else (f_X6_feed_b76 F rr23 x1 x2 x3 x4 x5 x6 x4 σ)) else (f_X6_feed_b76 F rr23 x1 x2 x3 x4 x5 x6 x3 σ)) else (f_X6_feed_b76 F rr23 x1 x2 x3 x4 x5 x6 x2 σ)) else (f_X6_feed_b76 F rr23 x1 x2 x3 x4 x5 x6 x1 σ))
set_option maxRecDepth 20000 in
theorem s_X6_feed_b23 {l : Launch} {E : kE} (hj : kEj E) (hn : kNorm E) (hl : l.stackTraces = false) {C : kC} {Q : kR → State → Prop} (hk : kOk (C, E, Q) cX6_feed RX6 8) (he : kEnd (C, E, Q) (some .int) id 0) (hro : kRo C l (0) (0) 0) (F : Nat) : ∀ (N9 : Nat) (x1 : Int32) (x2 : Int32) (x3 : Int32) (x4 : Int32) (x5 : Int32) (x6 : Int32)  (σ : kS), Sm (C, E, Q) 8 0 23 [(0, .ref (kad E 48 0)), (1, .int x1), (2, .int x2), (3, .int x3), (4, .int x4), (5, .int x5), (6, .int x6)] [] σ (kFix (f_X6_feed_b23 F) N9 (x1, x2, x3, x4, x5, x6) σ) := by
  intro N9
  induction N9 with
  | zero => intro x1 x2 x3 x4 x5 x6  σ; exact k_no
  | succ N9 ih =>
    intro x1 x2 x3 x4 x5 x6  σ
    show Sm _ _ _ _ _ _ _ (f_X6_feed_b23 F (kFix (f_X6_feed_b23 F) N9) (x1, x2, x3, x4, x5, x6) σ)
    generalize kFix (f_X6_feed_b23 F) N9 = rr23 at ih
    have hrr23 := ih
    unfold f_X6_feed_b23
    dsimp only
    refine k_iload hk dX6_feed_23 6 rfl ?_
    refine k_bipush (v := 20) hk dX6_feed_25 (by decide) ?_
    refine k_icmp_ge hk dX6_feed_27 120 (by decide) (fun h4 => ?_) (fun h4 => ?_)
    · refine k_aload_n hk dX6_feed_120 0 rfl ?_
      refine k_getf (k := 1) hk dX6_feed_121 rfl (by decide) kc6 (by decide) fl_RX6_116 rfl ?_
      exact k_ireturn hk he dX6_feed_124 (by decide)
    · refine k_iload hk dX6_feed_30 6 rfl ?_
      refine k_iconst (v := 4) hk dX6_feed_32 (by decide) ?_
      refine k_icmp_ge hk dX6_feed_33 40 (by decide) (fun h5 => ?_) (fun h5 => ?_)
      · refine k_iload hk dX6_feed_40 6 rfl ?_
        refine k_bipush (v := 8) hk dX6_feed_42 (by decide) ?_
        refine k_icmp_ge hk dX6_feed_44 51 (by decide) (fun h6 => ?_) (fun h6 => ?_)
        · refine k_iload hk dX6_feed_51 6 rfl ?_
          refine k_bipush (v := 12) hk dX6_feed_53 (by decide) ?_
          refine k_icmp_ge hk dX6_feed_55 62 (by decide) (fun h7 => ?_) (fun h7 => ?_)
          · refine k_iload hk dX6_feed_62 6 rfl ?_
            refine k_bipush (v := 16) hk dX6_feed_64 (by decide) ?_
            refine k_icmp_ge hk dX6_feed_66 74 (by decide) (fun h8 => ?_) (fun h8 => ?_)
            · refine k_iload hk dX6_feed_74 5 rfl ?_
              exact k_sub [0, 1, 2, 3, 4, 5, 6] rfl (s_X6_feed_b76 hj hn hl hk he hro F rr23 hrr23  x1 x2 x3 x4 x5 x6 x5  σ)
            · refine k_iload hk dX6_feed_69 4 rfl ?_
              refine k_goto hk dX6_feed_71 76 (by decide) ?_
              exact k_sub [0, 1, 2, 3, 4, 5, 6] rfl (s_X6_feed_b76 hj hn hl hk he hro F rr23 hrr23  x1 x2 x3 x4 x5 x6 x4  σ)
          · refine k_iload_n hk dX6_feed_58 3 rfl ?_
            refine k_goto hk dX6_feed_59 76 (by decide) ?_
            exact k_sub [0, 1, 2, 3, 4, 5, 6] rfl (s_X6_feed_b76 hj hn hl hk he hro F rr23 hrr23  x1 x2 x3 x4 x5 x6 x3  σ)
        · refine k_iload_n hk dX6_feed_47 2 rfl ?_
          refine k_goto hk dX6_feed_48 76 (by decide) ?_
          exact k_sub [0, 1, 2, 3, 4, 5, 6] rfl (s_X6_feed_b76 hj hn hl hk he hro F rr23 hrr23  x1 x2 x3 x4 x5 x6 x2  σ)
      · refine k_iload_n hk dX6_feed_36 1 rfl ?_
        refine k_goto hk dX6_feed_37 76 (by decide) ?_
        exact k_sub [0, 1, 2, 3, 4, 5, 6] rfl (s_X6_feed_b76 hj hn hl hk he hro F rr23 hrr23  x1 x2 x3 x4 x5 x6 x1  σ)
def f_X6_feed (F : Nat) (a1 : Int32) (a2 : Int32) (a3 : Int32) (a4 : Int32) (a5 : Int32) (σ : kS) : Option kR := kb (kU σ 48 0 0 0) fun σ9 => if ((σ9.1 48 0 1) + 20) ≤ 300 then (kFix (f_X6_feed_b23 F) F (a1, a2, a3, a4, a5, 0) σ9) else (some (.inl (some (.int (-1))), σ9))
set_option maxRecDepth 20000 in
theorem c_X6_feed {l : Launch} {E : kE} (hj : kEj E) (hn : kNorm E) (hl : l.stackTraces = false) (F : Nat) (a1 : Int32) (a2 : Int32) (a3 : Int32) (a4 : Int32) (a5 : Int32)  (σ : kS) : kMet l E yX6_feed cX6_feed 8 (some .int) (0) (0) 0 id [.ref (kad E 48 0), .int a1, .int a2, .int a3, .int a4, .int a5] σ (f_X6_feed F a1 a2 a3 a4 a5 σ) := by
  refine k_met hj hn hl (by decide) (Nat.le_of_ble_eq_true rfl) (fun C Q hk he hro => ?_)
  have hk : kOk (C, E, Q) cX6_feed RX6 8 := hk
  show Sm (C, E, Q) 8 0 0 [(0, .ref (kad E 48 0)), (1, .int a1), (2, .int a2), (3, .int a3), (4, .int a4), (5, .int a5)] [] σ _
  unfold f_X6_feed
  refine k_aload_n hk dX6_feed_0 0 rfl ?_
  refine k_iconst (v := 0) hk dX6_feed_1 (by decide) ?_
  refine k_putf (k := 0) hk dX6_feed_2 rfl (by decide) kc6 (by decide) fl_RX6_113 rfl rfl rfl rfl (fun σ9 => ?_)
  refine k_aload_n hk dX6_feed_5 0 rfl ?_
  refine k_getf (k := 1) hk dX6_feed_6 rfl (by decide) kc6 (by decide) fl_RX6_116 rfl ?_
  refine k_bipush (v := 20) hk dX6_feed_9 (by decide) ?_
  refine k_iadd hk dX6_feed_11 ?_
  refine k_sipush (v := 300) hk dX6_feed_12 (by decide) ?_
  refine k_icmp_le hk dX6_feed_15 20 (by decide) (fun h10 => ?_) (fun h10 => ?_)
  · refine k_iconst (v := 0) hk dX6_feed_20 (by decide) ?_
    refine k_istore (lv' := [(6, .int 0), (0, .ref (kad E 48 0)), (1, .int a1), (2, .int a2), (3, .int a3), (4, .int a4), (5, .int a5)]) hk dX6_feed_21 (by decide) rfl ?_
    exact k_sub [1, 2, 3, 4, 5, 6, 0] rfl (s_X6_feed_b23 hj hn hl hk he hro F F a1 a2 a3 a4 a5 0  σ9)
  · refine k_iconst (v := (-1)) hk dX6_feed_18 (by decide) ?_
    exact k_ireturn hk he dX6_feed_19 (by decide)
def f_X6_byteAt_b18 (F : Nat) (t0 : Int32) (σ : kS) : Option kR := some (.inl (some (.int t0)), σ)
set_option maxRecDepth 20000 in
theorem s_X6_byteAt_b18 {l : Launch} {E : kE} (hj : kEj E) (hn : kNorm E) (hl : l.stackTraces = false) {C : kC} {Q : kR → State → Prop} (hk : kOk (C, E, Q) cX6_byteAt RX6 2) (he : kEnd (C, E, Q) (some .int) id 0) (hro : kRo C l (0) (0) 0) (F : Nat) : ∀ (t0 : Int32)  (σ : kS), Sm (C, E, Q) 2 0 18 [] [.int t0] σ (f_X6_byteAt_b18 F t0 σ) := by
  intro t0  σ
  unfold f_X6_byteAt_b18
  exact k_ireturn hk he dX6_byteAt_18 (by decide)
def f_X6_byteAt (F : Nat) (a1 : Int32) (σ : kS) : Option kR := if a1 < (σ.1 48 0 2) then (kg (kin a1 300) (f_X6_byteAt_b18 F (σ.1 49 0 a1.toNatClampNeg) σ)) else (f_X6_byteAt_b18 F (-1) σ)
set_option maxRecDepth 20000 in
theorem c_X6_byteAt {l : Launch} {E : kE} (hj : kEj E) (hn : kNorm E) (hl : l.stackTraces = false) (F : Nat) (a1 : Int32)  (σ : kS) : kMet l E yX6_byteAt cX6_byteAt 2 (some .int) (0) (0) 0 id [.ref (kad E 48 0), .int a1] σ (f_X6_byteAt F a1 σ) := by
  refine k_met hj hn hl (by decide) (Nat.le_of_ble_eq_true rfl) (fun C Q hk he hro => ?_)
  have hk : kOk (C, E, Q) cX6_byteAt RX6 2 := hk
  show Sm (C, E, Q) 2 0 0 [(0, .ref (kad E 48 0)), (1, .int a1)] [] σ _
  unfold f_X6_byteAt
  refine k_iload_n hk dX6_byteAt_0 1 rfl ?_
  refine k_aload_n hk dX6_byteAt_1 0 rfl ?_
  refine k_getf (k := 2) hk dX6_byteAt_2 rfl (by decide) kc6 (by decide) fl_RX6_119 rfl ?_
  refine k_icmp_lt hk dX6_byteAt_5 12 (by decide) (fun h1 => ?_) (fun h1 => ?_)
  · refine k_aload_n hk dX6_byteAt_12 0 rfl ?_
    refine k_getr (k := 10) 49 0 hk dX6_byteAt_13 rfl (by decide) kc6 (by decide) fl_RX6_13 rfl rfl ?_
    refine k_iload_n hk dX6_byteAt_16 1 rfl ?_
    refine k_iald hk dX6_byteAt_17 rfl (by decide) (fun h2 => ?_)
    exact k_sub [] rfl (s_X6_byteAt_b18 hj hn hl hk he hro F  (σ.1 49 0 a1.toNatClampNeg)  σ)
  · refine k_iconst (v := (-1)) hk dX6_byteAt_8 (by decide) ?_
    refine k_goto hk dX6_byteAt_9 18 (by decide) ?_
    exact k_sub [] rfl (s_X6_byteAt_b18 hj hn hl hk he hro F  (-1)  σ)
def f_X6_blanks_b0 (F : Nat) (rr0 : Unit → kS → Option kR) (a : Unit) (σ : kS) : Option kR := match a with
  | _ => kBi (f_X6_byteAt F (σ.1 48 0 4) σ) fun c2 σ1 => if c2 = 32 then (kb (kU σ1 48 0 4 ((σ1.1 48 0 4) + 1)) fun σ4 => rr0 () σ4) else (some (.inl none, σ1))
set_option maxRecDepth 20000 in
theorem s_X6_blanks_b0 {l : Launch} {E : kE} (hj : kEj E) (hn : kNorm E) (hl : l.stackTraces = false) {C : kC} {Q : kR → State → Prop} (hk : kOk (C, E, Q) cX6_blanks RX6 1) (he : kEnd (C, E, Q) none id 0) (hro : kRo C l (1) (21) 0) (F : Nat) : ∀ (N9 : Nat)   (σ : kS), Sm (C, E, Q) 1 0 0 [(0, .ref (kad E 48 0))] [] σ (kFix (f_X6_blanks_b0 F) N9 () σ) := by
  intro N9
  induction N9 with
  | zero => intro   σ; exact k_no
  | succ N9 ih =>
    intro   σ
    show Sm _ _ _ _ _ _ _ (f_X6_blanks_b0 F (kFix (f_X6_blanks_b0 F) N9) () σ)
    generalize kFix (f_X6_blanks_b0 F) N9 = rr0 at ih
    have hrr0 := ih
    unfold f_X6_blanks_b0
    dsimp only
    refine k_aload_n hk dX6_blanks_0 0 rfl ?_
    refine k_aload_n hk dX6_blanks_1 0 rfl ?_
    refine k_getf (k := 4) hk dX6_blanks_2 rfl (by decide) kc6 (by decide) fl_RX6_122 rfl ?_
    refine k_callVi (As := [.int (σ.1 48 0 4)]) (rest := []) hk he hro (c_X6_byteAt hj hn hl F (σ.1 48 0 4)  σ) dX6_blanks_5 cw_RX6_125 rfl (by decide) kc6 rfl ⟨by decide, by decide⟩ (by decide) rfl (Nat.le_of_ble_eq_true rfl) (fun c2 σ1 => ?_)
    refine k_bipush (v := 32) hk dX6_blanks_8 (by decide) ?_
    refine k_icmp_ne hk dX6_blanks_10 26 (by decide) (fun h3 => ?_) (fun h3 => ?_)
    · exact k_return hk he dX6_blanks_26 (by decide)
    · refine k_aload_n hk dX6_blanks_13 0 rfl ?_
      refine k_dup hk dX6_blanks_14 rfl ?_
      refine k_getf (k := 4) hk dX6_blanks_15 rfl (by decide) kc6 (by decide) fl_RX6_122 rfl ?_
      refine k_iconst (v := 1) hk dX6_blanks_18 (by decide) ?_
      refine k_iadd hk dX6_blanks_19 ?_
      refine k_putf (k := 4) hk dX6_blanks_20 rfl (by decide) kc6 (by decide) fl_RX6_122 rfl rfl rfl rfl (fun σ4 => ?_)
      refine k_goto hk dX6_blanks_23 0 (by decide) ?_
      exact k_sub [0] rfl (hrr0   σ4)
def f_X6_blanks (F : Nat)  (σ : kS) : Option kR := kFix (f_X6_blanks_b0 F) F () σ
set_option maxRecDepth 20000 in
theorem c_X6_blanks {l : Launch} {E : kE} (hj : kEj E) (hn : kNorm E) (hl : l.stackTraces = false) (F : Nat)   (σ : kS) : kMet l E yX6_blanks cX6_blanks 1 none (1) (21) 0 id [.ref (kad E 48 0)] σ (f_X6_blanks F  σ) := by
  refine k_met hj hn hl (by decide) (Nat.le_of_ble_eq_true rfl) (fun C Q hk he hro => ?_)
  have hk : kOk (C, E, Q) cX6_blanks RX6 1 := hk
  show Sm (C, E, Q) 1 0 0 [(0, .ref (kad E 48 0))] [] σ _
  unfold f_X6_blanks
  exact k_sub [0] rfl (s_X6_blanks_b0 hj hn hl hk he hro F F   σ)
def f_X6_wrong_b17 (F : Nat)  (σ : kS) : Option kR := some (.inl none, σ)
set_option maxRecDepth 20000 in
theorem s_X6_wrong_b17 {l : Launch} {E : kE} (hj : kEj E) (hn : kNorm E) (hl : l.stackTraces = false) {C : kC} {Q : kR → State → Prop} (hk : kOk (C, E, Q) cX6_wrong RX6 3) (he : kEnd (C, E, Q) none id 0) (hro : kRo C l (0) (0) 0) (F : Nat) : ∀   (σ : kS), Sm (C, E, Q) 3 0 17 [] [] σ (f_X6_wrong_b17 F  σ) := by
  intro   σ
  unfold f_X6_wrong_b17
  exact k_return hk he dX6_wrong_17 (by decide)
def f_X6_wrong (F : Nat) (a1 : Int32) (a2 : Int32) (σ : kS) : Option kR := if (σ.1 48 0 6) = 0 then (kb (kU σ 48 0 6 a1) fun σ2 => kb (kU σ2 48 0 7 a2) fun σ3 => f_X6_wrong_b17 F  σ3) else (f_X6_wrong_b17 F  σ)
set_option maxRecDepth 20000 in
theorem c_X6_wrong {l : Launch} {E : kE} (hj : kEj E) (hn : kNorm E) (hl : l.stackTraces = false) (F : Nat) (a1 : Int32) (a2 : Int32)  (σ : kS) : kMet l E yX6_wrong cX6_wrong 3 none (0) (0) 0 id [.ref (kad E 48 0), .int a1, .int a2] σ (f_X6_wrong F a1 a2 σ) := by
  refine k_met hj hn hl (by decide) (Nat.le_of_ble_eq_true rfl) (fun C Q hk he hro => ?_)
  have hk : kOk (C, E, Q) cX6_wrong RX6 3 := hk
  show Sm (C, E, Q) 3 0 0 [(0, .ref (kad E 48 0)), (1, .int a1), (2, .int a2)] [] σ _
  unfold f_X6_wrong
  refine k_aload_n hk dX6_wrong_0 0 rfl ?_
  refine k_getf (k := 6) hk dX6_wrong_1 rfl (by decide) kc6 (by decide) fl_RX6_129 rfl ?_
  refine k_if_ne hk dX6_wrong_4 17 (by decide) (fun h1 => ?_) (fun h1 => ?_)
  · exact k_sub [] rfl (s_X6_wrong_b17 hj hn hl hk he hro F    σ)
  · refine k_aload_n hk dX6_wrong_7 0 rfl ?_
    refine k_iload_n hk dX6_wrong_8 1 rfl ?_
    refine k_putf (k := 6) hk dX6_wrong_9 rfl (by decide) kc6 (by decide) fl_RX6_129 rfl rfl rfl rfl (fun σ2 => ?_)
    refine k_aload_n hk dX6_wrong_12 0 rfl ?_
    refine k_iload_n hk dX6_wrong_13 2 rfl ?_
    refine k_putf (k := 7) hk dX6_wrong_14 rfl (by decide) kc6 (by decide) fl_RX6_132 rfl rfl rfl rfl (fun σ3 => ?_)
    exact k_sub [] rfl (s_X6_wrong_b17 hj hn hl hk he hro F    σ3)
def f_X6_tells (F : Nat) (a1 : Int32) (σ : kS) : Option kR := if (σ.1 48 0 6) = 0 then (kg (kin (σ.1 48 0 8) 400) (kb (kU σ 50 0 (σ.1 48 0 8).toNatClampNeg a1) fun σ2 => kb (kU σ2 48 0 8 ((σ2.1 48 0 8) + 1)) fun σ4 => some (.inl none, σ4))) else (some (.inl none, σ))
set_option maxRecDepth 20000 in
theorem c_X6_tells {l : Launch} {E : kE} (hj : kEj E) (hn : kNorm E) (hl : l.stackTraces = false) (F : Nat) (a1 : Int32)  (σ : kS) : kMet l E yX6_tells cX6_tells 2 none (0) (0) 0 id [.ref (kad E 48 0), .int a1] σ (f_X6_tells F a1 σ) := by
  refine k_met hj hn hl (by decide) (Nat.le_of_ble_eq_true rfl) (fun C Q hk he hro => ?_)
  have hk : kOk (C, E, Q) cX6_tells RX6 2 := hk
  show Sm (C, E, Q) 2 0 0 [(0, .ref (kad E 48 0)), (1, .int a1)] [] σ _
  unfold f_X6_tells
  refine k_aload_n hk dX6_tells_0 0 rfl ?_
  refine k_getf (k := 6) hk dX6_tells_1 rfl (by decide) kc6 (by decide) fl_RX6_129 rfl ?_
  refine k_if_eq hk dX6_tells_4 8 (by decide) (fun h1 => ?_) (fun h1 => ?_)
  · refine k_aload_n hk dX6_tells_8 0 rfl ?_
    refine k_getr (k := 11) 50 0 hk dX6_tells_9 rfl (by decide) kc6 (by decide) fl_RX6_17 rfl rfl ?_
    refine k_aload_n hk dX6_tells_12 0 rfl ?_
    refine k_getf (k := 8) hk dX6_tells_13 rfl (by decide) kc6 (by decide) fl_RX6_135 rfl ?_
    refine k_iload_n hk dX6_tells_16 1 rfl ?_
    refine k_iast hk dX6_tells_17 rfl (by decide) (fun h3 σ2 => ?_)
    refine k_aload_n hk dX6_tells_18 0 rfl ?_
    refine k_dup hk dX6_tells_19 rfl ?_
    refine k_getf (k := 8) hk dX6_tells_20 rfl (by decide) kc6 (by decide) fl_RX6_135 rfl ?_
    refine k_iconst (v := 1) hk dX6_tells_23 (by decide) ?_
    refine k_iadd hk dX6_tells_24 ?_
    refine k_putf (k := 8) hk dX6_tells_25 rfl (by decide) kc6 (by decide) fl_RX6_135 rfl rfl rfl rfl (fun σ4 => ?_)
    exact k_return hk he dX6_tells_28 (by decide)
  · exact k_return hk he dX6_tells_7 (by decide)
def f_X6_numberHere_b122 (F : Nat) (x4 : Int32) (σ : kS) : Option kR := some (.inl (some (.int x4)), σ)
set_option maxRecDepth 20000 in
theorem s_X6_numberHere_b122 {l : Launch} {E : kE} (hj : kEj E) (hn : kNorm E) (hl : l.stackTraces = false) {C : kC} {Q : kR → State → Prop} (hk : kOk (C, E, Q) cX6_numberHere RX6 5) (he : kEnd (C, E, Q) (some .int) id 0) (hro : kRo C l (2) (41) 0) (F : Nat) : ∀ (x4 : Int32)  (σ : kS), Sm (C, E, Q) 5 0 122 [(4, .int x4)] [] σ (f_X6_numberHere_b122 F x4 σ) := by
  intro x4  σ
  unfold f_X6_numberHere_b122
  refine k_iload hk dX6_numberHere_122 0 rfl ?_
  exact k_ireturn hk he dX6_numberHere_124 (by decide)
def f_X6_numberHere_b91 (F : Nat) (rr44 : (Int32 × Int32 × Int32 × Int32) → kS → Option kR) (x1 : Int32) (x2 : Int32) (x3 : Int32) (t0 : Int32) (σ : kS) : Option kR := kb (kU σ 48 0 4 ((σ.1 48 0 4) + 1)) fun σ1 => rr44 (x1, x2, x3, t0) σ1
set_option maxRecDepth 20000 in
theorem s_X6_numberHere_b91 {l : Launch} {E : kE} (hj : kEj E) (hn : kNorm E) (hl : l.stackTraces = false) {C : kC} {Q : kR → State → Prop} (hk : kOk (C, E, Q) cX6_numberHere RX6 5) (he : kEnd (C, E, Q) (some .int) id 0) (hro : kRo C l (2) (41) 0) (F : Nat) (rr44 : (Int32 × Int32 × Int32 × Int32) → kS → Option kR) (hrr44 : ∀ (x1 : Int32) (x2 : Int32) (x3 : Int32) (x4 : Int32)  (σ : kS), Sm (C, E, Q) 5 0 44 [(0, .ref (kad E 48 0)), (1, .int x1), (2, .int x2), (3, .int x3), (4, .int x4)] [] σ (rr44 (x1, x2, x3, x4) σ)) : ∀ (x1 : Int32) (x2 : Int32) (x3 : Int32) (t0 : Int32)  (σ : kS), Sm (C, E, Q) 5 0 91 [(0, .ref (kad E 48 0)), (1, .int x1), (2, .int x2), (3, .int x3)] [.int t0] σ (f_X6_numberHere_b91 F rr44 x1 x2 x3 t0 σ) := by
  intro x1 x2 x3 t0  σ
  unfold f_X6_numberHere_b91
  refine k_istore (lv' := [(4, .int t0), (0, .ref (kad E 48 0)), (1, .int x1), (2, .int x2), (3, .int x3)]) hk dX6_numberHere_91 (by decide) rfl ?_
  refine k_aload_n hk dX6_numberHere_93 1 rfl ?_
  refine k_dup hk dX6_numberHere_94 rfl ?_
  refine k_getf (k := 4) hk dX6_numberHere_95 rfl (by decide) kc6 (by decide) fl_RX6_122 rfl ?_
  refine k_iconst (v := 1) hk dX6_numberHere_98 (by decide) ?_
  refine k_iadd hk dX6_numberHere_99 ?_
  refine k_putf (k := 4) hk dX6_numberHere_100 rfl (by decide) kc6 (by decide) fl_RX6_122 rfl rfl rfl rfl (fun σ1 => ?_)
  refine k_goto hk dX6_numberHere_103 44 (by decide) ?_
  exact k_sub [1, 2, 3, 4, 0] rfl (hrr44 x1 x2 x3 t0  σ1)
def f_X6_numberHere_b44 (F : Nat) (rr44 : (Int32 × Int32 × Int32 × Int32) → kS → Option kR) (a : (Int32 × Int32 × Int32 × Int32)) (σ : kS) : Option kR := match a with
  | (x1, x2, x3, x4) => kBi (f_X6_byteAt F (σ.1 48 0 4) σ) fun c3 σ2 => kBi (f_X6_isDigit F c3 σ2) fun c5 σ4 => if c5 = 0 then (kBi (f_X6_in F x4 x1 x2 σ4) fun c8 σ7 => if c8 = 0 then (kBv (f_X6_wrong F 2 x3 σ7) fun σ10 => f_X6_numberHere_b122 F x4 σ10) else (f_X6_numberHere_b122 F x4 σ7)) else (kBi (f_X6_byteAt F (σ4.1 48 0 4) σ4) fun c12 σ11 => kb (((10 * x4) + c12) - 48) fun y13 => if y13 ≤ 100000 then (f_X6_numberHere_b91 F rr44 x1 x2 x3 y13 σ11) else (f_X6_numberHere_b91 F rr44 x1 x2 x3 100000 σ11))
set_option maxRecDepth 20000 in
theorem s_X6_numberHere_b44 {l : Launch} {E : kE} (hj : kEj E) (hn : kNorm E) (hl : l.stackTraces = false) {C : kC} {Q : kR → State → Prop} (hk : kOk (C, E, Q) cX6_numberHere RX6 5) (he : kEnd (C, E, Q) (some .int) id 0) (hro : kRo C l (2) (41) 0) (F : Nat) : ∀ (N9 : Nat) (x1 : Int32) (x2 : Int32) (x3 : Int32) (x4 : Int32)  (σ : kS), Sm (C, E, Q) 5 0 44 [(0, .ref (kad E 48 0)), (1, .int x1), (2, .int x2), (3, .int x3), (4, .int x4)] [] σ (kFix (f_X6_numberHere_b44 F) N9 (x1, x2, x3, x4) σ) := by
  intro N9
  induction N9 with
  | zero => intro x1 x2 x3 x4  σ; exact k_no
  | succ N9 ih =>
    intro x1 x2 x3 x4  σ
    show Sm _ _ _ _ _ _ _ (f_X6_numberHere_b44 F (kFix (f_X6_numberHere_b44 F) N9) (x1, x2, x3, x4) σ)
    generalize kFix (f_X6_numberHere_b44 F) N9 = rr44 at ih
    have hrr44 := ih
    unfold f_X6_numberHere_b44
    dsimp only
    refine k_aload_n hk dX6_numberHere_44 0 rfl ?_
    refine k_aload_n hk dX6_numberHere_45 0 rfl ?_
    refine k_getf (k := 4) hk dX6_numberHere_46 rfl (by decide) kc6 (by decide) fl_RX6_122 rfl ?_
    refine k_callVi (As := [.int (σ.1 48 0 4)]) (rest := []) hk he hro (c_X6_byteAt hj hn hl F (σ.1 48 0 4)  σ) dX6_numberHere_49 cw_RX6_125 rfl (by decide) kc6 rfl ⟨by decide, by decide⟩ (by decide) rfl (Nat.le_of_ble_eq_true rfl) (fun c3 σ2 => ?_)
    refine k_callSi (As := [.int c3]) (rest := []) hk he hro (c_X6_isDigit hj hn hl F c3  σ2) dX6_numberHere_52 cw_RX6_141 ⟨by decide, by decide⟩ (by decide) rfl (Nat.le_of_ble_eq_true rfl) (fun c5 σ4 => ?_)
    refine k_if_eq hk dX6_numberHere_55 106 (by decide) (fun h6 => ?_) (fun h6 => ?_)
    · refine k_iload hk dX6_numberHere_106 4 rfl ?_
      refine k_iload_n hk dX6_numberHere_108 1 rfl ?_
      refine k_iload_n hk dX6_numberHere_109 2 rfl ?_
      refine k_callSi (As := [.int x4, .int x1, .int x2]) (rest := []) hk he hro (c_X6_in hj hn hl F x4 x1 x2  σ4) dX6_numberHere_110 cw_RX6_150 ⟨by decide, by decide⟩ (by decide) rfl (Nat.le_of_ble_eq_true rfl) (fun c8 σ7 => ?_)
      refine k_if_ne hk dX6_numberHere_113 122 (by decide) (fun h9 => ?_) (fun h9 => ?_)
      · exact k_sub [4] rfl (s_X6_numberHere_b122 hj hn hl hk he hro F  x4  σ7)
      · refine k_aload_n hk dX6_numberHere_116 0 rfl ?_
        refine k_iconst (v := 2) hk dX6_numberHere_117 (by decide) ?_
        refine k_iload_n hk dX6_numberHere_118 3 rfl ?_
        refine k_callVv (As := [.int 2, .int x3]) (rest := []) hk he hro (c_X6_wrong hj hn hl F 2 x3  σ7) dX6_numberHere_119 cw_RX6_145 rfl (by decide) kc6 rfl ⟨by decide, by decide⟩ (by decide) rfl (Nat.le_of_ble_eq_true rfl) (fun σ10 => ?_)
        exact k_sub [4] rfl (s_X6_numberHere_b122 hj hn hl hk he hro F  x4  σ10)
    · refine k_bipush (v := 10) hk dX6_numberHere_58 (by decide) ?_
      refine k_iload hk dX6_numberHere_60 4 rfl ?_
      refine k_imul hk dX6_numberHere_62 ?_
      refine k_aload_n hk dX6_numberHere_63 0 rfl ?_
      refine k_aload_n hk dX6_numberHere_64 0 rfl ?_
      refine k_getf (k := 4) hk dX6_numberHere_65 rfl (by decide) kc6 (by decide) fl_RX6_122 rfl ?_
      refine k_callVi (As := [.int (σ4.1 48 0 4)]) (rest := [.int (10 * x4)]) hk he hro (c_X6_byteAt hj hn hl F (σ4.1 48 0 4)  σ4) dX6_numberHere_68 cw_RX6_125 rfl (by decide) kc6 rfl ⟨by decide, by decide⟩ (by decide) rfl (Nat.le_of_ble_eq_true rfl) (fun c12 σ11 => ?_)
      refine k_iadd hk dX6_numberHere_71 ?_
      refine k_bipush (v := 48) hk dX6_numberHere_72 (by decide) ?_
      refine k_isub hk dX6_numberHere_74 ?_
      refine k_nm (fun y13 => ?_)
      refine k_istore (lv' := [(4, .int y13), (0, .ref (kad E 48 0)), (1, .int x1), (2, .int x2), (3, .int x3)]) hk dX6_numberHere_75 (by decide) rfl ?_
      refine k_iload hk dX6_numberHere_77 0 rfl ?_
      refine k_ldc (v := 100000) hk dX6_numberHere_79 (kTB_mk (by decide +kernel) rfl) ?_
      refine k_icmp_le hk dX6_numberHere_81 89 (by decide) (fun h14 => ?_) (fun h14 => ?_)
      · refine k_iload hk dX6_numberHere_89 0 rfl ?_
        exact k_sub [1, 2, 3, 4] rfl (s_X6_numberHere_b91 hj hn hl hk he hro F rr44 hrr44  x1 x2 x3 y13  σ11)
      · refine k_ldc (v := 100000) hk dX6_numberHere_84 (kTB_mk (by decide +kernel) rfl) ?_
        refine k_goto hk dX6_numberHere_86 91 (by decide) ?_
        exact k_sub [1, 2, 3, 4] rfl (s_X6_numberHere_b91 hj hn hl hk he hro F rr44 hrr44  x1 x2 x3 100000  σ11)
def f_X6_numberHere (F : Nat) (a1 : Int32) (a2 : Int32) (σ : kS) : Option kR := if (σ.1 48 0 6) = 0 then (kBv (f_X6_blanks F  σ) fun σ16 => kb (σ16.1 48 0 4) fun y17 => kBi (f_X6_byteAt F (σ16.1 48 0 4) σ16) fun c19 σ18 => kBi (f_X6_isDigit F c19 σ18) fun c21 σ20 => if c21 = 0 then (kBv (f_X6_wrong F 1 (σ20.1 48 0 4) σ20) fun σ23 => kFix (f_X6_numberHere_b44 F) F (a1, a2, y17, 0) σ23) else (kFix (f_X6_numberHere_b44 F) F (a1, a2, y17, 0) σ20)) else (some (.inl (some (.int 0)), σ))
set_option maxRecDepth 20000 in
theorem c_X6_numberHere {l : Launch} {E : kE} (hj : kEj E) (hn : kNorm E) (hl : l.stackTraces = false) (F : Nat) (a1 : Int32) (a2 : Int32)  (σ : kS) : kMet l E yX6_numberHere cX6_numberHere 5 (some .int) (2) (41) 0 id [.ref (kad E 48 0), .int a1, .int a2] σ (f_X6_numberHere F a1 a2 σ) := by
  refine k_met hj hn hl (by decide) (Nat.le_of_ble_eq_true rfl) (fun C Q hk he hro => ?_)
  have hk : kOk (C, E, Q) cX6_numberHere RX6 5 := hk
  show Sm (C, E, Q) 5 0 0 [(0, .ref (kad E 48 0)), (1, .int a1), (2, .int a2)] [] σ _
  unfold f_X6_numberHere
  refine k_aload_n hk dX6_numberHere_0 0 rfl ?_
  refine k_getf (k := 6) hk dX6_numberHere_1 rfl (by decide) kc6 (by decide) fl_RX6_129 rfl ?_
  refine k_if_eq hk dX6_numberHere_4 9 (by decide) (fun h15 => ?_) (fun h15 => ?_)
  · refine k_aload_n hk dX6_numberHere_9 0 rfl ?_
    refine k_callVv (As := []) (rest := []) hk he hro (c_X6_blanks hj hn hl F   σ) dX6_numberHere_10 cw_RX6_138 rfl (by decide) kc6 rfl ⟨by decide, by decide⟩ (by decide) rfl (Nat.le_of_ble_eq_true rfl) (fun σ16 => ?_)
    refine k_aload_n hk dX6_numberHere_13 0 rfl ?_
    refine k_getf (k := 4) hk dX6_numberHere_14 rfl (by decide) kc6 (by decide) fl_RX6_122 rfl ?_
    refine k_nm (fun y17 => ?_)
    refine k_istore_n (lv' := [(3, .int y17), (0, .ref (kad E 48 0)), (1, .int a1), (2, .int a2)]) hk dX6_numberHere_17 (by decide) rfl ?_
    refine k_iconst (v := 0) hk dX6_numberHere_18 (by decide) ?_
    refine k_istore (lv' := [(4, .int 0), (3, .int y17), (0, .ref (kad E 48 0)), (1, .int a1), (2, .int a2)]) hk dX6_numberHere_19 (by decide) rfl ?_
    refine k_aload_n hk dX6_numberHere_21 2 rfl ?_
    refine k_aload_n hk dX6_numberHere_22 2 rfl ?_
    refine k_getf (k := 4) hk dX6_numberHere_23 rfl (by decide) kc6 (by decide) fl_RX6_122 rfl ?_
    refine k_callVi (As := [.int (σ16.1 48 0 4)]) (rest := []) hk he hro (c_X6_byteAt hj hn hl F (σ16.1 48 0 4)  σ16) dX6_numberHere_26 cw_RX6_125 rfl (by decide) kc6 rfl ⟨by decide, by decide⟩ (by decide) rfl (Nat.le_of_ble_eq_true rfl) (fun c19 σ18 => ?_)
    refine k_callSi (As := [.int c19]) (rest := []) hk he hro (c_X6_isDigit hj hn hl F c19  σ18) dX6_numberHere_29 cw_RX6_141 ⟨by decide, by decide⟩ (by decide) rfl (Nat.le_of_ble_eq_true rfl) (fun c21 σ20 => ?_)
    refine k_if_ne hk dX6_numberHere_32 44 (by decide) (fun h22 => ?_) (fun h22 => ?_)
    · exact k_sub [2, 3, 4, 1, 0] rfl (s_X6_numberHere_b44 hj hn hl hk he hro F F a1 a2 y17 0  σ20)
    · refine k_aload_n hk dX6_numberHere_35 2 rfl ?_
      refine k_iconst (v := 1) hk dX6_numberHere_36 (by decide) ?_
      refine k_aload_n hk dX6_numberHere_37 2 rfl ?_
      refine k_getf (k := 4) hk dX6_numberHere_38 rfl (by decide) kc6 (by decide) fl_RX6_122 rfl ?_
      refine k_callVv (As := [.int 1, .int (σ20.1 48 0 4)]) (rest := []) hk he hro (c_X6_wrong hj hn hl F 1 (σ20.1 48 0 4)  σ20) dX6_numberHere_41 cw_RX6_145 rfl (by decide) kc6 rfl ⟨by decide, by decide⟩ (by decide) rfl (Nat.le_of_ble_eq_true rfl) (fun σ23 => ?_)
      exact k_sub [2, 3, 4, 1, 0] rfl (s_X6_numberHere_b44 hj hn hl hk he hro F F a1 a2 y17 0  σ23)
  · refine k_iconst (v := 0) hk dX6_numberHere_7 (by decide) ?_
    exact k_ireturn hk he dX6_numberHere_8 (by decide)
def f_X6_wordHere_b86 (F : Nat) (t0 : Int32) (σ : kS) : Option kR := some (.inl (some (.int t0)), σ)
set_option maxRecDepth 20000 in
theorem s_X6_wordHere_b86 {l : Launch} {E : kE} (hj : kEj E) (hn : kNorm E) (hl : l.stackTraces = false) {C : kC} {Q : kR → State → Prop} (hk : kOk (C, E, Q) cX6_wordHere RX6 3) (he : kEnd (C, E, Q) (some .int) id 0) (hro : kRo C l (2) (41) 0) (F : Nat) : ∀ (t0 : Int32)  (σ : kS), Sm (C, E, Q) 3 0 86 [] [.int t0] σ (f_X6_wordHere_b86 F t0 σ) := by
  intro t0  σ
  unfold f_X6_wordHere_b86
  exact k_ireturn hk he dX6_wordHere_86 (by decide)
def f_X6_wordHere_b75 (F : Nat) (x1 : Int32) (x2 : Int32) (σ : kS) : Option kR := if x2 ≤ 6 then (f_X6_wordHere_b86 F x1 σ) else (f_X6_wordHere_b86 F (-1) σ)
set_option maxRecDepth 20000 in
theorem s_X6_wordHere_b75 {l : Launch} {E : kE} (hj : kEj E) (hn : kNorm E) (hl : l.stackTraces = false) {C : kC} {Q : kR → State → Prop} (hk : kOk (C, E, Q) cX6_wordHere RX6 3) (he : kEnd (C, E, Q) (some .int) id 0) (hro : kRo C l (2) (41) 0) (F : Nat) : ∀ (x1 : Int32) (x2 : Int32)  (σ : kS), Sm (C, E, Q) 3 0 75 [(1, .int x1), (2, .int x2)] [] σ (f_X6_wordHere_b75 F x1 x2 σ) := by
  intro x1 x2  σ
  unfold f_X6_wordHere_b75
  refine k_iload_n hk dX6_wordHere_75 1 rfl ?_
  refine k_bipush (v := 6) hk dX6_wordHere_76 (by decide) ?_
  refine k_icmp_le hk dX6_wordHere_78 85 (by decide) (fun h1 => ?_) (fun h1 => ?_)
  · refine k_iload_n hk dX6_wordHere_85 0 rfl ?_
    exact k_sub [] rfl (s_X6_wordHere_b86 hj hn hl hk he hro F  x1  σ)
  · refine k_iconst (v := (-1)) hk dX6_wordHere_81 (by decide) ?_
    refine k_goto hk dX6_wordHere_82 86 (by decide) ?_
    exact k_sub [] rfl (s_X6_wordHere_b86 hj hn hl hk he hro F  (-1)  σ)
def f_X6_wordHere_b68 (F : Nat) (rr8 : (Int32 × Int32) → kS → Option kR) (x2 : Int32) (t0 : Int32) (σ : kS) : Option kR := rr8 (t0, x2 + 1) σ
set_option maxRecDepth 20000 in
theorem s_X6_wordHere_b68 {l : Launch} {E : kE} (hj : kEj E) (hn : kNorm E) (hl : l.stackTraces = false) {C : kC} {Q : kR → State → Prop} (hk : kOk (C, E, Q) cX6_wordHere RX6 3) (he : kEnd (C, E, Q) (some .int) id 0) (hro : kRo C l (2) (41) 0) (F : Nat) (rr8 : (Int32 × Int32) → kS → Option kR) (hrr8 : ∀ (x1 : Int32) (x2 : Int32)  (σ : kS), Sm (C, E, Q) 3 0 8 [(0, .ref (kad E 48 0)), (1, .int x1), (2, .int x2)] [] σ (rr8 (x1, x2) σ)) : ∀ (x2 : Int32) (t0 : Int32)  (σ : kS), Sm (C, E, Q) 3 0 68 [(0, .ref (kad E 48 0)), (2, .int x2)] [.int t0] σ (f_X6_wordHere_b68 F rr8 x2 t0 σ) := by
  intro x2 t0  σ
  unfold f_X6_wordHere_b68
  refine k_istore_n (lv' := [(1, .int t0), (0, .ref (kad E 48 0)), (2, .int x2)]) hk dX6_wordHere_68 (by decide) rfl ?_
  refine k_iinc (lv' := [(2, .int (x2 + 1)), (1, .int t0), (0, .ref (kad E 48 0))]) (j := 2) (y := x2 + 1) hk dX6_wordHere_69 rfl rfl (by decide) rfl ?_
  refine k_goto hk dX6_wordHere_72 8 (by decide) ?_
  exact k_sub [2, 1, 0] rfl (hrr8 t0 (x2 + 1)  σ)
def f_X6_wordHere_b8 (F : Nat) (rr8 : (Int32 × Int32) → kS → Option kR) (a : (Int32 × Int32)) (σ : kS) : Option kR := match a with
  | (x1, x2) => kBi (f_X6_byteAt F ((σ.1 48 0 4) + x2) σ) fun c3 σ2 => if c3 < 97 then (f_X6_wordHere_b75 F x1 x2 σ2) else (kBi (f_X6_byteAt F ((σ2.1 48 0 4) + x2) σ2) fun c6 σ5 => if 122 < c6 then (f_X6_wordHere_b75 F x1 x2 σ5) else (if 6 ≤ x2 then (f_X6_wordHere_b68 F rr8 x2 x1 σ5) else (kBi (f_X6_byteAt F ((σ5.1 48 0 4) + x2) σ5) fun c10 σ9 => f_X6_wordHere_b68 F rr8 x2 ((((27 * x1) + c10) - 97) + 1) σ9)))
set_option maxRecDepth 20000 in
theorem s_X6_wordHere_b8 {l : Launch} {E : kE} (hj : kEj E) (hn : kNorm E) (hl : l.stackTraces = false) {C : kC} {Q : kR → State → Prop} (hk : kOk (C, E, Q) cX6_wordHere RX6 3) (he : kEnd (C, E, Q) (some .int) id 0) (hro : kRo C l (2) (41) 0) (F : Nat) : ∀ (N9 : Nat) (x1 : Int32) (x2 : Int32)  (σ : kS), Sm (C, E, Q) 3 0 8 [(0, .ref (kad E 48 0)), (1, .int x1), (2, .int x2)] [] σ (kFix (f_X6_wordHere_b8 F) N9 (x1, x2) σ) := by
  intro N9
  induction N9 with
  | zero => intro x1 x2  σ; exact k_no
  | succ N9 ih =>
    intro x1 x2  σ
    show Sm _ _ _ _ _ _ _ (f_X6_wordHere_b8 F (kFix (f_X6_wordHere_b8 F) N9) (x1, x2) σ)
    generalize kFix (f_X6_wordHere_b8 F) N9 = rr8 at ih
    have hrr8 := ih
    unfold f_X6_wordHere_b8
    dsimp only
    refine k_aload_n hk dX6_wordHere_8 0 rfl ?_
    refine k_aload_n hk dX6_wordHere_9 0 rfl ?_
    refine k_getf (k := 4) hk dX6_wordHere_10 rfl (by decide) kc6 (by decide) fl_RX6_122 rfl ?_
    refine k_iload_n hk dX6_wordHere_13 2 rfl ?_
    refine k_iadd hk dX6_wordHere_14 ?_
    refine k_callVi (As := [.int ((σ.1 48 0 4) + x2)]) (rest := []) hk he hro (c_X6_byteAt hj hn hl F ((σ.1 48 0 4) + x2)  σ) dX6_wordHere_15 cw_RX6_125 rfl (by decide) kc6 rfl ⟨by decide, by decide⟩ (by decide) rfl (Nat.le_of_ble_eq_true rfl) (fun c3 σ2 => ?_)
    refine k_bipush (v := 97) hk dX6_wordHere_18 (by decide) ?_
    refine k_icmp_lt hk dX6_wordHere_20 75 (by decide) (fun h4 => ?_) (fun h4 => ?_)
    · exact k_sub [1, 2] rfl (s_X6_wordHere_b75 hj hn hl hk he hro F  x1 x2  σ2)
    · refine k_aload_n hk dX6_wordHere_23 0 rfl ?_
      refine k_aload_n hk dX6_wordHere_24 0 rfl ?_
      refine k_getf (k := 4) hk dX6_wordHere_25 rfl (by decide) kc6 (by decide) fl_RX6_122 rfl ?_
      refine k_iload_n hk dX6_wordHere_28 2 rfl ?_
      refine k_iadd hk dX6_wordHere_29 ?_
      refine k_callVi (As := [.int ((σ2.1 48 0 4) + x2)]) (rest := []) hk he hro (c_X6_byteAt hj hn hl F ((σ2.1 48 0 4) + x2)  σ2) dX6_wordHere_30 cw_RX6_125 rfl (by decide) kc6 rfl ⟨by decide, by decide⟩ (by decide) rfl (Nat.le_of_ble_eq_true rfl) (fun c6 σ5 => ?_)
      refine k_bipush (v := 122) hk dX6_wordHere_33 (by decide) ?_
      refine k_icmp_gt hk dX6_wordHere_35 75 (by decide) (fun h7 => ?_) (fun h7 => ?_)
      · exact k_sub [1, 2] rfl (s_X6_wordHere_b75 hj hn hl hk he hro F  x1 x2  σ5)
      · refine k_iload_n hk dX6_wordHere_38 2 rfl ?_
        refine k_bipush (v := 6) hk dX6_wordHere_39 (by decide) ?_
        refine k_icmp_ge hk dX6_wordHere_41 67 (by decide) (fun h8 => ?_) (fun h8 => ?_)
        · refine k_iload_n hk dX6_wordHere_67 1 rfl ?_
          exact k_sub [0, 2] rfl (s_X6_wordHere_b68 hj hn hl hk he hro F rr8 hrr8  x2 x1  σ5)
        · refine k_bipush (v := 27) hk dX6_wordHere_44 (by decide) ?_
          refine k_iload_n hk dX6_wordHere_46 1 rfl ?_
          refine k_imul hk dX6_wordHere_47 ?_
          refine k_aload_n hk dX6_wordHere_48 0 rfl ?_
          refine k_aload_n hk dX6_wordHere_49 0 rfl ?_
          refine k_getf (k := 4) hk dX6_wordHere_50 rfl (by decide) kc6 (by decide) fl_RX6_122 rfl ?_
          refine k_iload_n hk dX6_wordHere_53 2 rfl ?_
          refine k_iadd hk dX6_wordHere_54 ?_
          refine k_callVi (As := [.int ((σ5.1 48 0 4) + x2)]) (rest := [.int (27 * x1)]) hk he hro (c_X6_byteAt hj hn hl F ((σ5.1 48 0 4) + x2)  σ5) dX6_wordHere_55 cw_RX6_125 rfl (by decide) kc6 rfl ⟨by decide, by decide⟩ (by decide) rfl (Nat.le_of_ble_eq_true rfl) (fun c10 σ9 => ?_)
          refine k_iadd hk dX6_wordHere_58 ?_
          refine k_bipush (v := 97) hk dX6_wordHere_59 (by decide) ?_
          refine k_isub hk dX6_wordHere_61 ?_
          refine k_iconst (v := 1) hk dX6_wordHere_62 (by decide) ?_
          refine k_iadd hk dX6_wordHere_63 ?_
          refine k_goto hk dX6_wordHere_64 68 (by decide) ?_
          exact k_sub [0, 2] rfl (s_X6_wordHere_b68 hj hn hl hk he hro F rr8 hrr8  x2 ((((27 * x1) + c10) - 97) + 1)  σ9)
def f_X6_wordHere (F : Nat)  (σ : kS) : Option kR := kBv (f_X6_blanks F  σ) fun σ11 => kFix (f_X6_wordHere_b8 F) F (0, 0) σ11
set_option maxRecDepth 20000 in
theorem c_X6_wordHere {l : Launch} {E : kE} (hj : kEj E) (hn : kNorm E) (hl : l.stackTraces = false) (F : Nat)   (σ : kS) : kMet l E yX6_wordHere cX6_wordHere 3 (some .int) (2) (41) 0 id [.ref (kad E 48 0)] σ (f_X6_wordHere F  σ) := by
  refine k_met hj hn hl (by decide) (Nat.le_of_ble_eq_true rfl) (fun C Q hk he hro => ?_)
  have hk : kOk (C, E, Q) cX6_wordHere RX6 3 := hk
  show Sm (C, E, Q) 3 0 0 [(0, .ref (kad E 48 0))] [] σ _
  unfold f_X6_wordHere
  refine k_aload_n hk dX6_wordHere_0 0 rfl ?_
  refine k_callVv (As := []) (rest := []) hk he hro (c_X6_blanks hj hn hl F   σ) dX6_wordHere_1 cw_RX6_138 rfl (by decide) kc6 rfl ⟨by decide, by decide⟩ (by decide) rfl (Nat.le_of_ble_eq_true rfl) (fun σ11 => ?_)
  refine k_iconst (v := 0) hk dX6_wordHere_4 (by decide) ?_
  refine k_istore_n (lv' := [(1, .int 0), (0, .ref (kad E 48 0))]) hk dX6_wordHere_5 (by decide) rfl ?_
  refine k_iconst (v := 0) hk dX6_wordHere_6 (by decide) ?_
  refine k_istore_n (lv' := [(2, .int 0), (1, .int 0), (0, .ref (kad E 48 0))]) hk dX6_wordHere_7 (by decide) rfl ?_
  exact k_sub [2, 1, 0] rfl (s_X6_wordHere_b8 hj hn hl hk he hro F F 0 0  σ11)
def f_X6_isWord_b24 (F : Nat) (t0 : Int32) (σ : kS) : Option kR := kg (narrow .boolean (.int t0) = .int t0) (some (.inl (some (.int t0)), σ))
set_option maxRecDepth 20000 in
theorem s_X6_isWord_b24 {l : Launch} {E : kE} (hj : kEj E) (hn : kNorm E) (hl : l.stackTraces = false) {C : kC} {Q : kR → State → Prop} (hk : kOk (C, E, Q) cX6_isWord RX6 7) (he : kEnd (C, E, Q) (some .boolean) id 0) (hro : kRo C l (3) (63) 0) (F : Nat) : ∀ (t0 : Int32)  (σ : kS), Sm (C, E, Q) 7 0 24 [] [.int t0] σ (f_X6_isWord_b24 F t0 σ) := by
  intro t0  σ
  unfold f_X6_isWord_b24
  exact k_zreturn hk he dX6_isWord_24 (by decide)
def f_X6_isWord (F : Nat) (a1 : Int32) (a2 : Int32) (a3 : Int32) (a4 : Int32) (a5 : Int32) (a6 : Int32) (σ : kS) : Option kR := kBi (f_X6_wordHere F  σ) fun c2 σ1 => kBi (f_X6_word F a1 a2 a3 a4 a5 a6 σ1) fun c4 σ3 => if c2 = c4 then (f_X6_isWord_b24 F 1 σ3) else (f_X6_isWord_b24 F 0 σ3)
set_option maxRecDepth 20000 in
theorem c_X6_isWord {l : Launch} {E : kE} (hj : kEj E) (hn : kNorm E) (hl : l.stackTraces = false) (F : Nat) (a1 : Int32) (a2 : Int32) (a3 : Int32) (a4 : Int32) (a5 : Int32) (a6 : Int32)  (σ : kS) : kMet l E yX6_isWord cX6_isWord 7 (some .boolean) (3) (63) 0 id [.ref (kad E 48 0), .int a1, .int a2, .int a3, .int a4, .int a5, .int a6] σ (f_X6_isWord F a1 a2 a3 a4 a5 a6 σ) := by
  refine k_met hj hn hl (by decide) (Nat.le_of_ble_eq_true rfl) (fun C Q hk he hro => ?_)
  have hk : kOk (C, E, Q) cX6_isWord RX6 7 := hk
  show Sm (C, E, Q) 7 0 0 [(0, .ref (kad E 48 0)), (1, .int a1), (2, .int a2), (3, .int a3), (4, .int a4), (5, .int a5), (6, .int a6)] [] σ _
  unfold f_X6_isWord
  refine k_aload_n hk dX6_isWord_0 0 rfl ?_
  refine k_callVi (As := []) (rest := []) hk he hro (c_X6_wordHere hj hn hl F   σ) dX6_isWord_1 cw_RX6_154 rfl (by decide) kc6 rfl ⟨by decide, by decide⟩ (by decide) rfl (Nat.le_of_ble_eq_true rfl) (fun c2 σ1 => ?_)
  refine k_iload_n hk dX6_isWord_4 1 rfl ?_
  refine k_iload_n hk dX6_isWord_5 2 rfl ?_
  refine k_iload_n hk dX6_isWord_6 3 rfl ?_
  refine k_iload hk dX6_isWord_7 4 rfl ?_
  refine k_iload hk dX6_isWord_9 5 rfl ?_
  refine k_iload hk dX6_isWord_11 6 rfl ?_
  refine k_callSi (As := [.int a1, .int a2, .int a3, .int a4, .int a5, .int a6]) (rest := [.int c2]) hk he hro (c_X6_word hj hn hl F a1 a2 a3 a4 a5 a6  σ1) dX6_isWord_13 cw_RX6_158 ⟨by decide, by decide⟩ (by decide) rfl (Nat.le_of_ble_eq_true rfl) (fun c4 σ3 => ?_)
  refine k_icmp_ne hk dX6_isWord_16 23 (by decide) (fun h5 => ?_) (fun h5 => ?_)
  · refine k_iconst (v := 0) hk dX6_isWord_23 (by decide) ?_
    exact k_sub [] rfl (s_X6_isWord_b24 hj hn hl hk he hro F  0  σ3)
  · refine k_iconst (v := 1) hk dX6_isWord_19 (by decide) ?_
    refine k_goto hk dX6_isWord_20 24 (by decide) ?_
    exact k_sub [] rfl (s_X6_isWord_b24 hj hn hl hk he hro F  1  σ3)
def f_X6_skipWord_b39 (F : Nat)  (σ : kS) : Option kR := some (.inl none, σ)
set_option maxRecDepth 20000 in
theorem s_X6_skipWord_b39 {l : Launch} {E : kE} (hj : kEj E) (hn : kNorm E) (hl : l.stackTraces = false) {C : kC} {Q : kR → State → Prop} (hk : kOk (C, E, Q) cX6_skipWord RX6 1) (he : kEnd (C, E, Q) none id 0) (hro : kRo C l (1) (21) 0) (F : Nat) : ∀   (σ : kS), Sm (C, E, Q) 1 0 39 [] [] σ (f_X6_skipWord_b39 F  σ) := by
  intro   σ
  unfold f_X6_skipWord_b39
  exact k_return hk he dX6_skipWord_39 (by decide)
def f_X6_skipWord_b0 (F : Nat) (rr0 : Unit → kS → Option kR) (a : Unit) (σ : kS) : Option kR := match a with
  | _ => kBi (f_X6_byteAt F (σ.1 48 0 4) σ) fun c2 σ1 => if c2 < 97 then (f_X6_skipWord_b39 F  σ1) else (kBi (f_X6_byteAt F (σ1.1 48 0 4) σ1) fun c5 σ4 => if 122 < c5 then (f_X6_skipWord_b39 F  σ4) else (kb (kU σ4 48 0 4 ((σ4.1 48 0 4) + 1)) fun σ7 => rr0 () σ7))
set_option maxRecDepth 20000 in
theorem s_X6_skipWord_b0 {l : Launch} {E : kE} (hj : kEj E) (hn : kNorm E) (hl : l.stackTraces = false) {C : kC} {Q : kR → State → Prop} (hk : kOk (C, E, Q) cX6_skipWord RX6 1) (he : kEnd (C, E, Q) none id 0) (hro : kRo C l (1) (21) 0) (F : Nat) : ∀ (N9 : Nat)   (σ : kS), Sm (C, E, Q) 1 0 0 [(0, .ref (kad E 48 0))] [] σ (kFix (f_X6_skipWord_b0 F) N9 () σ) := by
  intro N9
  induction N9 with
  | zero => intro   σ; exact k_no
  | succ N9 ih =>
    intro   σ
    show Sm _ _ _ _ _ _ _ (f_X6_skipWord_b0 F (kFix (f_X6_skipWord_b0 F) N9) () σ)
    generalize kFix (f_X6_skipWord_b0 F) N9 = rr0 at ih
    have hrr0 := ih
    unfold f_X6_skipWord_b0
    dsimp only
    refine k_aload_n hk dX6_skipWord_0 0 rfl ?_
    refine k_aload_n hk dX6_skipWord_1 0 rfl ?_
    refine k_getf (k := 4) hk dX6_skipWord_2 rfl (by decide) kc6 (by decide) fl_RX6_122 rfl ?_
    refine k_callVi (As := [.int (σ.1 48 0 4)]) (rest := []) hk he hro (c_X6_byteAt hj hn hl F (σ.1 48 0 4)  σ) dX6_skipWord_5 cw_RX6_125 rfl (by decide) kc6 rfl ⟨by decide, by decide⟩ (by decide) rfl (Nat.le_of_ble_eq_true rfl) (fun c2 σ1 => ?_)
    refine k_bipush (v := 97) hk dX6_skipWord_8 (by decide) ?_
    refine k_icmp_lt hk dX6_skipWord_10 39 (by decide) (fun h3 => ?_) (fun h3 => ?_)
    · exact k_sub [] rfl (s_X6_skipWord_b39 hj hn hl hk he hro F    σ1)
    · refine k_aload_n hk dX6_skipWord_13 0 rfl ?_
      refine k_aload_n hk dX6_skipWord_14 0 rfl ?_
      refine k_getf (k := 4) hk dX6_skipWord_15 rfl (by decide) kc6 (by decide) fl_RX6_122 rfl ?_
      refine k_callVi (As := [.int (σ1.1 48 0 4)]) (rest := []) hk he hro (c_X6_byteAt hj hn hl F (σ1.1 48 0 4)  σ1) dX6_skipWord_18 cw_RX6_125 rfl (by decide) kc6 rfl ⟨by decide, by decide⟩ (by decide) rfl (Nat.le_of_ble_eq_true rfl) (fun c5 σ4 => ?_)
      refine k_bipush (v := 122) hk dX6_skipWord_21 (by decide) ?_
      refine k_icmp_gt hk dX6_skipWord_23 39 (by decide) (fun h6 => ?_) (fun h6 => ?_)
      · exact k_sub [] rfl (s_X6_skipWord_b39 hj hn hl hk he hro F    σ4)
      · refine k_aload_n hk dX6_skipWord_26 0 rfl ?_
        refine k_dup hk dX6_skipWord_27 rfl ?_
        refine k_getf (k := 4) hk dX6_skipWord_28 rfl (by decide) kc6 (by decide) fl_RX6_122 rfl ?_
        refine k_iconst (v := 1) hk dX6_skipWord_31 (by decide) ?_
        refine k_iadd hk dX6_skipWord_32 ?_
        refine k_putf (k := 4) hk dX6_skipWord_33 rfl (by decide) kc6 (by decide) fl_RX6_122 rfl rfl rfl rfl (fun σ7 => ?_)
        refine k_goto hk dX6_skipWord_36 0 (by decide) ?_
        exact k_sub [0] rfl (hrr0   σ7)
def f_X6_skipWord (F : Nat)  (σ : kS) : Option kR := kFix (f_X6_skipWord_b0 F) F () σ
set_option maxRecDepth 20000 in
theorem c_X6_skipWord {l : Launch} {E : kE} (hj : kEj E) (hn : kNorm E) (hl : l.stackTraces = false) (F : Nat)   (σ : kS) : kMet l E yX6_skipWord cX6_skipWord 1 none (1) (21) 0 id [.ref (kad E 48 0)] σ (f_X6_skipWord F  σ) := by
  refine k_met hj hn hl (by decide) (Nat.le_of_ble_eq_true rfl) (fun C Q hk he hro => ?_)
  have hk : kOk (C, E, Q) cX6_skipWord RX6 1 := hk
  show Sm (C, E, Q) 1 0 0 [(0, .ref (kad E 48 0))] [] σ _
  unfold f_X6_skipWord
  exact k_sub [0] rfl (s_X6_skipWord_b0 hj hn hl hk he hro F F   σ)
def f_X6_must_b28 (F : Nat)  (σ : kS) : Option kR := some (.inl none, σ)
set_option maxRecDepth 20000 in
theorem s_X6_must_b28 {l : Launch} {E : kE} (hj : kEj E) (hn : kNorm E) (hl : l.stackTraces = false) {C : kC} {Q : kR → State → Prop} (hk : kOk (C, E, Q) cX6_must RX6 2) (he : kEnd (C, E, Q) none id 0) (hro : kRo C l (2) (41) 0) (F : Nat) : ∀   (σ : kS), Sm (C, E, Q) 2 0 28 [] [] σ (f_X6_must_b28 F  σ) := by
  intro   σ
  unfold f_X6_must_b28
  exact k_return hk he dX6_must_28 (by decide)
def f_X6_must (F : Nat) (a1 : Int32) (σ : kS) : Option kR := if (σ.1 48 0 6) = 0 then (if a1 = 0 then (kBv (f_X6_wrong F 1 (σ.1 48 0 4) σ) fun σ3 => f_X6_must_b28 F  σ3) else (kBv (f_X6_skipWord F  σ) fun σ4 => f_X6_must_b28 F  σ4)) else (some (.inl none, σ))
set_option maxRecDepth 20000 in
theorem c_X6_must {l : Launch} {E : kE} (hj : kEj E) (hn : kNorm E) (hl : l.stackTraces = false) (F : Nat) (a1 : Int32)  (σ : kS) : kMet l E yX6_must cX6_must 2 none (2) (41) 0 id [.ref (kad E 48 0), .int a1] σ (f_X6_must F a1 σ) := by
  refine k_met hj hn hl (by decide) (Nat.le_of_ble_eq_true rfl) (fun C Q hk he hro => ?_)
  have hk : kOk (C, E, Q) cX6_must RX6 2 := hk
  show Sm (C, E, Q) 2 0 0 [(0, .ref (kad E 48 0)), (1, .int a1)] [] σ _
  unfold f_X6_must
  refine k_aload_n hk dX6_must_0 0 rfl ?_
  refine k_getf (k := 6) hk dX6_must_1 rfl (by decide) kc6 (by decide) fl_RX6_129 rfl ?_
  refine k_if_eq hk dX6_must_4 8 (by decide) (fun h1 => ?_) (fun h1 => ?_)
  · refine k_iload_n hk dX6_must_8 1 rfl ?_
    refine k_if_eq hk dX6_must_9 19 (by decide) (fun h2 => ?_) (fun h2 => ?_)
    · refine k_aload_n hk dX6_must_19 0 rfl ?_
      refine k_iconst (v := 1) hk dX6_must_20 (by decide) ?_
      refine k_aload_n hk dX6_must_21 0 rfl ?_
      refine k_getf (k := 4) hk dX6_must_22 rfl (by decide) kc6 (by decide) fl_RX6_122 rfl ?_
      refine k_callVv (As := [.int 1, .int (σ.1 48 0 4)]) (rest := []) hk he hro (c_X6_wrong hj hn hl F 1 (σ.1 48 0 4)  σ) dX6_must_25 cw_RX6_145 rfl (by decide) kc6 rfl ⟨by decide, by decide⟩ (by decide) rfl (Nat.le_of_ble_eq_true rfl) (fun σ3 => ?_)
      exact k_sub [] rfl (s_X6_must_b28 hj hn hl hk he hro F    σ3)
    · refine k_aload_n hk dX6_must_12 0 rfl ?_
      refine k_callVv (As := []) (rest := []) hk he hro (c_X6_skipWord hj hn hl F   σ) dX6_must_13 cw_RX6_162 rfl (by decide) kc6 rfl ⟨by decide, by decide⟩ (by decide) rfl (Nat.le_of_ble_eq_true rfl) (fun σ4 => ?_)
      refine k_goto hk dX6_must_16 28 (by decide) ?_
      exact k_sub [] rfl (s_X6_must_b28 hj hn hl hk he hro F    σ4)
  · exact k_return hk he dX6_must_7 (by decide)
def f_X6_sign_b46 (F : Nat)  (σ : kS) : Option kR := some (.inl none, σ)
set_option maxRecDepth 20000 in
theorem s_X6_sign_b46 {l : Launch} {E : kE} (hj : kEj E) (hn : kNorm E) (hl : l.stackTraces = false) {C : kC} {Q : kR → State → Prop} (hk : kOk (C, E, Q) cX6_sign RX6 2) (he : kEnd (C, E, Q) none id 0) (hro : kRo C l (2) (41) 0) (F : Nat) : ∀   (σ : kS), Sm (C, E, Q) 2 0 46 [] [] σ (f_X6_sign_b46 F  σ) := by
  intro   σ
  unfold f_X6_sign_b46
  exact k_return hk he dX6_sign_46 (by decide)
def f_X6_sign (F : Nat) (a1 : Int32) (σ : kS) : Option kR := if (σ.1 48 0 6) = 0 then (kBv (f_X6_blanks F  σ) fun σ2 => kBi (f_X6_byteAt F (σ2.1 48 0 4) σ2) fun c4 σ3 => if c4 = a1 then (kb (kU σ3 48 0 4 ((σ3.1 48 0 4) + 1)) fun σ7 => f_X6_sign_b46 F  σ7) else (kBv (f_X6_wrong F 1 (σ3.1 48 0 4) σ3) fun σ6 => f_X6_sign_b46 F  σ6)) else (some (.inl none, σ))
set_option maxRecDepth 20000 in
theorem c_X6_sign {l : Launch} {E : kE} (hj : kEj E) (hn : kNorm E) (hl : l.stackTraces = false) (F : Nat) (a1 : Int32)  (σ : kS) : kMet l E yX6_sign cX6_sign 2 none (2) (41) 0 id [.ref (kad E 48 0), .int a1] σ (f_X6_sign F a1 σ) := by
  refine k_met hj hn hl (by decide) (Nat.le_of_ble_eq_true rfl) (fun C Q hk he hro => ?_)
  have hk : kOk (C, E, Q) cX6_sign RX6 2 := hk
  show Sm (C, E, Q) 2 0 0 [(0, .ref (kad E 48 0)), (1, .int a1)] [] σ _
  unfold f_X6_sign
  refine k_aload_n hk dX6_sign_0 0 rfl ?_
  refine k_getf (k := 6) hk dX6_sign_1 rfl (by decide) kc6 (by decide) fl_RX6_129 rfl ?_
  refine k_if_eq hk dX6_sign_4 8 (by decide) (fun h1 => ?_) (fun h1 => ?_)
  · refine k_aload_n hk dX6_sign_8 0 rfl ?_
    refine k_callVv (As := []) (rest := []) hk he hro (c_X6_blanks hj hn hl F   σ) dX6_sign_9 cw_RX6_138 rfl (by decide) kc6 rfl ⟨by decide, by decide⟩ (by decide) rfl (Nat.le_of_ble_eq_true rfl) (fun σ2 => ?_)
    refine k_aload_n hk dX6_sign_12 0 rfl ?_
    refine k_aload_n hk dX6_sign_13 0 rfl ?_
    refine k_getf (k := 4) hk dX6_sign_14 rfl (by decide) kc6 (by decide) fl_RX6_122 rfl ?_
    refine k_callVi (As := [.int (σ2.1 48 0 4)]) (rest := []) hk he hro (c_X6_byteAt hj hn hl F (σ2.1 48 0 4)  σ2) dX6_sign_17 cw_RX6_125 rfl (by decide) kc6 rfl ⟨by decide, by decide⟩ (by decide) rfl (Nat.le_of_ble_eq_true rfl) (fun c4 σ3 => ?_)
    refine k_iload_n hk dX6_sign_20 1 rfl ?_
    refine k_icmp_ne hk dX6_sign_21 37 (by decide) (fun h5 => ?_) (fun h5 => ?_)
    · refine k_aload_n hk dX6_sign_37 0 rfl ?_
      refine k_iconst (v := 1) hk dX6_sign_38 (by decide) ?_
      refine k_aload_n hk dX6_sign_39 0 rfl ?_
      refine k_getf (k := 4) hk dX6_sign_40 rfl (by decide) kc6 (by decide) fl_RX6_122 rfl ?_
      refine k_callVv (As := [.int 1, .int (σ3.1 48 0 4)]) (rest := []) hk he hro (c_X6_wrong hj hn hl F 1 (σ3.1 48 0 4)  σ3) dX6_sign_43 cw_RX6_145 rfl (by decide) kc6 rfl ⟨by decide, by decide⟩ (by decide) rfl (Nat.le_of_ble_eq_true rfl) (fun σ6 => ?_)
      exact k_sub [] rfl (s_X6_sign_b46 hj hn hl hk he hro F    σ6)
    · refine k_aload_n hk dX6_sign_24 0 rfl ?_
      refine k_dup hk dX6_sign_25 rfl ?_
      refine k_getf (k := 4) hk dX6_sign_26 rfl (by decide) kc6 (by decide) fl_RX6_122 rfl ?_
      refine k_iconst (v := 1) hk dX6_sign_29 (by decide) ?_
      refine k_iadd hk dX6_sign_30 ?_
      refine k_putf (k := 4) hk dX6_sign_31 rfl (by decide) kc6 (by decide) fl_RX6_122 rfl rfl rfl rfl (fun σ7 => ?_)
      refine k_goto hk dX6_sign_34 46 (by decide) ?_
      exact k_sub [] rfl (s_X6_sign_b46 hj hn hl hk he hro F    σ7)
  · exact k_return hk he dX6_sign_7 (by decide)
def f_X6_opens_b18 (F : Nat) (x1 : Int32) (σ : kS) : Option kR := kb (kU σ 48 0 5 ((σ.1 48 0 5) + 1)) fun σ1 => kb (kU σ1 48 0 4 ((σ1.1 48 0 4) + x1)) fun σ2 => some (.inl none, σ2)
set_option maxRecDepth 20000 in
theorem s_X6_opens_b18 {l : Launch} {E : kE} (hj : kEj E) (hn : kNorm E) (hl : l.stackTraces = false) {C : kC} {Q : kR → State → Prop} (hk : kOk (C, E, Q) cX6_opens RX6 2) (he : kEnd (C, E, Q) none id 0) (hro : kRo C l (1) (22) 0) (F : Nat) : ∀ (x1 : Int32)  (σ : kS), Sm (C, E, Q) 2 0 18 [(0, .ref (kad E 48 0)), (1, .int x1)] [] σ (f_X6_opens_b18 F x1 σ) := by
  intro x1  σ
  unfold f_X6_opens_b18
  refine k_aload_n hk dX6_opens_18 0 rfl ?_
  refine k_dup hk dX6_opens_19 rfl ?_
  refine k_getf (k := 5) hk dX6_opens_20 rfl (by decide) kc6 (by decide) fl_RX6_165 rfl ?_
  refine k_iconst (v := 1) hk dX6_opens_23 (by decide) ?_
  refine k_iadd hk dX6_opens_24 ?_
  refine k_putf (k := 5) hk dX6_opens_25 rfl (by decide) kc6 (by decide) fl_RX6_165 rfl rfl rfl rfl (fun σ1 => ?_)
  refine k_aload_n hk dX6_opens_28 0 rfl ?_
  refine k_dup hk dX6_opens_29 rfl ?_
  refine k_getf (k := 4) hk dX6_opens_30 rfl (by decide) kc6 (by decide) fl_RX6_122 rfl ?_
  refine k_iload_n hk dX6_opens_33 1 rfl ?_
  refine k_iadd hk dX6_opens_34 ?_
  refine k_putf (k := 4) hk dX6_opens_35 rfl (by decide) kc6 (by decide) fl_RX6_122 rfl rfl rfl rfl (fun σ2 => ?_)
  exact k_return hk he dX6_opens_38 (by decide)
def f_X6_opens (F : Nat) (a1 : Int32) (σ : kS) : Option kR := if (σ.1 48 0 5) = 6 then (kBv (f_X6_wrong F 3 (σ.1 48 0 4) σ) fun σ4 => f_X6_opens_b18 F a1 σ4) else (f_X6_opens_b18 F a1 σ)
set_option maxRecDepth 20000 in
theorem c_X6_opens {l : Launch} {E : kE} (hj : kEj E) (hn : kNorm E) (hl : l.stackTraces = false) (F : Nat) (a1 : Int32)  (σ : kS) : kMet l E yX6_opens cX6_opens 2 none (1) (22) 0 id [.ref (kad E 48 0), .int a1] σ (f_X6_opens F a1 σ) := by
  refine k_met hj hn hl (by decide) (Nat.le_of_ble_eq_true rfl) (fun C Q hk he hro => ?_)
  have hk : kOk (C, E, Q) cX6_opens RX6 2 := hk
  show Sm (C, E, Q) 2 0 0 [(0, .ref (kad E 48 0)), (1, .int a1)] [] σ _
  unfold f_X6_opens
  refine k_aload_n hk dX6_opens_0 0 rfl ?_
  refine k_getf (k := 5) hk dX6_opens_1 rfl (by decide) kc6 (by decide) fl_RX6_165 rfl ?_
  refine k_bipush (v := 6) hk dX6_opens_4 (by decide) ?_
  refine k_icmp_ne hk dX6_opens_6 18 (by decide) (fun h3 => ?_) (fun h3 => ?_)
  · exact k_sub [0, 1] rfl (s_X6_opens_b18 hj hn hl hk he hro F  a1  σ)
  · refine k_aload_n hk dX6_opens_9 0 rfl ?_
    refine k_iconst (v := 3) hk dX6_opens_10 (by decide) ?_
    refine k_aload_n hk dX6_opens_11 0 rfl ?_
    refine k_getf (k := 4) hk dX6_opens_12 rfl (by decide) kc6 (by decide) fl_RX6_122 rfl ?_
    refine k_callVv (As := [.int 3, .int (σ.1 48 0 4)]) (rest := []) hk he hro (c_X6_wrong hj hn hl F 3 (σ.1 48 0 4)  σ) dX6_opens_15 cw_RX6_145 rfl (by decide) kc6 rfl ⟨by decide, by decide⟩ (by decide) rfl (Nat.le_of_ble_eq_true rfl) (fun σ4 => ?_)
    exact k_sub [0, 1] rfl (s_X6_opens_b18 hj hn hl hk he hro F  a1  σ4)
def f_X6_nameHere_b129 (F : Nat) (t0 : Int32) (σ : kS) : Option kR := some (.inl (some (.int t0)), σ)
set_option maxRecDepth 20000 in
theorem s_X6_nameHere_b129 {l : Launch} {E : kE} (hj : kEj E) (hn : kNorm E) (hl : l.stackTraces = false) {C : kC} {Q : kR → State → Prop} (hk : kOk (C, E, Q) cX6_nameHere RX6 1) (he : kEnd (C, E, Q) (some .int) id 0) (hro : kRo C l (4) (89) 0) (F : Nat) : ∀ (t0 : Int32)  (σ : kS), Sm (C, E, Q) 1 0 129 [] [.int t0] σ (f_X6_nameHere_b129 F t0 σ) := by
  intro t0  σ
  unfold f_X6_nameHere_b129
  exact k_ireturn hk he dX6_nameHere_129 (by decide)
def f_X6_nameHere (F : Nat)  (σ : kS) : Option kR := kBi (f_X6_isWord F 19 5 3 15 14 4 σ) fun c2 σ1 => if c2 = 0 then (kBi (f_X6_isWord F 7 1 16 0 0 0 σ1) fun c5 σ4 => if c5 = 0 then (kBi (f_X6_isWord F 23 5 20 0 0 0 σ4) fun c8 σ7 => if c8 = 0 then (kBi (f_X6_isWord F 8 5 9 7 8 20 σ7) fun c11 σ10 => if c11 = 0 then (kBi (f_X6_isWord F 13 9 24 5 4 0 σ10) fun c14 σ13 => if c14 = 0 then (kBi (f_X6_isWord F 7 1 19 0 0 0 σ13) fun c17 σ16 => if c17 = 0 then (kBi (f_X6_isWord F 6 9 18 5 0 0 σ16) fun c20 σ19 => if c20 = 0 then (f_X6_nameHere_b129 F (-1) σ19) else (f_X6_nameHere_b129 F 6 σ19)) else (some (.inl (some (.int 5)), σ16))) else (some (.inl (some (.int 4)), σ13))) else (some (.inl (some (.int 3)), σ10))) else (some (.inl (some (.int 2)), σ7))) else (some (.inl (some (.int 1)), σ4))) else (some (.inl (some (.int 0)), σ1))
set_option maxRecDepth 20000 in
theorem c_X6_nameHere {l : Launch} {E : kE} (hj : kEj E) (hn : kNorm E) (hl : l.stackTraces = false) (F : Nat)   (σ : kS) : kMet l E yX6_nameHere cX6_nameHere 1 (some .int) (4) (89) 0 id [.ref (kad E 48 0)] σ (f_X6_nameHere F  σ) := by
  refine k_met hj hn hl (by decide) (Nat.le_of_ble_eq_true rfl) (fun C Q hk he hro => ?_)
  have hk : kOk (C, E, Q) cX6_nameHere RX6 1 := hk
  show Sm (C, E, Q) 1 0 0 [(0, .ref (kad E 48 0))] [] σ _
  unfold f_X6_nameHere
  refine k_aload_n hk dX6_nameHere_0 0 rfl ?_
  refine k_bipush (v := 19) hk dX6_nameHere_1 (by decide) ?_
  refine k_iconst (v := 5) hk dX6_nameHere_3 (by decide) ?_
  refine k_iconst (v := 3) hk dX6_nameHere_4 (by decide) ?_
  refine k_bipush (v := 15) hk dX6_nameHere_5 (by decide) ?_
  refine k_bipush (v := 14) hk dX6_nameHere_7 (by decide) ?_
  refine k_iconst (v := 4) hk dX6_nameHere_9 (by decide) ?_
  refine k_callVi (As := [.int 19, .int 5, .int 3, .int 15, .int 14, .int 4]) (rest := []) hk he hro (c_X6_isWord hj hn hl F 19 5 3 15 14 4  σ) dX6_nameHere_10 cw_RX6_168 rfl (by decide) kc6 rfl ⟨by decide, by decide⟩ (by decide) rfl (Nat.le_of_ble_eq_true rfl) (fun c2 σ1 => ?_)
  refine k_if_eq hk dX6_nameHere_13 18 (by decide) (fun h3 => ?_) (fun h3 => ?_)
  · refine k_aload_n hk dX6_nameHere_18 0 rfl ?_
    refine k_bipush (v := 7) hk dX6_nameHere_19 (by decide) ?_
    refine k_iconst (v := 1) hk dX6_nameHere_21 (by decide) ?_
    refine k_bipush (v := 16) hk dX6_nameHere_22 (by decide) ?_
    refine k_iconst (v := 0) hk dX6_nameHere_24 (by decide) ?_
    refine k_iconst (v := 0) hk dX6_nameHere_25 (by decide) ?_
    refine k_iconst (v := 0) hk dX6_nameHere_26 (by decide) ?_
    refine k_callVi (As := [.int 7, .int 1, .int 16, .int 0, .int 0, .int 0]) (rest := []) hk he hro (c_X6_isWord hj hn hl F 7 1 16 0 0 0  σ1) dX6_nameHere_27 cw_RX6_168 rfl (by decide) kc6 rfl ⟨by decide, by decide⟩ (by decide) rfl (Nat.le_of_ble_eq_true rfl) (fun c5 σ4 => ?_)
    refine k_if_eq hk dX6_nameHere_30 35 (by decide) (fun h6 => ?_) (fun h6 => ?_)
    · refine k_aload_n hk dX6_nameHere_35 0 rfl ?_
      refine k_bipush (v := 23) hk dX6_nameHere_36 (by decide) ?_
      refine k_iconst (v := 5) hk dX6_nameHere_38 (by decide) ?_
      refine k_bipush (v := 20) hk dX6_nameHere_39 (by decide) ?_
      refine k_iconst (v := 0) hk dX6_nameHere_41 (by decide) ?_
      refine k_iconst (v := 0) hk dX6_nameHere_42 (by decide) ?_
      refine k_iconst (v := 0) hk dX6_nameHere_43 (by decide) ?_
      refine k_callVi (As := [.int 23, .int 5, .int 20, .int 0, .int 0, .int 0]) (rest := []) hk he hro (c_X6_isWord hj hn hl F 23 5 20 0 0 0  σ4) dX6_nameHere_44 cw_RX6_168 rfl (by decide) kc6 rfl ⟨by decide, by decide⟩ (by decide) rfl (Nat.le_of_ble_eq_true rfl) (fun c8 σ7 => ?_)
      refine k_if_eq hk dX6_nameHere_47 52 (by decide) (fun h9 => ?_) (fun h9 => ?_)
      · refine k_aload_n hk dX6_nameHere_52 0 rfl ?_
        refine k_bipush (v := 8) hk dX6_nameHere_53 (by decide) ?_
        refine k_iconst (v := 5) hk dX6_nameHere_55 (by decide) ?_
        refine k_bipush (v := 9) hk dX6_nameHere_56 (by decide) ?_
        refine k_bipush (v := 7) hk dX6_nameHere_58 (by decide) ?_
        refine k_bipush (v := 8) hk dX6_nameHere_60 (by decide) ?_
        refine k_bipush (v := 20) hk dX6_nameHere_62 (by decide) ?_
        refine k_callVi (As := [.int 8, .int 5, .int 9, .int 7, .int 8, .int 20]) (rest := []) hk he hro (c_X6_isWord hj hn hl F 8 5 9 7 8 20  σ7) dX6_nameHere_64 cw_RX6_168 rfl (by decide) kc6 rfl ⟨by decide, by decide⟩ (by decide) rfl (Nat.le_of_ble_eq_true rfl) (fun c11 σ10 => ?_)
        refine k_if_eq hk dX6_nameHere_67 72 (by decide) (fun h12 => ?_) (fun h12 => ?_)
        · refine k_aload_n hk dX6_nameHere_72 0 rfl ?_
          refine k_bipush (v := 13) hk dX6_nameHere_73 (by decide) ?_
          refine k_bipush (v := 9) hk dX6_nameHere_75 (by decide) ?_
          refine k_bipush (v := 24) hk dX6_nameHere_77 (by decide) ?_
          refine k_iconst (v := 5) hk dX6_nameHere_79 (by decide) ?_
          refine k_iconst (v := 4) hk dX6_nameHere_80 (by decide) ?_
          refine k_iconst (v := 0) hk dX6_nameHere_81 (by decide) ?_
          refine k_callVi (As := [.int 13, .int 9, .int 24, .int 5, .int 4, .int 0]) (rest := []) hk he hro (c_X6_isWord hj hn hl F 13 9 24 5 4 0  σ10) dX6_nameHere_82 cw_RX6_168 rfl (by decide) kc6 rfl ⟨by decide, by decide⟩ (by decide) rfl (Nat.le_of_ble_eq_true rfl) (fun c14 σ13 => ?_)
          refine k_if_eq hk dX6_nameHere_85 90 (by decide) (fun h15 => ?_) (fun h15 => ?_)
          · refine k_aload_n hk dX6_nameHere_90 0 rfl ?_
            refine k_bipush (v := 7) hk dX6_nameHere_91 (by decide) ?_
            refine k_iconst (v := 1) hk dX6_nameHere_93 (by decide) ?_
            refine k_bipush (v := 19) hk dX6_nameHere_94 (by decide) ?_
            refine k_iconst (v := 0) hk dX6_nameHere_96 (by decide) ?_
            refine k_iconst (v := 0) hk dX6_nameHere_97 (by decide) ?_
            refine k_iconst (v := 0) hk dX6_nameHere_98 (by decide) ?_
            refine k_callVi (As := [.int 7, .int 1, .int 19, .int 0, .int 0, .int 0]) (rest := []) hk he hro (c_X6_isWord hj hn hl F 7 1 19 0 0 0  σ13) dX6_nameHere_99 cw_RX6_168 rfl (by decide) kc6 rfl ⟨by decide, by decide⟩ (by decide) rfl (Nat.le_of_ble_eq_true rfl) (fun c17 σ16 => ?_)
            refine k_if_eq hk dX6_nameHere_102 107 (by decide) (fun h18 => ?_) (fun h18 => ?_)
            · refine k_aload_n hk dX6_nameHere_107 0 rfl ?_
              refine k_bipush (v := 6) hk dX6_nameHere_108 (by decide) ?_
              refine k_bipush (v := 9) hk dX6_nameHere_110 (by decide) ?_
              refine k_bipush (v := 18) hk dX6_nameHere_112 (by decide) ?_
              refine k_iconst (v := 5) hk dX6_nameHere_114 (by decide) ?_
              refine k_iconst (v := 0) hk dX6_nameHere_115 (by decide) ?_
              refine k_iconst (v := 0) hk dX6_nameHere_116 (by decide) ?_
              refine k_callVi (As := [.int 6, .int 9, .int 18, .int 5, .int 0, .int 0]) (rest := []) hk he hro (c_X6_isWord hj hn hl F 6 9 18 5 0 0  σ16) dX6_nameHere_117 cw_RX6_168 rfl (by decide) kc6 rfl ⟨by decide, by decide⟩ (by decide) rfl (Nat.le_of_ble_eq_true rfl) (fun c20 σ19 => ?_)
              refine k_if_eq hk dX6_nameHere_120 128 (by decide) (fun h21 => ?_) (fun h21 => ?_)
              · refine k_iconst (v := (-1)) hk dX6_nameHere_128 (by decide) ?_
                exact k_sub [] rfl (s_X6_nameHere_b129 hj hn hl hk he hro F  (-1)  σ19)
              · refine k_bipush (v := 6) hk dX6_nameHere_123 (by decide) ?_
                refine k_goto hk dX6_nameHere_125 129 (by decide) ?_
                exact k_sub [] rfl (s_X6_nameHere_b129 hj hn hl hk he hro F  6  σ19)
            · refine k_iconst (v := 5) hk dX6_nameHere_105 (by decide) ?_
              exact k_ireturn hk he dX6_nameHere_106 (by decide)
          · refine k_iconst (v := 4) hk dX6_nameHere_88 (by decide) ?_
            exact k_ireturn hk he dX6_nameHere_89 (by decide)
        · refine k_iconst (v := 3) hk dX6_nameHere_70 (by decide) ?_
          exact k_ireturn hk he dX6_nameHere_71 (by decide)
      · refine k_iconst (v := 2) hk dX6_nameHere_50 (by decide) ?_
        exact k_ireturn hk he dX6_nameHere_51 (by decide)
    · refine k_iconst (v := 1) hk dX6_nameHere_33 (by decide) ?_
      exact k_ireturn hk he dX6_nameHere_34 (by decide)
  · refine k_iconst (v := 0) hk dX6_nameHere_16 (by decide) ?_
    exact k_ireturn hk he dX6_nameHere_17 (by decide)
