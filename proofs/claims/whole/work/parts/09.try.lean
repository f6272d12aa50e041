def f_X6_in_b15 (F : Nat) (t0 : Int32) (σ : kS) : Option kR := kg (narrow .boolean (.int t0) = .int t0) (some (.inl (some (.int t0)), σ))
set_option maxRecDepth 20000 in
theorem s_X6_in_b15 {l : Launch} {E : kE} (hj : kEj E) (hn : kNorm E) (hl : l.stackTraces = false) {C : kC} {Q : kR → State → Prop} (hk : kOk (C, E, Q) cX6_in RX6 3) (he : kEnd (C, E, Q) (some .boolean) id 0) (hro : kRo C l 0 0 0) (F : Nat) : ∀ (t0 : Int32)  (σ : kS), Sm (C, E, Q) 3 0 15 [] [.int t0] σ (f_X6_in_b15 F t0 σ) := by
  intro t0  σ
  unfold f_X6_in_b15
  exact k_zreturn hk he dX6_in_15 (by decide)
def f_X6_in_b14 (F : Nat)  (σ : kS) : Option kR := f_X6_in_b15 F 0 σ
set_option maxRecDepth 20000 in
theorem s_X6_in_b14 {l : Launch} {E : kE} (hj : kEj E) (hn : kNorm E) (hl : l.stackTraces = false) {C : kC} {Q : kR → State → Prop} (hk : kOk (C, E, Q) cX6_in RX6 3) (he : kEnd (C, E, Q) (some .boolean) id 0) (hro : kRo C l 0 0 0) (F : Nat) : ∀   (σ : kS), Sm (C, E, Q) 3 0 14 [] [] σ (f_X6_in_b14 F  σ) := by
  intro   σ
  unfold f_X6_in_b14
  refine k_iconst (v := 0) hk dX6_in_14 (by decide) ?_
  exact k_sub [] rfl (s_X6_in_b15 hj hn hl hk he hro F  0  σ)
def f_X6_in (F : Nat) (a0 : Int32) (a1 : Int32) (a2 : Int32) (σ : kS) : Option kR := if a0 < a1 then (f_X6_in_b14 F  σ) else (if a2 < a0 then (f_X6_in_b14 F  σ) else (f_X6_in_b15 F 1 σ))
set_option maxRecDepth 20000 in
theorem c_X6_in {l : Launch} {E : kE} (hj : kEj E) (hn : kNorm E) (hl : l.stackTraces = false) (F : Nat) (a0 : Int32) (a1 : Int32) (a2 : Int32)  (σ : kS) : kMet l E yX6_in cX6_in 3 (some .boolean) 0 0 0 id [.int a0, .int a1, .int a2] σ (f_X6_in F a0 a1 a2 σ) := by
  refine k_met hj hn hl (by decide) (Nat.le_of_ble_eq_true rfl) (fun C Q hk he hro => ?_)
  have hk : kOk (C, E, Q) cX6_in RX6 3 := hk
  show Sm (C, E, Q) 3 0 0 [(0, .int a0), (1, .int a1), (2, .int a2)] [] σ _
  unfold f_X6_in
  refine k_iload_n hk dX6_in_0 0 rfl ?_
  refine k_iload_n hk dX6_in_1 1 rfl ?_
  refine k_icmp_lt hk dX6_in_2 14 (by decide) (fun h1 => ?_) (fun h1 => ?_)
  · exact k_sub [] rfl (s_X6_in_b14 hj hn hl hk he hro F    σ)
  · refine k_iload_n hk dX6_in_5 0 rfl ?_
    refine k_iload_n hk dX6_in_6 2 rfl ?_
    refine k_icmp_gt hk dX6_in_7 14 (by decide) (fun h2 => ?_) (fun h2 => ?_)
    · exact k_sub [] rfl (s_X6_in_b14 hj hn hl hk he hro F    σ)
    · refine k_iconst (v := 1) hk dX6_in_10 (by decide) ?_
      refine k_goto hk dX6_in_11 15 (by decide) ?_
      exact k_sub [] rfl (s_X6_in_b15 hj hn hl hk he hro F  1  σ)
def f_X6_less_b10 (F : Nat) (t0 : Int32) (σ : kS) : Option kR := some (.inl (some (.int t0)), σ)
set_option maxRecDepth 20000 in
theorem s_X6_less_b10 {l : Launch} {E : kE} (hj : kEj E) (hn : kNorm E) (hl : l.stackTraces = false) {C : kC} {Q : kR → State → Prop} (hk : kOk (C, E, Q) cX6_less RX6 2) (he : kEnd (C, E, Q) (some .int) id 0) (hro : kRo C l 0 0 0) (F : Nat) : ∀ (t0 : Int32)  (σ : kS), Sm (C, E, Q) 2 0 10 [] [.int t0] σ (f_X6_less_b10 F t0 σ) := by
  intro t0  σ
  unfold f_X6_less_b10
  exact k_ireturn hk he dX6_less_10 (by decide)
def f_X6_less (F : Nat) (a0 : Int32) (a1 : Int32) (σ : kS) : Option kR := if a1 ≤ a0 then (f_X6_less_b10 F a1 σ) else (f_X6_less_b10 F a0 σ)
set_option maxRecDepth 20000 in
theorem c_X6_less {l : Launch} {E : kE} (hj : kEj E) (hn : kNorm E) (hl : l.stackTraces = false) (F : Nat) (a0 : Int32) (a1 : Int32)  (σ : kS) : kMet l E yX6_less cX6_less 2 (some .int) 0 0 0 id [.int a0, .int a1] σ (f_X6_less F a0 a1 σ) := by
  refine k_met hj hn hl (by decide) (Nat.le_of_ble_eq_true rfl) (fun C Q hk he hro => ?_)
  have hk : kOk (C, E, Q) cX6_less RX6 2 := hk
  show Sm (C, E, Q) 2 0 0 [(0, .int a0), (1, .int a1)] [] σ _
  unfold f_X6_less
  refine k_iload_n hk dX6_less_0 0 rfl ?_
  refine k_iload_n hk dX6_less_1 1 rfl ?_
  refine k_icmp_ge hk dX6_less_2 9 (by decide) (fun h1 => ?_) (fun h1 => ?_)
  · refine k_iload_n hk dX6_less_9 1 rfl ?_
    exact k_sub [] rfl (s_X6_less_b10 hj hn hl hk he hro F  a1  σ)
  · refine k_iload_n hk dX6_less_5 0 rfl ?_
    refine k_goto hk dX6_less_6 10 (by decide) ?_
    exact k_sub [] rfl (s_X6_less_b10 hj hn hl hk he hro F  a0  σ)
def f_X6_more_b10 (F : Nat) (t0 : Int32) (σ : kS) : Option kR := some (.inl (some (.int t0)), σ)
set_option maxRecDepth 20000 in
theorem s_X6_more_b10 {l : Launch} {E : kE} (hj : kEj E) (hn : kNorm E) (hl : l.stackTraces = false) {C : kC} {Q : kR → State → Prop} (hk : kOk (C, E, Q) cX6_more RX6 2) (he : kEnd (C, E, Q) (some .int) id 0) (hro : kRo C l 0 0 0) (F : Nat) : ∀ (t0 : Int32)  (σ : kS), Sm (C, E, Q) 2 0 10 [] [.int t0] σ (f_X6_more_b10 F t0 σ) := by
  intro t0  σ
  unfold f_X6_more_b10
  exact k_ireturn hk he dX6_more_10 (by decide)
def f_X6_more (F : Nat) (a0 : Int32) (a1 : Int32) (σ : kS) : Option kR := if a0 ≤ a1 then (f_X6_more_b10 F a1 σ) else (f_X6_more_b10 F a0 σ)
set_option maxRecDepth 20000 in
theorem c_X6_more {l : Launch} {E : kE} (hj : kEj E) (hn : kNorm E) (hl : l.stackTraces = false) (F : Nat) (a0 : Int32) (a1 : Int32)  (σ : kS) : kMet l E yX6_more cX6_more 2 (some .int) 0 0 0 id [.int a0, .int a1] σ (f_X6_more F a0 a1 σ) := by
  refine k_met hj hn hl (by decide) (Nat.le_of_ble_eq_true rfl) (fun C Q hk he hro => ?_)
  have hk : kOk (C, E, Q) cX6_more RX6 2 := hk
  show Sm (C, E, Q) 2 0 0 [(0, .int a0), (1, .int a1)] [] σ _
  unfold f_X6_more
  refine k_iload_n hk dX6_more_0 0 rfl ?_
  refine k_iload_n hk dX6_more_1 1 rfl ?_
  refine k_icmp_le hk dX6_more_2 9 (by decide) (fun h1 => ?_) (fun h1 => ?_)
  · refine k_iload_n hk dX6_more_9 1 rfl ?_
    exact k_sub [] rfl (s_X6_more_b10 hj hn hl hk he hro F  a1  σ)
  · refine k_iload_n hk dX6_more_5 0 rfl ?_
    refine k_goto hk dX6_more_6 10 (by decide) ?_
    exact k_sub [] rfl (s_X6_more_b10 hj hn hl hk he hro F  a0  σ)
def f_X6_lowest_b10 (F : Nat) (t0 : Int32) (σ : kS) : Option kR := some (.inl (some (.int t0)), σ)
set_option maxRecDepth 20000 in
theorem s_X6_lowest_b10 {l : Launch} {E : kE} (hj : kEj E) (hn : kNorm E) (hl : l.stackTraces = false) {C : kC} {Q : kR → State → Prop} (hk : kOk (C, E, Q) cX6_lowest RX6 1) (he : kEnd (C, E, Q) (some .int) id 0) (hro : kRo C l 0 0 0) (F : Nat) : ∀ (t0 : Int32)  (σ : kS), Sm (C, E, Q) 1 0 10 [] [.int t0] σ (f_X6_lowest_b10 F t0 σ) := by
  intro t0  σ
  unfold f_X6_lowest_b10
  exact k_ireturn hk he dX6_lowest_10 (by decide)
def f_X6_lowest (F : Nat) (a0 : Int32) (σ : kS) : Option kR := if a0 = 5 then (f_X6_lowest_b10 F 1 σ) else (f_X6_lowest_b10 F 0 σ)
set_option maxRecDepth 20000 in
theorem c_X6_lowest {l : Launch} {E : kE} (hj : kEj E) (hn : kNorm E) (hl : l.stackTraces = false) (F : Nat) (a0 : Int32)  (σ : kS) : kMet l E yX6_lowest cX6_lowest 1 (some .int) 0 0 0 id [.int a0] σ (f_X6_lowest F a0 σ) := by
  refine k_met hj hn hl (by decide) (Nat.le_of_ble_eq_true rfl) (fun C Q hk he hro => ?_)
  have hk : kOk (C, E, Q) cX6_lowest RX6 1 := hk
  show Sm (C, E, Q) 1 0 0 [(0, .int a0)] [] σ _
  unfold f_X6_lowest
  refine k_iload_n hk dX6_lowest_0 0 rfl ?_
  refine k_iconst (v := 5) hk dX6_lowest_1 (by decide) ?_
  refine k_icmp_ne hk dX6_lowest_2 9 (by decide) (fun h1 => ?_) (fun h1 => ?_)
  · refine k_iconst (v := 0) hk dX6_lowest_9 (by decide) ?_
    exact k_sub [] rfl (s_X6_lowest_b10 hj hn hl hk he hro F  0  σ)
  · refine k_iconst (v := 1) hk dX6_lowest_5 (by decide) ?_
    refine k_goto hk dX6_lowest_6 10 (by decide) ?_
    exact k_sub [] rfl (s_X6_lowest_b10 hj hn hl hk he hro F  1  σ)
def f_X6_highest_b46 (F : Nat) (t0 : Int32) (σ : kS) : Option kR := some (.inl (some (.int t0)), σ)
set_option maxRecDepth 20000 in
theorem s_X6_highest_b46 {l : Launch} {E : kE} (hj : kEj E) (hn : kNorm E) (hl : l.stackTraces = false) {C : kC} {Q : kR → State → Prop} (hk : kOk (C, E, Q) cX6_highest RX6 1) (he : kEnd (C, E, Q) (some .int) id 0) (hro : kRo C l 0 0 0) (F : Nat) : ∀ (t0 : Int32)  (σ : kS), Sm (C, E, Q) 1 0 46 [] [.int t0] σ (f_X6_highest_b46 F t0 σ) := by
  intro t0  σ
  unfold f_X6_highest_b46
  exact k_ireturn hk he dX6_highest_46 (by decide)
def f_X6_highest_b38 (F : Nat)  (σ : kS) : Option kR := f_X6_highest_b46 F 999 σ
set_option maxRecDepth 20000 in
theorem s_X6_highest_b38 {l : Launch} {E : kE} (hj : kEj E) (hn : kNorm E) (hl : l.stackTraces = false) {C : kC} {Q : kR → State → Prop} (hk : kOk (C, E, Q) cX6_highest RX6 1) (he : kEnd (C, E, Q) (some .int) id 0) (hro : kRo C l 0 0 0) (F : Nat) : ∀   (σ : kS), Sm (C, E, Q) 1 0 38 [] [] σ (f_X6_highest_b38 F  σ) := by
  intro   σ
  unfold f_X6_highest_b38
  refine k_sipush (v := 999) hk dX6_highest_38 (by decide) ?_
  refine k_goto hk dX6_highest_41 46 (by decide) ?_
  exact k_sub [] rfl (s_X6_highest_b46 hj hn hl hk he hro F  999  σ)
def f_X6_highest (F : Nat) (a0 : Int32) (σ : kS) : Option kR := if a0 = 5 then (f_X6_highest_b46 F 20 σ) else (if a0 = 7 then (f_X6_highest_b46 F 9999 σ) else (if a0 = 1 then (f_X6_highest_b38 F  σ) else (if a0 = 2 then (f_X6_highest_b38 F  σ) else (if a0 = 9 then (f_X6_highest_b38 F  σ) else (f_X6_highest_b46 F 99 σ)))))
set_option maxRecDepth 20000 in
theorem c_X6_highest {l : Launch} {E : kE} (hj : kEj E) (hn : kNorm E) (hl : l.stackTraces = false) (F : Nat) (a0 : Int32)  (σ : kS) : kMet l E yX6_highest cX6_highest 1 (some .int) 0 0 0 id [.int a0] σ (f_X6_highest F a0 σ) := by
  refine k_met hj hn hl (by decide) (Nat.le_of_ble_eq_true rfl) (fun C Q hk he hro => ?_)
  have hk : kOk (C, E, Q) cX6_highest RX6 1 := hk
  show Sm (C, E, Q) 1 0 0 [(0, .int a0)] [] σ _
  unfold f_X6_highest
  refine k_iload_n hk dX6_highest_0 0 rfl ?_
  refine k_iconst (v := 5) hk dX6_highest_1 (by decide) ?_
  refine k_icmp_ne hk dX6_highest_2 10 (by decide) (fun h1 => ?_) (fun h1 => ?_)
  · refine k_iload_n hk dX6_highest_10 0 rfl ?_
    refine k_bipush (v := 7) hk dX6_highest_11 (by decide) ?_
    refine k_icmp_ne hk dX6_highest_13 22 (by decide) (fun h2 => ?_) (fun h2 => ?_)
    · refine k_iload_n hk dX6_highest_22 0 rfl ?_
      refine k_iconst (v := 1) hk dX6_highest_23 (by decide) ?_
      refine k_icmp_eq hk dX6_highest_24 38 (by decide) (fun h3 => ?_) (fun h3 => ?_)
      · exact k_sub [] rfl (s_X6_highest_b38 hj hn hl hk he hro F    σ)
      · refine k_iload_n hk dX6_highest_27 0 rfl ?_
        refine k_iconst (v := 2) hk dX6_highest_28 (by decide) ?_
        refine k_icmp_eq hk dX6_highest_29 38 (by decide) (fun h4 => ?_) (fun h4 => ?_)
        · exact k_sub [] rfl (s_X6_highest_b38 hj hn hl hk he hro F    σ)
        · refine k_iload_n hk dX6_highest_32 0 rfl ?_
          refine k_bipush (v := 9) hk dX6_highest_33 (by decide) ?_
          refine k_icmp_ne hk dX6_highest_35 44 (by decide) (fun h5 => ?_) (fun h5 => ?_)
          · refine k_bipush (v := 99) hk dX6_highest_44 (by decide) ?_
            exact k_sub [] rfl (s_X6_highest_b46 hj hn hl hk he hro F  99  σ)
          · exact k_sub [] rfl (s_X6_highest_b38 hj hn hl hk he hro F    σ)
    · refine k_sipush (v := 9999) hk dX6_highest_16 (by decide) ?_
      refine k_goto hk dX6_highest_19 46 (by decide) ?_
      exact k_sub [] rfl (s_X6_highest_b46 hj hn hl hk he hro F  9999  σ)
  · refine k_bipush (v := 20) hk dX6_highest_5 (by decide) ?_
    refine k_goto hk dX6_highest_7 46 (by decide) ?_
    exact k_sub [] rfl (s_X6_highest_b46 hj hn hl hk he hro F  20  σ)
def f_X6_thrown (F : Nat)  (σ : kS) : Option kR := some (.inl (some (.int (σ.1 48 0 0))), σ)
set_option maxRecDepth 20000 in
theorem c_X6_thrown {l : Launch} {E : kE} (hj : kEj E) (hn : kNorm E) (hl : l.stackTraces = false) (F : Nat)   (σ : kS) : kMet l E yX6_thrown cX6_thrown 1 (some .int) 0 0 0 id [.ref (kad E 48 0)] σ (f_X6_thrown F  σ) := by
  refine k_met hj hn hl (by decide) (Nat.le_of_ble_eq_true rfl) (fun C Q hk he hro => ?_)
  have hk : kOk (C, E, Q) cX6_thrown RX6 1 := hk
  show Sm (C, E, Q) 1 0 0 [(0, .ref (kad E 48 0))] [] σ _
  unfold f_X6_thrown
  refine k_aload_n hk dX6_thrown_0 0 rfl ?_
  refine k_getf (k := 0) hk dX6_thrown_1 rfl (by decide) kc6 (by decide) fl_RX6_113 rfl ?_
  exact k_ireturn hk he dX6_thrown_4 (by decide)
def f_X6_bad_b28 (F : Nat) (t0 : Int32) (σ : kS) : Option kR := kg (narrow .boolean (.int t0) = .int t0) (some (.inl (some (.int t0)), σ))
set_option maxRecDepth 20000 in
theorem s_X6_bad_b28 {l : Launch} {E : kE} (hj : kEj E) (hn : kNorm E) (hl : l.stackTraces = false) {C : kC} {Q : kR → State → Prop} (hk : kOk (C, E, Q) cX6_bad RX6 3) (he : kEnd (C, E, Q) (some .boolean) id 0) (hro : kRo C l 0 0 0) (F : Nat) : ∀ (t0 : Int32)  (σ : kS), Sm (C, E, Q) 3 0 28 [] [.int t0] σ (f_X6_bad_b28 F t0 σ) := by
  intro t0  σ
  unfold f_X6_bad_b28
  exact k_zreturn hk he dX6_bad_28 (by decide)
def f_X6_bad_b16 (F : Nat)  (σ : kS) : Option kR := if (σ.1 48 0 0) = 0 then (f_X6_bad_b28 F 0 σ) else (f_X6_bad_b28 F 1 σ)
set_option maxRecDepth 20000 in
theorem s_X6_bad_b16 {l : Launch} {E : kE} (hj : kEj E) (hn : kNorm E) (hl : l.stackTraces = false) {C : kC} {Q : kR → State → Prop} (hk : kOk (C, E, Q) cX6_bad RX6 3) (he : kEnd (C, E, Q) (some .boolean) id 0) (hro : kRo C l 0 0 0) (F : Nat) : ∀   (σ : kS), Sm (C, E, Q) 3 0 16 [(0, .ref (kad E 48 0))] [] σ (f_X6_bad_b16 F  σ) := by
  intro   σ
  unfold f_X6_bad_b16
  refine k_aload_n hk dX6_bad_16 0 rfl ?_
  refine k_getf (k := 0) hk dX6_bad_17 rfl (by decide) kc6 (by decide) fl_RX6_113 rfl ?_
  refine k_if_eq hk dX6_bad_20 27 (by decide) (fun h1 => ?_) (fun h1 => ?_)
  · refine k_iconst (v := 0) hk dX6_bad_27 (by decide) ?_
    exact k_sub [] rfl (s_X6_bad_b28 hj hn hl hk he hro F  0  σ)
  · refine k_iconst (v := 1) hk dX6_bad_23 (by decide) ?_
    refine k_goto hk dX6_bad_24 28 (by decide) ?_
    exact k_sub [] rfl (s_X6_bad_b28 hj hn hl hk he hro F  1  σ)
def f_X6_bad (F : Nat) (a1 : Int32) (a2 : Int32) (σ : kS) : Option kR := if a1 = 0 then (f_X6_bad_b16 F  σ) else (if (σ.1 48 0 0) = 0 then (kb (kU σ 48 0 0 a2) fun σ4 => f_X6_bad_b16 F  σ4) else (f_X6_bad_b16 F  σ))
set_option maxRecDepth 20000 in
theorem c_X6_bad {l : Launch} {E : kE} (hj : kEj E) (hn : kNorm E) (hl : l.stackTraces = false) (F : Nat) (a1 : Int32) (a2 : Int32)  (σ : kS) : kMet l E yX6_bad cX6_bad 3 (some .boolean) 0 0 0 id [.ref (kad E 48 0), .int a1, .int a2] σ (f_X6_bad F a1 a2 σ) := by
  refine k_met hj hn hl (by decide) (Nat.le_of_ble_eq_true rfl) (fun C Q hk he hro => ?_)
  have hk : kOk (C, E, Q) cX6_bad RX6 3 := hk
  show Sm (C, E, Q) 3 0 0 [(0, .ref (kad E 48 0)), (1, .int a1), (2, .int a2)] [] σ _
  unfold f_X6_bad
  refine k_iload_n hk dX6_bad_0 1 rfl ?_
  refine k_if_eq hk dX6_bad_1 16 (by decide) (fun h2 => ?_) (fun h2 => ?_)
  · exact k_sub [0] rfl (s_X6_bad_b16 hj hn hl hk he hro F    σ)
  · refine k_aload_n hk dX6_bad_4 0 rfl ?_
    refine k_getf (k := 0) hk dX6_bad_5 rfl (by decide) kc6 (by decide) fl_RX6_113 rfl ?_
    refine k_if_ne hk dX6_bad_8 16 (by decide) (fun h3 => ?_) (fun h3 => ?_)
    · exact k_sub [0] rfl (s_X6_bad_b16 hj hn hl hk he hro F    σ)
    · refine k_aload_n hk dX6_bad_11 0 rfl ?_
      refine k_iload_n hk dX6_bad_12 2 rfl ?_
      refine k_putf (k := 0) hk dX6_bad_13 rfl (by decide) kc6 (by decide) fl_RX6_113 rfl rfl rfl rfl (fun σ4 => ?_)
      exact k_sub [0] rfl (s_X6_bad_b16 hj hn hl hk he hro F    σ4)
def f_X6_byteAt_b18 (F : Nat) (t0 : Int32) (σ : kS) : Option kR := some (.inl (some (.int t0)), σ)
set_option maxRecDepth 20000 in
theorem s_X6_byteAt_b18 {l : Launch} {E : kE} (hj : kEj E) (hn : kNorm E) (hl : l.stackTraces = false) {C : kC} {Q : kR → State → Prop} (hk : kOk (C, E, Q) cX6_byteAt RX6 2) (he : kEnd (C, E, Q) (some .int) id 0) (hro : kRo C l 0 0 0) (F : Nat) : ∀ (t0 : Int32)  (σ : kS), Sm (C, E, Q) 2 0 18 [] [.int t0] σ (f_X6_byteAt_b18 F t0 σ) := by
  intro t0  σ
  unfold f_X6_byteAt_b18
  exact k_ireturn hk he dX6_byteAt_18 (by decide)
def f_X6_byteAt (F : Nat) (a1 : Int32) (σ : kS) : Option kR := if a1 < (σ.1 48 0 2) then (kg (kin a1 300) (f_X6_byteAt_b18 F (σ.1 49 0 a1.toNatClampNeg) σ)) else (f_X6_byteAt_b18 F (-1) σ)
set_option maxRecDepth 20000 in
theorem c_X6_byteAt {l : Launch} {E : kE} (hj : kEj E) (hn : kNorm E) (hl : l.stackTraces = false) (F : Nat) (a1 : Int32)  (σ : kS) : kMet l E yX6_byteAt cX6_byteAt 2 (some .int) 0 0 0 id [.ref (kad E 48 0), .int a1] σ (f_X6_byteAt F a1 σ) := by
  refine k_met hj hn hl (by decide) (Nat.le_of_ble_eq_true rfl) (fun C Q hk he hro => ?_)
  have hk : kOk (C, E, Q) cX6_byteAt RX6 2 := hk
  show Sm (C, E, Q) 2 0 0 [(0, .ref (kad E 48 0)), (1, .int a1)] [] σ _
  unfold f_X6_byteAt
  refine k_iload_n hk dX6_byteAt_0 1 rfl ?_
  refine k_aload_n hk dX6_byteAt_1 0 rfl ?_
  refine k_getf (k := 2) hk dX6_byteAt_2 rfl (by decide) kc6 (by decide) fl_RX6_119 rfl ?_
  refine k_icmp_lt hk dX6_byteAt_5 12 (by decide) (fun h1 => ?_) (fun h1 => ?_)
  · refine k_aload_n hk dX6_byteAt_12 0 rfl ?_
    refine k_getr (k := 10) 49 0 hk dX6_byteAt_13 rfl (by decide) kc6 (by decide) fl_RX6_13 rfl rfl ?_
    refine k_iload_n hk dX6_byteAt_16 1 rfl ?_
    refine k_iald hk dX6_byteAt_17 rfl (by decide) (fun h2 => ?_)
    exact k_sub [] rfl (s_X6_byteAt_b18 hj hn hl hk he hro F  (σ.1 49 0 a1.toNatClampNeg)  σ)
  · refine k_iconst (v := (-1)) hk dX6_byteAt_8 (by decide) ?_
    refine k_goto hk dX6_byteAt_9 18 (by decide) ?_
    exact k_sub [] rfl (s_X6_byteAt_b18 hj hn hl hk he hro F  (-1)  σ)
def f_X6_blanks_b0 (F : Nat) (r0 : Unit → kS → Option kR) (a : Unit) (σ : kS) : Option kR := match a with
  | _ => kBi (f_X6_byteAt F (σ.1 48 0 4) σ) fun r2 σ1 => if r2 = 32 then (kb (kU σ1 48 0 4 ((σ1.1 48 0 4) + 1)) fun σ4 => r0 () σ4) else (some (.inl none, σ1))
set_option maxRecDepth 20000 in
theorem s_X6_blanks_b0 {l : Launch} {E : kE} (hj : kEj E) (hn : kNorm E) (hl : l.stackTraces = false) {C : kC} {Q : kR → State → Prop} (hk : kOk (C, E, Q) cX6_blanks RX6 1) (he : kEnd (C, E, Q) none id 0) (hro : kRo C l 1 21 0) (F : Nat) : ∀ (N9 : Nat)   (σ : kS), Sm (C, E, Q) 1 0 0 [(0, .ref (kad E 48 0))] [] σ (kFix (f_X6_blanks_b0 F) N9 () σ) := by
  intro N9
  induction N9 with
  | zero => intro   σ; exact k_no
  | succ N9 ih =>
    intro   σ
    show Sm _ _ _ _ _ _ _ (f_X6_blanks_b0 F (kFix (f_X6_blanks_b0 F) N9) () σ)
    generalize kFix (f_X6_blanks_b0 F) N9 = r0 at ih
    have hr0 := ih
    unfold f_X6_blanks_b0
    dsimp only
    refine k_aload_n hk dX6_blanks_0 0 rfl ?_
    refine k_aload_n hk dX6_blanks_1 0 rfl ?_
    refine k_getf (k := 4) hk dX6_blanks_2 rfl (by decide) kc6 (by decide) fl_RX6_122 rfl ?_
    refine k_callVi (As := [.int (σ.1 48 0 4)]) (rest := []) hk he hro (c_X6_byteAt hj hn hl F (σ.1 48 0 4)  σ) dX6_blanks_5 cw_RX6_125 rfl (by decide) kc6 rfl ⟨by decide, by decide⟩ (by decide) rfl (Nat.le_of_ble_eq_true rfl) (fun r2 σ1 => ?_)
    refine k_bipush (v := 32) hk dX6_blanks_8 (by decide) ?_
    refine k_icmp_ne hk dX6_blanks_10 26 (by decide) (fun h3 => ?_) (fun h3 => ?_)
    · exact k_return hk he dX6_blanks_26 (by decide)
    · refine k_aload_n hk dX6_blanks_13 0 rfl ?_
      refine k_dup hk dX6_blanks_14 rfl ?_
      refine k_getf (k := 4) hk dX6_blanks_15 rfl (by decide) kc6 (by decide) fl_RX6_122 rfl ?_
      refine k_iconst (v := 1) hk dX6_blanks_18 (by decide) ?_
      refine k_iadd hk dX6_blanks_19 ?_
      refine k_putf (k := 4) hk dX6_blanks_20 rfl (by decide) kc6 (by decide) fl_RX6_122 rfl rfl rfl rfl (fun σ4 => ?_)
      refine k_goto hk dX6_blanks_23 0 (by decide) ?_
      exact k_sub [0] rfl (hr0   σ4)
def f_X6_blanks (F : Nat)  (σ : kS) : Option kR := kFix (f_X6_blanks_b0 F) F () σ
set_option maxRecDepth 20000 in
theorem c_X6_blanks {l : Launch} {E : kE} (hj : kEj E) (hn : kNorm E) (hl : l.stackTraces = false) (F : Nat)   (σ : kS) : kMet l E yX6_blanks cX6_blanks 1 none 1 21 0 id [.ref (kad E 48 0)] σ (f_X6_blanks F  σ) := by
  refine k_met hj hn hl (by decide) (Nat.le_of_ble_eq_true rfl) (fun C Q hk he hro => ?_)
  have hk : kOk (C, E, Q) cX6_blanks RX6 1 := hk
  show Sm (C, E, Q) 1 0 0 [(0, .ref (kad E 48 0))] [] σ _
  unfold f_X6_blanks
  exact k_sub [0] rfl (s_X6_blanks_b0 hj hn hl hk he hro F F   σ)
def f_X6_leaks_b13 (F : Nat)  (σ : kS) : Option kR := some (.inl none, σ)
set_option maxRecDepth 20000 in
theorem s_X6_leaks_b13 {l : Launch} {E : kE} (hj : kEj E) (hn : kNorm E) (hl : l.stackTraces = false) {C : kC} {Q : kR → State → Prop} (hk : kOk (C, E, Q) cX6_leaks RX6 4) (he : kEnd (C, E, Q) none id 0) (hro : kRo C l 1 21 0) (F : Nat) : ∀   (σ : kS), Sm (C, E, Q) 4 0 13 [] [] σ (f_X6_leaks_b13 F  σ) := by
  intro   σ
  unfold f_X6_leaks_b13
  exact k_return hk he dX6_leaks_13 (by decide)
def f_X6_leaks (F : Nat) (a1 : Nat) (a2 : Int32) (σ : kS) : Option kR := if (σ.1 56 a1 0) = 0 then (if (σ.1 56 a1 3) ≤ a2 then (kg (kin (σ.1 56 a1 1) 8) (kBi (f_X6_less F (σ.1 56 a1 2) (σ.1 64 0 (σ.1 56 a1 1).toNatClampNeg) σ) fun r5 σ4 => kb (σ4.1 56 a1 1) fun x6 => kg (kin x6 8) (kg (kin x6 8) (kb (kU σ4 64 0 x6.toNatClampNeg ((σ4.1 64 0 x6.toNatClampNeg) - r5)) fun σ8 => kb (σ8.1 56 a1 1) fun x10 => kg (kin x10 8) (kg (kin x10 8) (kb (kU σ8 65 0 x10.toNatClampNeg ((σ8.1 65 0 x10.toNatClampNeg) + r5)) fun σ12 => some (.inl none, σ12))))))) else (f_X6_leaks_b13 F  σ)) else (f_X6_leaks_b13 F  σ)
set_option maxRecDepth 20000 in
theorem c_X6_leaks {l : Launch} {E : kE} (hj : kEj E) (hn : kNorm E) (hl : l.stackTraces = false) (F : Nat) (a1 : Nat) (a2 : Int32) (ha1 : a1 < kCnt 56) (σ : kS) : kMet l E yX6_leaks cX6_leaks 4 none 1 21 0 id [.ref (kad E 48 0), .ref (kad E 56 a1), .int a2] σ (f_X6_leaks F a1 a2 σ) := by
  refine k_met hj hn hl (by decide) (Nat.le_of_ble_eq_true rfl) (fun C Q hk he hro => ?_)
  have hk : kOk (C, E, Q) cX6_leaks RX6 4 := hk
  show Sm (C, E, Q) 4 0 0 [(0, .ref (kad E 48 0)), (1, .ref (kad E 56 a1)), (2, .int a2)] [] σ _
  unfold f_X6_leaks
  refine k_aload_n hk dX6_leaks_0 1 rfl ?_
  refine k_iconst (v := 0) hk dX6_leaks_1 (by decide) ?_
  refine k_iald_k (kk := 0) hk dX6_leaks_2 rfl ha1 (by decide) (by decide) ?_
  refine k_if_ne hk dX6_leaks_3 13 (by decide) (fun h1 => ?_) (fun h1 => ?_)
  · exact k_sub [] rfl (s_X6_leaks_b13 hj hn hl hk he hro F    σ)
  · refine k_iload_n hk dX6_leaks_6 2 rfl ?_
    refine k_aload_n hk dX6_leaks_7 1 rfl ?_
    refine k_iconst (v := 3) hk dX6_leaks_8 (by decide) ?_
    refine k_iald_k (kk := 3) hk dX6_leaks_9 rfl ha1 (by decide) (by decide) ?_
    refine k_icmp_ge hk dX6_leaks_10 14 (by decide) (fun h2 => ?_) (fun h2 => ?_)
    · refine k_aload_n hk dX6_leaks_14 1 rfl ?_
      refine k_iconst (v := 2) hk dX6_leaks_15 (by decide) ?_
      refine k_iald_k (kk := 2) hk dX6_leaks_16 rfl ha1 (by decide) (by decide) ?_
      refine k_aload_n hk dX6_leaks_17 0 rfl ?_
      refine k_getr (k := 23) 64 0 hk dX6_leaks_18 rfl (by decide) kc6 (by decide) fl_RX6_52 rfl rfl ?_
      refine k_aload_n hk dX6_leaks_21 1 rfl ?_
      refine k_iconst (v := 1) hk dX6_leaks_22 (by decide) ?_
      refine k_iald_k (kk := 1) hk dX6_leaks_23 rfl ha1 (by decide) (by decide) ?_
      refine k_iald hk dX6_leaks_24 rfl (by decide) (fun h3 => ?_)
      refine k_callSi (As := [.int (σ.1 56 a1 2), .int (σ.1 64 0 (σ.1 56 a1 1).toNatClampNeg)]) (rest := []) hk he hro (c_X6_less hj hn hl F (σ.1 56 a1 2) (σ.1 64 0 (σ.1 56 a1 1).toNatClampNeg)  σ) dX6_leaks_25 cw_RX6_258 ⟨by decide, by decide⟩ (by decide) rfl (Nat.le_of_ble_eq_true rfl) (fun r5 σ4 => ?_)
      refine k_istore_n (lv' := [(3, .int r5), (0, .ref (kad E 48 0)), (1, .ref (kad E 56 a1)), (2, .int a2)]) hk dX6_leaks_28 (by decide) rfl ?_
      refine k_aload_n hk dX6_leaks_29 1 rfl ?_
      refine k_getr (k := 23) 64 0 hk dX6_leaks_30 rfl (by decide) kc6 (by decide) fl_RX6_52 rfl rfl ?_
      refine k_aload_n hk dX6_leaks_33 2 rfl ?_
      refine k_iconst (v := 1) hk dX6_leaks_34 (by decide) ?_
      refine k_iald_k (kk := 1) hk dX6_leaks_35 rfl ha1 (by decide) (by decide) ?_
      refine k_nm (fun x6 => ?_)
      refine k_dup2 hk dX6_leaks_36 rfl rfl ?_
      refine k_iald hk dX6_leaks_37 rfl (by decide) (fun h7 => ?_)
      refine k_iload_n hk dX6_leaks_38 0 rfl ?_
      refine k_isub hk dX6_leaks_39 ?_
      refine k_iast hk dX6_leaks_40 rfl (by decide) (fun h9 σ8 => ?_)
      refine k_aload_n hk dX6_leaks_41 1 rfl ?_
      refine k_getr (k := 24) 65 0 hk dX6_leaks_42 rfl (by decide) kc6 (by decide) fl_RX6_55 rfl rfl ?_
      refine k_aload_n hk dX6_leaks_45 2 rfl ?_
      refine k_iconst (v := 1) hk dX6_leaks_46 (by decide) ?_
      refine k_iald_k (kk := 1) hk dX6_leaks_47 rfl ha1 (by decide) (by decide) ?_
      refine k_nm (fun x10 => ?_)
      refine k_dup2 hk dX6_leaks_48 rfl rfl ?_
      refine k_iald hk dX6_leaks_49 rfl (by decide) (fun h11 => ?_)
      refine k_iload_n hk dX6_leaks_50 0 rfl ?_
      refine k_iadd hk dX6_leaks_51 ?_
      refine k_iast hk dX6_leaks_52 rfl (by decide) (fun h13 σ12 => ?_)
      exact k_return hk he dX6_leaks_53 (by decide)
    · exact k_sub [] rfl (s_X6_leaks_b13 hj hn hl hk he hro F    σ)
def f_X6_allGas_b4 (F : Nat) (r4 : (Int32 × Int32 × Int32) → kS → Option kR) (a : (Int32 × Int32 × Int32)) (σ : kS) : Option kR := match a with
  | (x1, x2, x3) => if 8 ≤ x3 then (some (.inl (some (.int x2)), σ)) else (kg (kin x1 100) (kb (x1.toNatClampNeg) fun j2 => kg (kin x3 8) (kb (x2 + (σ.1 68 j2 x3.toNatClampNeg)) fun x4 => r4 (x1, x4, x3 + 1) σ)))
set_option maxRecDepth 20000 in
theorem s_X6_allGas_b4 {l : Launch} {E : kE} (hj : kEj E) (hn : kNorm E) (hl : l.stackTraces = false) {C : kC} {Q : kR → State → Prop} (hk : kOk (C, E, Q) cX6_allGas RX6 4) (he : kEnd (C, E, Q) (some .int) id 0) (hro : kRo C l 0 0 0) (F : Nat) : ∀ (N9 : Nat) (x1 : Int32) (x2 : Int32) (x3 : Int32)  (σ : kS), Sm (C, E, Q) 4 0 4 [(0, .ref (kad E 48 0)), (1, .int x1), (2, .int x2), (3, .int x3)] [] σ (kFix (f_X6_allGas_b4 F) N9 (x1, x2, x3) σ) := by
  intro N9
  induction N9 with
  | zero => intro x1 x2 x3  σ; exact k_no
  | succ N9 ih =>
    intro x1 x2 x3  σ
    show Sm _ _ _ _ _ _ _ (f_X6_allGas_b4 F (kFix (f_X6_allGas_b4 F) N9) (x1, x2, x3) σ)
    generalize kFix (f_X6_allGas_b4 F) N9 = r4 at ih
    have hr4 := ih
    unfold f_X6_allGas_b4
    dsimp only
    refine k_iload_n hk dX6_allGas_4 3 rfl ?_
    refine k_bipush (v := 8) hk dX6_allGas_5 (by decide) ?_
    refine k_icmp_ge hk dX6_allGas_7 27 (by decide) (fun h1 => ?_) (fun h1 => ?_)
    · refine k_iload_n hk dX6_allGas_27 2 rfl ?_
      exact k_ireturn hk he dX6_allGas_28 (by decide)
    · refine k_iload_n hk dX6_allGas_10 2 rfl ?_
      refine k_aload_n hk dX6_allGas_11 0 rfl ?_
      refine k_getr (k := 26) 67 0 hk dX6_allGas_12 rfl (by decide) kc6 (by decide) fl_RX6_61 rfl rfl ?_
      refine k_iload_n hk dX6_allGas_15 1 rfl ?_
      refine k_aaldj (g' := 68) (fun z => z) hk dX6_allGas_16 rfl rfl rfl (by decide) (fun z => rfl) (by decide) (fun j2 hj2 => ?_)
      refine k_iload_n hk dX6_allGas_17 3 rfl ?_
      refine k_iald hk dX6_allGas_18 rfl hj2 (fun h3 => ?_)
      refine k_iadd hk dX6_allGas_19 ?_
      refine k_nm (fun x4 => ?_)
      refine k_istore_n (lv' := [(2, .int x4), (0, .ref (kad E 48 0)), (1, .int x1), (3, .int x3)]) hk dX6_allGas_20 (by decide) rfl ?_
      refine k_iinc (lv' := [(3, .int (x3 + 1)), (2, .int x4), (0, .ref (kad E 48 0)), (1, .int x1)]) (j := 3) (y := x3 + 1) hk dX6_allGas_21 rfl rfl (by decide) rfl ?_
      refine k_goto hk dX6_allGas_24 4 (by decide) ?_
      exact k_sub [2, 3, 1, 0] rfl (hr4 x1 x4 (x3 + 1)  σ)
def f_X6_allGas (F : Nat) (a1 : Int32) (σ : kS) : Option kR := kFix (f_X6_allGas_b4 F) F (a1, 0, 0) σ
set_option maxRecDepth 20000 in
theorem c_X6_allGas {l : Launch} {E : kE} (hj : kEj E) (hn : kNorm E) (hl : l.stackTraces = false) (F : Nat) (a1 : Int32)  (σ : kS) : kMet l E yX6_allGas cX6_allGas 4 (some .int) 0 0 0 id [.ref (kad E 48 0), .int a1] σ (f_X6_allGas F a1 σ) := by
  refine k_met hj hn hl (by decide) (Nat.le_of_ble_eq_true rfl) (fun C Q hk he hro => ?_)
  have hk : kOk (C, E, Q) cX6_allGas RX6 4 := hk
  show Sm (C, E, Q) 4 0 0 [(0, .ref (kad E 48 0)), (1, .int a1)] [] σ _
  unfold f_X6_allGas
  refine k_iconst (v := 0) hk dX6_allGas_0 (by decide) ?_
  refine k_istore_n (lv' := [(2, .int 0), (0, .ref (kad E 48 0)), (1, .int a1)]) hk dX6_allGas_1 (by decide) rfl ?_
  refine k_iconst (v := 0) hk dX6_allGas_2 (by decide) ?_
  refine k_istore_n (lv' := [(3, .int 0), (2, .int 0), (0, .ref (kad E 48 0)), (1, .int a1)]) hk dX6_allGas_3 (by decide) rfl ?_
  exact k_sub [2, 3, 1, 0] rfl (s_X6_allGas_b4 hj hn hl hk he hro F F a1 0 0  σ)
def f_X6_count (F : Nat) (a1 : Int32) (σ : kS) : Option kR := kb (kU σ 48 0 0 0) fun σ1 => kBi (f_X6_in F a1 10 19 σ1) fun r3 σ2 => if r3 = 0 then (if a1 = 0 then (some (.inl (some (.int (σ2.1 48 0 13))), σ2)) else (if a1 = 1 then (some (.inl (some (.int (σ2.1 48 0 43))), σ2)) else (if a1 = 2 then (some (.inl (some (.int (σ2.1 48 0 44))), σ2)) else (if a1 = 3 then (some (.inl (some (.int (σ2.1 48 0 45))), σ2)) else (if a1 = 4 then (some (.inl (some (.int (σ2.1 48 0 46))), σ2)) else (if a1 = 5 then (some (.inl (some (.int (σ2.1 48 0 1))), σ2)) else (some (.inl (some (.int (-1))), σ2)))))))) else (kg (kin (a1 - 10) 10) (some (.inl (some (.int (σ2.1 61 0 (a1 - 10).toNatClampNeg))), σ2)))
set_option maxRecDepth 20000 in
theorem c_X6_count {l : Launch} {E : kE} (hj : kEj E) (hn : kNorm E) (hl : l.stackTraces = false) (F : Nat) (a1 : Int32)  (σ : kS) : kMet l E yX6_count cX6_count 2 (some .int) 1 22 0 id [.ref (kad E 48 0), .int a1] σ (f_X6_count F a1 σ) := by
  refine k_met hj hn hl (by decide) (Nat.le_of_ble_eq_true rfl) (fun C Q hk he hro => ?_)
  have hk : kOk (C, E, Q) cX6_count RX6 2 := hk
  show Sm (C, E, Q) 2 0 0 [(0, .ref (kad E 48 0)), (1, .int a1)] [] σ _
  unfold f_X6_count
  refine k_aload_n hk dX6_count_0 0 rfl ?_
  refine k_iconst (v := 0) hk dX6_count_1 (by decide) ?_
  refine k_putf (k := 0) hk dX6_count_2 rfl (by decide) kc6 (by decide) fl_RX6_113 rfl rfl rfl rfl (fun σ1 => ?_)
  refine k_iload_n hk dX6_count_5 1 rfl ?_
  refine k_bipush (v := 10) hk dX6_count_6 (by decide) ?_
  refine k_bipush (v := 19) hk dX6_count_8 (by decide) ?_
  refine k_callSi (As := [.int a1, .int 10, .int 19]) (rest := []) hk he hro (c_X6_in hj hn hl F a1 10 19  σ1) dX6_count_10 cw_RX6_150 ⟨by decide, by decide⟩ (by decide) rfl (Nat.le_of_ble_eq_true rfl) (fun r3 σ2 => ?_)
  refine k_if_eq hk dX6_count_13 26 (by decide) (fun h4 => ?_) (fun h4 => ?_)
  · refine k_iload_n hk dX6_count_26 1 rfl ?_
    refine k_ite (fun h5 => ?_) (fun h5 => ?_)
    · refine k_tin (v := 0) hk dX6_count_27 h5 (by decide) (by decide) rfl 64 (by decide) ?_
      refine k_aload_n hk dX6_count_64 0 rfl ?_
      refine k_getf (k := 13) hk dX6_count_65 rfl (by decide) kc6 (by decide) fl_RX6_224 rfl ?_
      exact k_ireturn hk he dX6_count_68 (by decide)
    · skip
      refine k_ite (fun h6 => ?_) (fun h6 => ?_)
      · refine k_tin (v := 1) hk dX6_count_27 h6 (by decide) (by decide) rfl 69 (by decide) ?_
        refine k_aload_n hk dX6_count_69 0 rfl ?_
        refine k_getf (k := 43) hk dX6_count_70 rfl (by decide) kc6 (by decide) fl_RX6_294 rfl ?_
        exact k_ireturn hk he dX6_count_73 (by decide)
      · skip
        refine k_ite (fun h7 => ?_) (fun h7 => ?_)
        · refine k_tin (v := 2) hk dX6_count_27 h7 (by decide) (by decide) rfl 74 (by decide) ?_
          refine k_aload_n hk dX6_count_74 0 rfl ?_
          refine k_getf (k := 44) hk dX6_count_75 rfl (by decide) kc6 (by decide) fl_RX6_306 rfl ?_
          exact k_ireturn hk he dX6_count_78 (by decide)
        · skip
          refine k_ite (fun h8 => ?_) (fun h8 => ?_)
          · refine k_tin (v := 3) hk dX6_count_27 h8 (by decide) (by decide) rfl 79 (by decide) ?_
            refine k_aload_n hk dX6_count_79 0 rfl ?_
            refine k_getf (k := 45) hk dX6_count_80 rfl (by decide) kc6 (by decide) fl_RX6_237 rfl ?_
            exact k_ireturn hk he dX6_count_83 (by decide)
          · skip
            refine k_ite (fun h9 => ?_) (fun h9 => ?_)
            · refine k_tin (v := 4) hk dX6_count_27 h9 (by decide) (by decide) rfl 84 (by decide) ?_
              refine k_aload_n hk dX6_count_84 0 rfl ?_
              refine k_getf (k := 46) hk dX6_count_85 rfl (by decide) kc6 (by decide) fl_RX6_353 rfl ?_
              exact k_ireturn hk he dX6_count_88 (by decide)
            · skip
              refine k_ite (fun h10 => ?_) (fun h10 => ?_)
              · refine k_tin (v := 5) hk dX6_count_27 h10 (by decide) (by decide) rfl 89 (by decide) ?_
                refine k_aload_n hk dX6_count_89 0 rfl ?_
                refine k_getf (k := 1) hk dX6_count_90 rfl (by decide) kc6 (by decide) fl_RX6_116 rfl ?_
                exact k_ireturn hk he dX6_count_93 (by decide)
              · skip
                refine k_tout hk dX6_count_27 (by have h5q := k_neI h5 (a := 0) (by decide); have h6q := k_neI h6 (a := 1) (by decide); have h7q := k_neI h7 (a := 2) (by decide); have h8q := k_neI h8 (a := 3) (by decide); have h9q := k_neI h9 (a := 4) (by decide); have h10q := k_neI h10 (a := 5) (by decide); omega) 94 (by decide) ?_
                refine k_iconst (v := (-1)) hk dX6_count_94 (by decide) ?_
                exact k_ireturn hk he dX6_count_95 (by decide)
  · refine k_aload_n hk dX6_count_16 0 rfl ?_
    refine k_getr (k := 20) 61 0 hk dX6_count_17 rfl (by decide) kc6 (by decide) fl_RX6_43 rfl rfl ?_
    refine k_iload_n hk dX6_count_20 1 rfl ?_
    refine k_bipush (v := 10) hk dX6_count_21 (by decide) ?_
    refine k_isub hk dX6_count_23 ?_
    refine k_iald hk dX6_count_24 rfl (by decide) (fun h11 => ?_)
    exact k_ireturn hk he dX6_count_25 (by decide)
