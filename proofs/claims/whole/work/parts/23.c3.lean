def f_X3_isDigit_b17 (F : Nat) (t0 : Int32) (σ : kS) : Option kR := kg (narrow .boolean (.int t0) = .int t0) (some (.inl (some (.int t0)), σ))
set_option maxRecDepth 20000 in
theorem s_X3_isDigit_b17 {l : Launch} {E : kE} (hj : kEj E) (hn : kNorm E) (hl : l.stackTraces = false) {C : kC} {Q : kR → State → Prop} (hk : kOk (C, E, Q) cX3_isDigit RX3 1) (he : kEnd (C, E, Q) (some .boolean) id 0) (hro : kRo C l (0) (0) 0) (F : Nat) : ∀ (t0 : Int32)  (σ : kS), Sm (C, E, Q) 1 0 17 [] [.int t0] σ (f_X3_isDigit_b17 F t0 σ) := by
  intro t0  σ
  unfold f_X3_isDigit_b17
  exact k_zreturn hk he dX3_isDigit_17 (by decide)
def f_X3_isDigit_b16 (F : Nat)  (σ : kS) : Option kR := f_X3_isDigit_b17 F 0 σ
set_option maxRecDepth 20000 in
theorem s_X3_isDigit_b16 {l : Launch} {E : kE} (hj : kEj E) (hn : kNorm E) (hl : l.stackTraces = false) {C : kC} {Q : kR → State → Prop} (hk : kOk (C, E, Q) cX3_isDigit RX3 1) (he : kEnd (C, E, Q) (some .boolean) id 0) (hro : kRo C l (0) (0) 0) (F : Nat) : ∀   (σ : kS), Sm (C, E, Q) 1 0 16 [] [] σ (f_X3_isDigit_b16 F  σ) := by
  intro   σ
  unfold f_X3_isDigit_b16
  refine k_iconst (v := 0) hk dX3_isDigit_16 (by decide) ?_
  exact k_sub [] rfl (s_X3_isDigit_b17 hj hn hl hk he hro F  0  σ)
def f_X3_isDigit (F : Nat) (a0 : Int32) (σ : kS) : Option kR := if a0 < 48 then (f_X3_isDigit_b16 F  σ) else (if 57 < a0 then (f_X3_isDigit_b16 F  σ) else (f_X3_isDigit_b17 F 1 σ))
set_option maxRecDepth 20000 in
theorem c_X3_isDigit {l : Launch} {E : kE} (hj : kEj E) (hn : kNorm E) (hl : l.stackTraces = false) (F : Nat) (a0 : Int32)  (σ : kS) : kMet l E yX3_isDigit cX3_isDigit 1 (some .boolean) (0) (0) 0 id [.int a0] σ (f_X3_isDigit F a0 σ) := by
  refine k_met hj hn hl (by decide) (Nat.le_of_ble_eq_true rfl) (fun C Q hk he hro => ?_)
  have hk : kOk (C, E, Q) cX3_isDigit RX3 1 := hk
  show Sm (C, E, Q) 1 0 0 [(0, .int a0)] [] σ _
  unfold f_X3_isDigit
  refine k_iload_n hk dX3_isDigit_0 0 rfl ?_
  refine k_bipush (v := 48) hk dX3_isDigit_1 (by decide) ?_
  refine k_icmp_lt hk dX3_isDigit_3 16 (by decide) (fun h1 => ?_) (fun h1 => ?_)
  · exact k_sub [] rfl (s_X3_isDigit_b16 hj hn hl hk he hro F    σ)
  · refine k_iload_n hk dX3_isDigit_6 0 rfl ?_
    refine k_bipush (v := 57) hk dX3_isDigit_7 (by decide) ?_
    refine k_icmp_gt hk dX3_isDigit_9 16 (by decide) (fun h2 => ?_) (fun h2 => ?_)
    · exact k_sub [] rfl (s_X3_isDigit_b16 hj hn hl hk he hro F    σ)
    · refine k_iconst (v := 1) hk dX3_isDigit_12 (by decide) ?_
      refine k_goto hk dX3_isDigit_13 17 (by decide) ?_
      exact k_sub [] rfl (s_X3_isDigit_b17 hj hn hl hk he hro F  1  σ)
def f_X3_isLetter_b17 (F : Nat) (t0 : Int32) (σ : kS) : Option kR := kg (narrow .boolean (.int t0) = .int t0) (some (.inl (some (.int t0)), σ))
set_option maxRecDepth 20000 in
theorem s_X3_isLetter_b17 {l : Launch} {E : kE} (hj : kEj E) (hn : kNorm E) (hl : l.stackTraces = false) {C : kC} {Q : kR → State → Prop} (hk : kOk (C, E, Q) cX3_isLetter RX3 1) (he : kEnd (C, E, Q) (some .boolean) id 0) (hro : kRo C l (0) (0) 0) (F : Nat) : ∀ (t0 : Int32)  (σ : kS), Sm (C, E, Q) 1 0 17 [] [.int t0] σ (f_X3_isLetter_b17 F t0 σ) := by
  intro t0  σ
  unfold f_X3_isLetter_b17
  exact k_zreturn hk he dX3_isLetter_17 (by decide)
def f_X3_isLetter_b16 (F : Nat)  (σ : kS) : Option kR := f_X3_isLetter_b17 F 0 σ
set_option maxRecDepth 20000 in
theorem s_X3_isLetter_b16 {l : Launch} {E : kE} (hj : kEj E) (hn : kNorm E) (hl : l.stackTraces = false) {C : kC} {Q : kR → State → Prop} (hk : kOk (C, E, Q) cX3_isLetter RX3 1) (he : kEnd (C, E, Q) (some .boolean) id 0) (hro : kRo C l (0) (0) 0) (F : Nat) : ∀   (σ : kS), Sm (C, E, Q) 1 0 16 [] [] σ (f_X3_isLetter_b16 F  σ) := by
  intro   σ
  unfold f_X3_isLetter_b16
  refine k_iconst (v := 0) hk dX3_isLetter_16 (by decide) ?_
  exact k_sub [] rfl (s_X3_isLetter_b17 hj hn hl hk he hro F  0  σ)
def f_X3_isLetter (F : Nat) (a0 : Int32) (σ : kS) : Option kR := if a0 < 97 then (f_X3_isLetter_b16 F  σ) else (if 122 < a0 then (f_X3_isLetter_b16 F  σ) else (f_X3_isLetter_b17 F 1 σ))
set_option maxRecDepth 20000 in
theorem c_X3_isLetter {l : Launch} {E : kE} (hj : kEj E) (hn : kNorm E) (hl : l.stackTraces = false) (F : Nat) (a0 : Int32)  (σ : kS) : kMet l E yX3_isLetter cX3_isLetter 1 (some .boolean) (0) (0) 0 id [.int a0] σ (f_X3_isLetter F a0 σ) := by
  refine k_met hj hn hl (by decide) (Nat.le_of_ble_eq_true rfl) (fun C Q hk he hro => ?_)
  have hk : kOk (C, E, Q) cX3_isLetter RX3 1 := hk
  show Sm (C, E, Q) 1 0 0 [(0, .int a0)] [] σ _
  unfold f_X3_isLetter
  refine k_iload_n hk dX3_isLetter_0 0 rfl ?_
  refine k_bipush (v := 97) hk dX3_isLetter_1 (by decide) ?_
  refine k_icmp_lt hk dX3_isLetter_3 16 (by decide) (fun h1 => ?_) (fun h1 => ?_)
  · exact k_sub [] rfl (s_X3_isLetter_b16 hj hn hl hk he hro F    σ)
  · refine k_iload_n hk dX3_isLetter_6 0 rfl ?_
    refine k_bipush (v := 122) hk dX3_isLetter_7 (by decide) ?_
    refine k_icmp_gt hk dX3_isLetter_9 16 (by decide) (fun h2 => ?_) (fun h2 => ?_)
    · exact k_sub [] rfl (s_X3_isLetter_b16 hj hn hl hk he hro F    σ)
    · refine k_iconst (v := 1) hk dX3_isLetter_12 (by decide) ?_
      refine k_goto hk dX3_isLetter_13 17 (by decide) ?_
      exact k_sub [] rfl (s_X3_isLetter_b17 hj hn hl hk he hro F  1  σ)
def f_X3_isWord_b15 (F : Nat) (rr15 : (Int32 × Int32 × Nat × Int32) → kS → Option kR) (a : (Int32 × Int32 × Nat × Int32)) (σ : kS) : Option kR := match a with
  | (x1, x2, x3, x4) => if x2 ≤ x4 then (some (.inl (some (.int 1)), σ)) else (kg (kin x4 300) (kBi (f_J0_charAt F x3 (x4 - x1) σ) fun c4 σ3 => if (σ.1 1 0 x4.toNatClampNeg) = c4 then (rr15 (x1, x2, x3, x4 + 1) σ3) else (some (.inl (some (.int 0)), σ3))))
set_option maxRecDepth 20000 in
theorem s_X3_isWord_b15 {l : Launch} {E : kE} (hj : kEj E) (hn : kNorm E) (hl : l.stackTraces = false) {C : kC} {Q : kR → State → Prop} (hk : kOk (C, E, Q) cX3_isWord RX3 5) (he : kEnd (C, E, Q) (some .boolean) id 0) (hro : kRo C l (4) (103) 0) (F : Nat) : ∀ (N9 : Nat) (x1 : Int32) (x2 : Int32) (x3 : Nat) (x4 : Int32) (hx3 : x3 < 23) (σ : kS), Sm (C, E, Q) 5 0 15 [(0, .ref (kad E 1 0)), (1, .int x1), (2, .int x2), (3, .ref (ktx E x3)), (4, .int x4)] [] σ (kFix (f_X3_isWord_b15 F) N9 (x1, x2, x3, x4) σ) := by
  intro N9
  induction N9 with
  | zero => intro x1 x2 x3 x4 hx3 σ; exact k_no
  | succ N9 ih =>
    intro x1 x2 x3 x4 hx3 σ
    show Sm _ _ _ _ _ _ _ (f_X3_isWord_b15 F (kFix (f_X3_isWord_b15 F) N9) (x1, x2, x3, x4) σ)
    generalize kFix (f_X3_isWord_b15 F) N9 = rr15 at ih
    have hrr15 := ih
    unfold f_X3_isWord_b15
    dsimp only
    refine k_iload hk dX3_isWord_15 4 rfl ?_
    refine k_iload_n hk dX3_isWord_17 2 rfl ?_
    refine k_icmp_ge hk dX3_isWord_18 44 (by decide) (fun h1 => ?_) (fun h1 => ?_)
    · refine k_iconst (v := 1) hk dX3_isWord_44 (by decide) ?_
      exact k_zreturn_c hk he dX3_isWord_45 (by decide) rfl
    · refine k_aload_n hk dX3_isWord_21 0 rfl ?_
      refine k_iload hk dX3_isWord_22 4 rfl ?_
      refine k_bald hk dX3_isWord_24 rfl (by decide) (fun h2 => ?_)
      refine k_aload_n hk dX3_isWord_25 3 rfl ?_
      refine k_iload hk dX3_isWord_26 4 rfl ?_
      refine k_iload_n hk dX3_isWord_28 1 rfl ?_
      refine k_isub hk dX3_isWord_29 ?_
      refine k_callT (As := [.int (x4 - x1)]) (rest := [.int (σ.1 1 0 x4.toNatClampNeg)]) hk he hro (c_J0_charAt hj hn hl F x3 (x4 - x1) hx3 σ) dX3_isWord_30 cw_RX3_120 hx3 rfl ⟨by decide, by decide⟩ (by decide) rfl (Nat.le_of_ble_eq_true rfl) (fun c4 σ3 => ?_)
      refine k_icmp_eq hk dX3_isWord_33 38 (by decide) (fun h5 => ?_) (fun h5 => ?_)
      · refine k_iinc (lv' := [(4, .int (x4 + 1)), (0, .ref (kad E 1 0)), (1, .int x1), (2, .int x2), (3, .ref (ktx E x3))]) (j := 4) (y := x4 + 1) hk dX3_isWord_38 rfl rfl (by decide) rfl ?_
        refine k_goto hk dX3_isWord_41 15 (by decide) ?_
        exact k_sub [1, 2, 3, 4, 0] rfl (hrr15 x1 x2 x3 (x4 + 1) hx3 σ3)
      · refine k_iconst (v := 0) hk dX3_isWord_36 (by decide) ?_
        exact k_zreturn_c hk he dX3_isWord_37 (by decide) rfl
def f_X3_isWord (F : Nat) (a1 : Int32) (a2 : Int32) (a3 : Nat) (σ : kS) : Option kR := kBi (f_J0_length F a3 σ) fun c7 σ6 => if (a2 - a1) = c7 then (kFix (f_X3_isWord_b15 F) F (a1, a2, a3, a1) σ6) else (some (.inl (some (.int 0)), σ6))
set_option maxRecDepth 20000 in
theorem c_X3_isWord {l : Launch} {E : kE} (hj : kEj E) (hn : kNorm E) (hl : l.stackTraces = false) (F : Nat) (a1 : Int32) (a2 : Int32) (a3 : Nat) (ha3 : a3 < 23) (σ : kS) : kMet l E yX3_isWord cX3_isWord 5 (some .boolean) (4) (103) 0 id [.ref (kad E 1 0), .int a1, .int a2, .ref (ktx E a3)] σ (f_X3_isWord F a1 a2 a3 σ) := by
  refine k_met hj hn hl (by decide) (Nat.le_of_ble_eq_true rfl) (fun C Q hk he hro => ?_)
  have hk : kOk (C, E, Q) cX3_isWord RX3 5 := hk
  show Sm (C, E, Q) 5 0 0 [(0, .ref (kad E 1 0)), (1, .int a1), (2, .int a2), (3, .ref (ktx E a3))] [] σ _
  unfold f_X3_isWord
  refine k_iload_n hk dX3_isWord_0 2 rfl ?_
  refine k_iload_n hk dX3_isWord_1 1 rfl ?_
  refine k_isub hk dX3_isWord_2 ?_
  refine k_aload_n hk dX3_isWord_3 3 rfl ?_
  refine k_callT (As := []) (rest := [.int (a2 - a1)]) hk he hro (c_J0_length hj hn hl F a3 ha3 σ) dX3_isWord_4 cw_RX3_114 ha3 rfl ⟨by decide, by decide⟩ (by decide) rfl (Nat.le_of_ble_eq_true rfl) (fun c7 σ6 => ?_)
  refine k_icmp_eq hk dX3_isWord_7 12 (by decide) (fun h8 => ?_) (fun h8 => ?_)
  · refine k_iload_n hk dX3_isWord_12 1 rfl ?_
    refine k_istore (lv' := [(4, .int a1), (0, .ref (kad E 1 0)), (1, .int a1), (2, .int a2), (3, .ref (ktx E a3))]) hk dX3_isWord_13 (by decide) rfl ?_
    exact k_sub [1, 2, 3, 4, 0] rfl (s_X3_isWord_b15 hj hn hl hk he hro F F a1 a2 a3 a1 ha3 σ6)
  · refine k_iconst (v := 0) hk dX3_isWord_10 (by decide) ?_
    exact k_zreturn_c hk he dX3_isWord_11 (by decide) rfl
def f_X3_clauseWord_b74 (F : Nat) (t0 : Int32) (σ : kS) : Option kR := some (.inl (some (.int t0)), σ)
set_option maxRecDepth 20000 in
theorem s_X3_clauseWord_b74 {l : Launch} {E : kE} (hj : kEj E) (hn : kNorm E) (hl : l.stackTraces = false) {C : kC} {Q : kR → State → Prop} (hk : kOk (C, E, Q) cX3_clauseWord RX3 3) (he : kEnd (C, E, Q) (some .int) id 0) (hro : kRo C l (5) (127) 0) (F : Nat) : ∀ (t0 : Int32)  (σ : kS), Sm (C, E, Q) 3 0 74 [] [.int t0] σ (f_X3_clauseWord_b74 F t0 σ) := by
  intro t0  σ
  unfold f_X3_clauseWord_b74
  exact k_ireturn hk he dX3_clauseWord_74 (by decide)
def f_X3_clauseWord (F : Nat) (a1 : Int32) (a2 : Int32) (σ : kS) : Option kR := kBi (f_X3_isWord F a1 a2 8 σ) fun c2 σ1 => if c2 = 0 then (kBi (f_X3_isWord F a1 a2 9 σ1) fun c5 σ4 => if c5 = 0 then (kBi (f_X3_isWord F a1 a2 10 σ4) fun c8 σ7 => if c8 = 0 then (kBi (f_X3_isWord F a1 a2 11 σ7) fun c11 σ10 => if c11 = 0 then (kBi (f_X3_isWord F a1 a2 12 σ10) fun c14 σ13 => if c14 = 0 then (f_X3_clauseWord_b74 F (-23) σ13) else (f_X3_clauseWord_b74 F (-21) σ13)) else (some (.inl (some (.int (-20))), σ10))) else (some (.inl (some (.int (-19))), σ7))) else (some (.inl (some (.int (-18))), σ4))) else (some (.inl (some (.int (-17))), σ1))
set_option maxRecDepth 20000 in
theorem c_X3_clauseWord {l : Launch} {E : kE} (hj : kEj E) (hn : kNorm E) (hl : l.stackTraces = false) (F : Nat) (a1 : Int32) (a2 : Int32)  (σ : kS) : kMet l E yX3_clauseWord cX3_clauseWord 3 (some .int) (5) (127) 0 id [.ref (kad E 1 0), .int a1, .int a2] σ (f_X3_clauseWord F a1 a2 σ) := by
  refine k_met hj hn hl (by decide) (Nat.le_of_ble_eq_true rfl) (fun C Q hk he hro => ?_)
  have hk : kOk (C, E, Q) cX3_clauseWord RX3 3 := hk
  show Sm (C, E, Q) 3 0 0 [(0, .ref (kad E 1 0)), (1, .int a1), (2, .int a2)] [] σ _
  unfold f_X3_clauseWord
  refine k_aload_n hk dX3_clauseWord_0 0 rfl ?_
  refine k_iload_n hk dX3_clauseWord_1 1 rfl ?_
  refine k_iload_n hk dX3_clauseWord_2 2 rfl ?_
  refine k_ldcS (t := 8) hk dX3_clauseWord_3 (by decide) rfl rfl ?_
  refine k_callSi (As := [.ref (kad E 1 0), .int a1, .int a2, .ref (ktx E 8)]) (rest := []) hk he hro (c_X3_isWord hj hn hl F a1 a2 8 (by decide) σ) dX3_clauseWord_5 cw_RX3_82 ⟨by decide, by decide⟩ (by decide) rfl (Nat.le_of_ble_eq_true rfl) (fun c2 σ1 => ?_)
  refine k_if_eq hk dX3_clauseWord_8 14 (by decide) (fun h3 => ?_) (fun h3 => ?_)
  · refine k_aload_n hk dX3_clauseWord_14 0 rfl ?_
    refine k_iload_n hk dX3_clauseWord_15 1 rfl ?_
    refine k_iload_n hk dX3_clauseWord_16 2 rfl ?_
    refine k_ldcS (t := 9) hk dX3_clauseWord_17 (by decide) rfl rfl ?_
    refine k_callSi (As := [.ref (kad E 1 0), .int a1, .int a2, .ref (ktx E 9)]) (rest := []) hk he hro (c_X3_isWord hj hn hl F a1 a2 9 (by decide) σ1) dX3_clauseWord_19 cw_RX3_82 ⟨by decide, by decide⟩ (by decide) rfl (Nat.le_of_ble_eq_true rfl) (fun c5 σ4 => ?_)
    refine k_if_eq hk dX3_clauseWord_22 28 (by decide) (fun h6 => ?_) (fun h6 => ?_)
    · refine k_aload_n hk dX3_clauseWord_28 0 rfl ?_
      refine k_iload_n hk dX3_clauseWord_29 1 rfl ?_
      refine k_iload_n hk dX3_clauseWord_30 2 rfl ?_
      refine k_ldcS (t := 10) hk dX3_clauseWord_31 (by decide) rfl rfl ?_
      refine k_callSi (As := [.ref (kad E 1 0), .int a1, .int a2, .ref (ktx E 10)]) (rest := []) hk he hro (c_X3_isWord hj hn hl F a1 a2 10 (by decide) σ4) dX3_clauseWord_33 cw_RX3_82 ⟨by decide, by decide⟩ (by decide) rfl (Nat.le_of_ble_eq_true rfl) (fun c8 σ7 => ?_)
      refine k_if_eq hk dX3_clauseWord_36 42 (by decide) (fun h9 => ?_) (fun h9 => ?_)
      · refine k_aload_n hk dX3_clauseWord_42 0 rfl ?_
        refine k_iload_n hk dX3_clauseWord_43 1 rfl ?_
        refine k_iload_n hk dX3_clauseWord_44 2 rfl ?_
        refine k_ldcS (t := 11) hk dX3_clauseWord_45 (by decide) rfl rfl ?_
        refine k_callSi (As := [.ref (kad E 1 0), .int a1, .int a2, .ref (ktx E 11)]) (rest := []) hk he hro (c_X3_isWord hj hn hl F a1 a2 11 (by decide) σ7) dX3_clauseWord_47 cw_RX3_82 ⟨by decide, by decide⟩ (by decide) rfl (Nat.le_of_ble_eq_true rfl) (fun c11 σ10 => ?_)
        refine k_if_eq hk dX3_clauseWord_50 56 (by decide) (fun h12 => ?_) (fun h12 => ?_)
        · refine k_aload_n hk dX3_clauseWord_56 0 rfl ?_
          refine k_iload_n hk dX3_clauseWord_57 1 rfl ?_
          refine k_iload_n hk dX3_clauseWord_58 2 rfl ?_
          refine k_ldcS (t := 12) hk dX3_clauseWord_59 (by decide) rfl rfl ?_
          refine k_callSi (As := [.ref (kad E 1 0), .int a1, .int a2, .ref (ktx E 12)]) (rest := []) hk he hro (c_X3_isWord hj hn hl F a1 a2 12 (by decide) σ10) dX3_clauseWord_61 cw_RX3_82 ⟨by decide, by decide⟩ (by decide) rfl (Nat.le_of_ble_eq_true rfl) (fun c14 σ13 => ?_)
          refine k_if_eq hk dX3_clauseWord_64 72 (by decide) (fun h15 => ?_) (fun h15 => ?_)
          · refine k_bipush (v := (-23)) hk dX3_clauseWord_72 (by decide) ?_
            exact k_sub [] rfl (s_X3_clauseWord_b74 hj hn hl hk he hro F  (-23)  σ13)
          · refine k_bipush (v := (-21)) hk dX3_clauseWord_67 (by decide) ?_
            refine k_goto hk dX3_clauseWord_69 74 (by decide) ?_
            exact k_sub [] rfl (s_X3_clauseWord_b74 hj hn hl hk he hro F  (-21)  σ13)
        · refine k_bipush (v := (-20)) hk dX3_clauseWord_53 (by decide) ?_
          exact k_ireturn hk he dX3_clauseWord_55 (by decide)
      · refine k_bipush (v := (-19)) hk dX3_clauseWord_39 (by decide) ?_
        exact k_ireturn hk he dX3_clauseWord_41 (by decide)
    · refine k_bipush (v := (-18)) hk dX3_clauseWord_25 (by decide) ?_
      exact k_ireturn hk he dX3_clauseWord_27 (by decide)
  · refine k_bipush (v := (-17)) hk dX3_clauseWord_11 (by decide) ?_
    exact k_ireturn hk he dX3_clauseWord_13 (by decide)
def f_X3_conditionWord_b143 (F : Nat) (t0 : Int32) (σ : kS) : Option kR := some (.inl (some (.int t0)), σ)
set_option maxRecDepth 20000 in
theorem s_X3_conditionWord_b143 {l : Launch} {E : kE} (hj : kEj E) (hn : kNorm E) (hl : l.stackTraces = false) {C : kC} {Q : kR → State → Prop} (hk : kOk (C, E, Q) cX3_conditionWord RX3 3) (he : kEnd (C, E, Q) (some .int) id 0) (hro : kRo C l (5) (127) 0) (F : Nat) : ∀ (t0 : Int32)  (σ : kS), Sm (C, E, Q) 3 0 143 [] [.int t0] σ (f_X3_conditionWord_b143 F t0 σ) := by
  intro t0  σ
  unfold f_X3_conditionWord_b143
  exact k_ireturn hk he dX3_conditionWord_143 (by decide)
def f_X3_conditionWord (F : Nat) (a1 : Int32) (a2 : Int32) (σ : kS) : Option kR := kBi (f_X3_isWord F a1 a2 13 σ) fun c2 σ1 => if c2 = 0 then (kBi (f_X3_isWord F a1 a2 14 σ1) fun c5 σ4 => if c5 = 0 then (kBi (f_X3_isWord F a1 a2 15 σ4) fun c8 σ7 => if c8 = 0 then (kBi (f_X3_isWord F a1 a2 16 σ7) fun c11 σ10 => if c11 = 0 then (kBi (f_X3_isWord F a1 a2 17 σ10) fun c14 σ13 => if c14 = 0 then (kBi (f_X3_isWord F a1 a2 18 σ13) fun c17 σ16 => if c17 = 0 then (kBi (f_X3_isWord F a1 a2 19 σ16) fun c20 σ19 => if c20 = 0 then (kBi (f_X3_isWord F a1 a2 20 σ19) fun c23 σ22 => if c23 = 0 then (kBi (f_X3_isWord F a1 a2 21 σ22) fun c26 σ25 => if c26 = 0 then (kBi (f_X3_isWord F a1 a2 22 σ25) fun c29 σ28 => if c29 = 0 then (f_X3_conditionWord_b143 F (-23) σ28) else (f_X3_conditionWord_b143 F (-7) σ28)) else (some (.inl (some (.int (-6))), σ25))) else (some (.inl (some (.int (-5))), σ22))) else (some (.inl (some (.int (-4))), σ19))) else (some (.inl (some (.int (-3))), σ16))) else (some (.inl (some (.int (-2))), σ13))) else (some (.inl (some (.int (-1))), σ10))) else (some (.inl (some (.int (-8))), σ7))) else (some (.inl (some (.int (-9))), σ4))) else (some (.inl (some (.int (-10))), σ1))
set_option maxRecDepth 20000 in
theorem c_X3_conditionWord {l : Launch} {E : kE} (hj : kEj E) (hn : kNorm E) (hl : l.stackTraces = false) (F : Nat) (a1 : Int32) (a2 : Int32)  (σ : kS) : kMet l E yX3_conditionWord cX3_conditionWord 3 (some .int) (5) (127) 0 id [.ref (kad E 1 0), .int a1, .int a2] σ (f_X3_conditionWord F a1 a2 σ) := by
  refine k_met hj hn hl (by decide) (Nat.le_of_ble_eq_true rfl) (fun C Q hk he hro => ?_)
  have hk : kOk (C, E, Q) cX3_conditionWord RX3 3 := hk
  show Sm (C, E, Q) 3 0 0 [(0, .ref (kad E 1 0)), (1, .int a1), (2, .int a2)] [] σ _
  unfold f_X3_conditionWord
  refine k_aload_n hk dX3_conditionWord_0 0 rfl ?_
  refine k_iload_n hk dX3_conditionWord_1 1 rfl ?_
  refine k_iload_n hk dX3_conditionWord_2 2 rfl ?_
  refine k_ldcS (t := 13) hk dX3_conditionWord_3 (by decide) rfl rfl ?_
  refine k_callSi (As := [.ref (kad E 1 0), .int a1, .int a2, .ref (ktx E 13)]) (rest := []) hk he hro (c_X3_isWord hj hn hl F a1 a2 13 (by decide) σ) dX3_conditionWord_5 cw_RX3_82 ⟨by decide, by decide⟩ (by decide) rfl (Nat.le_of_ble_eq_true rfl) (fun c2 σ1 => ?_)
  refine k_if_eq hk dX3_conditionWord_8 14 (by decide) (fun h3 => ?_) (fun h3 => ?_)
  · refine k_aload_n hk dX3_conditionWord_14 0 rfl ?_
    refine k_iload_n hk dX3_conditionWord_15 1 rfl ?_
    refine k_iload_n hk dX3_conditionWord_16 2 rfl ?_
    refine k_ldcS (t := 14) hk dX3_conditionWord_17 (by decide) rfl rfl ?_
    refine k_callSi (As := [.ref (kad E 1 0), .int a1, .int a2, .ref (ktx E 14)]) (rest := []) hk he hro (c_X3_isWord hj hn hl F a1 a2 14 (by decide) σ1) dX3_conditionWord_19 cw_RX3_82 ⟨by decide, by decide⟩ (by decide) rfl (Nat.le_of_ble_eq_true rfl) (fun c5 σ4 => ?_)
    refine k_if_eq hk dX3_conditionWord_22 28 (by decide) (fun h6 => ?_) (fun h6 => ?_)
    · refine k_aload_n hk dX3_conditionWord_28 0 rfl ?_
      refine k_iload_n hk dX3_conditionWord_29 1 rfl ?_
      refine k_iload_n hk dX3_conditionWord_30 2 rfl ?_
      refine k_ldcS (t := 15) hk dX3_conditionWord_31 (by decide) rfl rfl ?_
      refine k_callSi (As := [.ref (kad E 1 0), .int a1, .int a2, .ref (ktx E 15)]) (rest := []) hk he hro (c_X3_isWord hj hn hl F a1 a2 15 (by decide) σ4) dX3_conditionWord_33 cw_RX3_82 ⟨by decide, by decide⟩ (by decide) rfl (Nat.le_of_ble_eq_true rfl) (fun c8 σ7 => ?_)
      refine k_if_eq hk dX3_conditionWord_36 42 (by decide) (fun h9 => ?_) (fun h9 => ?_)
      · refine k_aload_n hk dX3_conditionWord_42 0 rfl ?_
        refine k_iload_n hk dX3_conditionWord_43 1 rfl ?_
        refine k_iload_n hk dX3_conditionWord_44 2 rfl ?_
        refine k_ldcS (t := 16) hk dX3_conditionWord_45 (by decide) rfl rfl ?_
        refine k_callSi (As := [.ref (kad E 1 0), .int a1, .int a2, .ref (ktx E 16)]) (rest := []) hk he hro (c_X3_isWord hj hn hl F a1 a2 16 (by decide) σ7) dX3_conditionWord_47 cw_RX3_82 ⟨by decide, by decide⟩ (by decide) rfl (Nat.le_of_ble_eq_true rfl) (fun c11 σ10 => ?_)
        refine k_if_eq hk dX3_conditionWord_50 55 (by decide) (fun h12 => ?_) (fun h12 => ?_)
        · refine k_aload_n hk dX3_conditionWord_55 0 rfl ?_
          refine k_iload_n hk dX3_conditionWord_56 1 rfl ?_
          refine k_iload_n hk dX3_conditionWord_57 2 rfl ?_
          refine k_ldcS (t := 17) hk dX3_conditionWord_58 (by decide) rfl rfl ?_
          refine k_callSi (As := [.ref (kad E 1 0), .int a1, .int a2, .ref (ktx E 17)]) (rest := []) hk he hro (c_X3_isWord hj hn hl F a1 a2 17 (by decide) σ10) dX3_conditionWord_60 cw_RX3_82 ⟨by decide, by decide⟩ (by decide) rfl (Nat.le_of_ble_eq_true rfl) (fun c14 σ13 => ?_)
          refine k_if_eq hk dX3_conditionWord_63 69 (by decide) (fun h15 => ?_) (fun h15 => ?_)
          · refine k_aload_n hk dX3_conditionWord_69 0 rfl ?_
            refine k_iload_n hk dX3_conditionWord_70 1 rfl ?_
            refine k_iload_n hk dX3_conditionWord_71 2 rfl ?_
            refine k_ldcS (t := 18) hk dX3_conditionWord_72 (by decide) rfl rfl ?_
            refine k_callSi (As := [.ref (kad E 1 0), .int a1, .int a2, .ref (ktx E 18)]) (rest := []) hk he hro (c_X3_isWord hj hn hl F a1 a2 18 (by decide) σ13) dX3_conditionWord_74 cw_RX3_82 ⟨by decide, by decide⟩ (by decide) rfl (Nat.le_of_ble_eq_true rfl) (fun c17 σ16 => ?_)
            refine k_if_eq hk dX3_conditionWord_77 83 (by decide) (fun h18 => ?_) (fun h18 => ?_)
            · refine k_aload_n hk dX3_conditionWord_83 0 rfl ?_
              refine k_iload_n hk dX3_conditionWord_84 1 rfl ?_
              refine k_iload_n hk dX3_conditionWord_85 2 rfl ?_
              refine k_ldcS (t := 19) hk dX3_conditionWord_86 (by decide) rfl rfl ?_
              refine k_callSi (As := [.ref (kad E 1 0), .int a1, .int a2, .ref (ktx E 19)]) (rest := []) hk he hro (c_X3_isWord hj hn hl F a1 a2 19 (by decide) σ16) dX3_conditionWord_88 cw_RX3_82 ⟨by decide, by decide⟩ (by decide) rfl (Nat.le_of_ble_eq_true rfl) (fun c20 σ19 => ?_)
              refine k_if_eq hk dX3_conditionWord_91 97 (by decide) (fun h21 => ?_) (fun h21 => ?_)
              · refine k_aload_n hk dX3_conditionWord_97 0 rfl ?_
                refine k_iload_n hk dX3_conditionWord_98 1 rfl ?_
                refine k_iload_n hk dX3_conditionWord_99 2 rfl ?_
                refine k_ldcS (t := 20) hk dX3_conditionWord_100 (by decide) rfl rfl ?_
                refine k_callSi (As := [.ref (kad E 1 0), .int a1, .int a2, .ref (ktx E 20)]) (rest := []) hk he hro (c_X3_isWord hj hn hl F a1 a2 20 (by decide) σ19) dX3_conditionWord_102 cw_RX3_82 ⟨by decide, by decide⟩ (by decide) rfl (Nat.le_of_ble_eq_true rfl) (fun c23 σ22 => ?_)
                refine k_if_eq hk dX3_conditionWord_105 111 (by decide) (fun h24 => ?_) (fun h24 => ?_)
                · refine k_aload_n hk dX3_conditionWord_111 0 rfl ?_
                  refine k_iload_n hk dX3_conditionWord_112 1 rfl ?_
                  refine k_iload_n hk dX3_conditionWord_113 2 rfl ?_
                  refine k_ldcS (t := 21) hk dX3_conditionWord_114 (by decide) rfl rfl ?_
                  refine k_callSi (As := [.ref (kad E 1 0), .int a1, .int a2, .ref (ktx E 21)]) (rest := []) hk he hro (c_X3_isWord hj hn hl F a1 a2 21 (by decide) σ22) dX3_conditionWord_116 cw_RX3_82 ⟨by decide, by decide⟩ (by decide) rfl (Nat.le_of_ble_eq_true rfl) (fun c26 σ25 => ?_)
                  refine k_if_eq hk dX3_conditionWord_119 125 (by decide) (fun h27 => ?_) (fun h27 => ?_)
                  · refine k_aload_n hk dX3_conditionWord_125 0 rfl ?_
                    refine k_iload_n hk dX3_conditionWord_126 1 rfl ?_
                    refine k_iload_n hk dX3_conditionWord_127 2 rfl ?_
                    refine k_ldcS (t := 22) hk dX3_conditionWord_128 (by decide) rfl rfl ?_
                    refine k_callSi (As := [.ref (kad E 1 0), .int a1, .int a2, .ref (ktx E 22)]) (rest := []) hk he hro (c_X3_isWord hj hn hl F a1 a2 22 (by decide) σ25) dX3_conditionWord_130 cw_RX3_82 ⟨by decide, by decide⟩ (by decide) rfl (Nat.le_of_ble_eq_true rfl) (fun c29 σ28 => ?_)
                    refine k_if_eq hk dX3_conditionWord_133 141 (by decide) (fun h30 => ?_) (fun h30 => ?_)
                    · refine k_bipush (v := (-23)) hk dX3_conditionWord_141 (by decide) ?_
                      exact k_sub [] rfl (s_X3_conditionWord_b143 hj hn hl hk he hro F  (-23)  σ28)
                    · refine k_bipush (v := (-7)) hk dX3_conditionWord_136 (by decide) ?_
                      refine k_goto hk dX3_conditionWord_138 143 (by decide) ?_
                      exact k_sub [] rfl (s_X3_conditionWord_b143 hj hn hl hk he hro F  (-7)  σ28)
                  · refine k_bipush (v := (-6)) hk dX3_conditionWord_122 (by decide) ?_
                    exact k_ireturn hk he dX3_conditionWord_124 (by decide)
                · refine k_bipush (v := (-5)) hk dX3_conditionWord_108 (by decide) ?_
                  exact k_ireturn hk he dX3_conditionWord_110 (by decide)
              · refine k_bipush (v := (-4)) hk dX3_conditionWord_94 (by decide) ?_
                exact k_ireturn hk he dX3_conditionWord_96 (by decide)
            · refine k_bipush (v := (-3)) hk dX3_conditionWord_80 (by decide) ?_
              exact k_ireturn hk he dX3_conditionWord_82 (by decide)
          · refine k_bipush (v := (-2)) hk dX3_conditionWord_66 (by decide) ?_
            exact k_ireturn hk he dX3_conditionWord_68 (by decide)
        · refine k_iconst (v := (-1)) hk dX3_conditionWord_53 (by decide) ?_
          exact k_ireturn hk he dX3_conditionWord_54 (by decide)
      · refine k_bipush (v := (-8)) hk dX3_conditionWord_39 (by decide) ?_
        exact k_ireturn hk he dX3_conditionWord_41 (by decide)
    · refine k_bipush (v := (-9)) hk dX3_conditionWord_25 (by decide) ?_
      exact k_ireturn hk he dX3_conditionWord_27 (by decide)
  · refine k_bipush (v := (-10)) hk dX3_conditionWord_11 (by decide) ?_
    exact k_ireturn hk he dX3_conditionWord_13 (by decide)
def f_X3_scanNumber_b51 (F : Nat) (x4 : Int32) (x5 : Int32) (σ : kS) : Option kR := kg (kin (σ.1 2 0 6) 301) (kb (kU σ 18 0 (σ.1 2 0 6).toNatClampNeg (-22)) fun σ1 => kg (kin (σ1.1 2 0 6) 301) (kb (kU σ1 20 0 (σ1.1 2 0 6).toNatClampNeg x4) fun σ3 => some (.inl (some (.int x5)), σ3)))
set_option maxRecDepth 20000 in
theorem s_X3_scanNumber_b51 {l : Launch} {E : kE} (hj : kEj E) (hn : kNorm E) (hl : l.stackTraces = false) {C : kC} {Q : kR → State → Prop} (hk : kOk (C, E, Q) cX3_scanNumber RX3 6) (he : kEnd (C, E, Q) (some .int) id 0) (hro : kRo C l (1) (20) 0) (F : Nat) : ∀ (x4 : Int32) (x5 : Int32)  (σ : kS), Sm (C, E, Q) 6 0 51 [(0, .ref (kad E 2 0)), (4, .int x4), (5, .int x5)] [] σ (f_X3_scanNumber_b51 F x4 x5 σ) := by
  intro x4 x5  σ
  unfold f_X3_scanNumber_b51
  refine k_aload_n hk dX3_scanNumber_51 0 rfl ?_
  refine k_getr (k := 3) 18 0 hk dX3_scanNumber_52 rfl (by decide) kc3 (by decide) fl_RX3_25 rfl rfl ?_
  refine k_aload_n hk dX3_scanNumber_55 0 rfl ?_
  refine k_getf (k := 6) hk dX3_scanNumber_56 rfl (by decide) kc3 (by decide) fl_RX3_35 rfl ?_
  refine k_bipush (v := (-22)) hk dX3_scanNumber_59 (by decide) ?_
  refine k_iast hk dX3_scanNumber_61 rfl (by decide) (fun h2 σ1 => ?_)
  refine k_aload_n hk dX3_scanNumber_62 0 rfl ?_
  refine k_getr (k := 5) 20 0 hk dX3_scanNumber_63 rfl (by decide) kc3 (by decide) fl_RX3_32 rfl rfl ?_
  refine k_aload_n hk dX3_scanNumber_66 0 rfl ?_
  refine k_getf (k := 6) hk dX3_scanNumber_67 rfl (by decide) kc3 (by decide) fl_RX3_35 rfl ?_
  refine k_iload hk dX3_scanNumber_70 1 rfl ?_
  refine k_iast hk dX3_scanNumber_72 rfl (by decide) (fun h4 σ3 => ?_)
  refine k_iload hk dX3_scanNumber_73 2 rfl ?_
  exact k_ireturn hk he dX3_scanNumber_75 (by decide)
def f_X3_scanNumber_b45 (F : Nat) (rr6 : (Int32 × Int32 × Int32) → kS → Option kR) (x3 : Int32) (x4 : Int32) (x5 : Int32) (σ : kS) : Option kR := rr6 (x3, x4, x5 + 1) σ
set_option maxRecDepth 20000 in
theorem s_X3_scanNumber_b45 {l : Launch} {E : kE} (hj : kEj E) (hn : kNorm E) (hl : l.stackTraces = false) {C : kC} {Q : kR → State → Prop} (hk : kOk (C, E, Q) cX3_scanNumber RX3 6) (he : kEnd (C, E, Q) (some .int) id 0) (hro : kRo C l (1) (20) 0) (F : Nat) (rr6 : (Int32 × Int32 × Int32) → kS → Option kR) (hrr6 : ∀ (x3 : Int32) (x4 : Int32) (x5 : Int32)  (σ : kS), Sm (C, E, Q) 6 0 6 [(0, .ref (kad E 2 0)), (1, .ref (kad E 1 0)), (3, .int x3), (4, .int x4), (5, .int x5)] [] σ (rr6 (x3, x4, x5) σ)) : ∀ (x3 : Int32) (x4 : Int32) (x5 : Int32)  (σ : kS), Sm (C, E, Q) 6 0 45 [(0, .ref (kad E 2 0)), (1, .ref (kad E 1 0)), (3, .int x3), (4, .int x4), (5, .int x5)] [] σ (f_X3_scanNumber_b45 F rr6 x3 x4 x5 σ) := by
  intro x3 x4 x5  σ
  unfold f_X3_scanNumber_b45
  refine k_iinc (lv' := [(5, .int (x5 + 1)), (0, .ref (kad E 2 0)), (1, .ref (kad E 1 0)), (3, .int x3), (4, .int x4)]) (j := 4) (y := x5 + 1) hk dX3_scanNumber_45 rfl rfl (by decide) rfl ?_
  refine k_goto hk dX3_scanNumber_48 6 (by decide) ?_
  exact k_sub [1, 2, 3, 4, 0] rfl (hrr6 x3 x4 (x5 + 1)  σ)
def f_X3_scanNumber_b6 (F : Nat) (rr6 : (Int32 × Int32 × Int32) → kS → Option kR) (a : (Int32 × Int32 × Int32)) (σ : kS) : Option kR := match a with
  | (x3, x4, x5) => if x3 ≤ x5 then (f_X3_scanNumber_b51 F x4 x5 σ) else (kg (kin x5 300) (kBi (f_X3_isDigit F (σ.1 1 0 x5.toNatClampNeg) σ) fun c8 σ7 => if c8 = 0 then (f_X3_scanNumber_b51 F x4 x5 σ7) else (if 9999 < x4 then (f_X3_scanNumber_b45 F rr6 x3 x4 x5 σ7) else (kg (kin x5 300) (kb (((x4 * 10) + (σ7.1 1 0 x5.toNatClampNeg)) - 48) fun y12 => f_X3_scanNumber_b45 F rr6 x3 y12 x5 σ7)))))
set_option maxRecDepth 20000 in
theorem s_X3_scanNumber_b6 {l : Launch} {E : kE} (hj : kEj E) (hn : kNorm E) (hl : l.stackTraces = false) {C : kC} {Q : kR → State → Prop} (hk : kOk (C, E, Q) cX3_scanNumber RX3 6) (he : kEnd (C, E, Q) (some .int) id 0) (hro : kRo C l (1) (20) 0) (F : Nat) : ∀ (N9 : Nat) (x3 : Int32) (x4 : Int32) (x5 : Int32)  (σ : kS), Sm (C, E, Q) 6 0 6 [(0, .ref (kad E 2 0)), (1, .ref (kad E 1 0)), (3, .int x3), (4, .int x4), (5, .int x5)] [] σ (kFix (f_X3_scanNumber_b6 F) N9 (x3, x4, x5) σ) := by
  intro N9
  induction N9 with
  | zero => intro x3 x4 x5  σ; exact k_no
  | succ N9 ih =>
    intro x3 x4 x5  σ
    show Sm _ _ _ _ _ _ _ (f_X3_scanNumber_b6 F (kFix (f_X3_scanNumber_b6 F) N9) (x3, x4, x5) σ)
    generalize kFix (f_X3_scanNumber_b6 F) N9 = rr6 at ih
    have hrr6 := ih
    unfold f_X3_scanNumber_b6
    dsimp only
    refine k_iload hk dX3_scanNumber_6 4 rfl ?_
    refine k_iload_n hk dX3_scanNumber_8 2 rfl ?_
    refine k_icmp_ge hk dX3_scanNumber_9 51 (by decide) (fun h5 => ?_) (fun h5 => ?_)
    · exact k_sub [0, 3, 4] rfl (s_X3_scanNumber_b51 hj hn hl hk he hro F  x4 x5  σ)
    · refine k_aload_n hk dX3_scanNumber_12 1 rfl ?_
      refine k_iload hk dX3_scanNumber_13 4 rfl ?_
      refine k_bald hk dX3_scanNumber_15 rfl (by decide) (fun h6 => ?_)
      refine k_callSi (As := [.int (σ.1 1 0 x5.toNatClampNeg)]) (rest := []) hk he hro (c_X3_isDigit hj hn hl F (σ.1 1 0 x5.toNatClampNeg)  σ) dX3_scanNumber_16 cw_RX3_61 ⟨by decide, by decide⟩ (by decide) rfl (Nat.le_of_ble_eq_true rfl) (fun c8 σ7 => ?_)
      refine k_if_eq hk dX3_scanNumber_19 51 (by decide) (fun h9 => ?_) (fun h9 => ?_)
      · exact k_sub [0, 3, 4] rfl (s_X3_scanNumber_b51 hj hn hl hk he hro F  x4 x5  σ7)
      · refine k_iload hk dX3_scanNumber_22 3 rfl ?_
        refine k_sipush (v := 9999) hk dX3_scanNumber_24 (by decide) ?_
        refine k_icmp_gt hk dX3_scanNumber_27 45 (by decide) (fun h10 => ?_) (fun h10 => ?_)
        · exact k_sub [0, 1, 2, 3, 4] rfl (s_X3_scanNumber_b45 hj hn hl hk he hro F rr6 hrr6  x3 x4 x5  σ7)
        · refine k_iload hk dX3_scanNumber_30 3 rfl ?_
          refine k_bipush (v := 10) hk dX3_scanNumber_32 (by decide) ?_
          refine k_imul hk dX3_scanNumber_34 ?_
          refine k_aload_n hk dX3_scanNumber_35 1 rfl ?_
          refine k_iload hk dX3_scanNumber_36 4 rfl ?_
          refine k_bald hk dX3_scanNumber_38 rfl (by decide) (fun h11 => ?_)
          refine k_iadd hk dX3_scanNumber_39 ?_
          refine k_bipush (v := 48) hk dX3_scanNumber_40 (by decide) ?_
          refine k_isub hk dX3_scanNumber_42 ?_
          refine k_nm (fun y12 => ?_)
          refine k_istore (lv' := [(4, .int y12), (0, .ref (kad E 2 0)), (1, .ref (kad E 1 0)), (3, .int x3), (5, .int x5)]) hk dX3_scanNumber_43 (by decide) rfl ?_
          exact k_sub [1, 2, 3, 0, 4] rfl (s_X3_scanNumber_b45 hj hn hl hk he hro F rr6 hrr6  x3 y12 x5  σ7)
def f_X3_scanNumber (F : Nat) (a2 : Int32) (a3 : Int32) (σ : kS) : Option kR := kFix (f_X3_scanNumber_b6 F) F (a3, 0, a2) σ
set_option maxRecDepth 20000 in
theorem c_X3_scanNumber {l : Launch} {E : kE} (hj : kEj E) (hn : kNorm E) (hl : l.stackTraces = false) (F : Nat) (a2 : Int32) (a3 : Int32)  (σ : kS) : kMet l E yX3_scanNumber cX3_scanNumber 6 (some .int) (1) (20) 0 id [.ref (kad E 2 0), .ref (kad E 1 0), .int a2, .int a3] σ (f_X3_scanNumber F a2 a3 σ) := by
  refine k_met hj hn hl (by decide) (Nat.le_of_ble_eq_true rfl) (fun C Q hk he hro => ?_)
  have hk : kOk (C, E, Q) cX3_scanNumber RX3 6 := hk
  show Sm (C, E, Q) 6 0 0 [(0, .ref (kad E 2 0)), (1, .ref (kad E 1 0)), (2, .int a2), (3, .int a3)] [] σ _
  unfold f_X3_scanNumber
  refine k_iconst (v := 0) hk dX3_scanNumber_0 (by decide) ?_
  refine k_istore (lv' := [(4, .int 0), (0, .ref (kad E 2 0)), (1, .ref (kad E 1 0)), (2, .int a2), (3, .int a3)]) hk dX3_scanNumber_1 (by decide) rfl ?_
  refine k_iload_n hk dX3_scanNumber_3 3 rfl ?_
  refine k_istore (lv' := [(5, .int a2), (4, .int 0), (0, .ref (kad E 2 0)), (1, .ref (kad E 1 0)), (2, .int a2), (3, .int a3)]) hk dX3_scanNumber_4 (by decide) rfl ?_
  exact k_sub [2, 3, 5, 1, 0] rfl (s_X3_scanNumber_b6 hj hn hl hk he hro F F a3 0 a2  σ)
def f_X3_scanWord_b50 (F : Nat) (x4 : Int32) (x5 : Int32) (σ : kS) : Option kR := kg (kin (σ.1 2 0 6) 301) (kb (kU σ 18 0 (σ.1 2 0 6).toNatClampNeg x5) fun σ1 => some (.inl (some (.int x4)), σ1))
set_option maxRecDepth 20000 in
theorem s_X3_scanWord_b50 {l : Launch} {E : kE} (hj : kEj E) (hn : kNorm E) (hl : l.stackTraces = false) {C : kC} {Q : kR → State → Prop} (hk : kOk (C, E, Q) cX3_scanWord RX3 6) (he : kEnd (C, E, Q) (some .int) id 0) (hro : kRo C l (6) (149) 0) (F : Nat) : ∀ (x4 : Int32) (x5 : Int32)  (σ : kS), Sm (C, E, Q) 6 0 50 [(0, .ref (kad E 2 0)), (4, .int x4), (5, .int x5)] [] σ (f_X3_scanWord_b50 F x4 x5 σ) := by
  intro x4 x5  σ
  unfold f_X3_scanWord_b50
  refine k_aload_n hk dX3_scanWord_50 0 rfl ?_
  refine k_getr (k := 3) 18 0 hk dX3_scanWord_51 rfl (by decide) kc3 (by decide) fl_RX3_25 rfl rfl ?_
  refine k_aload_n hk dX3_scanWord_54 0 rfl ?_
  refine k_getf (k := 6) hk dX3_scanWord_55 rfl (by decide) kc3 (by decide) fl_RX3_35 rfl ?_
  refine k_iload hk dX3_scanWord_58 2 rfl ?_
  refine k_iast hk dX3_scanWord_60 rfl (by decide) (fun h2 σ1 => ?_)
  refine k_iload hk dX3_scanWord_61 1 rfl ?_
  exact k_ireturn hk he dX3_scanWord_63 (by decide)
def f_X3_scanWord_b25 (F : Nat) (x2 : Int32) (x4 : Int32) (σ : kS) : Option kR := kBi (f_X3_clauseWord F x2 x4 σ) fun c4 σ3 => if c4 = (-23) then (kBi (f_X3_conditionWord F x2 x4 σ3) fun c7 σ6 => f_X3_scanWord_b50 F x4 c7 σ6) else (f_X3_scanWord_b50 F x4 c4 σ3)
set_option maxRecDepth 20000 in
theorem s_X3_scanWord_b25 {l : Launch} {E : kE} (hj : kEj E) (hn : kNorm E) (hl : l.stackTraces = false) {C : kC} {Q : kR → State → Prop} (hk : kOk (C, E, Q) cX3_scanWord RX3 6) (he : kEnd (C, E, Q) (some .int) id 0) (hro : kRo C l (6) (149) 0) (F : Nat) : ∀ (x2 : Int32) (x4 : Int32)  (σ : kS), Sm (C, E, Q) 6 0 25 [(0, .ref (kad E 2 0)), (1, .ref (kad E 1 0)), (2, .int x2), (4, .int x4)] [] σ (f_X3_scanWord_b25 F x2 x4 σ) := by
  intro x2 x4  σ
  unfold f_X3_scanWord_b25
  refine k_aload_n hk dX3_scanWord_25 1 rfl ?_
  refine k_iload_n hk dX3_scanWord_26 2 rfl ?_
  refine k_iload hk dX3_scanWord_27 3 rfl ?_
  refine k_callSi (As := [.ref (kad E 1 0), .int x2, .int x4]) (rest := []) hk he hro (c_X3_clauseWord hj hn hl F x2 x4  σ) dX3_scanWord_29 cw_RX3_74 ⟨by decide, by decide⟩ (by decide) rfl (Nat.le_of_ble_eq_true rfl) (fun c4 σ3 => ?_)
  refine k_istore (lv' := [(5, .int c4), (0, .ref (kad E 2 0)), (1, .ref (kad E 1 0)), (2, .int x2), (4, .int x4)]) hk dX3_scanWord_32 (by decide) rfl ?_
  refine k_iload hk dX3_scanWord_34 0 rfl ?_
  refine k_bipush (v := (-23)) hk dX3_scanWord_36 (by decide) ?_
  refine k_icmp_ne hk dX3_scanWord_38 50 (by decide) (fun h5 => ?_) (fun h5 => ?_)
  · exact k_sub [1, 4, 0] rfl (s_X3_scanWord_b50 hj hn hl hk he hro F  x4 c4  σ3)
  · refine k_aload_n hk dX3_scanWord_41 2 rfl ?_
    refine k_iload_n hk dX3_scanWord_42 3 rfl ?_
    refine k_iload hk dX3_scanWord_43 4 rfl ?_
    refine k_callSi (As := [.ref (kad E 1 0), .int x2, .int x4]) (rest := []) hk he hro (c_X3_conditionWord hj hn hl F x2 x4  σ3) dX3_scanWord_45 cw_RX3_77 ⟨by decide, by decide⟩ (by decide) rfl (Nat.le_of_ble_eq_true rfl) (fun c7 σ6 => ?_)
    refine k_istore (lv' := [(5, .int c7), (0, .ref (kad E 2 0)), (1, .ref (kad E 1 0)), (2, .int x2), (4, .int x4)]) hk dX3_scanWord_48 (by decide) rfl ?_
    exact k_sub [1, 4, 0] rfl (s_X3_scanWord_b50 hj hn hl hk he hro F  x4 c7  σ6)
def f_X3_scanWord_b3 (F : Nat) (rr3 : (Int32 × Int32 × Int32) → kS → Option kR) (a : (Int32 × Int32 × Int32)) (σ : kS) : Option kR := match a with
  | (x2, x3, x4) => if x3 ≤ x4 then (f_X3_scanWord_b25 F x2 x4 σ) else (kg (kin x4 300) (kBi (f_X3_isLetter F (σ.1 1 0 x4.toNatClampNeg) σ) fun c11 σ10 => if c11 = 0 then (f_X3_scanWord_b25 F x2 x4 σ10) else (rr3 (x2, x3, x4 + 1) σ10)))
set_option maxRecDepth 20000 in
theorem s_X3_scanWord_b3 {l : Launch} {E : kE} (hj : kEj E) (hn : kNorm E) (hl : l.stackTraces = false) {C : kC} {Q : kR → State → Prop} (hk : kOk (C, E, Q) cX3_scanWord RX3 6) (he : kEnd (C, E, Q) (some .int) id 0) (hro : kRo C l (6) (149) 0) (F : Nat) : ∀ (N9 : Nat) (x2 : Int32) (x3 : Int32) (x4 : Int32)  (σ : kS), Sm (C, E, Q) 6 0 3 [(0, .ref (kad E 2 0)), (1, .ref (kad E 1 0)), (2, .int x2), (3, .int x3), (4, .int x4)] [] σ (kFix (f_X3_scanWord_b3 F) N9 (x2, x3, x4) σ) := by
  intro N9
  induction N9 with
  | zero => intro x2 x3 x4  σ; exact k_no
  | succ N9 ih =>
    intro x2 x3 x4  σ
    show Sm _ _ _ _ _ _ _ (f_X3_scanWord_b3 F (kFix (f_X3_scanWord_b3 F) N9) (x2, x3, x4) σ)
    generalize kFix (f_X3_scanWord_b3 F) N9 = rr3 at ih
    have hrr3 := ih
    unfold f_X3_scanWord_b3
    dsimp only
    refine k_iload hk dX3_scanWord_3 4 rfl ?_
    refine k_iload_n hk dX3_scanWord_5 3 rfl ?_
    refine k_icmp_ge hk dX3_scanWord_6 25 (by decide) (fun h8 => ?_) (fun h8 => ?_)
    · exact k_sub [0, 1, 2, 4] rfl (s_X3_scanWord_b25 hj hn hl hk he hro F  x2 x4  σ)
    · refine k_aload_n hk dX3_scanWord_9 1 rfl ?_
      refine k_iload hk dX3_scanWord_10 4 rfl ?_
      refine k_bald hk dX3_scanWord_12 rfl (by decide) (fun h9 => ?_)
      refine k_callSi (As := [.int (σ.1 1 0 x4.toNatClampNeg)]) (rest := []) hk he hro (c_X3_isLetter hj hn hl F (σ.1 1 0 x4.toNatClampNeg)  σ) dX3_scanWord_13 cw_RX3_68 ⟨by decide, by decide⟩ (by decide) rfl (Nat.le_of_ble_eq_true rfl) (fun c11 σ10 => ?_)
      refine k_if_eq hk dX3_scanWord_16 25 (by decide) (fun h12 => ?_) (fun h12 => ?_)
      · exact k_sub [0, 1, 2, 4] rfl (s_X3_scanWord_b25 hj hn hl hk he hro F  x2 x4  σ10)
      · refine k_iinc (lv' := [(4, .int (x4 + 1)), (0, .ref (kad E 2 0)), (1, .ref (kad E 1 0)), (2, .int x2), (3, .int x3)]) (j := 4) (y := x4 + 1) hk dX3_scanWord_19 rfl rfl (by decide) rfl ?_
        refine k_goto hk dX3_scanWord_22 3 (by decide) ?_
        exact k_sub [1, 2, 3, 4, 0] rfl (hrr3 x2 x3 (x4 + 1)  σ10)
def f_X3_scanWord (F : Nat) (a2 : Int32) (a3 : Int32) (σ : kS) : Option kR := kFix (f_X3_scanWord_b3 F) F (a2, a3, a2) σ
set_option maxRecDepth 20000 in
theorem c_X3_scanWord {l : Launch} {E : kE} (hj : kEj E) (hn : kNorm E) (hl : l.stackTraces = false) (F : Nat) (a2 : Int32) (a3 : Int32)  (σ : kS) : kMet l E yX3_scanWord cX3_scanWord 6 (some .int) (6) (149) 0 id [.ref (kad E 2 0), .ref (kad E 1 0), .int a2, .int a3] σ (f_X3_scanWord F a2 a3 σ) := by
  refine k_met hj hn hl (by decide) (Nat.le_of_ble_eq_true rfl) (fun C Q hk he hro => ?_)
  have hk : kOk (C, E, Q) cX3_scanWord RX3 6 := hk
  show Sm (C, E, Q) 6 0 0 [(0, .ref (kad E 2 0)), (1, .ref (kad E 1 0)), (2, .int a2), (3, .int a3)] [] σ _
  unfold f_X3_scanWord
  refine k_iload_n hk dX3_scanWord_0 2 rfl ?_
  refine k_istore (lv' := [(4, .int a2), (0, .ref (kad E 2 0)), (1, .ref (kad E 1 0)), (2, .int a2), (3, .int a3)]) hk dX3_scanWord_1 (by decide) rfl ?_
  exact k_sub [1, 2, 3, 4, 0] rfl (s_X3_scanWord_b3 hj hn hl hk he hro F F a2 a3 a2  σ)
def f_X3_scan_b123 (F : Nat) (x2 : Int32) (σ : kS) : Option kR := kg (kin (σ.1 2 0 6) 301) (kb (kU σ 18 0 (σ.1 2 0 6).toNatClampNeg (-24)) fun σ1 => kg (kin (σ1.1 2 0 6) 301) (kb (kU σ1 19 0 (σ1.1 2 0 6).toNatClampNeg x2) fun σ3 => some (.inl none, σ3)))
set_option maxRecDepth 20000 in
theorem s_X3_scan_b123 {l : Launch} {E : kE} (hj : kEj E) (hn : kNorm E) (hl : l.stackTraces = false) {C : kC} {Q : kR → State → Prop} (hk : kOk (C, E, Q) cX3_scan RX3 6) (he : kEnd (C, E, Q) none id 0) (hro : kRo C l (7) (174) 0) (F : Nat) : ∀ (x2 : Int32)  (σ : kS), Sm (C, E, Q) 6 0 123 [(0, .ref (kad E 2 0)), (2, .int x2)] [] σ (f_X3_scan_b123 F x2 σ) := by
  intro x2  σ
  unfold f_X3_scan_b123
  refine k_aload_n hk dX3_scan_123 0 rfl ?_
  refine k_getr (k := 3) 18 0 hk dX3_scan_124 rfl (by decide) kc3 (by decide) fl_RX3_25 rfl rfl ?_
  refine k_aload_n hk dX3_scan_127 0 rfl ?_
  refine k_getf (k := 6) hk dX3_scan_128 rfl (by decide) kc3 (by decide) fl_RX3_35 rfl ?_
  refine k_bipush (v := (-24)) hk dX3_scan_131 (by decide) ?_
  refine k_iast hk dX3_scan_133 rfl (by decide) (fun h2 σ1 => ?_)
  refine k_aload_n hk dX3_scan_134 0 rfl ?_
  refine k_getr (k := 4) 19 0 hk dX3_scan_135 rfl (by decide) kc3 (by decide) fl_RX3_29 rfl rfl ?_
  refine k_aload_n hk dX3_scan_138 0 rfl ?_
  refine k_getf (k := 6) hk dX3_scan_139 rfl (by decide) kc3 (by decide) fl_RX3_35 rfl ?_
  refine k_iload_n hk dX3_scan_142 1 rfl ?_
  refine k_iast hk dX3_scan_143 rfl (by decide) (fun h4 σ3 => ?_)
  exact k_return hk he dX3_scan_144 (by decide)
def f_X3_scan_b117 (F : Nat) (rr10 : (Int32 × Int32 × Int32) → kS → Option kR) (x2 : Int32) (x3 : Int32) (x4 : Int32) (σ : kS) : Option kR := rr10 (x2, x3, x4 + 1) σ
set_option maxRecDepth 20000 in
theorem s_X3_scan_b117 {l : Launch} {E : kE} (hj : kEj E) (hn : kNorm E) (hl : l.stackTraces = false) {C : kC} {Q : kR → State → Prop} (hk : kOk (C, E, Q) cX3_scan RX3 6) (he : kEnd (C, E, Q) none id 0) (hro : kRo C l (7) (174) 0) (F : Nat) (rr10 : (Int32 × Int32 × Int32) → kS → Option kR) (hrr10 : ∀ (x2 : Int32) (x3 : Int32) (x4 : Int32)  (σ : kS), Sm (C, E, Q) 6 0 10 [(0, .ref (kad E 2 0)), (1, .ref (kad E 1 0)), (2, .int x2), (3, .int x3), (4, .int x4)] [] σ (rr10 (x2, x3, x4) σ)) : ∀ (x2 : Int32) (x3 : Int32) (x4 : Int32)  (σ : kS), Sm (C, E, Q) 6 0 117 [(0, .ref (kad E 2 0)), (1, .ref (kad E 1 0)), (2, .int x2), (3, .int x3), (4, .int x4)] [] σ (f_X3_scan_b117 F rr10 x2 x3 x4 σ) := by
  intro x2 x3 x4  σ
  unfold f_X3_scan_b117
  refine k_iinc (lv' := [(4, .int (x4 + 1)), (0, .ref (kad E 2 0)), (1, .ref (kad E 1 0)), (2, .int x2), (3, .int x3)]) (j := 4) (y := x4 + 1) hk dX3_scan_117 rfl rfl (by decide) rfl ?_
  refine k_goto hk dX3_scan_120 10 (by decide) ?_
  exact k_sub [1, 2, 3, 4, 0] rfl (hrr10 x2 x3 (x4 + 1)  σ)
def f_X3_scan_b107 (F : Nat) (rr10 : (Int32 × Int32 × Int32) → kS → Option kR) (x2 : Int32) (x3 : Int32) (x4 : Int32) (σ : kS) : Option kR := kb (kU σ 2 0 6 ((σ.1 2 0 6) + 1)) fun σ5 => f_X3_scan_b117 F rr10 x2 x3 x4 σ5
set_option maxRecDepth 20000 in
theorem s_X3_scan_b107 {l : Launch} {E : kE} (hj : kEj E) (hn : kNorm E) (hl : l.stackTraces = false) {C : kC} {Q : kR → State → Prop} (hk : kOk (C, E, Q) cX3_scan RX3 6) (he : kEnd (C, E, Q) none id 0) (hro : kRo C l (7) (174) 0) (F : Nat) (rr10 : (Int32 × Int32 × Int32) → kS → Option kR) (hrr10 : ∀ (x2 : Int32) (x3 : Int32) (x4 : Int32)  (σ : kS), Sm (C, E, Q) 6 0 10 [(0, .ref (kad E 2 0)), (1, .ref (kad E 1 0)), (2, .int x2), (3, .int x3), (4, .int x4)] [] σ (rr10 (x2, x3, x4) σ)) : ∀ (x2 : Int32) (x3 : Int32) (x4 : Int32)  (σ : kS), Sm (C, E, Q) 6 0 107 [(0, .ref (kad E 2 0)), (1, .ref (kad E 1 0)), (2, .int x2), (3, .int x3), (4, .int x4)] [] σ (f_X3_scan_b107 F rr10 x2 x3 x4 σ) := by
  intro x2 x3 x4  σ
  unfold f_X3_scan_b107
  refine k_aload_n hk dX3_scan_107 0 rfl ?_
  refine k_dup hk dX3_scan_108 rfl ?_
  refine k_getf (k := 6) hk dX3_scan_109 rfl (by decide) kc3 (by decide) fl_RX3_35 rfl ?_
  refine k_iconst (v := 1) hk dX3_scan_112 (by decide) ?_
  refine k_iadd hk dX3_scan_113 ?_
  refine k_putf (k := 6) hk dX3_scan_114 rfl (by decide) kc3 (by decide) fl_RX3_35 rfl rfl rfl rfl (fun σ5 => ?_)
  exact k_sub [0, 1, 2, 3, 4] rfl (s_X3_scan_b117 hj hn hl hk he hro F rr10 hrr10  x2 x3 x4  σ5)
def f_X3_scan_b10 (F : Nat) (rr10 : (Int32 × Int32 × Int32) → kS → Option kR) (a : (Int32 × Int32 × Int32)) (σ : kS) : Option kR := match a with
  | (x2, x3, x4) => if 300 ≤ x4 then (f_X3_scan_b123 F x2 σ) else (if x2 ≤ x3 then (f_X3_scan_b123 F x2 σ) else (kg (kin x3 300) (kb ((σ.1 1 0 x3.toNatClampNeg) &&& 255) fun y9 => if y9 = 32 then (f_X3_scan_b117 F rr10 x2 (x3 + 1) x4 σ) else (kg (kin (σ.1 2 0 6) 301) (kb (kU σ 19 0 (σ.1 2 0 6).toNatClampNeg x3) fun σ11 => kBi (f_X3_isDigit F y9 σ11) fun c14 σ13 => if c14 = 0 then (kBi (f_X3_isLetter F y9 σ13) fun c17 σ16 => if c17 = 0 then (kg (kin (σ16.1 2 0 6) 301) (kb (kU σ16 18 0 (σ16.1 2 0 6).toNatClampNeg y9) fun σ19 => f_X3_scan_b107 F rr10 x2 (x3 + 1) x4 σ19)) else (kBi (f_X3_scanWord F x3 x2 σ16) fun c22 σ21 => f_X3_scan_b107 F rr10 x2 c22 x4 σ21)) else (kBi (f_X3_scanNumber F x3 x2 σ13) fun c24 σ23 => f_X3_scan_b107 F rr10 x2 c24 x4 σ23))))))
set_option maxRecDepth 20000 in
theorem s_X3_scan_b10 {l : Launch} {E : kE} (hj : kEj E) (hn : kNorm E) (hl : l.stackTraces = false) {C : kC} {Q : kR → State → Prop} (hk : kOk (C, E, Q) cX3_scan RX3 6) (he : kEnd (C, E, Q) none id 0) (hro : kRo C l (7) (174) 0) (F : Nat) : ∀ (N9 : Nat) (x2 : Int32) (x3 : Int32) (x4 : Int32)  (σ : kS), Sm (C, E, Q) 6 0 10 [(0, .ref (kad E 2 0)), (1, .ref (kad E 1 0)), (2, .int x2), (3, .int x3), (4, .int x4)] [] σ (kFix (f_X3_scan_b10 F) N9 (x2, x3, x4) σ) := by
  intro N9
  induction N9 with
  | zero => intro x2 x3 x4  σ; exact k_no
  | succ N9 ih =>
    intro x2 x3 x4  σ
    show Sm _ _ _ _ _ _ _ (f_X3_scan_b10 F (kFix (f_X3_scan_b10 F) N9) (x2, x3, x4) σ)
    generalize kFix (f_X3_scan_b10 F) N9 = rr10 at ih
    have hrr10 := ih
    unfold f_X3_scan_b10
    dsimp only
    refine k_iload hk dX3_scan_10 4 rfl ?_
    refine k_sipush (v := 300) hk dX3_scan_12 (by decide) ?_
    refine k_icmp_ge hk dX3_scan_15 123 (by decide) (fun h6 => ?_) (fun h6 => ?_)
    · exact k_sub [0, 2] rfl (s_X3_scan_b123 hj hn hl hk he hro F  x2  σ)
    · refine k_iload_n hk dX3_scan_18 3 rfl ?_
      refine k_iload_n hk dX3_scan_19 2 rfl ?_
      refine k_icmp_ge hk dX3_scan_20 123 (by decide) (fun h7 => ?_) (fun h7 => ?_)
      · exact k_sub [0, 2] rfl (s_X3_scan_b123 hj hn hl hk he hro F  x2  σ)
      · refine k_aload_n hk dX3_scan_23 1 rfl ?_
        refine k_iload_n hk dX3_scan_24 3 rfl ?_
        refine k_bald hk dX3_scan_25 rfl (by decide) (fun h8 => ?_)
        refine k_sipush (v := 255) hk dX3_scan_26 (by decide) ?_
        refine k_iand hk dX3_scan_29 ?_
        refine k_nm (fun y9 => ?_)
        refine k_istore (lv' := [(5, .int y9), (0, .ref (kad E 2 0)), (1, .ref (kad E 1 0)), (2, .int x2), (3, .int x3), (4, .int x4)]) hk dX3_scan_30 (by decide) rfl ?_
        refine k_iload hk dX3_scan_32 0 rfl ?_
        refine k_bipush (v := 32) hk dX3_scan_34 (by decide) ?_
        refine k_icmp_ne hk dX3_scan_36 45 (by decide) (fun h10 => ?_) (fun h10 => ?_)
        · refine k_aload_n hk dX3_scan_45 1 rfl ?_
          refine k_getr (k := 4) 19 0 hk dX3_scan_46 rfl (by decide) kc3 (by decide) fl_RX3_29 rfl rfl ?_
          refine k_aload_n hk dX3_scan_49 1 rfl ?_
          refine k_getf (k := 6) hk dX3_scan_50 rfl (by decide) kc3 (by decide) fl_RX3_35 rfl ?_
          refine k_iload_n hk dX3_scan_53 4 rfl ?_
          refine k_iast hk dX3_scan_54 rfl (by decide) (fun h12 σ11 => ?_)
          refine k_iload hk dX3_scan_55 0 rfl ?_
          refine k_callSi (As := [.int y9]) (rest := []) hk he hro (c_X3_isDigit hj hn hl F y9  σ11) dX3_scan_57 cw_RX3_61 ⟨by decide, by decide⟩ (by decide) rfl (Nat.le_of_ble_eq_true rfl) (fun c14 σ13 => ?_)
          refine k_if_eq hk dX3_scan_60 74 (by decide) (fun h15 => ?_) (fun h15 => ?_)
          · refine k_iload hk dX3_scan_74 0 rfl ?_
            refine k_callSi (As := [.int y9]) (rest := []) hk he hro (c_X3_isLetter hj hn hl F y9  σ13) dX3_scan_76 cw_RX3_68 ⟨by decide, by decide⟩ (by decide) rfl (Nat.le_of_ble_eq_true rfl) (fun c17 σ16 => ?_)
            refine k_if_eq hk dX3_scan_79 93 (by decide) (fun h18 => ?_) (fun h18 => ?_)
            · refine k_aload_n hk dX3_scan_93 1 rfl ?_
              refine k_getr (k := 3) 18 0 hk dX3_scan_94 rfl (by decide) kc3 (by decide) fl_RX3_25 rfl rfl ?_
              refine k_aload_n hk dX3_scan_97 1 rfl ?_
              refine k_getf (k := 6) hk dX3_scan_98 rfl (by decide) kc3 (by decide) fl_RX3_35 rfl ?_
              refine k_iload hk dX3_scan_101 0 rfl ?_
              refine k_iast hk dX3_scan_103 rfl (by decide) (fun h20 σ19 => ?_)
              refine k_iinc (lv' := [(3, .int (x3 + 1)), (5, .int y9), (0, .ref (kad E 2 0)), (1, .ref (kad E 1 0)), (2, .int x2), (4, .int x4)]) (j := 4) (y := x3 + 1) hk dX3_scan_104 rfl rfl (by decide) rfl ?_
              exact k_sub [2, 3, 4, 0, 5] rfl (s_X3_scan_b107 hj hn hl hk he hro F rr10 hrr10  x2 (x3 + 1) x4  σ19)
            · refine k_aload_n hk dX3_scan_82 1 rfl ?_
              refine k_aload_n hk dX3_scan_83 2 rfl ?_
              refine k_iload_n hk dX3_scan_84 4 rfl ?_
              refine k_iload_n hk dX3_scan_85 3 rfl ?_
              refine k_callVi (As := [.ref (kad E 1 0), .int x3, .int x2]) (rest := []) hk he hro (c_X3_scanWord hj hn hl F x3 x2  σ16) dX3_scan_86 cw_RX3_71 rfl (by decide) kc3 rfl ⟨by decide, by decide⟩ (by decide) rfl (Nat.le_of_ble_eq_true rfl) (fun c22 σ21 => ?_)
              refine k_istore_n (lv' := [(3, .int c22), (5, .int y9), (0, .ref (kad E 2 0)), (1, .ref (kad E 1 0)), (2, .int x2), (4, .int x4)]) hk dX3_scan_89 (by decide) rfl ?_
              refine k_goto hk dX3_scan_90 107 (by decide) ?_
              exact k_sub [2, 3, 4, 0, 5] rfl (s_X3_scan_b107 hj hn hl hk he hro F rr10 hrr10  x2 c22 x4  σ21)
          · refine k_aload_n hk dX3_scan_63 1 rfl ?_
            refine k_aload_n hk dX3_scan_64 2 rfl ?_
            refine k_iload_n hk dX3_scan_65 4 rfl ?_
            refine k_iload_n hk dX3_scan_66 3 rfl ?_
            refine k_callVi (As := [.ref (kad E 1 0), .int x3, .int x2]) (rest := []) hk he hro (c_X3_scanNumber hj hn hl F x3 x2  σ13) dX3_scan_67 cw_RX3_64 rfl (by decide) kc3 rfl ⟨by decide, by decide⟩ (by decide) rfl (Nat.le_of_ble_eq_true rfl) (fun c24 σ23 => ?_)
            refine k_istore_n (lv' := [(3, .int c24), (5, .int y9), (0, .ref (kad E 2 0)), (1, .ref (kad E 1 0)), (2, .int x2), (4, .int x4)]) hk dX3_scan_70 (by decide) rfl ?_
            refine k_goto hk dX3_scan_71 107 (by decide) ?_
            exact k_sub [2, 3, 4, 0, 5] rfl (s_X3_scan_b107 hj hn hl hk he hro F rr10 hrr10  x2 c24 x4  σ23)
        · refine k_iinc (lv' := [(3, .int (x3 + 1)), (5, .int y9), (0, .ref (kad E 2 0)), (1, .ref (kad E 1 0)), (2, .int x2), (4, .int x4)]) (j := 4) (y := x3 + 1) hk dX3_scan_39 rfl rfl (by decide) rfl ?_
          refine k_goto hk dX3_scan_42 117 (by decide) ?_
          exact k_sub [2, 3, 4, 0, 5] rfl (s_X3_scan_b117 hj hn hl hk he hro F rr10 hrr10  x2 (x3 + 1) x4  σ)
def f_X3_scan (F : Nat) (a2 : Int32) (σ : kS) : Option kR := kb (kU σ 2 0 6 0) fun σ25 => kFix (f_X3_scan_b10 F) F (a2, 0, 0) σ25
set_option maxRecDepth 20000 in
theorem c_X3_scan {l : Launch} {E : kE} (hj : kEj E) (hn : kNorm E) (hl : l.stackTraces = false) (F : Nat) (a2 : Int32)  (σ : kS) : kMet l E yX3_scan cX3_scan 6 none (7) (174) 0 id [.ref (kad E 2 0), .ref (kad E 1 0), .int a2] σ (f_X3_scan F a2 σ) := by
  refine k_met hj hn hl (by decide) (Nat.le_of_ble_eq_true rfl) (fun C Q hk he hro => ?_)
  have hk : kOk (C, E, Q) cX3_scan RX3 6 := hk
  show Sm (C, E, Q) 6 0 0 [(0, .ref (kad E 2 0)), (1, .ref (kad E 1 0)), (2, .int a2)] [] σ _
  unfold f_X3_scan
  refine k_aload_n hk dX3_scan_0 0 rfl ?_
  refine k_iconst (v := 0) hk dX3_scan_1 (by decide) ?_
  refine k_putf (k := 6) hk dX3_scan_2 rfl (by decide) kc3 (by decide) fl_RX3_35 rfl rfl rfl rfl (fun σ25 => ?_)
  refine k_iconst (v := 0) hk dX3_scan_5 (by decide) ?_
  refine k_istore_n (lv' := [(3, .int 0), (0, .ref (kad E 2 0)), (1, .ref (kad E 1 0)), (2, .int a2)]) hk dX3_scan_6 (by decide) rfl ?_
  refine k_iconst (v := 0) hk dX3_scan_7 (by decide) ?_
  refine k_istore (lv' := [(4, .int 0), (3, .int 0), (0, .ref (kad E 2 0)), (1, .ref (kad E 1 0)), (2, .int a2)]) hk dX3_scan_8 (by decide) rfl ?_
  exact k_sub [2, 3, 4, 1, 0] rfl (s_X3_scan_b10 hj hn hl hk he hro F F a2 0 0  σ25)
def f_X3_fail (F : Nat) (a1 : Int32) (σ : kS) : Option kR := kb (kU σ 2 0 2 a1) fun σ1 => kg (kin (σ1.1 2 0 7) 301) (kb (kU σ1 2 0 1 (σ1.1 19 0 (σ1.1 2 0 7).toNatClampNeg)) fun σ3 => some (.inl (some (.int 0)), σ3))
set_option maxRecDepth 20000 in
theorem c_X3_fail {l : Launch} {E : kE} (hj : kEj E) (hn : kNorm E) (hl : l.stackTraces = false) (F : Nat) (a1 : Int32)  (σ : kS) : kMet l E yX3_fail cX3_fail 2 (some .boolean) (0) (0) 0 id [.ref (kad E 2 0), .int a1] σ (f_X3_fail F a1 σ) := by
  refine k_met hj hn hl (by decide) (Nat.le_of_ble_eq_true rfl) (fun C Q hk he hro => ?_)
  have hk : kOk (C, E, Q) cX3_fail RX3 2 := hk
  show Sm (C, E, Q) 2 0 0 [(0, .ref (kad E 2 0)), (1, .int a1)] [] σ _
  unfold f_X3_fail
  refine k_aload_n hk dX3_fail_0 0 rfl ?_
  refine k_iload_n hk dX3_fail_1 1 rfl ?_
  refine k_putf (k := 2) hk dX3_fail_2 rfl (by decide) kc3 (by decide) fl_RX3_22 rfl rfl rfl rfl (fun σ1 => ?_)
  refine k_aload_n hk dX3_fail_5 0 rfl ?_
  refine k_aload_n hk dX3_fail_6 0 rfl ?_
  refine k_getr (k := 4) 19 0 hk dX3_fail_7 rfl (by decide) kc3 (by decide) fl_RX3_29 rfl rfl ?_
  refine k_aload_n hk dX3_fail_10 0 rfl ?_
  refine k_getf (k := 7) hk dX3_fail_11 rfl (by decide) kc3 (by decide) fl_RX3_38 rfl ?_
  refine k_iald hk dX3_fail_14 rfl (by decide) (fun h2 => ?_)
  refine k_putf (k := 1) hk dX3_fail_15 rfl (by decide) kc3 (by decide) fl_RX3_18 rfl rfl rfl rfl (fun σ3 => ?_)
  refine k_iconst (v := 0) hk dX3_fail_18 (by decide) ?_
  exact k_zreturn_c hk he dX3_fail_19 (by decide) rfl
def f_X3_take_b24 (F : Nat)  (σ : kS) : Option kR := some (.inl (some (.int 0)), σ)
set_option maxRecDepth 20000 in
theorem s_X3_take_b24 {l : Launch} {E : kE} (hj : kEj E) (hn : kNorm E) (hl : l.stackTraces = false) {C : kC} {Q : kR → State → Prop} (hk : kOk (C, E, Q) cX3_take RX3 2) (he : kEnd (C, E, Q) (some .boolean) id 0) (hro : kRo C l (0) (0) 0) (F : Nat) : ∀   (σ : kS), Sm (C, E, Q) 2 0 24 [] [] σ (f_X3_take_b24 F  σ) := by
  intro   σ
  unfold f_X3_take_b24
  refine k_iconst (v := 0) hk dX3_take_24 (by decide) ?_
  exact k_zreturn_c hk he dX3_take_25 (by decide) rfl
def f_X3_take (F : Nat) (a1 : Int32) (σ : kS) : Option kR := kg (kin (σ.1 2 0 7) 301) (if (σ.1 18 0 (σ.1 2 0 7).toNatClampNeg) = a1 then (if (σ.1 2 0 7) < (σ.1 2 0 6) then (kb (kU σ 2 0 7 ((σ.1 2 0 7) + 1)) fun σ4 => some (.inl (some (.int 1)), σ4)) else (f_X3_take_b24 F  σ)) else (f_X3_take_b24 F  σ))
set_option maxRecDepth 20000 in
theorem c_X3_take {l : Launch} {E : kE} (hj : kEj E) (hn : kNorm E) (hl : l.stackTraces = false) (F : Nat) (a1 : Int32)  (σ : kS) : kMet l E yX3_take cX3_take 2 (some .boolean) (0) (0) 0 id [.ref (kad E 2 0), .int a1] σ (f_X3_take F a1 σ) := by
  refine k_met hj hn hl (by decide) (Nat.le_of_ble_eq_true rfl) (fun C Q hk he hro => ?_)
  have hk : kOk (C, E, Q) cX3_take RX3 2 := hk
  show Sm (C, E, Q) 2 0 0 [(0, .ref (kad E 2 0)), (1, .int a1)] [] σ _
  unfold f_X3_take
  refine k_aload_n hk dX3_take_0 0 rfl ?_
  refine k_getr (k := 3) 18 0 hk dX3_take_1 rfl (by decide) kc3 (by decide) fl_RX3_25 rfl rfl ?_
  refine k_aload_n hk dX3_take_4 0 rfl ?_
  refine k_getf (k := 7) hk dX3_take_5 rfl (by decide) kc3 (by decide) fl_RX3_38 rfl ?_
  refine k_iald hk dX3_take_8 rfl (by decide) (fun h1 => ?_)
  refine k_iload_n hk dX3_take_9 1 rfl ?_
  refine k_icmp_ne hk dX3_take_10 24 (by decide) (fun h2 => ?_) (fun h2 => ?_)
  · exact k_sub [] rfl (s_X3_take_b24 hj hn hl hk he hro F    σ)
  · refine k_aload_n hk dX3_take_13 0 rfl ?_
    refine k_getf (k := 7) hk dX3_take_14 rfl (by decide) kc3 (by decide) fl_RX3_38 rfl ?_
    refine k_aload_n hk dX3_take_17 0 rfl ?_
    refine k_getf (k := 6) hk dX3_take_18 rfl (by decide) kc3 (by decide) fl_RX3_35 rfl ?_
    refine k_icmp_lt hk dX3_take_21 26 (by decide) (fun h3 => ?_) (fun h3 => ?_)
    · refine k_aload_n hk dX3_take_26 0 rfl ?_
      refine k_dup hk dX3_take_27 rfl ?_
      refine k_getf (k := 7) hk dX3_take_28 rfl (by decide) kc3 (by decide) fl_RX3_38 rfl ?_
      refine k_iconst (v := 1) hk dX3_take_31 (by decide) ?_
      refine k_iadd hk dX3_take_32 ?_
      refine k_putf (k := 7) hk dX3_take_33 rfl (by decide) kc3 (by decide) fl_RX3_38 rfl rfl rfl rfl (fun σ4 => ?_)
      refine k_iconst (v := 1) hk dX3_take_36 (by decide) ?_
      exact k_zreturn_c hk he dX3_take_37 (by decide) rfl
    · exact k_sub [] rfl (s_X3_take_b24 hj hn hl hk he hro F    σ)
def f_X3_expect_b21 (F : Nat) (t0 : Int32) (σ : kS) : Option kR := kg (narrow .boolean (.int t0) = .int t0) (some (.inl (some (.int t0)), σ))
set_option maxRecDepth 20000 in
theorem s_X3_expect_b21 {l : Launch} {E : kE} (hj : kEj E) (hn : kNorm E) (hl : l.stackTraces = false) {C : kC} {Q : kR → State → Prop} (hk : kOk (C, E, Q) cX3_expect RX3 2) (he : kEnd (C, E, Q) (some .boolean) id 0) (hro : kRo C l (1) (21) 0) (F : Nat) : ∀ (t0 : Int32)  (σ : kS), Sm (C, E, Q) 2 0 21 [] [.int t0] σ (f_X3_expect_b21 F t0 σ) := by
  intro t0  σ
  unfold f_X3_expect_b21
  exact k_zreturn hk he dX3_expect_21 (by decide)
def f_X3_expect_b16 (F : Nat)  (σ : kS) : Option kR := f_X3_expect_b21 F 1 σ
set_option maxRecDepth 20000 in
theorem s_X3_expect_b16 {l : Launch} {E : kE} (hj : kEj E) (hn : kNorm E) (hl : l.stackTraces = false) {C : kC} {Q : kR → State → Prop} (hk : kOk (C, E, Q) cX3_expect RX3 2) (he : kEnd (C, E, Q) (some .boolean) id 0) (hro : kRo C l (1) (21) 0) (F : Nat) : ∀   (σ : kS), Sm (C, E, Q) 2 0 16 [] [] σ (f_X3_expect_b16 F  σ) := by
  intro   σ
  unfold f_X3_expect_b16
  refine k_iconst (v := 1) hk dX3_expect_16 (by decide) ?_
  refine k_goto hk dX3_expect_17 21 (by decide) ?_
  exact k_sub [] rfl (s_X3_expect_b21 hj hn hl hk he hro F  1  σ)
def f_X3_expect (F : Nat) (a1 : Int32) (σ : kS) : Option kR := kBi (f_X3_take F a1 σ) fun c2 σ1 => if c2 = 0 then (kBi (f_X3_fail F 1 σ1) fun c5 σ4 => if c5 = 0 then (f_X3_expect_b21 F 0 σ4) else (f_X3_expect_b16 F  σ4)) else (f_X3_expect_b16 F  σ1)
set_option maxRecDepth 20000 in
theorem c_X3_expect {l : Launch} {E : kE} (hj : kEj E) (hn : kNorm E) (hl : l.stackTraces = false) (F : Nat) (a1 : Int32)  (σ : kS) : kMet l E yX3_expect cX3_expect 2 (some .boolean) (1) (21) 0 id [.ref (kad E 2 0), .int a1] σ (f_X3_expect F a1 σ) := by
  refine k_met hj hn hl (by decide) (Nat.le_of_ble_eq_true rfl) (fun C Q hk he hro => ?_)
  have hk : kOk (C, E, Q) cX3_expect RX3 2 := hk
  show Sm (C, E, Q) 2 0 0 [(0, .ref (kad E 2 0)), (1, .int a1)] [] σ _
  unfold f_X3_expect
  refine k_aload_n hk dX3_expect_0 0 rfl ?_
  refine k_iload_n hk dX3_expect_1 1 rfl ?_
  refine k_callVi (As := [.int a1]) (rest := []) hk he hro (c_X3_take hj hn hl F a1  σ) dX3_expect_2 cw_RX3_170 rfl (by decide) kc3 rfl ⟨by decide, by decide⟩ (by decide) rfl (Nat.le_of_ble_eq_true rfl) (fun c2 σ1 => ?_)
  refine k_if_ne hk dX3_expect_5 16 (by decide) (fun h3 => ?_) (fun h3 => ?_)
  · exact k_sub [] rfl (s_X3_expect_b16 hj hn hl hk he hro F    σ1)
  · refine k_aload_n hk dX3_expect_8 0 rfl ?_
    refine k_iconst (v := 1) hk dX3_expect_9 (by decide) ?_
    refine k_callVi (As := [.int 1]) (rest := []) hk he hro (c_X3_fail hj hn hl F 1  σ1) dX3_expect_10 cw_RX3_124 rfl (by decide) kc3 rfl ⟨by decide, by decide⟩ (by decide) rfl (Nat.le_of_ble_eq_true rfl) (fun c5 σ4 => ?_)
    refine k_if_eq hk dX3_expect_13 20 (by decide) (fun h6 => ?_) (fun h6 => ?_)
    · refine k_iconst (v := 0) hk dX3_expect_20 (by decide) ?_
      exact k_sub [] rfl (s_X3_expect_b21 hj hn hl hk he hro F  0  σ4)
    · exact k_sub [] rfl (s_X3_expect_b16 hj hn hl hk he hro F    σ4)
def f_X3_write (F : Nat) (a1 : Int32) (σ : kS) : Option kR := if (σ.1 10 0 8) < 300 then (kg (kin (σ.1 10 0 8) 300) (kb (kU σ 17 0 (σ.1 10 0 8).toNatClampNeg a1) fun σ2 => kb (kU σ2 10 0 8 ((σ2.1 10 0 8) + 1)) fun σ4 => some (.inl (some (.int 1)), σ4))) else (some (.inl (some (.int 0)), σ))
set_option maxRecDepth 20000 in
theorem c_X3_write {l : Launch} {E : kE} (hj : kEj E) (hn : kNorm E) (hl : l.stackTraces = false) (F : Nat) (a1 : Int32)  (σ : kS) : kMet l E yX3_write cX3_write 2 (some .boolean) (0) (0) 0 id [.ref (kad E 2 0), .int a1] σ (f_X3_write F a1 σ) := by
  refine k_met hj hn hl (by decide) (Nat.le_of_ble_eq_true rfl) (fun C Q hk he hro => ?_)
  have hk : kOk (C, E, Q) cX3_write RX3 2 := hk
  show Sm (C, E, Q) 2 0 0 [(0, .ref (kad E 2 0)), (1, .int a1)] [] σ _
  unfold f_X3_write
  refine k_aload_n hk dX3_write_0 0 rfl ?_
  refine k_getr (k := 0) 10 0 hk dX3_write_1 rfl (by decide) kc3 (by decide) fl_RX3_12 rfl rfl ?_
  refine k_getf (k := 8) hk dX3_write_4 rfl (by decide) kc4 (by decide) fl_RX3_44 rfl ?_
  refine k_sipush (v := 300) hk dX3_write_7 (by decide) ?_
  refine k_icmp_lt hk dX3_write_10 15 (by decide) (fun h1 => ?_) (fun h1 => ?_)
  · refine k_aload_n hk dX3_write_15 0 rfl ?_
    refine k_getr (k := 0) 10 0 hk dX3_write_16 rfl (by decide) kc3 (by decide) fl_RX3_12 rfl rfl ?_
    refine k_getr (k := 7) 17 0 hk dX3_write_19 rfl (by decide) kc4 (by decide) fl_RX3_188 rfl rfl ?_
    refine k_aload_n hk dX3_write_22 0 rfl ?_
    refine k_getr (k := 0) 10 0 hk dX3_write_23 rfl (by decide) kc3 (by decide) fl_RX3_12 rfl rfl ?_
    refine k_getf (k := 8) hk dX3_write_26 rfl (by decide) kc4 (by decide) fl_RX3_44 rfl ?_
    refine k_iload_n hk dX3_write_29 1 rfl ?_
    refine k_iast hk dX3_write_30 rfl (by decide) (fun h3 σ2 => ?_)
    refine k_aload_n hk dX3_write_31 0 rfl ?_
    refine k_getr (k := 0) 10 0 hk dX3_write_32 rfl (by decide) kc3 (by decide) fl_RX3_12 rfl rfl ?_
    refine k_dup hk dX3_write_35 rfl ?_
    refine k_getf (k := 8) hk dX3_write_36 rfl (by decide) kc4 (by decide) fl_RX3_44 rfl ?_
    refine k_iconst (v := 1) hk dX3_write_39 (by decide) ?_
    refine k_iadd hk dX3_write_40 ?_
    refine k_putf (k := 8) hk dX3_write_41 rfl (by decide) kc4 (by decide) fl_RX3_44 rfl rfl rfl rfl (fun σ4 => ?_)
    refine k_iconst (v := 1) hk dX3_write_44 (by decide) ?_
    exact k_zreturn_c hk he dX3_write_45 (by decide) rfl
  · refine k_iconst (v := 0) hk dX3_write_13 (by decide) ?_
    exact k_zreturn_c hk he dX3_write_14 (by decide) rfl
def f_X3_number_b42 (F : Nat)  (σ : kS) : Option kR := kBi (f_X3_fail F 2 σ) fun c2 σ1 => some (.inl (some (.int (-1))), σ1)
set_option maxRecDepth 20000 in
theorem s_X3_number_b42 {l : Launch} {E : kE} (hj : kEj E) (hn : kNorm E) (hl : l.stackTraces = false) {C : kC} {Q : kR → State → Prop} (hk : kOk (C, E, Q) cX3_number RX3 4) (he : kEnd (C, E, Q) (some .int) id 0) (hro : kRo C l (1) (21) 0) (F : Nat) : ∀   (σ : kS), Sm (C, E, Q) 4 0 42 [(0, .ref (kad E 2 0))] [] σ (f_X3_number_b42 F  σ) := by
  intro   σ
  unfold f_X3_number_b42
  refine k_aload_n hk dX3_number_42 0 rfl ?_
  refine k_iconst (v := 2) hk dX3_number_43 (by decide) ?_
  refine k_callVi (As := [.int 2]) (rest := []) hk he hro (c_X3_fail hj hn hl F 2  σ) dX3_number_44 cw_RX3_124 rfl (by decide) kc3 rfl ⟨by decide, by decide⟩ (by decide) rfl (Nat.le_of_ble_eq_true rfl) (fun c2 σ1 => ?_)
  refine k_pop hk dX3_number_47 rfl ?_
  refine k_iconst (v := (-1)) hk dX3_number_48 (by decide) ?_
  exact k_ireturn hk he dX3_number_49 (by decide)
def f_X3_number (F : Nat) (a1 : Int32) (a2 : Int32) (σ : kS) : Option kR := kg (kin (σ.1 2 0 7) 301) (if (σ.1 18 0 (σ.1 2 0 7).toNatClampNeg) = (-22) then (kg (kin (σ.1 2 0 7) 301) (kb (σ.1 20 0 (σ.1 2 0 7).toNatClampNeg) fun y6 => if y6 < a1 then (f_X3_number_b42 F  σ) else (if y6 ≤ a2 then (kb (kU σ 2 0 7 ((σ.1 2 0 7) + 1)) fun σ9 => some (.inl (some (.int y6)), σ9)) else (f_X3_number_b42 F  σ)))) else (kBi (f_X3_fail F 1 σ) fun c11 σ10 => some (.inl (some (.int (-1))), σ10)))
set_option maxRecDepth 20000 in
theorem c_X3_number {l : Launch} {E : kE} (hj : kEj E) (hn : kNorm E) (hl : l.stackTraces = false) (F : Nat) (a1 : Int32) (a2 : Int32)  (σ : kS) : kMet l E yX3_number cX3_number 4 (some .int) (1) (21) 0 id [.ref (kad E 2 0), .int a1, .int a2] σ (f_X3_number F a1 a2 σ) := by
  refine k_met hj hn hl (by decide) (Nat.le_of_ble_eq_true rfl) (fun C Q hk he hro => ?_)
  have hk : kOk (C, E, Q) cX3_number RX3 4 := hk
  show Sm (C, E, Q) 4 0 0 [(0, .ref (kad E 2 0)), (1, .int a1), (2, .int a2)] [] σ _
  unfold f_X3_number
  refine k_aload_n hk dX3_number_0 0 rfl ?_
  refine k_getr (k := 3) 18 0 hk dX3_number_1 rfl (by decide) kc3 (by decide) fl_RX3_25 rfl rfl ?_
  refine k_aload_n hk dX3_number_4 0 rfl ?_
  refine k_getf (k := 7) hk dX3_number_5 rfl (by decide) kc3 (by decide) fl_RX3_38 rfl ?_
  refine k_iald hk dX3_number_8 rfl (by decide) (fun h3 => ?_)
  refine k_bipush (v := (-22)) hk dX3_number_9 (by decide) ?_
  refine k_icmp_eq hk dX3_number_11 22 (by decide) (fun h4 => ?_) (fun h4 => ?_)
  · refine k_aload_n hk dX3_number_22 0 rfl ?_
    refine k_getr (k := 5) 20 0 hk dX3_number_23 rfl (by decide) kc3 (by decide) fl_RX3_32 rfl rfl ?_
    refine k_aload_n hk dX3_number_26 0 rfl ?_
    refine k_getf (k := 7) hk dX3_number_27 rfl (by decide) kc3 (by decide) fl_RX3_38 rfl ?_
    refine k_iald hk dX3_number_30 rfl (by decide) (fun h5 => ?_)
    refine k_nm (fun y6 => ?_)
    refine k_istore_n (lv' := [(3, .int y6), (0, .ref (kad E 2 0)), (1, .int a1), (2, .int a2)]) hk dX3_number_31 (by decide) rfl ?_
    refine k_iload_n hk dX3_number_32 0 rfl ?_
    refine k_iload_n hk dX3_number_33 2 rfl ?_
    refine k_icmp_lt hk dX3_number_34 42 (by decide) (fun h7 => ?_) (fun h7 => ?_)
    · exact k_sub [1] rfl (s_X3_number_b42 hj hn hl hk he hro F    σ)
    · refine k_iload_n hk dX3_number_37 0 rfl ?_
      refine k_iload_n hk dX3_number_38 3 rfl ?_
      refine k_icmp_le hk dX3_number_39 50 (by decide) (fun h8 => ?_) (fun h8 => ?_)
      · refine k_aload_n hk dX3_number_50 1 rfl ?_
        refine k_dup hk dX3_number_51 rfl ?_
        refine k_getf (k := 7) hk dX3_number_52 rfl (by decide) kc3 (by decide) fl_RX3_38 rfl ?_
        refine k_iconst (v := 1) hk dX3_number_55 (by decide) ?_
        refine k_iadd hk dX3_number_56 ?_
        refine k_putf (k := 7) hk dX3_number_57 rfl (by decide) kc3 (by decide) fl_RX3_38 rfl rfl rfl rfl (fun σ9 => ?_)
        refine k_iload_n hk dX3_number_60 0 rfl ?_
        exact k_ireturn hk he dX3_number_61 (by decide)
      · exact k_sub [1] rfl (s_X3_number_b42 hj hn hl hk he hro F    σ)
  · refine k_aload_n hk dX3_number_14 0 rfl ?_
    refine k_iconst (v := 1) hk dX3_number_15 (by decide) ?_
    refine k_callVi (As := [.int 1]) (rest := []) hk he hro (c_X3_fail hj hn hl F 1  σ) dX3_number_16 cw_RX3_124 rfl (by decide) kc3 rfl ⟨by decide, by decide⟩ (by decide) rfl (Nat.le_of_ble_eq_true rfl) (fun c11 σ10 => ?_)
    refine k_pop hk dX3_number_19 rfl ?_
    refine k_iconst (v := (-1)) hk dX3_number_20 (by decide) ?_
    exact k_ireturn hk he dX3_number_21 (by decide)
def f_X3_readLeak_b92 (F : Nat) (t0 : Int32) (σ : kS) : Option kR := kg (narrow .boolean (.int t0) = .int t0) (some (.inl (some (.int t0)), σ))
set_option maxRecDepth 20000 in
theorem s_X3_readLeak_b92 {l : Launch} {E : kE} (hj : kEj E) (hn : kNorm E) (hl : l.stackTraces = false) {C : kC} {Q : kR → State → Prop} (hk : kOk (C, E, Q) cX3_readLeak RX3 5) (he : kEnd (C, E, Q) (some .boolean) id 0) (hro : kRo C l (2) (44) 0) (F : Nat) : ∀ (t0 : Int32)  (σ : kS), Sm (C, E, Q) 5 0 92 [] [.int t0] σ (f_X3_readLeak_b92 F t0 σ) := by
  intro t0  σ
  unfold f_X3_readLeak_b92
  exact k_zreturn hk he dX3_readLeak_92 (by decide)
def f_X3_readLeak_b39 (F : Nat)  (σ : kS) : Option kR := some (.inl (some (.int 0)), σ)
set_option maxRecDepth 20000 in
theorem s_X3_readLeak_b39 {l : Launch} {E : kE} (hj : kEj E) (hn : kNorm E) (hl : l.stackTraces = false) {C : kC} {Q : kR → State → Prop} (hk : kOk (C, E, Q) cX3_readLeak RX3 5) (he : kEnd (C, E, Q) (some .boolean) id 0) (hro : kRo C l (2) (44) 0) (F : Nat) : ∀   (σ : kS), Sm (C, E, Q) 5 0 39 [] [] σ (f_X3_readLeak_b39 F  σ) := by
  intro   σ
  unfold f_X3_readLeak_b39
  refine k_iconst (v := 0) hk dX3_readLeak_39 (by decide) ?_
  exact k_zreturn_c hk he dX3_readLeak_40 (by decide) rfl
def f_X3_readLeak_b24 (F : Nat) (x1 : Int32) (x2 : Int32) (t0 : Int32) (σ : kS) : Option kR := if t0 = (-1) then (f_X3_readLeak_b39 F  σ) else (kBi (f_X3_expect F (-20) σ) fun c3 σ2 => if c3 = 0 then (f_X3_readLeak_b39 F  σ2) else (kBi (f_X3_number F 0 99 σ2) fun c6 σ5 => kg (kin x1 14) (kb (kU σ5 12 0 x1.toNatClampNeg x2) fun σ7 => kg (kin x1 14) (kb (kU σ7 13 0 x1.toNatClampNeg t0) fun σ9 => kg (kin x1 14) (kb (kU σ9 14 0 x1.toNatClampNeg c6) fun σ11 => if c6 = (-1) then (f_X3_readLeak_b92 F 0 σ11) else (f_X3_readLeak_b92 F 1 σ11))))))
set_option maxRecDepth 20000 in
theorem s_X3_readLeak_b24 {l : Launch} {E : kE} (hj : kEj E) (hn : kNorm E) (hl : l.stackTraces = false) {C : kC} {Q : kR → State → Prop} (hk : kOk (C, E, Q) cX3_readLeak RX3 5) (he : kEnd (C, E, Q) (some .boolean) id 0) (hro : kRo C l (2) (44) 0) (F : Nat) : ∀ (x1 : Int32) (x2 : Int32) (t0 : Int32)  (σ : kS), Sm (C, E, Q) 5 0 24 [(0, .ref (kad E 2 0)), (1, .int x1), (2, .int x2)] [.int t0] σ (f_X3_readLeak_b24 F x1 x2 t0 σ) := by
  intro x1 x2 t0  σ
  unfold f_X3_readLeak_b24
  refine k_istore_n (lv' := [(3, .int t0), (0, .ref (kad E 2 0)), (1, .int x1), (2, .int x2)]) hk dX3_readLeak_24 (by decide) rfl ?_
  refine k_iload_n hk dX3_readLeak_25 0 rfl ?_
  refine k_iconst (v := (-1)) hk dX3_readLeak_26 (by decide) ?_
  refine k_icmp_eq hk dX3_readLeak_27 39 (by decide) (fun h1 => ?_) (fun h1 => ?_)
  · exact k_sub [] rfl (s_X3_readLeak_b39 hj hn hl hk he hro F    σ)
  · refine k_aload_n hk dX3_readLeak_30 1 rfl ?_
    refine k_bipush (v := (-20)) hk dX3_readLeak_31 (by decide) ?_
    refine k_callVi (As := [.int (-20)]) (rest := []) hk he hro (c_X3_expect hj hn hl F (-20)  σ) dX3_readLeak_33 cw_RX3_137 rfl (by decide) kc3 rfl ⟨by decide, by decide⟩ (by decide) rfl (Nat.le_of_ble_eq_true rfl) (fun c3 σ2 => ?_)
    refine k_if_ne hk dX3_readLeak_36 41 (by decide) (fun h4 => ?_) (fun h4 => ?_)
    · refine k_aload_n hk dX3_readLeak_41 1 rfl ?_
      refine k_iconst (v := 0) hk dX3_readLeak_42 (by decide) ?_
      refine k_bipush (v := 99) hk dX3_readLeak_43 (by decide) ?_
      refine k_callVi (As := [.int 0, .int 99]) (rest := []) hk he hro (c_X3_number hj hn hl F 0 99  σ2) dX3_readLeak_45 cw_RX3_140 rfl (by decide) kc3 rfl ⟨by decide, by decide⟩ (by decide) rfl (Nat.le_of_ble_eq_true rfl) (fun c6 σ5 => ?_)
      refine k_istore (lv' := [(4, .int c6), (3, .int t0), (0, .ref (kad E 2 0)), (1, .int x1), (2, .int x2)]) hk dX3_readLeak_48 (by decide) rfl ?_
      refine k_aload_n hk dX3_readLeak_50 2 rfl ?_
      refine k_getr (k := 0) 10 0 hk dX3_readLeak_51 rfl (by decide) kc3 (by decide) fl_RX3_12 rfl rfl ?_
      refine k_getr (k := 2) 12 0 hk dX3_readLeak_54 rfl (by decide) kc4 (by decide) fl_RX3_143 rfl rfl ?_
      refine k_iload_n hk dX3_readLeak_57 3 rfl ?_
      refine k_iload_n hk dX3_readLeak_58 4 rfl ?_
      refine k_iast hk dX3_readLeak_59 rfl (by decide) (fun h8 σ7 => ?_)
      refine k_aload_n hk dX3_readLeak_60 2 rfl ?_
      refine k_getr (k := 0) 10 0 hk dX3_readLeak_61 rfl (by decide) kc3 (by decide) fl_RX3_12 rfl rfl ?_
      refine k_getr (k := 3) 13 0 hk dX3_readLeak_64 rfl (by decide) kc4 (by decide) fl_RX3_146 rfl rfl ?_
      refine k_iload_n hk dX3_readLeak_67 3 rfl ?_
      refine k_iload_n hk dX3_readLeak_68 1 rfl ?_
      refine k_iast hk dX3_readLeak_69 rfl (by decide) (fun h10 σ9 => ?_)
      refine k_aload_n hk dX3_readLeak_70 2 rfl ?_
      refine k_getr (k := 0) 10 0 hk dX3_readLeak_71 rfl (by decide) kc3 (by decide) fl_RX3_12 rfl rfl ?_
      refine k_getr (k := 4) 14 0 hk dX3_readLeak_74 rfl (by decide) kc4 (by decide) fl_RX3_149 rfl rfl ?_
      refine k_iload_n hk dX3_readLeak_77 3 rfl ?_
      refine k_iload hk dX3_readLeak_78 0 rfl ?_
      refine k_iast hk dX3_readLeak_80 rfl (by decide) (fun h12 σ11 => ?_)
      refine k_iload hk dX3_readLeak_81 0 rfl ?_
      refine k_iconst (v := (-1)) hk dX3_readLeak_83 (by decide) ?_
      refine k_icmp_eq hk dX3_readLeak_84 91 (by decide) (fun h13 => ?_) (fun h13 => ?_)
      · refine k_iconst (v := 0) hk dX3_readLeak_91 (by decide) ?_
        exact k_sub [] rfl (s_X3_readLeak_b92 hj hn hl hk he hro F  0  σ11)
      · refine k_iconst (v := 1) hk dX3_readLeak_87 (by decide) ?_
        refine k_goto hk dX3_readLeak_88 92 (by decide) ?_
        exact k_sub [] rfl (s_X3_readLeak_b92 hj hn hl hk he hro F  1  σ11)
    · exact k_sub [] rfl (s_X3_readLeak_b39 hj hn hl hk he hro F    σ2)
def f_X3_readLeak (F : Nat) (a1 : Int32) (σ : kS) : Option kR := kBi (f_X3_number F 0 7 σ) fun c15 σ14 => if c15 = (-1) then (f_X3_readLeak_b24 F a1 c15 (-1) σ14) else (kBi (f_X3_number F 0 99 σ14) fun c18 σ17 => f_X3_readLeak_b24 F a1 c15 c18 σ17)
set_option maxRecDepth 20000 in
theorem c_X3_readLeak {l : Launch} {E : kE} (hj : kEj E) (hn : kNorm E) (hl : l.stackTraces = false) (F : Nat) (a1 : Int32)  (σ : kS) : kMet l E yX3_readLeak cX3_readLeak 5 (some .boolean) (2) (44) 0 id [.ref (kad E 2 0), .int a1] σ (f_X3_readLeak F a1 σ) := by
  refine k_met hj hn hl (by decide) (Nat.le_of_ble_eq_true rfl) (fun C Q hk he hro => ?_)
  have hk : kOk (C, E, Q) cX3_readLeak RX3 5 := hk
  show Sm (C, E, Q) 5 0 0 [(0, .ref (kad E 2 0)), (1, .int a1)] [] σ _
  unfold f_X3_readLeak
  refine k_aload_n hk dX3_readLeak_0 0 rfl ?_
  refine k_iconst (v := 0) hk dX3_readLeak_1 (by decide) ?_
  refine k_bipush (v := 7) hk dX3_readLeak_2 (by decide) ?_
  refine k_callVi (As := [.int 0, .int 7]) (rest := []) hk he hro (c_X3_number hj hn hl F 0 7  σ) dX3_readLeak_4 cw_RX3_140 rfl (by decide) kc3 rfl ⟨by decide, by decide⟩ (by decide) rfl (Nat.le_of_ble_eq_true rfl) (fun c15 σ14 => ?_)
  refine k_istore_n (lv' := [(2, .int c15), (0, .ref (kad E 2 0)), (1, .int a1)]) hk dX3_readLeak_7 (by decide) rfl ?_
  refine k_iload_n hk dX3_readLeak_8 0 rfl ?_
  refine k_iconst (v := (-1)) hk dX3_readLeak_9 (by decide) ?_
  refine k_icmp_ne hk dX3_readLeak_10 17 (by decide) (fun h16 => ?_) (fun h16 => ?_)
  · refine k_aload_n hk dX3_readLeak_17 1 rfl ?_
    refine k_iconst (v := 0) hk dX3_readLeak_18 (by decide) ?_
    refine k_bipush (v := 99) hk dX3_readLeak_19 (by decide) ?_
    refine k_callVi (As := [.int 0, .int 99]) (rest := []) hk he hro (c_X3_number hj hn hl F 0 99  σ14) dX3_readLeak_21 cw_RX3_140 rfl (by decide) kc3 rfl ⟨by decide, by decide⟩ (by decide) rfl (Nat.le_of_ble_eq_true rfl) (fun c18 σ17 => ?_)
    exact k_sub [1, 2, 0] rfl (s_X3_readLeak_b24 hj hn hl hk he hro F  a1 c15 c18  σ17)
  · refine k_iconst (v := (-1)) hk dX3_readLeak_13 (by decide) ?_
    refine k_goto hk dX3_readLeak_14 24 (by decide) ?_
    exact k_sub [1, 2, 0] rfl (s_X3_readLeak_b24 hj hn hl hk he hro F  a1 c15 (-1)  σ14)
def f_X3_readSet_b60 (F : Nat) (t0 : Int32) (σ : kS) : Option kR := kg (narrow .boolean (.int t0) = .int t0) (some (.inl (some (.int t0)), σ))
set_option maxRecDepth 20000 in
theorem s_X3_readSet_b60 {l : Launch} {E : kE} (hj : kEj E) (hn : kNorm E) (hl : l.stackTraces = false) {C : kC} {Q : kR → State → Prop} (hk : kOk (C, E, Q) cX3_readSet RX3 4) (he : kEnd (C, E, Q) (some .boolean) id 0) (hro : kRo C l (2) (44) 0) (F : Nat) : ∀ (t0 : Int32)  (σ : kS), Sm (C, E, Q) 4 0 60 [] [.int t0] σ (f_X3_readSet_b60 F t0 σ) := by
  intro t0  σ
  unfold f_X3_readSet_b60
  exact k_zreturn hk he dX3_readSet_60 (by decide)
def f_X3_readSet (F : Nat) (a1 : Int32) (σ : kS) : Option kR := kBi (f_X3_number F 0 9 σ) fun c2 σ1 => if c2 = (-1) then (some (.inl (some (.int 0)), σ1)) else (kg (kin c2 10) (kg (kin c2 10) (kBi (f_X3_number F ((kZv 1).getD c2.toNatClampNeg 0) ((kZv 2).getD c2.toNatClampNeg 0) σ1) fun c7 σ6 => kg (kin a1 14) (kb (kU σ6 12 0 a1.toNatClampNeg c2) fun σ8 => kg (kin a1 14) (kb (kU σ8 13 0 a1.toNatClampNeg c7) fun σ10 => if c7 = (-1) then (f_X3_readSet_b60 F 0 σ10) else (f_X3_readSet_b60 F 1 σ10))))))
set_option maxRecDepth 20000 in
theorem c_X3_readSet {l : Launch} {E : kE} (hj : kEj E) (hn : kNorm E) (hl : l.stackTraces = false) (F : Nat) (a1 : Int32)  (σ : kS) : kMet l E yX3_readSet cX3_readSet 4 (some .boolean) (2) (44) 0 id [.ref (kad E 2 0), .int a1] σ (f_X3_readSet F a1 σ) := by
  refine k_met hj hn hl (by decide) (Nat.le_of_ble_eq_true rfl) (fun C Q hk he hro => ?_)
  have hk : kOk (C, E, Q) cX3_readSet RX3 4 := hk
  show Sm (C, E, Q) 4 0 0 [(0, .ref (kad E 2 0)), (1, .int a1)] [] σ _
  unfold f_X3_readSet
  refine k_aload_n hk dX3_readSet_0 0 rfl ?_
  refine k_iconst (v := 0) hk dX3_readSet_1 (by decide) ?_
  refine k_bipush (v := 9) hk dX3_readSet_2 (by decide) ?_
  refine k_callVi (As := [.int 0, .int 9]) (rest := []) hk he hro (c_X3_number hj hn hl F 0 9  σ) dX3_readSet_4 cw_RX3_140 rfl (by decide) kc3 rfl ⟨by decide, by decide⟩ (by decide) rfl (Nat.le_of_ble_eq_true rfl) (fun c2 σ1 => ?_)
  refine k_istore_n (lv' := [(2, .int c2), (0, .ref (kad E 2 0)), (1, .int a1)]) hk dX3_readSet_7 (by decide) rfl ?_
  refine k_iload_n hk dX3_readSet_8 0 rfl ?_
  refine k_iconst (v := (-1)) hk dX3_readSet_9 (by decide) ?_
  refine k_icmp_ne hk dX3_readSet_10 15 (by decide) (fun h3 => ?_) (fun h3 => ?_)
  · refine k_aload_n hk dX3_readSet_15 1 rfl ?_
    refine k_tgetN (t := 1) hk dX3_readSet_16 (by decide) (by decide) ?_
    refine k_iload_n hk dX3_readSet_19 0 rfl ?_
    refine k_tald hk dX3_readSet_20 (by decide) (fun h4 => ?_)
    refine k_tgetN (t := 2) hk dX3_readSet_21 (by decide) (by decide) ?_
    refine k_iload_n hk dX3_readSet_24 0 rfl ?_
    refine k_tald hk dX3_readSet_25 (by decide) (fun h5 => ?_)
    refine k_callVi (As := [.int ((kZv 1).getD c2.toNatClampNeg 0), .int ((kZv 2).getD c2.toNatClampNeg 0)]) (rest := []) hk he hro (c_X3_number hj hn hl F ((kZv 1).getD c2.toNatClampNeg 0) ((kZv 2).getD c2.toNatClampNeg 0)  σ1) dX3_readSet_26 cw_RX3_140 rfl (by decide) kc3 rfl ⟨by decide, by decide⟩ (by decide) rfl (Nat.le_of_ble_eq_true rfl) (fun c7 σ6 => ?_)
    refine k_istore_n (lv' := [(3, .int c7), (2, .int c2), (0, .ref (kad E 2 0)), (1, .int a1)]) hk dX3_readSet_29 (by decide) rfl ?_
    refine k_aload_n hk dX3_readSet_30 2 rfl ?_
    refine k_getr (k := 0) 10 0 hk dX3_readSet_31 rfl (by decide) kc3 (by decide) fl_RX3_12 rfl rfl ?_
    refine k_getr (k := 2) 12 0 hk dX3_readSet_34 rfl (by decide) kc4 (by decide) fl_RX3_143 rfl rfl ?_
    refine k_iload_n hk dX3_readSet_37 3 rfl ?_
    refine k_iload_n hk dX3_readSet_38 1 rfl ?_
    refine k_iast hk dX3_readSet_39 rfl (by decide) (fun h9 σ8 => ?_)
    refine k_aload_n hk dX3_readSet_40 2 rfl ?_
    refine k_getr (k := 0) 10 0 hk dX3_readSet_41 rfl (by decide) kc3 (by decide) fl_RX3_12 rfl rfl ?_
    refine k_getr (k := 3) 13 0 hk dX3_readSet_44 rfl (by decide) kc4 (by decide) fl_RX3_146 rfl rfl ?_
    refine k_iload_n hk dX3_readSet_47 3 rfl ?_
    refine k_iload_n hk dX3_readSet_48 0 rfl ?_
    refine k_iast hk dX3_readSet_49 rfl (by decide) (fun h11 σ10 => ?_)
    refine k_iload_n hk dX3_readSet_50 0 rfl ?_
    refine k_iconst (v := (-1)) hk dX3_readSet_51 (by decide) ?_
    refine k_icmp_eq hk dX3_readSet_52 59 (by decide) (fun h12 => ?_) (fun h12 => ?_)
    · refine k_iconst (v := 0) hk dX3_readSet_59 (by decide) ?_
      exact k_sub [] rfl (s_X3_readSet_b60 hj hn hl hk he hro F  0  σ10)
    · refine k_iconst (v := 1) hk dX3_readSet_55 (by decide) ?_
      refine k_goto hk dX3_readSet_56 60 (by decide) ?_
      exact k_sub [] rfl (s_X3_readSet_b60 hj hn hl hk he hro F  1  σ10)
  · refine k_iconst (v := 0) hk dX3_readSet_13 (by decide) ?_
    exact k_zreturn_c hk he dX3_readSet_14 (by decide) rfl
