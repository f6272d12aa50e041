def f_X6_unit (F : Nat) (oS : kS → Option kR)  (σ : kS) : Option kR := if (σ.1 48 0 6) = 0 then (kBv (f_X6_blanks F  σ) fun σ2 => kBi (f_X6_byteAt F (σ2.1 48 0 4) σ2) fun c4 σ3 => kBi (f_X6_isDigit F c4 σ3) fun c6 σ5 => if c6 = 0 then (kBi (f_X6_nameHere F  σ5) fun c9 σ8 => if c9 = (-1) then (kBi (f_X6_byteAt F (σ8.1 48 0 4) σ8) fun c12 σ11 => if c12 = 40 then (kBv (f_X6_opens F 1 σ11) fun σ14 => kBv (oS  σ14) fun σ15 => kBv (f_X6_sign F 41 σ15) fun σ16 => kb (kU σ16 48 0 5 ((σ16.1 48 0 5) - 1)) fun σ17 => some (.inl none, σ17)) else (kBv (f_X6_wrong F 1 (σ11.1 48 0 4) σ11) fun σ18 => some (.inl none, σ18))) else (kBv (f_X6_skipWord F  σ8) fun σ19 => kBv (f_X6_tells F (10000 + c9) σ19) fun σ20 => some (.inl none, σ20))) else (kBi (f_X6_numberHere F 0 9999 σ5) fun c22 σ21 => kBv (f_X6_tells F c22 σ21) fun σ23 => some (.inl none, σ23))) else (some (.inl none, σ))
set_option maxRecDepth 20000 in
theorem c_X6_unit {l : Launch} {E : kE} (hj : kEj E) (hn : kNorm E) (hl : l.stackTraces = false) (F : Nat) (fo lo9 : Nat) (oS : kS → Option kR) (hoS : ∀   (σ : kS), kMet l E yX6_sum cX6_sum 2 none fo lo9 0 id [.ref (kad E 48 0)] σ (oS  σ))   (σ : kS) : kMet l E yX6_unit cX6_unit 2 none (fo + 5) (lo9 + 109) 0 id [.ref (kad E 48 0)] σ (f_X6_unit F oS  σ) := by
  refine k_met hj hn hl (by decide) (Nat.le_of_ble_eq_true rfl) (fun C Q hk he hro => ?_)
  have hk : kOk (C, E, Q) cX6_unit RX6 2 := hk
  show Sm (C, E, Q) 2 0 0 [(0, .ref (kad E 48 0))] [] σ _
  unfold f_X6_unit
  refine k_aload_n hk dX6_unit_0 0 rfl ?_
  refine k_getf (k := 6) hk dX6_unit_1 rfl (by decide) kc6 (by decide) fl_RX6_129 rfl ?_
  refine k_if_eq hk dX6_unit_4 8 (by decide) (fun h1 => ?_) (fun h1 => ?_)
  · refine k_aload_n hk dX6_unit_8 0 rfl ?_
    refine k_callVv (As := []) (rest := []) hk he hro (c_X6_blanks hj hn hl F   σ) dX6_unit_9 cw_RX6_138 rfl (by decide) kc6 rfl ⟨by omega, by omega⟩ (by decide) rfl (Nat.le_of_ble_eq_true rfl) (fun σ2 => ?_)
    refine k_aload_n hk dX6_unit_12 0 rfl ?_
    refine k_aload_n hk dX6_unit_13 0 rfl ?_
    refine k_getf (k := 4) hk dX6_unit_14 rfl (by decide) kc6 (by decide) fl_RX6_122 rfl ?_
    refine k_callVi (As := [.int (σ2.1 48 0 4)]) (rest := []) hk he hro (c_X6_byteAt hj hn hl F (σ2.1 48 0 4)  σ2) dX6_unit_17 cw_RX6_125 rfl (by decide) kc6 rfl ⟨by omega, by omega⟩ (by decide) rfl (Nat.le_of_ble_eq_true rfl) (fun c4 σ3 => ?_)
    refine k_callSi (As := [.int c4]) (rest := []) hk he hro (c_X6_isDigit hj hn hl F c4  σ3) dX6_unit_20 cw_RX6_141 ⟨by omega, by omega⟩ (by decide) rfl (Nat.le_of_ble_eq_true rfl) (fun c6 σ5 => ?_)
    refine k_if_eq hk dX6_unit_23 39 (by decide) (fun h7 => ?_) (fun h7 => ?_)
    · refine k_aload_n hk dX6_unit_39 0 rfl ?_
      refine k_callVi (As := []) (rest := []) hk he hro (c_X6_nameHere hj hn hl F   σ5) dX6_unit_40 cw_RX6_180 rfl (by decide) kc6 rfl ⟨by omega, by omega⟩ (by decide) rfl (Nat.le_of_ble_eq_true rfl) (fun c9 σ8 => ?_)
      refine k_istore_n (lv' := [(1, .int c9), (0, .ref (kad E 48 0))]) hk dX6_unit_43 (by decide) rfl ?_
      refine k_iload_n hk dX6_unit_44 0 rfl ?_
      refine k_iconst (v := (-1)) hk dX6_unit_45 (by decide) ?_
      refine k_icmp_eq hk dX6_unit_46 63 (by decide) (fun h10 => ?_) (fun h10 => ?_)
      · refine k_aload_n hk dX6_unit_63 1 rfl ?_
        refine k_aload_n hk dX6_unit_64 1 rfl ?_
        refine k_getf (k := 4) hk dX6_unit_65 rfl (by decide) kc6 (by decide) fl_RX6_122 rfl ?_
        refine k_callVi (As := [.int (σ8.1 48 0 4)]) (rest := []) hk he hro (c_X6_byteAt hj hn hl F (σ8.1 48 0 4)  σ8) dX6_unit_68 cw_RX6_125 rfl (by decide) kc6 rfl ⟨by omega, by omega⟩ (by decide) rfl (Nat.le_of_ble_eq_true rfl) (fun c12 σ11 => ?_)
        refine k_bipush (v := 40) hk dX6_unit_71 (by decide) ?_
        refine k_icmp_eq hk dX6_unit_73 86 (by decide) (fun h13 => ?_) (fun h13 => ?_)
        · refine k_aload_n hk dX6_unit_86 1 rfl ?_
          refine k_iconst (v := 1) hk dX6_unit_87 (by decide) ?_
          refine k_callVv (As := [.int 1]) (rest := []) hk he hro (c_X6_opens hj hn hl F 1  σ11) dX6_unit_88 cw_RX6_183 rfl (by decide) kc6 rfl ⟨by omega, by omega⟩ (by decide) rfl (Nat.le_of_ble_eq_true rfl) (fun σ14 => ?_)
          refine k_aload_n hk dX6_unit_91 1 rfl ?_
          refine k_callVv (As := []) (rest := []) hk he hro (hoS   σ14) dX6_unit_92 cw_RX6_186 rfl (by decide) kc6 rfl ⟨by omega, by omega⟩ (by decide) rfl (Nat.le_of_ble_eq_true rfl) (fun σ15 => ?_)
          refine k_aload_n hk dX6_unit_95 1 rfl ?_
          refine k_bipush (v := 41) hk dX6_unit_96 (by decide) ?_
          refine k_callVv (As := [.int 41]) (rest := []) hk he hro (c_X6_sign hj hn hl F 41  σ15) dX6_unit_98 cw_RX6_189 rfl (by decide) kc6 rfl ⟨by omega, by omega⟩ (by decide) rfl (Nat.le_of_ble_eq_true rfl) (fun σ16 => ?_)
          refine k_aload_n hk dX6_unit_101 1 rfl ?_
          refine k_dup hk dX6_unit_102 rfl ?_
          refine k_getf (k := 5) hk dX6_unit_103 rfl (by decide) kc6 (by decide) fl_RX6_165 rfl ?_
          refine k_iconst (v := 1) hk dX6_unit_106 (by decide) ?_
          refine k_isub hk dX6_unit_107 ?_
          refine k_putf (k := 5) hk dX6_unit_108 rfl (by decide) kc6 (by decide) fl_RX6_165 rfl rfl rfl rfl (fun σ17 => ?_)
          exact k_return hk he dX6_unit_111 (by decide)
        · refine k_aload_n hk dX6_unit_76 1 rfl ?_
          refine k_iconst (v := 1) hk dX6_unit_77 (by decide) ?_
          refine k_aload_n hk dX6_unit_78 1 rfl ?_
          refine k_getf (k := 4) hk dX6_unit_79 rfl (by decide) kc6 (by decide) fl_RX6_122 rfl ?_
          refine k_callVv (As := [.int 1, .int (σ11.1 48 0 4)]) (rest := []) hk he hro (c_X6_wrong hj hn hl F 1 (σ11.1 48 0 4)  σ11) dX6_unit_82 cw_RX6_145 rfl (by decide) kc6 rfl ⟨by omega, by omega⟩ (by decide) rfl (Nat.le_of_ble_eq_true rfl) (fun σ18 => ?_)
          exact k_return hk he dX6_unit_85 (by decide)
      · refine k_aload_n hk dX6_unit_49 1 rfl ?_
        refine k_callVv (As := []) (rest := []) hk he hro (c_X6_skipWord hj hn hl F   σ8) dX6_unit_50 cw_RX6_162 rfl (by decide) kc6 rfl ⟨by omega, by omega⟩ (by decide) rfl (Nat.le_of_ble_eq_true rfl) (fun σ19 => ?_)
        refine k_aload_n hk dX6_unit_53 1 rfl ?_
        refine k_sipush (v := 10000) hk dX6_unit_54 (by decide) ?_
        refine k_iload_n hk dX6_unit_57 0 rfl ?_
        refine k_iadd hk dX6_unit_58 ?_
        refine k_callVv (As := [.int (10000 + c9)]) (rest := []) hk he hro (c_X6_tells hj hn hl F (10000 + c9)  σ19) dX6_unit_59 cw_RX6_176 rfl (by decide) kc6 rfl ⟨by omega, by omega⟩ (by decide) rfl (Nat.le_of_ble_eq_true rfl) (fun σ20 => ?_)
        exact k_return hk he dX6_unit_62 (by decide)
    · refine k_aload_n hk dX6_unit_26 0 rfl ?_
      refine k_aload_n hk dX6_unit_27 0 rfl ?_
      refine k_iconst (v := 0) hk dX6_unit_28 (by decide) ?_
      refine k_sipush (v := 9999) hk dX6_unit_29 (by decide) ?_
      refine k_callVi (As := [.int 0, .int 9999]) (rest := [.ref (kad E 48 0)]) hk he hro (c_X6_numberHere hj hn hl F 0 9999  σ5) dX6_unit_32 cw_RX6_172 rfl (by decide) kc6 rfl ⟨by omega, by omega⟩ (by decide) rfl (Nat.le_of_ble_eq_true rfl) (fun c22 σ21 => ?_)
      refine k_callVv (As := [.int c22]) (rest := []) hk he hro (c_X6_tells hj hn hl F c22  σ21) dX6_unit_35 cw_RX6_176 rfl (by decide) kc6 rfl ⟨by omega, by omega⟩ (by decide) rfl (Nat.le_of_ble_eq_true rfl) (fun σ23 => ?_)
      exact k_return hk he dX6_unit_38 (by decide)
  · exact k_return hk he dX6_unit_7 (by decide)
def f_X6_product_b56 (F : Nat) (oS : kS → Option kR)  (σ : kS) : Option kR := some (.inl none, σ)
set_option maxRecDepth 20000 in
theorem s_X6_product_b56 {l : Launch} {E : kE} (hj : kEj E) (hn : kNorm E) (hl : l.stackTraces = false) (fo lo9 : Nat) {C : kC} {Q : kR → State → Prop} (hk : kOk (C, E, Q) cX6_product RX6 1) (he : kEnd (C, E, Q) none id 0) (hro : kRo C l (fo + 6) (lo9 + 130) 0) (F : Nat) (oS : kS → Option kR) (hoS : ∀   (σ : kS), kMet l E yX6_sum cX6_sum 2 none fo lo9 0 id [.ref (kad E 48 0)] σ (oS  σ)) : ∀   (σ : kS), Sm (C, E, Q) 1 0 56 [] [] σ (f_X6_product_b56 F oS  σ) := by
  intro   σ
  unfold f_X6_product_b56
  exact k_return hk he dX6_product_56 (by decide)
def f_X6_product_b8 (F : Nat) (oS : kS → Option kR) (rr8 : Unit → kS → Option kR) (a : Unit) (σ : kS) : Option kR := match a with
  | _ => if (σ.1 48 0 6) = 0 then (kBi (f_X6_byteAt F (σ.1 48 0 4) σ) fun c3 σ2 => if c3 = 42 then (kb (kU σ2 48 0 4 ((σ2.1 48 0 4) + 1)) fun σ5 => kBv (f_X6_unit F oS  σ5) fun σ6 => kBv (f_X6_tells F 10022 σ6) fun σ7 => kBv (f_X6_blanks F  σ7) fun σ8 => rr8 () σ8) else (f_X6_product_b56 F oS  σ2)) else (f_X6_product_b56 F oS  σ)
set_option maxRecDepth 20000 in
theorem s_X6_product_b8 {l : Launch} {E : kE} (hj : kEj E) (hn : kNorm E) (hl : l.stackTraces = false) (fo lo9 : Nat) {C : kC} {Q : kR → State → Prop} (hk : kOk (C, E, Q) cX6_product RX6 1) (he : kEnd (C, E, Q) none id 0) (hro : kRo C l (fo + 6) (lo9 + 130) 0) (F : Nat) (oS : kS → Option kR) (hoS : ∀   (σ : kS), kMet l E yX6_sum cX6_sum 2 none fo lo9 0 id [.ref (kad E 48 0)] σ (oS  σ)) : ∀ (N9 : Nat)   (σ : kS), Sm (C, E, Q) 1 0 8 [(0, .ref (kad E 48 0))] [] σ (kFix (f_X6_product_b8 F oS) N9 () σ) := by
  intro N9
  induction N9 with
  | zero => intro   σ; exact k_no
  | succ N9 ih =>
    intro   σ
    show Sm _ _ _ _ _ _ _ (f_X6_product_b8 F oS (kFix (f_X6_product_b8 F oS) N9) () σ)
    generalize kFix (f_X6_product_b8 F oS) N9 = rr8 at ih
    have hrr8 := ih
    unfold f_X6_product_b8
    dsimp only
    refine k_aload_n hk dX6_product_8 0 rfl ?_
    refine k_getf (k := 6) hk dX6_product_9 rfl (by decide) kc6 (by decide) fl_RX6_129 rfl ?_
    refine k_if_ne hk dX6_product_12 56 (by decide) (fun h1 => ?_) (fun h1 => ?_)
    · exact k_sub [] rfl (s_X6_product_b56 hj hn hl fo lo9 hk he hro F oS hoS    σ)
    · refine k_aload_n hk dX6_product_15 0 rfl ?_
      refine k_aload_n hk dX6_product_16 0 rfl ?_
      refine k_getf (k := 4) hk dX6_product_17 rfl (by decide) kc6 (by decide) fl_RX6_122 rfl ?_
      refine k_callVi (As := [.int (σ.1 48 0 4)]) (rest := []) hk he hro (c_X6_byteAt hj hn hl F (σ.1 48 0 4)  σ) dX6_product_20 cw_RX6_125 rfl (by decide) kc6 rfl ⟨by omega, by omega⟩ (by decide) rfl (Nat.le_of_ble_eq_true rfl) (fun c3 σ2 => ?_)
      refine k_bipush (v := 42) hk dX6_product_23 (by decide) ?_
      refine k_icmp_ne hk dX6_product_25 56 (by decide) (fun h4 => ?_) (fun h4 => ?_)
      · exact k_sub [] rfl (s_X6_product_b56 hj hn hl fo lo9 hk he hro F oS hoS    σ2)
      · refine k_aload_n hk dX6_product_28 0 rfl ?_
        refine k_dup hk dX6_product_29 rfl ?_
        refine k_getf (k := 4) hk dX6_product_30 rfl (by decide) kc6 (by decide) fl_RX6_122 rfl ?_
        refine k_iconst (v := 1) hk dX6_product_33 (by decide) ?_
        refine k_iadd hk dX6_product_34 ?_
        refine k_putf (k := 4) hk dX6_product_35 rfl (by decide) kc6 (by decide) fl_RX6_122 rfl rfl rfl rfl (fun σ5 => ?_)
        refine k_aload_n hk dX6_product_38 0 rfl ?_
        refine k_callVv (As := []) (rest := []) hk he hro (c_X6_unit hj hn hl F fo lo9 oS hoS   σ5) dX6_product_39 cw_RX6_192 rfl (by decide) kc6 rfl ⟨by omega, by omega⟩ (by decide) rfl (Nat.le_of_ble_eq_true rfl) (fun σ6 => ?_)
        refine k_aload_n hk dX6_product_42 0 rfl ?_
        refine k_sipush (v := 10022) hk dX6_product_43 (by decide) ?_
        refine k_callVv (As := [.int 10022]) (rest := []) hk he hro (c_X6_tells hj hn hl F 10022  σ6) dX6_product_46 cw_RX6_176 rfl (by decide) kc6 rfl ⟨by omega, by omega⟩ (by decide) rfl (Nat.le_of_ble_eq_true rfl) (fun σ7 => ?_)
        refine k_aload_n hk dX6_product_49 0 rfl ?_
        refine k_callVv (As := []) (rest := []) hk he hro (c_X6_blanks hj hn hl F   σ7) dX6_product_50 cw_RX6_138 rfl (by decide) kc6 rfl ⟨by omega, by omega⟩ (by decide) rfl (Nat.le_of_ble_eq_true rfl) (fun σ8 => ?_)
        refine k_goto hk dX6_product_53 8 (by decide) ?_
        exact k_sub [0] rfl (hrr8   σ8)
def f_X6_product (F : Nat) (oS : kS → Option kR)  (σ : kS) : Option kR := kBv (f_X6_unit F oS  σ) fun σ9 => kBv (f_X6_blanks F  σ9) fun σ10 => kFix (f_X6_product_b8 F oS) F () σ10
set_option maxRecDepth 20000 in
theorem c_X6_product {l : Launch} {E : kE} (hj : kEj E) (hn : kNorm E) (hl : l.stackTraces = false) (F : Nat) (fo lo9 : Nat) (oS : kS → Option kR) (hoS : ∀   (σ : kS), kMet l E yX6_sum cX6_sum 2 none fo lo9 0 id [.ref (kad E 48 0)] σ (oS  σ))   (σ : kS) : kMet l E yX6_product cX6_product 1 none (fo + 6) (lo9 + 130) 0 id [.ref (kad E 48 0)] σ (f_X6_product F oS  σ) := by
  refine k_met hj hn hl (by decide) (Nat.le_of_ble_eq_true rfl) (fun C Q hk he hro => ?_)
  have hk : kOk (C, E, Q) cX6_product RX6 1 := hk
  show Sm (C, E, Q) 1 0 0 [(0, .ref (kad E 48 0))] [] σ _
  unfold f_X6_product
  refine k_aload_n hk dX6_product_0 0 rfl ?_
  refine k_callVv (As := []) (rest := []) hk he hro (c_X6_unit hj hn hl F fo lo9 oS hoS   σ) dX6_product_1 cw_RX6_192 rfl (by decide) kc6 rfl ⟨by omega, by omega⟩ (by decide) rfl (Nat.le_of_ble_eq_true rfl) (fun σ9 => ?_)
  refine k_aload_n hk dX6_product_4 0 rfl ?_
  refine k_callVv (As := []) (rest := []) hk he hro (c_X6_blanks hj hn hl F   σ9) dX6_product_5 cw_RX6_138 rfl (by decide) kc6 rfl ⟨by omega, by omega⟩ (by decide) rfl (Nat.le_of_ble_eq_true rfl) (fun σ10 => ?_)
  exact k_sub [0] rfl (s_X6_product_b8 hj hn hl fo lo9 hk he hro F oS hoS F   σ10)
def f_X6_sum_b90 (F : Nat) (oS : kS → Option kR)  (σ : kS) : Option kR := some (.inl none, σ)
set_option maxRecDepth 20000 in
theorem s_X6_sum_b90 {l : Launch} {E : kE} (hj : kEj E) (hn : kNorm E) (hl : l.stackTraces = false) (fo lo9 : Nat) {C : kC} {Q : kR → State → Prop} (hk : kOk (C, E, Q) cX6_sum RX6 2) (he : kEnd (C, E, Q) none id 0) (hro : kRo C l (fo + 7) (lo9 + 150) 0) (F : Nat) (oS : kS → Option kR) (hoS : ∀   (σ : kS), kMet l E yX6_sum cX6_sum 2 none fo lo9 0 id [.ref (kad E 48 0)] σ (oS  σ)) : ∀   (σ : kS), Sm (C, E, Q) 2 0 90 [] [] σ (f_X6_sum_b90 F oS  σ) := by
  intro   σ
  unfold f_X6_sum_b90
  exact k_return hk he dX6_sum_90 (by decide)
def f_X6_sum_b80 (F : Nat) (oS : kS → Option kR) (rr8 : Unit → kS → Option kR) (t1 : Int32) (σ : kS) : Option kR := kBv (f_X6_tells F t1 σ) fun σ1 => kBv (f_X6_blanks F  σ1) fun σ2 => rr8 () σ2
set_option maxRecDepth 20000 in
theorem s_X6_sum_b80 {l : Launch} {E : kE} (hj : kEj E) (hn : kNorm E) (hl : l.stackTraces = false) (fo lo9 : Nat) {C : kC} {Q : kR → State → Prop} (hk : kOk (C, E, Q) cX6_sum RX6 2) (he : kEnd (C, E, Q) none id 0) (hro : kRo C l (fo + 7) (lo9 + 150) 0) (F : Nat) (oS : kS → Option kR) (hoS : ∀   (σ : kS), kMet l E yX6_sum cX6_sum 2 none fo lo9 0 id [.ref (kad E 48 0)] σ (oS  σ)) (rr8 : Unit → kS → Option kR) (hrr8 : ∀   (σ : kS), Sm (C, E, Q) 2 0 8 [(0, .ref (kad E 48 0))] [] σ (rr8 () σ)) : ∀ (t1 : Int32)  (σ : kS), Sm (C, E, Q) 2 0 80 [(0, .ref (kad E 48 0))] [.int t1, .ref (kad E 48 0)] σ (f_X6_sum_b80 F oS rr8 t1 σ) := by
  intro t1  σ
  unfold f_X6_sum_b80
  refine k_callVv (As := [.int t1]) (rest := []) hk he hro (c_X6_tells hj hn hl F t1  σ) dX6_sum_80 cw_RX6_176 rfl (by decide) kc6 rfl ⟨by omega, by omega⟩ (by decide) rfl (Nat.le_of_ble_eq_true rfl) (fun σ1 => ?_)
  refine k_aload_n hk dX6_sum_83 0 rfl ?_
  refine k_callVv (As := []) (rest := []) hk he hro (c_X6_blanks hj hn hl F   σ1) dX6_sum_84 cw_RX6_138 rfl (by decide) kc6 rfl ⟨by omega, by omega⟩ (by decide) rfl (Nat.le_of_ble_eq_true rfl) (fun σ2 => ?_)
  refine k_goto hk dX6_sum_87 8 (by decide) ?_
  exact k_sub [0] rfl (hrr8   σ2)
def f_X6_sum_b41 (F : Nat) (oS : kS → Option kR) (rr8 : Unit → kS → Option kR)  (σ : kS) : Option kR := kBi (f_X6_byteAt F (σ.1 48 0 4) σ) fun c4 σ3 => kb (kU σ3 48 0 4 ((σ3.1 48 0 4) + 1)) fun σ5 => kBv (f_X6_product F oS  σ5) fun σ6 => if c4 = 43 then (f_X6_sum_b80 F oS rr8 10020 σ6) else (f_X6_sum_b80 F oS rr8 10021 σ6)
set_option maxRecDepth 20000 in
theorem s_X6_sum_b41 {l : Launch} {E : kE} (hj : kEj E) (hn : kNorm E) (hl : l.stackTraces = false) (fo lo9 : Nat) {C : kC} {Q : kR → State → Prop} (hk : kOk (C, E, Q) cX6_sum RX6 2) (he : kEnd (C, E, Q) none id 0) (hro : kRo C l (fo + 7) (lo9 + 150) 0) (F : Nat) (oS : kS → Option kR) (hoS : ∀   (σ : kS), kMet l E yX6_sum cX6_sum 2 none fo lo9 0 id [.ref (kad E 48 0)] σ (oS  σ)) (rr8 : Unit → kS → Option kR) (hrr8 : ∀   (σ : kS), Sm (C, E, Q) 2 0 8 [(0, .ref (kad E 48 0))] [] σ (rr8 () σ)) : ∀   (σ : kS), Sm (C, E, Q) 2 0 41 [(0, .ref (kad E 48 0))] [] σ (f_X6_sum_b41 F oS rr8  σ) := by
  intro   σ
  unfold f_X6_sum_b41
  refine k_aload_n hk dX6_sum_41 0 rfl ?_
  refine k_aload_n hk dX6_sum_42 0 rfl ?_
  refine k_getf (k := 4) hk dX6_sum_43 rfl (by decide) kc6 (by decide) fl_RX6_122 rfl ?_
  refine k_callVi (As := [.int (σ.1 48 0 4)]) (rest := []) hk he hro (c_X6_byteAt hj hn hl F (σ.1 48 0 4)  σ) dX6_sum_46 cw_RX6_125 rfl (by decide) kc6 rfl ⟨by omega, by omega⟩ (by decide) rfl (Nat.le_of_ble_eq_true rfl) (fun c4 σ3 => ?_)
  refine k_istore_n (lv' := [(1, .int c4), (0, .ref (kad E 48 0))]) hk dX6_sum_49 (by decide) rfl ?_
  refine k_aload_n hk dX6_sum_50 1 rfl ?_
  refine k_dup hk dX6_sum_51 rfl ?_
  refine k_getf (k := 4) hk dX6_sum_52 rfl (by decide) kc6 (by decide) fl_RX6_122 rfl ?_
  refine k_iconst (v := 1) hk dX6_sum_55 (by decide) ?_
  refine k_iadd hk dX6_sum_56 ?_
  refine k_putf (k := 4) hk dX6_sum_57 rfl (by decide) kc6 (by decide) fl_RX6_122 rfl rfl rfl rfl (fun σ5 => ?_)
  refine k_aload_n hk dX6_sum_60 1 rfl ?_
  refine k_callVv (As := []) (rest := []) hk he hro (c_X6_product hj hn hl F fo lo9 oS hoS   σ5) dX6_sum_61 cw_RX6_195 rfl (by decide) kc6 rfl ⟨by omega, by omega⟩ (by decide) rfl (Nat.le_of_ble_eq_true rfl) (fun σ6 => ?_)
  refine k_aload_n hk dX6_sum_64 1 rfl ?_
  refine k_iload_n hk dX6_sum_65 0 rfl ?_
  refine k_bipush (v := 43) hk dX6_sum_66 (by decide) ?_
  refine k_icmp_ne hk dX6_sum_68 77 (by decide) (fun h7 => ?_) (fun h7 => ?_)
  · refine k_sipush (v := 10021) hk dX6_sum_77 (by decide) ?_
    exact k_sub [1] rfl (s_X6_sum_b80 hj hn hl fo lo9 hk he hro F oS hoS rr8 hrr8  10021  σ6)
  · refine k_sipush (v := 10020) hk dX6_sum_71 (by decide) ?_
    refine k_goto hk dX6_sum_74 80 (by decide) ?_
    exact k_sub [1] rfl (s_X6_sum_b80 hj hn hl fo lo9 hk he hro F oS hoS rr8 hrr8  10020  σ6)
def f_X6_sum_b8 (F : Nat) (oS : kS → Option kR) (rr8 : Unit → kS → Option kR) (a : Unit) (σ : kS) : Option kR := match a with
  | _ => if (σ.1 48 0 6) = 0 then (kBi (f_X6_byteAt F (σ.1 48 0 4) σ) fun c10 σ9 => if c10 = 43 then (f_X6_sum_b41 F oS rr8  σ9) else (kBi (f_X6_byteAt F (σ9.1 48 0 4) σ9) fun c13 σ12 => if c13 = 45 then (f_X6_sum_b41 F oS rr8  σ12) else (f_X6_sum_b90 F oS  σ12))) else (f_X6_sum_b90 F oS  σ)
set_option maxRecDepth 20000 in
theorem s_X6_sum_b8 {l : Launch} {E : kE} (hj : kEj E) (hn : kNorm E) (hl : l.stackTraces = false) (fo lo9 : Nat) {C : kC} {Q : kR → State → Prop} (hk : kOk (C, E, Q) cX6_sum RX6 2) (he : kEnd (C, E, Q) none id 0) (hro : kRo C l (fo + 7) (lo9 + 150) 0) (F : Nat) (oS : kS → Option kR) (hoS : ∀   (σ : kS), kMet l E yX6_sum cX6_sum 2 none fo lo9 0 id [.ref (kad E 48 0)] σ (oS  σ)) : ∀ (N9 : Nat)   (σ : kS), Sm (C, E, Q) 2 0 8 [(0, .ref (kad E 48 0))] [] σ (kFix (f_X6_sum_b8 F oS) N9 () σ) := by
  intro N9
  induction N9 with
  | zero => intro   σ; exact k_no
  | succ N9 ih =>
    intro   σ
    show Sm _ _ _ _ _ _ _ (f_X6_sum_b8 F oS (kFix (f_X6_sum_b8 F oS) N9) () σ)
    generalize kFix (f_X6_sum_b8 F oS) N9 = rr8 at ih
    have hrr8 := ih
    unfold f_X6_sum_b8
    dsimp only
    refine k_aload_n hk dX6_sum_8 0 rfl ?_
    refine k_getf (k := 6) hk dX6_sum_9 rfl (by decide) kc6 (by decide) fl_RX6_129 rfl ?_
    refine k_if_ne hk dX6_sum_12 90 (by decide) (fun h8 => ?_) (fun h8 => ?_)
    · exact k_sub [] rfl (s_X6_sum_b90 hj hn hl fo lo9 hk he hro F oS hoS    σ)
    · refine k_aload_n hk dX6_sum_15 0 rfl ?_
      refine k_aload_n hk dX6_sum_16 0 rfl ?_
      refine k_getf (k := 4) hk dX6_sum_17 rfl (by decide) kc6 (by decide) fl_RX6_122 rfl ?_
      refine k_callVi (As := [.int (σ.1 48 0 4)]) (rest := []) hk he hro (c_X6_byteAt hj hn hl F (σ.1 48 0 4)  σ) dX6_sum_20 cw_RX6_125 rfl (by decide) kc6 rfl ⟨by omega, by omega⟩ (by decide) rfl (Nat.le_of_ble_eq_true rfl) (fun c10 σ9 => ?_)
      refine k_bipush (v := 43) hk dX6_sum_23 (by decide) ?_
      refine k_icmp_eq hk dX6_sum_25 41 (by decide) (fun h11 => ?_) (fun h11 => ?_)
      · exact k_sub [0] rfl (s_X6_sum_b41 hj hn hl fo lo9 hk he hro F oS hoS rr8 hrr8    σ9)
      · refine k_aload_n hk dX6_sum_28 0 rfl ?_
        refine k_aload_n hk dX6_sum_29 0 rfl ?_
        refine k_getf (k := 4) hk dX6_sum_30 rfl (by decide) kc6 (by decide) fl_RX6_122 rfl ?_
        refine k_callVi (As := [.int (σ9.1 48 0 4)]) (rest := []) hk he hro (c_X6_byteAt hj hn hl F (σ9.1 48 0 4)  σ9) dX6_sum_33 cw_RX6_125 rfl (by decide) kc6 rfl ⟨by omega, by omega⟩ (by decide) rfl (Nat.le_of_ble_eq_true rfl) (fun c13 σ12 => ?_)
        refine k_bipush (v := 45) hk dX6_sum_36 (by decide) ?_
        refine k_icmp_ne hk dX6_sum_38 90 (by decide) (fun h14 => ?_) (fun h14 => ?_)
        · exact k_sub [] rfl (s_X6_sum_b90 hj hn hl fo lo9 hk he hro F oS hoS    σ12)
        · exact k_sub [0] rfl (s_X6_sum_b41 hj hn hl fo lo9 hk he hro F oS hoS rr8 hrr8    σ12)
def f_X6_sum (F : Nat) (oS : kS → Option kR)  (σ : kS) : Option kR := kBv (f_X6_product F oS  σ) fun σ15 => kBv (f_X6_blanks F  σ15) fun σ16 => kFix (f_X6_sum_b8 F oS) F () σ16
set_option maxRecDepth 20000 in
theorem c_X6_sum {l : Launch} {E : kE} (hj : kEj E) (hn : kNorm E) (hl : l.stackTraces = false) (F : Nat) (fo lo9 : Nat) (oS : kS → Option kR) (hoS : ∀   (σ : kS), kMet l E yX6_sum cX6_sum 2 none fo lo9 0 id [.ref (kad E 48 0)] σ (oS  σ))   (σ : kS) : kMet l E yX6_sum cX6_sum 2 none (fo + 7) (lo9 + 150) 0 id [.ref (kad E 48 0)] σ (f_X6_sum F oS  σ) := by
  refine k_met hj hn hl (by decide) (Nat.le_of_ble_eq_true rfl) (fun C Q hk he hro => ?_)
  have hk : kOk (C, E, Q) cX6_sum RX6 2 := hk
  show Sm (C, E, Q) 2 0 0 [(0, .ref (kad E 48 0))] [] σ _
  unfold f_X6_sum
  refine k_aload_n hk dX6_sum_0 0 rfl ?_
  refine k_callVv (As := []) (rest := []) hk he hro (c_X6_product hj hn hl F fo lo9 oS hoS   σ) dX6_sum_1 cw_RX6_195 rfl (by decide) kc6 rfl ⟨by omega, by omega⟩ (by decide) rfl (Nat.le_of_ble_eq_true rfl) (fun σ15 => ?_)
  refine k_aload_n hk dX6_sum_4 0 rfl ?_
  refine k_callVv (As := []) (rest := []) hk he hro (c_X6_blanks hj hn hl F   σ15) dX6_sum_5 cw_RX6_138 rfl (by decide) kc6 rfl ⟨by omega, by omega⟩ (by decide) rfl (Nat.le_of_ble_eq_true rfl) (fun σ16 => ?_)
  exact k_sub [0] rfl (s_X6_sum_b8 hj hn hl fo lo9 hk he hro F oS hoS F   σ16)
def g_X6_sum (F : Nat) : Nat → kS → Option kR
  | 0 => fun _ => none
  | D + 1 => f_X6_sum F (g_X6_sum F D)
theorem e_X6_sum {l : Launch} {E : kE} (hj : kEj E) (hn : kNorm E) (hl : l.stackTraces = false) (F : Nat) : ∀ (D : Nat) (σ : kS), kMet l E yX6_sum cX6_sum 2 none (7 * D) (150 * D) 0 id [.ref (kad E 48 0)] σ (g_X6_sum F D σ)
  | 0, σ => fun u h => by cases h
  | D + 1, σ => c_X6_sum hj hn hl F (7 * D) (150 * D) (g_X6_sum F D) (e_X6_sum hj hn hl F D) σ
def f_X6_sumD (F : Nat) (σ : kS) : Option kR := g_X6_sum F 9 σ
theorem c_X6_sumD {l : Launch} {E : kE} (hj : kEj E) (hn : kNorm E) (hl : l.stackTraces = false) (F : Nat) (σ : kS) : kMet l E yX6_sum cX6_sum 2 none 63 1350 0 id [.ref (kad E 48 0)] σ (f_X6_sumD F σ) := e_X6_sum hj hn hl F 9 σ
def f_X6_test_b184 (F : Nat) (oT : kS → Option kR) (oO : kS → Option kR) (t1 : Int32) (σ : kS) : Option kR := kBv (f_X6_tells F t1 σ) fun σ1 => some (.inl none, σ1)
set_option maxRecDepth 20000 in
theorem s_X6_test_b184 {l : Launch} {E : kE} (hj : kEj E) (hn : kNorm E) (hl : l.stackTraces = false) (fo lo9 : Nat) {C : kC} {Q : kR → State → Prop} (hk : kOk (C, E, Q) cX6_test RX6 2) (he : kEnd (C, E, Q) none id 0) (hro : kRo C l (fo + 64) (lo9 + 1371) 0) (F : Nat) (oT : kS → Option kR) (hoT : ∀   (σ : kS), kMet l E yX6_test cX6_test 2 none fo lo9 0 id [.ref (kad E 48 0)] σ (oT  σ)) (oO : kS → Option kR) (hoO : ∀   (σ : kS), kMet l E yX6_ors cX6_ors 1 none fo lo9 0 id [.ref (kad E 48 0)] σ (oO  σ)) : ∀ (t1 : Int32)  (σ : kS), Sm (C, E, Q) 2 0 184 [] [.int t1, .ref (kad E 48 0)] σ (f_X6_test_b184 F oT oO t1 σ) := by
  intro t1  σ
  unfold f_X6_test_b184
  refine k_callVv (As := [.int t1]) (rest := []) hk he hro (c_X6_tells hj hn hl F t1  σ) dX6_test_184 cw_RX6_176 rfl (by decide) kc6 rfl ⟨by omega, by omega⟩ (by decide) rfl (Nat.le_of_ble_eq_true rfl) (fun σ1 => ?_)
  exact k_return hk he dX6_test_187 (by decide)
def f_X6_test_b142 (F : Nat) (oT : kS → Option kR) (oO : kS → Option kR) (x1 : Int32) (σ : kS) : Option kR := kb (kU σ 48 0 4 ((σ.1 48 0 4) + 1)) fun σ2 => kBv (f_X6_sumD F  σ2) fun σ3 => if x1 = 60 then (f_X6_test_b184 F oT oO 10030 σ3) else (if x1 = 62 then (f_X6_test_b184 F oT oO 10031 σ3) else (f_X6_test_b184 F oT oO 10032 σ3))
set_option maxRecDepth 20000 in
theorem s_X6_test_b142 {l : Launch} {E : kE} (hj : kEj E) (hn : kNorm E) (hl : l.stackTraces = false) (fo lo9 : Nat) {C : kC} {Q : kR → State → Prop} (hk : kOk (C, E, Q) cX6_test RX6 2) (he : kEnd (C, E, Q) none id 0) (hro : kRo C l (fo + 64) (lo9 + 1371) 0) (F : Nat) (oT : kS → Option kR) (hoT : ∀   (σ : kS), kMet l E yX6_test cX6_test 2 none fo lo9 0 id [.ref (kad E 48 0)] σ (oT  σ)) (oO : kS → Option kR) (hoO : ∀   (σ : kS), kMet l E yX6_ors cX6_ors 1 none fo lo9 0 id [.ref (kad E 48 0)] σ (oO  σ)) : ∀ (x1 : Int32)  (σ : kS), Sm (C, E, Q) 2 0 142 [(0, .ref (kad E 48 0)), (1, .int x1)] [] σ (f_X6_test_b142 F oT oO x1 σ) := by
  intro x1  σ
  unfold f_X6_test_b142
  refine k_aload_n hk dX6_test_142 0 rfl ?_
  refine k_dup hk dX6_test_143 rfl ?_
  refine k_getf (k := 4) hk dX6_test_144 rfl (by decide) kc6 (by decide) fl_RX6_122 rfl ?_
  refine k_iconst (v := 1) hk dX6_test_147 (by decide) ?_
  refine k_iadd hk dX6_test_148 ?_
  refine k_putf (k := 4) hk dX6_test_149 rfl (by decide) kc6 (by decide) fl_RX6_122 rfl rfl rfl rfl (fun σ2 => ?_)
  refine k_aload_n hk dX6_test_152 0 rfl ?_
  refine k_callVv (As := []) (rest := []) hk he hro (c_X6_sumD hj hn hl F   σ2) dX6_test_153 cw_RX6_186 rfl (by decide) kc6 rfl ⟨by omega, by omega⟩ (by decide) rfl (Nat.le_of_ble_eq_true rfl) (fun σ3 => ?_)
  refine k_aload_n hk dX6_test_156 0 rfl ?_
  refine k_iload_n hk dX6_test_157 1 rfl ?_
  refine k_bipush (v := 60) hk dX6_test_158 (by decide) ?_
  refine k_icmp_ne hk dX6_test_160 169 (by decide) (fun h4 => ?_) (fun h4 => ?_)
  · refine k_iload_n hk dX6_test_169 1 rfl ?_
    refine k_bipush (v := 62) hk dX6_test_170 (by decide) ?_
    refine k_icmp_ne hk dX6_test_172 181 (by decide) (fun h5 => ?_) (fun h5 => ?_)
    · refine k_sipush (v := 10032) hk dX6_test_181 (by decide) ?_
      exact k_sub [] rfl (s_X6_test_b184 hj hn hl fo lo9 hk he hro F oT hoT oO hoO  10032  σ3)
    · refine k_sipush (v := 10031) hk dX6_test_175 (by decide) ?_
      refine k_goto hk dX6_test_178 184 (by decide) ?_
      exact k_sub [] rfl (s_X6_test_b184 hj hn hl fo lo9 hk he hro F oT hoT oO hoO  10031  σ3)
  · refine k_sipush (v := 10030) hk dX6_test_163 (by decide) ?_
    refine k_goto hk dX6_test_166 184 (by decide) ?_
    exact k_sub [] rfl (s_X6_test_b184 hj hn hl fo lo9 hk he hro F oT hoT oO hoO  10030  σ3)
def f_X6_test (F : Nat) (oT : kS → Option kR) (oO : kS → Option kR)  (σ : kS) : Option kR := if (σ.1 48 0 6) = 0 then (kBi (f_X6_isWord F 14 15 20 0 0 0 σ) fun c8 σ7 => if c8 = 0 then (kBi (f_X6_byteAt F (σ7.1 48 0 4) σ7) fun c11 σ10 => if c11 = 91 then (kBv (f_X6_opens F 1 σ10) fun σ22 => kBv (oO  σ22) fun σ23 => kBv (f_X6_sign F 93 σ23) fun σ24 => kb (kU σ24 48 0 5 ((σ24.1 48 0 5) - 1)) fun σ25 => some (.inl none, σ25)) else (kBv (f_X6_sumD F  σ10) fun σ13 => if (σ13.1 48 0 6) = 0 then (kBv (f_X6_blanks F  σ13) fun σ15 => kBi (f_X6_byteAt F (σ15.1 48 0 4) σ15) fun c17 σ16 => if c17 = 60 then (f_X6_test_b142 F oT oO c17 σ16) else (if c17 = 62 then (f_X6_test_b142 F oT oO c17 σ16) else (if c17 = 61 then (f_X6_test_b142 F oT oO c17 σ16) else (kBv (f_X6_wrong F 1 (σ16.1 48 0 4) σ16) fun σ21 => f_X6_test_b142 F oT oO c17 σ21)))) else (some (.inl none, σ13)))) else (kBv (f_X6_opens F 3 σ7) fun σ26 => kBv (oT  σ26) fun σ27 => kb (kU σ27 48 0 5 ((σ27.1 48 0 5) - 1)) fun σ28 => kBv (f_X6_tells F 10033 σ28) fun σ29 => some (.inl none, σ29))) else (some (.inl none, σ))
set_option maxRecDepth 20000 in
theorem c_X6_test {l : Launch} {E : kE} (hj : kEj E) (hn : kNorm E) (hl : l.stackTraces = false) (F : Nat) (fo lo9 : Nat) (oT : kS → Option kR) (hoT : ∀   (σ : kS), kMet l E yX6_test cX6_test 2 none fo lo9 0 id [.ref (kad E 48 0)] σ (oT  σ)) (oO : kS → Option kR) (hoO : ∀   (σ : kS), kMet l E yX6_ors cX6_ors 1 none fo lo9 0 id [.ref (kad E 48 0)] σ (oO  σ))   (σ : kS) : kMet l E yX6_test cX6_test 2 none (fo + 64) (lo9 + 1371) 0 id [.ref (kad E 48 0)] σ (f_X6_test F oT oO  σ) := by
  refine k_met hj hn hl (by decide) (Nat.le_of_ble_eq_true rfl) (fun C Q hk he hro => ?_)
  have hk : kOk (C, E, Q) cX6_test RX6 2 := hk
  show Sm (C, E, Q) 2 0 0 [(0, .ref (kad E 48 0))] [] σ _
  unfold f_X6_test
  refine k_aload_n hk dX6_test_0 0 rfl ?_
  refine k_getf (k := 6) hk dX6_test_1 rfl (by decide) kc6 (by decide) fl_RX6_129 rfl ?_
  refine k_if_eq hk dX6_test_4 8 (by decide) (fun h6 => ?_) (fun h6 => ?_)
  · refine k_aload_n hk dX6_test_8 0 rfl ?_
    refine k_bipush (v := 14) hk dX6_test_9 (by decide) ?_
    refine k_bipush (v := 15) hk dX6_test_11 (by decide) ?_
    refine k_bipush (v := 20) hk dX6_test_13 (by decide) ?_
    refine k_iconst (v := 0) hk dX6_test_15 (by decide) ?_
    refine k_iconst (v := 0) hk dX6_test_16 (by decide) ?_
    refine k_iconst (v := 0) hk dX6_test_17 (by decide) ?_
    refine k_callVi (As := [.int 14, .int 15, .int 20, .int 0, .int 0, .int 0]) (rest := []) hk he hro (c_X6_isWord hj hn hl F 14 15 20 0 0 0  σ) dX6_test_18 cw_RX6_168 rfl (by decide) kc6 rfl ⟨by omega, by omega⟩ (by decide) rfl (Nat.le_of_ble_eq_true rfl) (fun c8 σ7 => ?_)
    refine k_if_eq hk dX6_test_21 51 (by decide) (fun h9 => ?_) (fun h9 => ?_)
    · refine k_aload_n hk dX6_test_51 0 rfl ?_
      refine k_aload_n hk dX6_test_52 0 rfl ?_
      refine k_getf (k := 4) hk dX6_test_53 rfl (by decide) kc6 (by decide) fl_RX6_122 rfl ?_
      refine k_callVi (As := [.int (σ7.1 48 0 4)]) (rest := []) hk he hro (c_X6_byteAt hj hn hl F (σ7.1 48 0 4)  σ7) dX6_test_56 cw_RX6_125 rfl (by decide) kc6 rfl ⟨by omega, by omega⟩ (by decide) rfl (Nat.le_of_ble_eq_true rfl) (fun c11 σ10 => ?_)
      refine k_bipush (v := 91) hk dX6_test_59 (by decide) ?_
      refine k_icmp_ne hk dX6_test_61 90 (by decide) (fun h12 => ?_) (fun h12 => ?_)
      · refine k_aload_n hk dX6_test_90 0 rfl ?_
        refine k_callVv (As := []) (rest := []) hk he hro (c_X6_sumD hj hn hl F   σ10) dX6_test_91 cw_RX6_186 rfl (by decide) kc6 rfl ⟨by omega, by omega⟩ (by decide) rfl (Nat.le_of_ble_eq_true rfl) (fun σ13 => ?_)
        refine k_aload_n hk dX6_test_94 0 rfl ?_
        refine k_getf (k := 6) hk dX6_test_95 rfl (by decide) kc6 (by decide) fl_RX6_129 rfl ?_
        refine k_if_eq hk dX6_test_98 102 (by decide) (fun h14 => ?_) (fun h14 => ?_)
        · refine k_aload_n hk dX6_test_102 0 rfl ?_
          refine k_callVv (As := []) (rest := []) hk he hro (c_X6_blanks hj hn hl F   σ13) dX6_test_103 cw_RX6_138 rfl (by decide) kc6 rfl ⟨by omega, by omega⟩ (by decide) rfl (Nat.le_of_ble_eq_true rfl) (fun σ15 => ?_)
          refine k_aload_n hk dX6_test_106 0 rfl ?_
          refine k_aload_n hk dX6_test_107 0 rfl ?_
          refine k_getf (k := 4) hk dX6_test_108 rfl (by decide) kc6 (by decide) fl_RX6_122 rfl ?_
          refine k_callVi (As := [.int (σ15.1 48 0 4)]) (rest := []) hk he hro (c_X6_byteAt hj hn hl F (σ15.1 48 0 4)  σ15) dX6_test_111 cw_RX6_125 rfl (by decide) kc6 rfl ⟨by omega, by omega⟩ (by decide) rfl (Nat.le_of_ble_eq_true rfl) (fun c17 σ16 => ?_)
          refine k_istore_n (lv' := [(1, .int c17), (0, .ref (kad E 48 0))]) hk dX6_test_114 (by decide) rfl ?_
          refine k_iload_n hk dX6_test_115 0 rfl ?_
          refine k_bipush (v := 60) hk dX6_test_116 (by decide) ?_
          refine k_icmp_eq hk dX6_test_118 142 (by decide) (fun h18 => ?_) (fun h18 => ?_)
          · exact k_sub [1, 0] rfl (s_X6_test_b142 hj hn hl fo lo9 hk he hro F oT hoT oO hoO  c17  σ16)
          · refine k_iload_n hk dX6_test_121 0 rfl ?_
            refine k_bipush (v := 62) hk dX6_test_122 (by decide) ?_
            refine k_icmp_eq hk dX6_test_124 142 (by decide) (fun h19 => ?_) (fun h19 => ?_)
            · exact k_sub [1, 0] rfl (s_X6_test_b142 hj hn hl fo lo9 hk he hro F oT hoT oO hoO  c17  σ16)
            · refine k_iload_n hk dX6_test_127 0 rfl ?_
              refine k_bipush (v := 61) hk dX6_test_128 (by decide) ?_
              refine k_icmp_eq hk dX6_test_130 142 (by decide) (fun h20 => ?_) (fun h20 => ?_)
              · exact k_sub [1, 0] rfl (s_X6_test_b142 hj hn hl fo lo9 hk he hro F oT hoT oO hoO  c17  σ16)
              · refine k_aload_n hk dX6_test_133 1 rfl ?_
                refine k_iconst (v := 1) hk dX6_test_134 (by decide) ?_
                refine k_aload_n hk dX6_test_135 1 rfl ?_
                refine k_getf (k := 4) hk dX6_test_136 rfl (by decide) kc6 (by decide) fl_RX6_122 rfl ?_
                refine k_callVv (As := [.int 1, .int (σ16.1 48 0 4)]) (rest := []) hk he hro (c_X6_wrong hj hn hl F 1 (σ16.1 48 0 4)  σ16) dX6_test_139 cw_RX6_145 rfl (by decide) kc6 rfl ⟨by omega, by omega⟩ (by decide) rfl (Nat.le_of_ble_eq_true rfl) (fun σ21 => ?_)
                exact k_sub [1, 0] rfl (s_X6_test_b142 hj hn hl fo lo9 hk he hro F oT hoT oO hoO  c17  σ21)
        · exact k_return hk he dX6_test_101 (by decide)
      · refine k_aload_n hk dX6_test_64 0 rfl ?_
        refine k_iconst (v := 1) hk dX6_test_65 (by decide) ?_
        refine k_callVv (As := [.int 1]) (rest := []) hk he hro (c_X6_opens hj hn hl F 1  σ10) dX6_test_66 cw_RX6_183 rfl (by decide) kc6 rfl ⟨by omega, by omega⟩ (by decide) rfl (Nat.le_of_ble_eq_true rfl) (fun σ22 => ?_)
        refine k_aload_n hk dX6_test_69 0 rfl ?_
        refine k_callVv (As := []) (rest := []) hk he hro (hoO   σ22) dX6_test_70 cw_RX6_201 rfl (by decide) kc6 rfl ⟨by omega, by omega⟩ (by decide) rfl (Nat.le_of_ble_eq_true rfl) (fun σ23 => ?_)
        refine k_aload_n hk dX6_test_73 0 rfl ?_
        refine k_bipush (v := 93) hk dX6_test_74 (by decide) ?_
        refine k_callVv (As := [.int 93]) (rest := []) hk he hro (c_X6_sign hj hn hl F 93  σ23) dX6_test_76 cw_RX6_189 rfl (by decide) kc6 rfl ⟨by omega, by omega⟩ (by decide) rfl (Nat.le_of_ble_eq_true rfl) (fun σ24 => ?_)
        refine k_aload_n hk dX6_test_79 0 rfl ?_
        refine k_dup hk dX6_test_80 rfl ?_
        refine k_getf (k := 5) hk dX6_test_81 rfl (by decide) kc6 (by decide) fl_RX6_165 rfl ?_
        refine k_iconst (v := 1) hk dX6_test_84 (by decide) ?_
        refine k_isub hk dX6_test_85 ?_
        refine k_putf (k := 5) hk dX6_test_86 rfl (by decide) kc6 (by decide) fl_RX6_165 rfl rfl rfl rfl (fun σ25 => ?_)
        exact k_return hk he dX6_test_89 (by decide)
    · refine k_aload_n hk dX6_test_24 0 rfl ?_
      refine k_iconst (v := 3) hk dX6_test_25 (by decide) ?_
      refine k_callVv (As := [.int 3]) (rest := []) hk he hro (c_X6_opens hj hn hl F 3  σ7) dX6_test_26 cw_RX6_183 rfl (by decide) kc6 rfl ⟨by omega, by omega⟩ (by decide) rfl (Nat.le_of_ble_eq_true rfl) (fun σ26 => ?_)
      refine k_aload_n hk dX6_test_29 0 rfl ?_
      refine k_callVv (As := []) (rest := []) hk he hro (hoT   σ26) dX6_test_30 cw_RX6_198 rfl (by decide) kc6 rfl ⟨by omega, by omega⟩ (by decide) rfl (Nat.le_of_ble_eq_true rfl) (fun σ27 => ?_)
      refine k_aload_n hk dX6_test_33 0 rfl ?_
      refine k_dup hk dX6_test_34 rfl ?_
      refine k_getf (k := 5) hk dX6_test_35 rfl (by decide) kc6 (by decide) fl_RX6_165 rfl ?_
      refine k_iconst (v := 1) hk dX6_test_38 (by decide) ?_
      refine k_isub hk dX6_test_39 ?_
      refine k_putf (k := 5) hk dX6_test_40 rfl (by decide) kc6 (by decide) fl_RX6_165 rfl rfl rfl rfl (fun σ28 => ?_)
      refine k_aload_n hk dX6_test_43 0 rfl ?_
      refine k_sipush (v := 10033) hk dX6_test_44 (by decide) ?_
      refine k_callVv (As := [.int 10033]) (rest := []) hk he hro (c_X6_tells hj hn hl F 10033  σ28) dX6_test_47 cw_RX6_176 rfl (by decide) kc6 rfl ⟨by omega, by omega⟩ (by decide) rfl (Nat.le_of_ble_eq_true rfl) (fun σ29 => ?_)
      exact k_return hk he dX6_test_50 (by decide)
  · exact k_return hk he dX6_test_7 (by decide)
def f_X6_ands_b43 (F : Nat) (oT : kS → Option kR) (oO : kS → Option kR)  (σ : kS) : Option kR := some (.inl none, σ)
set_option maxRecDepth 20000 in
theorem s_X6_ands_b43 {l : Launch} {E : kE} (hj : kEj E) (hn : kNorm E) (hl : l.stackTraces = false) (fo lo9 : Nat) {C : kC} {Q : kR → State → Prop} (hk : kOk (C, E, Q) cX6_ands RX6 1) (he : kEnd (C, E, Q) none id 0) (hro : kRo C l (fo + 65) (lo9 + 1392) 0) (F : Nat) (oT : kS → Option kR) (hoT : ∀   (σ : kS), kMet l E yX6_test cX6_test 2 none fo lo9 0 id [.ref (kad E 48 0)] σ (oT  σ)) (oO : kS → Option kR) (hoO : ∀   (σ : kS), kMet l E yX6_ors cX6_ors 1 none fo lo9 0 id [.ref (kad E 48 0)] σ (oO  σ)) : ∀   (σ : kS), Sm (C, E, Q) 1 0 43 [] [] σ (f_X6_ands_b43 F oT oO  σ) := by
  intro   σ
  unfold f_X6_ands_b43
  exact k_return hk he dX6_ands_43 (by decide)
def f_X6_ands_b4 (F : Nat) (oT : kS → Option kR) (oO : kS → Option kR) (rr4 : Unit → kS → Option kR) (a : Unit) (σ : kS) : Option kR := match a with
  | _ => if (σ.1 48 0 6) = 0 then (kBi (f_X6_isWord F 1 14 4 0 0 0 σ) fun c3 σ2 => if c3 = 0 then (f_X6_ands_b43 F oT oO  σ2) else (kBv (f_X6_skipWord F  σ2) fun σ5 => kBv (f_X6_test F oT oO  σ5) fun σ6 => kBv (f_X6_tells F 10034 σ6) fun σ7 => rr4 () σ7)) else (f_X6_ands_b43 F oT oO  σ)
set_option maxRecDepth 20000 in
theorem s_X6_ands_b4 {l : Launch} {E : kE} (hj : kEj E) (hn : kNorm E) (hl : l.stackTraces = false) (fo lo9 : Nat) {C : kC} {Q : kR → State → Prop} (hk : kOk (C, E, Q) cX6_ands RX6 1) (he : kEnd (C, E, Q) none id 0) (hro : kRo C l (fo + 65) (lo9 + 1392) 0) (F : Nat) (oT : kS → Option kR) (hoT : ∀   (σ : kS), kMet l E yX6_test cX6_test 2 none fo lo9 0 id [.ref (kad E 48 0)] σ (oT  σ)) (oO : kS → Option kR) (hoO : ∀   (σ : kS), kMet l E yX6_ors cX6_ors 1 none fo lo9 0 id [.ref (kad E 48 0)] σ (oO  σ)) : ∀ (N9 : Nat)   (σ : kS), Sm (C, E, Q) 1 0 4 [(0, .ref (kad E 48 0))] [] σ (kFix (f_X6_ands_b4 F oT oO) N9 () σ) := by
  intro N9
  induction N9 with
  | zero => intro   σ; exact k_no
  | succ N9 ih =>
    intro   σ
    show Sm _ _ _ _ _ _ _ (f_X6_ands_b4 F oT oO (kFix (f_X6_ands_b4 F oT oO) N9) () σ)
    generalize kFix (f_X6_ands_b4 F oT oO) N9 = rr4 at ih
    have hrr4 := ih
    unfold f_X6_ands_b4
    dsimp only
    refine k_aload_n hk dX6_ands_4 0 rfl ?_
    refine k_getf (k := 6) hk dX6_ands_5 rfl (by decide) kc6 (by decide) fl_RX6_129 rfl ?_
    refine k_if_ne hk dX6_ands_8 43 (by decide) (fun h1 => ?_) (fun h1 => ?_)
    · exact k_sub [] rfl (s_X6_ands_b43 hj hn hl fo lo9 hk he hro F oT hoT oO hoO    σ)
    · refine k_aload_n hk dX6_ands_11 0 rfl ?_
      refine k_iconst (v := 1) hk dX6_ands_12 (by decide) ?_
      refine k_bipush (v := 14) hk dX6_ands_13 (by decide) ?_
      refine k_iconst (v := 4) hk dX6_ands_15 (by decide) ?_
      refine k_iconst (v := 0) hk dX6_ands_16 (by decide) ?_
      refine k_iconst (v := 0) hk dX6_ands_17 (by decide) ?_
      refine k_iconst (v := 0) hk dX6_ands_18 (by decide) ?_
      refine k_callVi (As := [.int 1, .int 14, .int 4, .int 0, .int 0, .int 0]) (rest := []) hk he hro (c_X6_isWord hj hn hl F 1 14 4 0 0 0  σ) dX6_ands_19 cw_RX6_168 rfl (by decide) kc6 rfl ⟨by omega, by omega⟩ (by decide) rfl (Nat.le_of_ble_eq_true rfl) (fun c3 σ2 => ?_)
      refine k_if_eq hk dX6_ands_22 43 (by decide) (fun h4 => ?_) (fun h4 => ?_)
      · exact k_sub [] rfl (s_X6_ands_b43 hj hn hl fo lo9 hk he hro F oT hoT oO hoO    σ2)
      · refine k_aload_n hk dX6_ands_25 0 rfl ?_
        refine k_callVv (As := []) (rest := []) hk he hro (c_X6_skipWord hj hn hl F   σ2) dX6_ands_26 cw_RX6_162 rfl (by decide) kc6 rfl ⟨by omega, by omega⟩ (by decide) rfl (Nat.le_of_ble_eq_true rfl) (fun σ5 => ?_)
        refine k_aload_n hk dX6_ands_29 0 rfl ?_
        refine k_callVv (As := []) (rest := []) hk he hro (c_X6_test hj hn hl F fo lo9 oT hoT oO hoO   σ5) dX6_ands_30 cw_RX6_198 rfl (by decide) kc6 rfl ⟨by omega, by omega⟩ (by decide) rfl (Nat.le_of_ble_eq_true rfl) (fun σ6 => ?_)
        refine k_aload_n hk dX6_ands_33 0 rfl ?_
        refine k_sipush (v := 10034) hk dX6_ands_34 (by decide) ?_
        refine k_callVv (As := [.int 10034]) (rest := []) hk he hro (c_X6_tells hj hn hl F 10034  σ6) dX6_ands_37 cw_RX6_176 rfl (by decide) kc6 rfl ⟨by omega, by omega⟩ (by decide) rfl (Nat.le_of_ble_eq_true rfl) (fun σ7 => ?_)
        refine k_goto hk dX6_ands_40 4 (by decide) ?_
        exact k_sub [0] rfl (hrr4   σ7)
def f_X6_ands (F : Nat) (oT : kS → Option kR) (oO : kS → Option kR)  (σ : kS) : Option kR := kBv (f_X6_test F oT oO  σ) fun σ8 => kFix (f_X6_ands_b4 F oT oO) F () σ8
set_option maxRecDepth 20000 in
theorem c_X6_ands {l : Launch} {E : kE} (hj : kEj E) (hn : kNorm E) (hl : l.stackTraces = false) (F : Nat) (fo lo9 : Nat) (oT : kS → Option kR) (hoT : ∀   (σ : kS), kMet l E yX6_test cX6_test 2 none fo lo9 0 id [.ref (kad E 48 0)] σ (oT  σ)) (oO : kS → Option kR) (hoO : ∀   (σ : kS), kMet l E yX6_ors cX6_ors 1 none fo lo9 0 id [.ref (kad E 48 0)] σ (oO  σ))   (σ : kS) : kMet l E yX6_ands cX6_ands 1 none (fo + 65) (lo9 + 1392) 0 id [.ref (kad E 48 0)] σ (f_X6_ands F oT oO  σ) := by
  refine k_met hj hn hl (by decide) (Nat.le_of_ble_eq_true rfl) (fun C Q hk he hro => ?_)
  have hk : kOk (C, E, Q) cX6_ands RX6 1 := hk
  show Sm (C, E, Q) 1 0 0 [(0, .ref (kad E 48 0))] [] σ _
  unfold f_X6_ands
  refine k_aload_n hk dX6_ands_0 0 rfl ?_
  refine k_callVv (As := []) (rest := []) hk he hro (c_X6_test hj hn hl F fo lo9 oT hoT oO hoO   σ) dX6_ands_1 cw_RX6_198 rfl (by decide) kc6 rfl ⟨by omega, by omega⟩ (by decide) rfl (Nat.le_of_ble_eq_true rfl) (fun σ8 => ?_)
  exact k_sub [0] rfl (s_X6_ands_b4 hj hn hl fo lo9 hk he hro F oT hoT oO hoO F   σ8)
def f_X6_ors_b44 (F : Nat) (oT : kS → Option kR) (oO : kS → Option kR)  (σ : kS) : Option kR := some (.inl none, σ)
set_option maxRecDepth 20000 in
theorem s_X6_ors_b44 {l : Launch} {E : kE} (hj : kEj E) (hn : kNorm E) (hl : l.stackTraces = false) (fo lo9 : Nat) {C : kC} {Q : kR → State → Prop} (hk : kOk (C, E, Q) cX6_ors RX6 1) (he : kEnd (C, E, Q) none id 0) (hro : kRo C l (fo + 66) (lo9 + 1412) 0) (F : Nat) (oT : kS → Option kR) (hoT : ∀   (σ : kS), kMet l E yX6_test cX6_test 2 none fo lo9 0 id [.ref (kad E 48 0)] σ (oT  σ)) (oO : kS → Option kR) (hoO : ∀   (σ : kS), kMet l E yX6_ors cX6_ors 1 none fo lo9 0 id [.ref (kad E 48 0)] σ (oO  σ)) : ∀   (σ : kS), Sm (C, E, Q) 1 0 44 [] [] σ (f_X6_ors_b44 F oT oO  σ) := by
  intro   σ
  unfold f_X6_ors_b44
  exact k_return hk he dX6_ors_44 (by decide)
def f_X6_ors_b4 (F : Nat) (oT : kS → Option kR) (oO : kS → Option kR) (rr4 : Unit → kS → Option kR) (a : Unit) (σ : kS) : Option kR := match a with
  | _ => if (σ.1 48 0 6) = 0 then (kBi (f_X6_isWord F 15 18 0 0 0 0 σ) fun c3 σ2 => if c3 = 0 then (f_X6_ors_b44 F oT oO  σ2) else (kBv (f_X6_skipWord F  σ2) fun σ5 => kBv (f_X6_ands F oT oO  σ5) fun σ6 => kBv (f_X6_tells F 10035 σ6) fun σ7 => rr4 () σ7)) else (f_X6_ors_b44 F oT oO  σ)
set_option maxRecDepth 20000 in
theorem s_X6_ors_b4 {l : Launch} {E : kE} (hj : kEj E) (hn : kNorm E) (hl : l.stackTraces = false) (fo lo9 : Nat) {C : kC} {Q : kR → State → Prop} (hk : kOk (C, E, Q) cX6_ors RX6 1) (he : kEnd (C, E, Q) none id 0) (hro : kRo C l (fo + 66) (lo9 + 1412) 0) (F : Nat) (oT : kS → Option kR) (hoT : ∀   (σ : kS), kMet l E yX6_test cX6_test 2 none fo lo9 0 id [.ref (kad E 48 0)] σ (oT  σ)) (oO : kS → Option kR) (hoO : ∀   (σ : kS), kMet l E yX6_ors cX6_ors 1 none fo lo9 0 id [.ref (kad E 48 0)] σ (oO  σ)) : ∀ (N9 : Nat)   (σ : kS), Sm (C, E, Q) 1 0 4 [(0, .ref (kad E 48 0))] [] σ (kFix (f_X6_ors_b4 F oT oO) N9 () σ) := by
  intro N9
  induction N9 with
  | zero => intro   σ; exact k_no
  | succ N9 ih =>
    intro   σ
    show Sm _ _ _ _ _ _ _ (f_X6_ors_b4 F oT oO (kFix (f_X6_ors_b4 F oT oO) N9) () σ)
    generalize kFix (f_X6_ors_b4 F oT oO) N9 = rr4 at ih
    have hrr4 := ih
    unfold f_X6_ors_b4
    dsimp only
    refine k_aload_n hk dX6_ors_4 0 rfl ?_
    refine k_getf (k := 6) hk dX6_ors_5 rfl (by decide) kc6 (by decide) fl_RX6_129 rfl ?_
    refine k_if_ne hk dX6_ors_8 44 (by decide) (fun h1 => ?_) (fun h1 => ?_)
    · exact k_sub [] rfl (s_X6_ors_b44 hj hn hl fo lo9 hk he hro F oT hoT oO hoO    σ)
    · refine k_aload_n hk dX6_ors_11 0 rfl ?_
      refine k_bipush (v := 15) hk dX6_ors_12 (by decide) ?_
      refine k_bipush (v := 18) hk dX6_ors_14 (by decide) ?_
      refine k_iconst (v := 0) hk dX6_ors_16 (by decide) ?_
      refine k_iconst (v := 0) hk dX6_ors_17 (by decide) ?_
      refine k_iconst (v := 0) hk dX6_ors_18 (by decide) ?_
      refine k_iconst (v := 0) hk dX6_ors_19 (by decide) ?_
      refine k_callVi (As := [.int 15, .int 18, .int 0, .int 0, .int 0, .int 0]) (rest := []) hk he hro (c_X6_isWord hj hn hl F 15 18 0 0 0 0  σ) dX6_ors_20 cw_RX6_168 rfl (by decide) kc6 rfl ⟨by omega, by omega⟩ (by decide) rfl (Nat.le_of_ble_eq_true rfl) (fun c3 σ2 => ?_)
      refine k_if_eq hk dX6_ors_23 44 (by decide) (fun h4 => ?_) (fun h4 => ?_)
      · exact k_sub [] rfl (s_X6_ors_b44 hj hn hl fo lo9 hk he hro F oT hoT oO hoO    σ2)
      · refine k_aload_n hk dX6_ors_26 0 rfl ?_
        refine k_callVv (As := []) (rest := []) hk he hro (c_X6_skipWord hj hn hl F   σ2) dX6_ors_27 cw_RX6_162 rfl (by decide) kc6 rfl ⟨by omega, by omega⟩ (by decide) rfl (Nat.le_of_ble_eq_true rfl) (fun σ5 => ?_)
        refine k_aload_n hk dX6_ors_30 0 rfl ?_
        refine k_callVv (As := []) (rest := []) hk he hro (c_X6_ands hj hn hl F fo lo9 oT hoT oO hoO   σ5) dX6_ors_31 cw_RX6_204 rfl (by decide) kc6 rfl ⟨by omega, by omega⟩ (by decide) rfl (Nat.le_of_ble_eq_true rfl) (fun σ6 => ?_)
        refine k_aload_n hk dX6_ors_34 0 rfl ?_
        refine k_sipush (v := 10035) hk dX6_ors_35 (by decide) ?_
        refine k_callVv (As := [.int 10035]) (rest := []) hk he hro (c_X6_tells hj hn hl F 10035  σ6) dX6_ors_38 cw_RX6_176 rfl (by decide) kc6 rfl ⟨by omega, by omega⟩ (by decide) rfl (Nat.le_of_ble_eq_true rfl) (fun σ7 => ?_)
        refine k_goto hk dX6_ors_41 4 (by decide) ?_
        exact k_sub [0] rfl (hrr4   σ7)
def f_X6_ors (F : Nat) (oT : kS → Option kR) (oO : kS → Option kR)  (σ : kS) : Option kR := kBv (f_X6_ands F oT oO  σ) fun σ8 => kFix (f_X6_ors_b4 F oT oO) F () σ8
set_option maxRecDepth 20000 in
theorem c_X6_ors {l : Launch} {E : kE} (hj : kEj E) (hn : kNorm E) (hl : l.stackTraces = false) (F : Nat) (fo lo9 : Nat) (oT : kS → Option kR) (hoT : ∀   (σ : kS), kMet l E yX6_test cX6_test 2 none fo lo9 0 id [.ref (kad E 48 0)] σ (oT  σ)) (oO : kS → Option kR) (hoO : ∀   (σ : kS), kMet l E yX6_ors cX6_ors 1 none fo lo9 0 id [.ref (kad E 48 0)] σ (oO  σ))   (σ : kS) : kMet l E yX6_ors cX6_ors 1 none (fo + 66) (lo9 + 1412) 0 id [.ref (kad E 48 0)] σ (f_X6_ors F oT oO  σ) := by
  refine k_met hj hn hl (by decide) (Nat.le_of_ble_eq_true rfl) (fun C Q hk he hro => ?_)
  have hk : kOk (C, E, Q) cX6_ors RX6 1 := hk
  show Sm (C, E, Q) 1 0 0 [(0, .ref (kad E 48 0))] [] σ _
  unfold f_X6_ors
  refine k_aload_n hk dX6_ors_0 0 rfl ?_
  refine k_callVv (As := []) (rest := []) hk he hro (c_X6_ands hj hn hl F fo lo9 oT hoT oO hoO   σ) dX6_ors_1 cw_RX6_204 rfl (by decide) kc6 rfl ⟨by omega, by omega⟩ (by decide) rfl (Nat.le_of_ble_eq_true rfl) (fun σ8 => ?_)
  exact k_sub [0] rfl (s_X6_ors_b4 hj hn hl fo lo9 hk he hro F oT hoT oO hoO F   σ8)
def g_X6_to (F : Nat) : Nat → (kS → Option kR) × (kS → Option kR)
  | 0 => (fun _ => none, fun _ => none)
  | D + 1 => (f_X6_test F (g_X6_to F D).1 (g_X6_to F D).2, f_X6_ors F (g_X6_to F D).1 (g_X6_to F D).2)
theorem e_X6_to {l : Launch} {E : kE} (hj : kEj E) (hn : kNorm E) (hl : l.stackTraces = false) (F : Nat) : ∀ (D : Nat), (∀ σ : kS, kMet l E yX6_test cX6_test 2 none (66 * D) (1412 * D) 0 id [.ref (kad E 48 0)] σ ((g_X6_to F D).1 σ)) ∧ (∀ σ : kS, kMet l E yX6_ors cX6_ors 1 none (66 * D) (1412 * D) 0 id [.ref (kad E 48 0)] σ ((g_X6_to F D).2 σ))
  | 0 => ⟨fun σ u h => (by cases h), fun σ u h => (by cases h)⟩
  | D + 1 => ⟨fun σ => (c_X6_test hj hn hl F (66 * D) (1412 * D) (g_X6_to F D).1 (e_X6_to hj hn hl F D).1 (g_X6_to F D).2 (e_X6_to hj hn hl F D).2 σ).room (by omega) (by omega), fun σ => (c_X6_ors hj hn hl F (66 * D) (1412 * D) (g_X6_to F D).1 (e_X6_to hj hn hl F D).1 (g_X6_to F D).2 (e_X6_to hj hn hl F D).2 σ).room (by omega) (by omega)⟩
def f_X6_orsD (F : Nat) (σ : kS) : Option kR := (g_X6_to F 9).2 σ
theorem c_X6_orsD {l : Launch} {E : kE} (hj : kEj E) (hn : kNorm E) (hl : l.stackTraces = false) (F : Nat) (σ : kS) : kMet l E yX6_ors cX6_ors 1 none 594 12708 0 id [.ref (kad E 48 0)] σ (f_X6_orsD F σ) := (e_X6_to hj hn hl F 9).2 σ
def f_X6_clauseHere_b284 (F : Nat)  (σ : kS) : Option kR := kBv (f_X6_sign F 59 σ) fun σ1 => kb (kU σ1 48 0 9 ((σ1.1 48 0 9) + 1)) fun σ2 => some (.inl none, σ2)
set_option maxRecDepth 20000 in
theorem s_X6_clauseHere_b284 {l : Launch} {E : kE} (hj : kEj E) (hn : kNorm E) (hl : l.stackTraces = false) {C : kC} {Q : kR → State → Prop} (hk : kOk (C, E, Q) cX6_clauseHere RX6 5) (he : kEnd (C, E, Q) none id 0) (hro : kRo C l (595) (12728) 0) (F : Nat) : ∀   (σ : kS), Sm (C, E, Q) 5 0 284 [(0, .ref (kad E 48 0))] [] σ (f_X6_clauseHere_b284 F  σ) := by
  intro   σ
  unfold f_X6_clauseHere_b284
  refine k_aload_n hk dX6_clauseHere_284 0 rfl ?_
  refine k_bipush (v := 59) hk dX6_clauseHere_285 (by decide) ?_
  refine k_callVv (As := [.int 59]) (rest := []) hk he hro (c_X6_sign hj hn hl F 59  σ) dX6_clauseHere_287 cw_RX6_189 rfl (by decide) kc6 rfl ⟨by decide, by decide⟩ (by decide) rfl (Nat.le_of_ble_eq_true rfl) (fun σ1 => ?_)
  refine k_aload_n hk dX6_clauseHere_290 0 rfl ?_
  refine k_dup hk dX6_clauseHere_291 rfl ?_
  refine k_getf (k := 9) hk dX6_clauseHere_292 rfl (by decide) kc6 (by decide) fl_RX6_207 rfl ?_
  refine k_iconst (v := 1) hk dX6_clauseHere_295 (by decide) ?_
  refine k_iadd hk dX6_clauseHere_296 ?_
  refine k_putf (k := 9) hk dX6_clauseHere_297 rfl (by decide) kc6 (by decide) fl_RX6_207 rfl rfl rfl rfl (fun σ2 => ?_)
  exact k_return hk he dX6_clauseHere_300 (by decide)
def f_X6_clauseHere_b283 (F : Nat) (t0 : Nat) (t1 : Int32) (t2 : Int32) (σ : kS) : Option kR := kg (kin t1 4) (kb (kU σ 52 t0 t1.toNatClampNeg t2) fun σ3 => f_X6_clauseHere_b284 F  σ3)
set_option maxRecDepth 20000 in
theorem s_X6_clauseHere_b283 {l : Launch} {E : kE} (hj : kEj E) (hn : kNorm E) (hl : l.stackTraces = false) {C : kC} {Q : kR → State → Prop} (hk : kOk (C, E, Q) cX6_clauseHere RX6 5) (he : kEnd (C, E, Q) none id 0) (hro : kRo C l (595) (12728) 0) (F : Nat) : ∀ (t0 : Nat) (t1 : Int32) (t2 : Int32) (ht0 : t0 < kCnt 52) (σ : kS), Sm (C, E, Q) 5 0 283 [(0, .ref (kad E 48 0))] [.int t2, .int t1, .ref (kad E 52 t0)] σ (f_X6_clauseHere_b283 F t0 t1 t2 σ) := by
  intro t0 t1 t2 ht0 σ
  unfold f_X6_clauseHere_b283
  refine k_iast hk dX6_clauseHere_283 rfl ht0 (fun h4 σ3 => ?_)
  exact k_sub [0] rfl (s_X6_clauseHere_b284 hj hn hl hk he hro F    σ3)
def f_X6_clauseHere_b228 (F : Nat) (x4 : Nat) (σ : kS) : Option kR := kb (kU σ 52 x4 2 (σ.1 48 0 8)) fun σ5 => kBv (f_X6_orsD F  σ5) fun σ6 => kb (kU σ6 52 x4 3 (σ6.1 48 0 8)) fun σ7 => f_X6_clauseHere_b284 F  σ7
set_option maxRecDepth 20000 in
theorem s_X6_clauseHere_b228 {l : Launch} {E : kE} (hj : kEj E) (hn : kNorm E) (hl : l.stackTraces = false) {C : kC} {Q : kR → State → Prop} (hk : kOk (C, E, Q) cX6_clauseHere RX6 5) (he : kEnd (C, E, Q) none id 0) (hro : kRo C l (595) (12728) 0) (F : Nat) : ∀ (x4 : Nat) (hx4 : x4 < kCnt 52) (σ : kS), Sm (C, E, Q) 5 0 228 [(0, .ref (kad E 48 0)), (4, .ref (kad E 52 x4))] [] σ (f_X6_clauseHere_b228 F x4 σ) := by
  intro x4 hx4 σ
  unfold f_X6_clauseHere_b228
  refine k_aload hk dX6_clauseHere_228 1 rfl ?_
  refine k_iconst (v := 2) hk dX6_clauseHere_230 (by decide) ?_
  refine k_aload_n hk dX6_clauseHere_231 0 rfl ?_
  refine k_getf (k := 8) hk dX6_clauseHere_232 rfl (by decide) kc6 (by decide) fl_RX6_135 rfl ?_
  refine k_iast_k (kk := 2) hk dX6_clauseHere_235 rfl hx4 (by decide) (by decide) (fun σ5 => ?_)
  refine k_aload_n hk dX6_clauseHere_236 0 rfl ?_
  refine k_callVv (As := []) (rest := []) hk he hro (c_X6_orsD hj hn hl F   σ5) dX6_clauseHere_237 cw_RX6_201 rfl (by decide) kc6 rfl ⟨by decide, by decide⟩ (by decide) rfl (Nat.le_of_ble_eq_true rfl) (fun σ6 => ?_)
  refine k_aload hk dX6_clauseHere_240 1 rfl ?_
  refine k_iconst (v := 3) hk dX6_clauseHere_242 (by decide) ?_
  refine k_aload_n hk dX6_clauseHere_243 0 rfl ?_
  refine k_getf (k := 8) hk dX6_clauseHere_244 rfl (by decide) kc6 (by decide) fl_RX6_135 rfl ?_
  refine k_iast_k (kk := 3) hk dX6_clauseHere_247 rfl hx4 (by decide) (by decide) (fun σ7 => ?_)
  refine k_goto hk dX6_clauseHere_248 284 (by decide) ?_
  exact k_sub [0] rfl (s_X6_clauseHere_b284 hj hn hl hk he hro F    σ7)
def f_X6_clauseHere_b187 (F : Nat) (x4 : Nat) (σ : kS) : Option kR := kBi (f_X6_numberHere F 0 99 σ) fun c9 σ8 => kb (kU σ8 52 x4 3 c9) fun σ10 => f_X6_clauseHere_b284 F  σ10
set_option maxRecDepth 20000 in
theorem s_X6_clauseHere_b187 {l : Launch} {E : kE} (hj : kEj E) (hn : kNorm E) (hl : l.stackTraces = false) {C : kC} {Q : kR → State → Prop} (hk : kOk (C, E, Q) cX6_clauseHere RX6 5) (he : kEnd (C, E, Q) none id 0) (hro : kRo C l (595) (12728) 0) (F : Nat) : ∀ (x4 : Nat) (hx4 : x4 < kCnt 52) (σ : kS), Sm (C, E, Q) 5 0 187 [(0, .ref (kad E 48 0)), (4, .ref (kad E 52 x4))] [] σ (f_X6_clauseHere_b187 F x4 σ) := by
  intro x4 hx4 σ
  unfold f_X6_clauseHere_b187
  refine k_aload hk dX6_clauseHere_187 1 rfl ?_
  refine k_iconst (v := 3) hk dX6_clauseHere_189 (by decide) ?_
  refine k_aload_n hk dX6_clauseHere_190 0 rfl ?_
  refine k_iconst (v := 0) hk dX6_clauseHere_191 (by decide) ?_
  refine k_bipush (v := 99) hk dX6_clauseHere_192 (by decide) ?_
  refine k_callVi (As := [.int 0, .int 99]) (rest := [.int 3, .ref (kad E 52 x4)]) hk he hro (c_X6_numberHere hj hn hl F 0 99  σ) dX6_clauseHere_194 cw_RX6_172 rfl (by decide) kc6 rfl ⟨by decide, by decide⟩ (by decide) rfl (Nat.le_of_ble_eq_true rfl) (fun c9 σ8 => ?_)
  refine k_iast_k (kk := 3) hk dX6_clauseHere_197 rfl hx4 (by decide) (by decide) (fun σ10 => ?_)
  refine k_goto hk dX6_clauseHere_198 284 (by decide) ?_
  exact k_sub [0] rfl (s_X6_clauseHere_b284 hj hn hl hk he hro F    σ10)
def f_X6_clauseHere_b143 (F : Nat) (x1 : Int32) (x2 : Int32) (x4 : Nat) (t0 : Nat) (t1 : Int32) (t3 : Int32) (t4 : Int32) (σ : kS) : Option kR := kBi (f_X6_numberHere F t3 t4 σ) fun c12 σ11 => kg (kin t1 4) (kb (kU σ11 52 t0 t1.toNatClampNeg c12) fun σ13 => if x1 = 0 then (if x2 = 0 then (if (σ13.1 48 0 6) = 0 then (kBi (f_X6_lowest F (σ13.1 52 x4 1) σ13) fun c19 σ18 => kBi (f_X6_highest F (σ18.1 52 x4 1) σ18) fun c21 σ20 => kBi (f_X6_numberHere F c19 c21 σ20) fun c23 σ22 => f_X6_clauseHere_b283 F x4 2 c23 σ22) else (f_X6_clauseHere_b283 F x4 2 0 σ13)) else (if (σ13.1 48 0 6) = 0 then (kBi (f_X6_isWord F 9 6 0 0 0 0 σ13) fun c26 σ25 => kBv (f_X6_must F c26 σ25) fun σ27 => f_X6_clauseHere_b228 F x4 σ27) else (f_X6_clauseHere_b228 F x4 σ13))) else (kBi (f_X6_numberHere F 0 99 σ13) fun c29 σ28 => kb (kU σ28 52 x4 2 c29) fun σ30 => if (σ30.1 48 0 6) = 0 then (kBi (f_X6_isWord F 6 18 15 13 0 0 σ30) fun c33 σ32 => kBv (f_X6_must F c33 σ32) fun σ34 => f_X6_clauseHere_b187 F x4 σ34) else (f_X6_clauseHere_b187 F x4 σ30)))
set_option maxRecDepth 20000 in
theorem s_X6_clauseHere_b143 {l : Launch} {E : kE} (hj : kEj E) (hn : kNorm E) (hl : l.stackTraces = false) {C : kC} {Q : kR → State → Prop} (hk : kOk (C, E, Q) cX6_clauseHere RX6 5) (he : kEnd (C, E, Q) none id 0) (hro : kRo C l (595) (12728) 0) (F : Nat) : ∀ (x1 : Int32) (x2 : Int32) (x4 : Nat) (t0 : Nat) (t1 : Int32) (t3 : Int32) (t4 : Int32) (hx4 : x4 < kCnt 52) (ht0 : t0 < kCnt 52) (σ : kS), Sm (C, E, Q) 5 0 143 [(0, .ref (kad E 48 0)), (1, .int x1), (2, .int x2), (4, .ref (kad E 52 x4))] [.int t4, .int t3, .ref (kad E 48 0), .int t1, .ref (kad E 52 t0)] σ (f_X6_clauseHere_b143 F x1 x2 x4 t0 t1 t3 t4 σ) := by
  intro x1 x2 x4 t0 t1 t3 t4 hx4 ht0 σ
  unfold f_X6_clauseHere_b143
  refine k_callVi (As := [.int t3, .int t4]) (rest := [.int t1, .ref (kad E 52 t0)]) hk he hro (c_X6_numberHere hj hn hl F t3 t4  σ) dX6_clauseHere_143 cw_RX6_172 rfl (by decide) kc6 rfl ⟨by decide, by decide⟩ (by decide) rfl (Nat.le_of_ble_eq_true rfl) (fun c12 σ11 => ?_)
  refine k_iast hk dX6_clauseHere_146 rfl ht0 (fun h14 σ13 => ?_)
  refine k_iload_n hk dX6_clauseHere_147 1 rfl ?_
  refine k_if_eq hk dX6_clauseHere_148 201 (by decide) (fun h15 => ?_) (fun h15 => ?_)
  · refine k_iload_n hk dX6_clauseHere_201 2 rfl ?_
    refine k_if_eq hk dX6_clauseHere_202 251 (by decide) (fun h16 => ?_) (fun h16 => ?_)
    · refine k_aload hk dX6_clauseHere_251 3 rfl ?_
      refine k_iconst (v := 2) hk dX6_clauseHere_253 (by decide) ?_
      refine k_aload_n hk dX6_clauseHere_254 0 rfl ?_
      refine k_getf (k := 6) hk dX6_clauseHere_255 rfl (by decide) kc6 (by decide) fl_RX6_129 rfl ?_
      refine k_if_ne hk dX6_clauseHere_258 282 (by decide) (fun h17 => ?_) (fun h17 => ?_)
      · refine k_iconst (v := 0) hk dX6_clauseHere_282 (by decide) ?_
        exact k_sub [0] rfl (s_X6_clauseHere_b283 hj hn hl hk he hro F  x4 2 0 hx4 σ13)
      · refine k_aload_n hk dX6_clauseHere_261 0 rfl ?_
        refine k_aload hk dX6_clauseHere_262 3 rfl ?_
        refine k_iconst (v := 1) hk dX6_clauseHere_264 (by decide) ?_
        refine k_iald_k (kk := 1) hk dX6_clauseHere_265 rfl hx4 (by decide) (by decide) ?_
        refine k_callSi (As := [.int (σ13.1 52 x4 1)]) (rest := [.ref (kad E 48 0), .int 2, .ref (kad E 52 x4)]) hk he hro (c_X6_lowest hj hn hl F (σ13.1 52 x4 1)  σ13) dX6_clauseHere_266 cw_RX6_214 ⟨by decide, by decide⟩ (by decide) rfl (Nat.le_of_ble_eq_true rfl) (fun c19 σ18 => ?_)
        refine k_aload hk dX6_clauseHere_269 3 rfl ?_
        refine k_iconst (v := 1) hk dX6_clauseHere_271 (by decide) ?_
        refine k_iald_k (kk := 1) hk dX6_clauseHere_272 rfl hx4 (by decide) (by decide) ?_
        refine k_callSi (As := [.int (σ18.1 52 x4 1)]) (rest := [.int c19, .ref (kad E 48 0), .int 2, .ref (kad E 52 x4)]) hk he hro (c_X6_highest hj hn hl F (σ18.1 52 x4 1)  σ18) dX6_clauseHere_273 cw_RX6_217 ⟨by decide, by decide⟩ (by decide) rfl (Nat.le_of_ble_eq_true rfl) (fun c21 σ20 => ?_)
        refine k_callVi (As := [.int c19, .int c21]) (rest := [.int 2, .ref (kad E 52 x4)]) hk he hro (c_X6_numberHere hj hn hl F c19 c21  σ20) dX6_clauseHere_276 cw_RX6_172 rfl (by decide) kc6 rfl ⟨by decide, by decide⟩ (by decide) rfl (Nat.le_of_ble_eq_true rfl) (fun c23 σ22 => ?_)
        refine k_goto hk dX6_clauseHere_279 283 (by decide) ?_
        exact k_sub [0] rfl (s_X6_clauseHere_b283 hj hn hl hk he hro F  x4 2 c23 hx4 σ22)
    · refine k_aload_n hk dX6_clauseHere_205 0 rfl ?_
      refine k_getf (k := 6) hk dX6_clauseHere_206 rfl (by decide) kc6 (by decide) fl_RX6_129 rfl ?_
      refine k_if_ne hk dX6_clauseHere_209 228 (by decide) (fun h24 => ?_) (fun h24 => ?_)
      · exact k_sub [0, 3] rfl (s_X6_clauseHere_b228 hj hn hl hk he hro F  x4 hx4 σ13)
      · refine k_aload_n hk dX6_clauseHere_212 0 rfl ?_
        refine k_aload_n hk dX6_clauseHere_213 0 rfl ?_
        refine k_bipush (v := 9) hk dX6_clauseHere_214 (by decide) ?_
        refine k_bipush (v := 6) hk dX6_clauseHere_216 (by decide) ?_
        refine k_iconst (v := 0) hk dX6_clauseHere_218 (by decide) ?_
        refine k_iconst (v := 0) hk dX6_clauseHere_219 (by decide) ?_
        refine k_iconst (v := 0) hk dX6_clauseHere_220 (by decide) ?_
        refine k_iconst (v := 0) hk dX6_clauseHere_221 (by decide) ?_
        refine k_callVi (As := [.int 9, .int 6, .int 0, .int 0, .int 0, .int 0]) (rest := [.ref (kad E 48 0)]) hk he hro (c_X6_isWord hj hn hl F 9 6 0 0 0 0  σ13) dX6_clauseHere_222 cw_RX6_168 rfl (by decide) kc6 rfl ⟨by decide, by decide⟩ (by decide) rfl (Nat.le_of_ble_eq_true rfl) (fun c26 σ25 => ?_)
        refine k_callVv (As := [.int c26]) (rest := []) hk he hro (c_X6_must hj hn hl F c26  σ25) dX6_clauseHere_225 cw_RX6_210 rfl (by decide) kc6 rfl ⟨by decide, by decide⟩ (by decide) rfl (Nat.le_of_ble_eq_true rfl) (fun σ27 => ?_)
        exact k_sub [0, 3] rfl (s_X6_clauseHere_b228 hj hn hl hk he hro F  x4 hx4 σ27)
  · refine k_aload hk dX6_clauseHere_151 3 rfl ?_
    refine k_iconst (v := 2) hk dX6_clauseHere_153 (by decide) ?_
    refine k_aload_n hk dX6_clauseHere_154 0 rfl ?_
    refine k_iconst (v := 0) hk dX6_clauseHere_155 (by decide) ?_
    refine k_bipush (v := 99) hk dX6_clauseHere_156 (by decide) ?_
    refine k_callVi (As := [.int 0, .int 99]) (rest := [.int 2, .ref (kad E 52 x4)]) hk he hro (c_X6_numberHere hj hn hl F 0 99  σ13) dX6_clauseHere_158 cw_RX6_172 rfl (by decide) kc6 rfl ⟨by decide, by decide⟩ (by decide) rfl (Nat.le_of_ble_eq_true rfl) (fun c29 σ28 => ?_)
    refine k_iast_k (kk := 2) hk dX6_clauseHere_161 rfl hx4 (by decide) (by decide) (fun σ30 => ?_)
    refine k_aload_n hk dX6_clauseHere_162 0 rfl ?_
    refine k_getf (k := 6) hk dX6_clauseHere_163 rfl (by decide) kc6 (by decide) fl_RX6_129 rfl ?_
    refine k_if_ne hk dX6_clauseHere_166 187 (by decide) (fun h31 => ?_) (fun h31 => ?_)
    · exact k_sub [0, 3] rfl (s_X6_clauseHere_b187 hj hn hl hk he hro F  x4 hx4 σ30)
    · refine k_aload_n hk dX6_clauseHere_169 0 rfl ?_
      refine k_aload_n hk dX6_clauseHere_170 0 rfl ?_
      refine k_bipush (v := 6) hk dX6_clauseHere_171 (by decide) ?_
      refine k_bipush (v := 18) hk dX6_clauseHere_173 (by decide) ?_
      refine k_bipush (v := 15) hk dX6_clauseHere_175 (by decide) ?_
      refine k_bipush (v := 13) hk dX6_clauseHere_177 (by decide) ?_
      refine k_iconst (v := 0) hk dX6_clauseHere_179 (by decide) ?_
      refine k_iconst (v := 0) hk dX6_clauseHere_180 (by decide) ?_
      refine k_callVi (As := [.int 6, .int 18, .int 15, .int 13, .int 0, .int 0]) (rest := [.ref (kad E 48 0)]) hk he hro (c_X6_isWord hj hn hl F 6 18 15 13 0 0  σ30) dX6_clauseHere_181 cw_RX6_168 rfl (by decide) kc6 rfl ⟨by decide, by decide⟩ (by decide) rfl (Nat.le_of_ble_eq_true rfl) (fun c33 σ32 => ?_)
      refine k_callVv (As := [.int c33]) (rest := []) hk he hro (c_X6_must hj hn hl F c33  σ32) dX6_clauseHere_184 cw_RX6_210 rfl (by decide) kc6 rfl ⟨by decide, by decide⟩ (by decide) rfl (Nat.le_of_ble_eq_true rfl) (fun σ34 => ?_)
      exact k_sub [0, 3] rfl (s_X6_clauseHere_b187 hj hn hl hk he hro F  x4 hx4 σ34)
def f_X6_clauseHere_b126 (F : Nat) (x1 : Int32) (x2 : Int32) (x3 : Int32) (x4 : Nat) (t0 : Nat) (t1 : Int32) (t2 : Int32) (σ : kS) : Option kR := kg (kin t1 4) (kb (kU σ 52 t0 t1.toNatClampNeg t2) fun σ35 => if x3 = 0 then (f_X6_clauseHere_b143 F x1 x2 x4 x4 1 0 7 σ35) else (f_X6_clauseHere_b143 F x1 x2 x4 x4 1 0 9 σ35))
set_option maxRecDepth 20000 in
theorem s_X6_clauseHere_b126 {l : Launch} {E : kE} (hj : kEj E) (hn : kNorm E) (hl : l.stackTraces = false) {C : kC} {Q : kR → State → Prop} (hk : kOk (C, E, Q) cX6_clauseHere RX6 5) (he : kEnd (C, E, Q) none id 0) (hro : kRo C l (595) (12728) 0) (F : Nat) : ∀ (x1 : Int32) (x2 : Int32) (x3 : Int32) (x4 : Nat) (t0 : Nat) (t1 : Int32) (t2 : Int32) (hx4 : x4 < kCnt 52) (ht0 : t0 < kCnt 52) (σ : kS), Sm (C, E, Q) 5 0 126 [(0, .ref (kad E 48 0)), (1, .int x1), (2, .int x2), (3, .int x3), (4, .ref (kad E 52 x4))] [.int t2, .int t1, .ref (kad E 52 t0)] σ (f_X6_clauseHere_b126 F x1 x2 x3 x4 t0 t1 t2 σ) := by
  intro x1 x2 x3 x4 t0 t1 t2 hx4 ht0 σ
  unfold f_X6_clauseHere_b126
  refine k_iast hk dX6_clauseHere_126 rfl ht0 (fun h36 σ35 => ?_)
  refine k_aload hk dX6_clauseHere_127 4 rfl ?_
  refine k_iconst (v := 1) hk dX6_clauseHere_129 (by decide) ?_
  refine k_aload_n hk dX6_clauseHere_130 0 rfl ?_
  refine k_iconst (v := 0) hk dX6_clauseHere_131 (by decide) ?_
  refine k_iload_n hk dX6_clauseHere_132 3 rfl ?_
  refine k_if_eq hk dX6_clauseHere_133 141 (by decide) (fun h37 => ?_) (fun h37 => ?_)
  · refine k_bipush (v := 7) hk dX6_clauseHere_141 (by decide) ?_
    exact k_sub [0, 1, 2, 4] rfl (s_X6_clauseHere_b143 hj hn hl hk he hro F  x1 x2 x4 x4 1 0 7 hx4 hx4 σ35)
  · refine k_bipush (v := 9) hk dX6_clauseHere_136 (by decide) ?_
    refine k_goto hk dX6_clauseHere_138 143 (by decide) ?_
    exact k_sub [0, 1, 2, 4] rfl (s_X6_clauseHere_b143 hj hn hl hk he hro F  x1 x2 x4 x4 1 0 9 hx4 hx4 σ35)
def f_X6_clauseHere_b83 (F : Nat) (x1 : Int32) (x2 : Int32) (x3 : Int32) (σ : kS) : Option kR := if (σ.1 48 0 6) = 0 then (kBv (f_X6_skipWord F  σ) fun σ39 => kg (kin (σ39.1 48 0 9) 15) (kb ((σ39.1 48 0 9).toNatClampNeg) fun j40 => if x1 = 0 then (if x2 = 0 then (f_X6_clauseHere_b126 F x1 x2 x3 j40 j40 0 2 σ39) else (f_X6_clauseHere_b126 F x1 x2 x3 j40 j40 0 1 σ39)) else (f_X6_clauseHere_b126 F x1 x2 x3 j40 j40 0 0 σ39))) else (some (.inl none, σ))
set_option maxRecDepth 20000 in
theorem s_X6_clauseHere_b83 {l : Launch} {E : kE} (hj : kEj E) (hn : kNorm E) (hl : l.stackTraces = false) {C : kC} {Q : kR → State → Prop} (hk : kOk (C, E, Q) cX6_clauseHere RX6 5) (he : kEnd (C, E, Q) none id 0) (hro : kRo C l (595) (12728) 0) (F : Nat) : ∀ (x1 : Int32) (x2 : Int32) (x3 : Int32)  (σ : kS), Sm (C, E, Q) 5 0 83 [(0, .ref (kad E 48 0)), (1, .int x1), (2, .int x2), (3, .int x3)] [] σ (f_X6_clauseHere_b83 F x1 x2 x3 σ) := by
  intro x1 x2 x3  σ
  unfold f_X6_clauseHere_b83
  refine k_aload_n hk dX6_clauseHere_83 0 rfl ?_
  refine k_getf (k := 6) hk dX6_clauseHere_84 rfl (by decide) kc6 (by decide) fl_RX6_129 rfl ?_
  refine k_if_eq hk dX6_clauseHere_87 91 (by decide) (fun h38 => ?_) (fun h38 => ?_)
  · refine k_aload_n hk dX6_clauseHere_91 0 rfl ?_
    refine k_callVv (As := []) (rest := []) hk he hro (c_X6_skipWord hj hn hl F   σ) dX6_clauseHere_92 cw_RX6_162 rfl (by decide) kc6 rfl ⟨by decide, by decide⟩ (by decide) rfl (Nat.le_of_ble_eq_true rfl) (fun σ39 => ?_)
    refine k_aload_n hk dX6_clauseHere_95 0 rfl ?_
    refine k_getr (k := 12) 51 0 hk dX6_clauseHere_96 rfl (by decide) kc6 (by decide) fl_RX6_22 rfl rfl ?_
    refine k_aload_n hk dX6_clauseHere_99 0 rfl ?_
    refine k_getf (k := 9) hk dX6_clauseHere_100 rfl (by decide) kc6 (by decide) fl_RX6_207 rfl ?_
    refine k_aaldj (g' := 52) (fun z => z) hk dX6_clauseHere_103 rfl rfl rfl (by decide) (fun z => rfl) (by decide) (fun j40 hj40 => ?_)
    refine k_astore (lv' := [(4, .ref (kad E 52 j40)), (0, .ref (kad E 48 0)), (1, .int x1), (2, .int x2), (3, .int x3)]) hk dX6_clauseHere_104 (by decide) rfl ?_
    refine k_aload hk dX6_clauseHere_106 0 rfl ?_
    refine k_iconst (v := 0) hk dX6_clauseHere_108 (by decide) ?_
    refine k_iload_n hk dX6_clauseHere_109 2 rfl ?_
    refine k_if_eq hk dX6_clauseHere_110 117 (by decide) (fun h41 => ?_) (fun h41 => ?_)
    · refine k_iload_n hk dX6_clauseHere_117 3 rfl ?_
      refine k_if_eq hk dX6_clauseHere_118 125 (by decide) (fun h42 => ?_) (fun h42 => ?_)
      · refine k_iconst (v := 2) hk dX6_clauseHere_125 (by decide) ?_
        exact k_sub [1, 2, 3, 4, 0] rfl (s_X6_clauseHere_b126 hj hn hl hk he hro F  x1 x2 x3 j40 j40 0 2 hj40 hj40 σ39)
      · refine k_iconst (v := 1) hk dX6_clauseHere_121 (by decide) ?_
        refine k_goto hk dX6_clauseHere_122 126 (by decide) ?_
        exact k_sub [1, 2, 3, 4, 0] rfl (s_X6_clauseHere_b126 hj hn hl hk he hro F  x1 x2 x3 j40 j40 0 1 hj40 hj40 σ39)
    · refine k_iconst (v := 0) hk dX6_clauseHere_113 (by decide) ?_
      refine k_goto hk dX6_clauseHere_114 126 (by decide) ?_
      exact k_sub [1, 2, 3, 4, 0] rfl (s_X6_clauseHere_b126 hj hn hl hk he hro F  x1 x2 x3 j40 j40 0 0 hj40 hj40 σ39)
  · exact k_return hk he dX6_clauseHere_90 (by decide)
def f_X6_clauseHere_b65 (F : Nat) (x1 : Int32) (x2 : Int32) (x3 : Int32) (σ : kS) : Option kR := if (σ.1 48 0 9) = 14 then (kBv (f_X6_wrong F 3 (σ.1 48 0 4) σ) fun σ44 => f_X6_clauseHere_b83 F x1 x2 x3 σ44) else (f_X6_clauseHere_b83 F x1 x2 x3 σ)
set_option maxRecDepth 20000 in
theorem s_X6_clauseHere_b65 {l : Launch} {E : kE} (hj : kEj E) (hn : kNorm E) (hl : l.stackTraces = false) {C : kC} {Q : kR → State → Prop} (hk : kOk (C, E, Q) cX6_clauseHere RX6 5) (he : kEnd (C, E, Q) none id 0) (hro : kRo C l (595) (12728) 0) (F : Nat) : ∀ (x1 : Int32) (x2 : Int32) (x3 : Int32)  (σ : kS), Sm (C, E, Q) 5 0 65 [(0, .ref (kad E 48 0)), (1, .int x1), (2, .int x2), (3, .int x3)] [] σ (f_X6_clauseHere_b65 F x1 x2 x3 σ) := by
  intro x1 x2 x3  σ
  unfold f_X6_clauseHere_b65
  refine k_aload_n hk dX6_clauseHere_65 0 rfl ?_
  refine k_getf (k := 9) hk dX6_clauseHere_66 rfl (by decide) kc6 (by decide) fl_RX6_207 rfl ?_
  refine k_bipush (v := 14) hk dX6_clauseHere_69 (by decide) ?_
  refine k_icmp_ne hk dX6_clauseHere_71 83 (by decide) (fun h43 => ?_) (fun h43 => ?_)
  · exact k_sub [0, 1, 2, 3] rfl (s_X6_clauseHere_b83 hj hn hl hk he hro F  x1 x2 x3  σ)
  · refine k_aload_n hk dX6_clauseHere_74 0 rfl ?_
    refine k_iconst (v := 3) hk dX6_clauseHere_75 (by decide) ?_
    refine k_aload_n hk dX6_clauseHere_76 0 rfl ?_
    refine k_getf (k := 4) hk dX6_clauseHere_77 rfl (by decide) kc6 (by decide) fl_RX6_122 rfl ?_
    refine k_callVv (As := [.int 3, .int (σ.1 48 0 4)]) (rest := []) hk he hro (c_X6_wrong hj hn hl F 3 (σ.1 48 0 4)  σ) dX6_clauseHere_80 cw_RX6_145 rfl (by decide) kc6 rfl ⟨by decide, by decide⟩ (by decide) rfl (Nat.le_of_ble_eq_true rfl) (fun σ44 => ?_)
    exact k_sub [0, 1, 2, 3] rfl (s_X6_clauseHere_b83 hj hn hl hk he hro F  x1 x2 x3  σ44)
def f_X6_clauseHere (F : Nat)  (σ : kS) : Option kR := kBi (f_X6_isWord F 12 5 1 11 0 0 σ) fun c46 σ45 => kBi (f_X6_isWord F 19 16 1 18 11 0 σ45) fun c48 σ47 => kBi (f_X6_isWord F 19 5 20 0 0 0 σ47) fun c50 σ49 => if c46 = 0 then (if c48 = 0 then (if c50 = 0 then (kBv (f_X6_wrong F 1 (σ49.1 48 0 4) σ49) fun σ54 => f_X6_clauseHere_b83 F c46 c48 c50 σ54) else (f_X6_clauseHere_b65 F c46 c48 c50 σ49)) else (f_X6_clauseHere_b65 F c46 c48 c50 σ49)) else (f_X6_clauseHere_b65 F c46 c48 c50 σ49)
set_option maxRecDepth 20000 in
theorem c_X6_clauseHere {l : Launch} {E : kE} (hj : kEj E) (hn : kNorm E) (hl : l.stackTraces = false) (F : Nat)   (σ : kS) : kMet l E yX6_clauseHere cX6_clauseHere 5 none (595) (12728) 0 id [.ref (kad E 48 0)] σ (f_X6_clauseHere F  σ) := by
  refine k_met hj hn hl (by decide) (Nat.le_of_ble_eq_true rfl) (fun C Q hk he hro => ?_)
  have hk : kOk (C, E, Q) cX6_clauseHere RX6 5 := hk
  show Sm (C, E, Q) 5 0 0 [(0, .ref (kad E 48 0))] [] σ _
  unfold f_X6_clauseHere
  refine k_aload_n hk dX6_clauseHere_0 0 rfl ?_
  refine k_bipush (v := 12) hk dX6_clauseHere_1 (by decide) ?_
  refine k_iconst (v := 5) hk dX6_clauseHere_3 (by decide) ?_
  refine k_iconst (v := 1) hk dX6_clauseHere_4 (by decide) ?_
  refine k_bipush (v := 11) hk dX6_clauseHere_5 (by decide) ?_
  refine k_iconst (v := 0) hk dX6_clauseHere_7 (by decide) ?_
  refine k_iconst (v := 0) hk dX6_clauseHere_8 (by decide) ?_
  refine k_callVi (As := [.int 12, .int 5, .int 1, .int 11, .int 0, .int 0]) (rest := []) hk he hro (c_X6_isWord hj hn hl F 12 5 1 11 0 0  σ) dX6_clauseHere_9 cw_RX6_168 rfl (by decide) kc6 rfl ⟨by decide, by decide⟩ (by decide) rfl (Nat.le_of_ble_eq_true rfl) (fun c46 σ45 => ?_)
  refine k_istore_n (lv' := [(1, .int c46), (0, .ref (kad E 48 0))]) hk dX6_clauseHere_12 (by decide) rfl ?_
  refine k_aload_n hk dX6_clauseHere_13 1 rfl ?_
  refine k_bipush (v := 19) hk dX6_clauseHere_14 (by decide) ?_
  refine k_bipush (v := 16) hk dX6_clauseHere_16 (by decide) ?_
  refine k_iconst (v := 1) hk dX6_clauseHere_18 (by decide) ?_
  refine k_bipush (v := 18) hk dX6_clauseHere_19 (by decide) ?_
  refine k_bipush (v := 11) hk dX6_clauseHere_21 (by decide) ?_
  refine k_iconst (v := 0) hk dX6_clauseHere_23 (by decide) ?_
  refine k_callVi (As := [.int 19, .int 16, .int 1, .int 18, .int 11, .int 0]) (rest := []) hk he hro (c_X6_isWord hj hn hl F 19 16 1 18 11 0  σ45) dX6_clauseHere_24 cw_RX6_168 rfl (by decide) kc6 rfl ⟨by decide, by decide⟩ (by decide) rfl (Nat.le_of_ble_eq_true rfl) (fun c48 σ47 => ?_)
  refine k_istore_n (lv' := [(2, .int c48), (1, .int c46), (0, .ref (kad E 48 0))]) hk dX6_clauseHere_27 (by decide) rfl ?_
  refine k_aload_n hk dX6_clauseHere_28 2 rfl ?_
  refine k_bipush (v := 19) hk dX6_clauseHere_29 (by decide) ?_
  refine k_iconst (v := 5) hk dX6_clauseHere_31 (by decide) ?_
  refine k_bipush (v := 20) hk dX6_clauseHere_32 (by decide) ?_
  refine k_iconst (v := 0) hk dX6_clauseHere_34 (by decide) ?_
  refine k_iconst (v := 0) hk dX6_clauseHere_35 (by decide) ?_
  refine k_iconst (v := 0) hk dX6_clauseHere_36 (by decide) ?_
  refine k_callVi (As := [.int 19, .int 5, .int 20, .int 0, .int 0, .int 0]) (rest := []) hk he hro (c_X6_isWord hj hn hl F 19 5 20 0 0 0  σ47) dX6_clauseHere_37 cw_RX6_168 rfl (by decide) kc6 rfl ⟨by decide, by decide⟩ (by decide) rfl (Nat.le_of_ble_eq_true rfl) (fun c50 σ49 => ?_)
  refine k_istore_n (lv' := [(3, .int c50), (2, .int c48), (1, .int c46), (0, .ref (kad E 48 0))]) hk dX6_clauseHere_40 (by decide) rfl ?_
  refine k_iload_n hk dX6_clauseHere_41 2 rfl ?_
  refine k_if_ne hk dX6_clauseHere_42 65 (by decide) (fun h51 => ?_) (fun h51 => ?_)
  · exact k_sub [3, 2, 1, 0] rfl (s_X6_clauseHere_b65 hj hn hl hk he hro F  c46 c48 c50  σ49)
  · refine k_iload_n hk dX6_clauseHere_45 1 rfl ?_
    refine k_if_ne hk dX6_clauseHere_46 65 (by decide) (fun h52 => ?_) (fun h52 => ?_)
    · exact k_sub [3, 2, 1, 0] rfl (s_X6_clauseHere_b65 hj hn hl hk he hro F  c46 c48 c50  σ49)
    · refine k_iload_n hk dX6_clauseHere_49 0 rfl ?_
      refine k_if_ne hk dX6_clauseHere_50 65 (by decide) (fun h53 => ?_) (fun h53 => ?_)
      · exact k_sub [3, 2, 1, 0] rfl (s_X6_clauseHere_b65 hj hn hl hk he hro F  c46 c48 c50  σ49)
      · refine k_aload_n hk dX6_clauseHere_53 3 rfl ?_
        refine k_iconst (v := 1) hk dX6_clauseHere_54 (by decide) ?_
        refine k_aload_n hk dX6_clauseHere_55 3 rfl ?_
        refine k_getf (k := 4) hk dX6_clauseHere_56 rfl (by decide) kc6 (by decide) fl_RX6_122 rfl ?_
        refine k_callVv (As := [.int 1, .int (σ49.1 48 0 4)]) (rest := []) hk he hro (c_X6_wrong hj hn hl F 1 (σ49.1 48 0 4)  σ49) dX6_clauseHere_59 cw_RX6_145 rfl (by decide) kc6 rfl ⟨by decide, by decide⟩ (by decide) rfl (Nat.le_of_ble_eq_true rfl) (fun σ54 => ?_)
        refine k_goto hk dX6_clauseHere_62 83 (by decide) ?_
        exact k_sub [3, 2, 1, 0] rfl (s_X6_clauseHere_b83 hj hn hl hk he hro F  c46 c48 c50  σ54)
def f_X6_why_b189 (F : Nat) (rr179 : Int32 → kS → Option kR) (rr189 : (Int32 × Int32) → kS → Option kR) (a : (Int32 × Int32)) (σ : kS) : Option kR := match a with
  | (x2, x3) => if 4 ≤ x3 then (rr179 (x2 + 1) σ) else (kg (kin ((14 * (σ.1 48 0 13)) + x2) 84) (kb (((14 * (σ.1 48 0 13)) + x2).toNatClampNeg) fun j2 => kg (kin x2 15) (kb (x2.toNatClampNeg) fun j3 => kg (kin x3 4) (kg (kin x3 4) (kb (kU σ 56 j2 x3.toNatClampNeg (σ.1 52 j3 x3.toNatClampNeg)) fun σ5 => rr189 (x2, x3 + 1) σ5)))))
set_option maxRecDepth 20000 in
theorem s_X6_why_b189 {l : Launch} {E : kE} (hj : kEj E) (hn : kNorm E) (hl : l.stackTraces = false) {C : kC} {Q : kR → State → Prop} (hk : kOk (C, E, Q) cX6_why RX6 4) (he : kEnd (C, E, Q) (some .int) id 0) (hro : kRo C l (596) (12752) 0) (F : Nat) (rr179 : Int32 → kS → Option kR) (hrr179 : ∀ (x2 : Int32)  (σ : kS), Sm (C, E, Q) 4 0 179 [(0, .ref (kad E 48 0)), (2, .int x2)] [] σ (rr179 x2 σ)) : ∀ (N9 : Nat) (x2 : Int32) (x3 : Int32)  (σ : kS), Sm (C, E, Q) 4 0 189 [(0, .ref (kad E 48 0)), (2, .int x2), (3, .int x3)] [] σ (kFix (f_X6_why_b189 F rr179) N9 (x2, x3) σ) := by
  intro N9
  induction N9 with
  | zero => intro x2 x3  σ; exact k_no
  | succ N9 ih =>
    intro x2 x3  σ
    show Sm _ _ _ _ _ _ _ (f_X6_why_b189 F rr179 (kFix (f_X6_why_b189 F rr179) N9) (x2, x3) σ)
    generalize kFix (f_X6_why_b189 F rr179) N9 = rr189 at ih
    have hrr189 := ih
    unfold f_X6_why_b189
    dsimp only
    refine k_iload_n hk dX6_why_189 2 rfl ?_
    refine k_iconst (v := 4) hk dX6_why_190 (by decide) ?_
    refine k_icmp_ge hk dX6_why_191 224 (by decide) (fun h1 => ?_) (fun h1 => ?_)
    · refine k_iinc (lv' := [(2, .int (x2 + 1)), (0, .ref (kad E 48 0)), (3, .int x3)]) (j := 1) (y := x2 + 1) hk dX6_why_224 rfl rfl (by decide) rfl ?_
      refine k_goto hk dX6_why_227 179 (by decide) ?_
      exact k_sub [1, 0] rfl (hrr179 (x2 + 1)  σ)
    · refine k_aload_n hk dX6_why_194 0 rfl ?_
      refine k_getr (k := 15) 55 0 hk dX6_why_195 rfl (by decide) kc6 (by decide) fl_RX6_28 rfl rfl ?_
      refine k_bipush (v := 14) hk dX6_why_198 (by decide) ?_
      refine k_aload_n hk dX6_why_200 0 rfl ?_
      refine k_getf (k := 13) hk dX6_why_201 rfl (by decide) kc6 (by decide) fl_RX6_224 rfl ?_
      refine k_imul hk dX6_why_204 ?_
      refine k_iload_n hk dX6_why_205 1 rfl ?_
      refine k_iadd hk dX6_why_206 ?_
      refine k_aaldj (g' := 56) (fun z => z) hk dX6_why_207 rfl rfl rfl (by decide) (fun z => rfl) (by decide) (fun j2 hj2 => ?_)
      refine k_iload_n hk dX6_why_208 2 rfl ?_
      refine k_aload_n hk dX6_why_209 0 rfl ?_
      refine k_getr (k := 12) 51 0 hk dX6_why_210 rfl (by decide) kc6 (by decide) fl_RX6_22 rfl rfl ?_
      refine k_iload_n hk dX6_why_213 1 rfl ?_
      refine k_aaldj (g' := 52) (fun z => z) hk dX6_why_214 rfl rfl rfl (by decide) (fun z => rfl) (by decide) (fun j3 hj3 => ?_)
      refine k_iload_n hk dX6_why_215 2 rfl ?_
      refine k_iald hk dX6_why_216 rfl hj3 (fun h4 => ?_)
      refine k_iast hk dX6_why_217 rfl hj2 (fun h6 σ5 => ?_)
      refine k_iinc (lv' := [(3, .int (x3 + 1)), (0, .ref (kad E 48 0)), (2, .int x2)]) (j := 2) (y := x3 + 1) hk dX6_why_218 rfl rfl (by decide) rfl ?_
      refine k_goto hk dX6_why_221 189 (by decide) ?_
      exact k_sub [1, 2, 0] rfl (hrr189 x2 (x3 + 1)  σ5)
def f_X6_why_b179 (F : Nat) (rr179 : Int32 → kS → Option kR) (a : Int32) (σ : kS) : Option kR := match a with
  | x2 => if (σ.1 48 0 9) ≤ x2 then (kg (kin (σ.1 48 0 13) 6) (kb (kU σ 57 0 (σ.1 48 0 13).toNatClampNeg (σ.1 48 0 9)) fun σ8 => kg (kin (σ8.1 48 0 13) 6) (kb (kU σ8 58 0 (σ8.1 48 0 13).toNatClampNeg 10) fun σ10 => kb (kU σ10 48 0 13 ((σ10.1 48 0 13) + 1)) fun σ12 => some (.inl (some (.int ((σ12.1 48 0 13) - 1))), σ12)))) else (kFix (f_X6_why_b189 F rr179) F (x2, 0) σ)
set_option maxRecDepth 20000 in
theorem s_X6_why_b179 {l : Launch} {E : kE} (hj : kEj E) (hn : kNorm E) (hl : l.stackTraces = false) {C : kC} {Q : kR → State → Prop} (hk : kOk (C, E, Q) cX6_why RX6 4) (he : kEnd (C, E, Q) (some .int) id 0) (hro : kRo C l (596) (12752) 0) (F : Nat) : ∀ (N9 : Nat) (x2 : Int32)  (σ : kS), Sm (C, E, Q) 4 0 179 [(0, .ref (kad E 48 0)), (2, .int x2)] [] σ (kFix (f_X6_why_b179 F) N9 x2 σ) := by
  intro N9
  induction N9 with
  | zero => intro x2  σ; exact k_no
  | succ N9 ih =>
    intro x2  σ
    show Sm _ _ _ _ _ _ _ (f_X6_why_b179 F (kFix (f_X6_why_b179 F) N9) x2 σ)
    generalize kFix (f_X6_why_b179 F) N9 = rr179 at ih
    have hrr179 := ih
    unfold f_X6_why_b179
    dsimp only
    refine k_iload_n hk dX6_why_179 1 rfl ?_
    refine k_aload_n hk dX6_why_180 0 rfl ?_
    refine k_getf (k := 9) hk dX6_why_181 rfl (by decide) kc6 (by decide) fl_RX6_207 rfl ?_
    refine k_icmp_ge hk dX6_why_184 230 (by decide) (fun h7 => ?_) (fun h7 => ?_)
    · refine k_aload_n hk dX6_why_230 0 rfl ?_
      refine k_getr (k := 16) 57 0 hk dX6_why_231 rfl (by decide) kc6 (by decide) fl_RX6_31 rfl rfl ?_
      refine k_aload_n hk dX6_why_234 0 rfl ?_
      refine k_getf (k := 13) hk dX6_why_235 rfl (by decide) kc6 (by decide) fl_RX6_224 rfl ?_
      refine k_aload_n hk dX6_why_238 0 rfl ?_
      refine k_getf (k := 9) hk dX6_why_239 rfl (by decide) kc6 (by decide) fl_RX6_207 rfl ?_
      refine k_iast hk dX6_why_242 rfl (by decide) (fun h9 σ8 => ?_)
      refine k_aload_n hk dX6_why_243 0 rfl ?_
      refine k_getr (k := 17) 58 0 hk dX6_why_244 rfl (by decide) kc6 (by decide) fl_RX6_34 rfl rfl ?_
      refine k_aload_n hk dX6_why_247 0 rfl ?_
      refine k_getf (k := 13) hk dX6_why_248 rfl (by decide) kc6 (by decide) fl_RX6_224 rfl ?_
      refine k_bipush (v := 10) hk dX6_why_251 (by decide) ?_
      refine k_iast hk dX6_why_253 rfl (by decide) (fun h11 σ10 => ?_)
      refine k_aload_n hk dX6_why_254 0 rfl ?_
      refine k_dup hk dX6_why_255 rfl ?_
      refine k_getf (k := 13) hk dX6_why_256 rfl (by decide) kc6 (by decide) fl_RX6_224 rfl ?_
      refine k_iconst (v := 1) hk dX6_why_259 (by decide) ?_
      refine k_iadd hk dX6_why_260 ?_
      refine k_putf (k := 13) hk dX6_why_261 rfl (by decide) kc6 (by decide) fl_RX6_224 rfl rfl rfl rfl (fun σ12 => ?_)
      refine k_aload_n hk dX6_why_264 0 rfl ?_
      refine k_getf (k := 13) hk dX6_why_265 rfl (by decide) kc6 (by decide) fl_RX6_224 rfl ?_
      refine k_iconst (v := 1) hk dX6_why_268 (by decide) ?_
      refine k_isub hk dX6_why_269 ?_
      exact k_ireturn hk he dX6_why_270 (by decide)
    · refine k_iconst (v := 0) hk dX6_why_187 (by decide) ?_
      refine k_istore_n (lv' := [(3, .int 0), (0, .ref (kad E 48 0)), (2, .int x2)]) hk dX6_why_188 (by decide) rfl ?_
      exact k_sub [1, 2, 0] rfl (s_X6_why_b189 hj hn hl hk he hro F rr179 hrr179 F x2 0  σ)
def f_X6_why_b146 (F : Nat) (rr146 : Int32 → kS → Option kR) (a : Int32) (σ : kS) : Option kR := match a with
  | x2 => if (σ.1 48 0 8) ≤ x2 then (kFix (f_X6_why_b179 F) F 0 σ) else (kg (kin (σ.1 48 0 13) 6) (kb ((σ.1 48 0 13).toNatClampNeg) fun j14 => kg (kin x2 400) (kg (kin x2 400) (kb (kU σ 54 j14 x2.toNatClampNeg (σ.1 50 0 x2.toNatClampNeg)) fun σ16 => rr146 (x2 + 1) σ16))))
set_option maxRecDepth 20000 in
theorem s_X6_why_b146 {l : Launch} {E : kE} (hj : kEj E) (hn : kNorm E) (hl : l.stackTraces = false) {C : kC} {Q : kR → State → Prop} (hk : kOk (C, E, Q) cX6_why RX6 4) (he : kEnd (C, E, Q) (some .int) id 0) (hro : kRo C l (596) (12752) 0) (F : Nat) : ∀ (N9 : Nat) (x2 : Int32)  (σ : kS), Sm (C, E, Q) 4 0 146 [(0, .ref (kad E 48 0)), (2, .int x2)] [] σ (kFix (f_X6_why_b146 F) N9 x2 σ) := by
  intro N9
  induction N9 with
  | zero => intro x2  σ; exact k_no
  | succ N9 ih =>
    intro x2  σ
    show Sm _ _ _ _ _ _ _ (f_X6_why_b146 F (kFix (f_X6_why_b146 F) N9) x2 σ)
    generalize kFix (f_X6_why_b146 F) N9 = rr146 at ih
    have hrr146 := ih
    unfold f_X6_why_b146
    dsimp only
    refine k_iload_n hk dX6_why_146 1 rfl ?_
    refine k_aload_n hk dX6_why_147 0 rfl ?_
    refine k_getf (k := 8) hk dX6_why_148 rfl (by decide) kc6 (by decide) fl_RX6_135 rfl ?_
    refine k_icmp_ge hk dX6_why_151 177 (by decide) (fun h13 => ?_) (fun h13 => ?_)
    · refine k_iconst (v := 0) hk dX6_why_177 (by decide) ?_
      refine k_istore_n (lv' := [(2, .int 0), (0, .ref (kad E 48 0))]) hk dX6_why_178 (by decide) rfl ?_
      exact k_sub [1, 0] rfl (s_X6_why_b179 hj hn hl hk he hro F F 0  σ)
    · refine k_aload_n hk dX6_why_154 0 rfl ?_
      refine k_getr (k := 14) 53 0 hk dX6_why_155 rfl (by decide) kc6 (by decide) fl_RX6_25 rfl rfl ?_
      refine k_aload_n hk dX6_why_158 0 rfl ?_
      refine k_getf (k := 13) hk dX6_why_159 rfl (by decide) kc6 (by decide) fl_RX6_224 rfl ?_
      refine k_aaldj (g' := 54) (fun z => z) hk dX6_why_162 rfl rfl rfl (by decide) (fun z => rfl) (by decide) (fun j14 hj14 => ?_)
      refine k_iload_n hk dX6_why_163 1 rfl ?_
      refine k_aload_n hk dX6_why_164 0 rfl ?_
      refine k_getr (k := 11) 50 0 hk dX6_why_165 rfl (by decide) kc6 (by decide) fl_RX6_17 rfl rfl ?_
      refine k_iload_n hk dX6_why_168 1 rfl ?_
      refine k_iald hk dX6_why_169 rfl (by decide) (fun h15 => ?_)
      refine k_iast hk dX6_why_170 rfl hj14 (fun h17 σ16 => ?_)
      refine k_iinc (lv' := [(2, .int (x2 + 1)), (0, .ref (kad E 48 0))]) (j := 1) (y := x2 + 1) hk dX6_why_171 rfl rfl (by decide) rfl ?_
      refine k_goto hk dX6_why_174 146 (by decide) ?_
      exact k_sub [1, 0] rfl (hrr146 (x2 + 1)  σ16)
def f_X6_why_b121 (F : Nat)  (σ : kS) : Option kR := kb (kU σ 48 0 3 (σ.1 48 0 7)) fun σ18 => if (σ18.1 48 0 6) = 0 then (kFix (f_X6_why_b146 F) F 0 σ18) else (some (.inl (some (.int ((σ18.1 48 0 6) - 10))), σ18))
set_option maxRecDepth 20000 in
theorem s_X6_why_b121 {l : Launch} {E : kE} (hj : kEj E) (hn : kNorm E) (hl : l.stackTraces = false) {C : kC} {Q : kR → State → Prop} (hk : kOk (C, E, Q) cX6_why RX6 4) (he : kEnd (C, E, Q) (some .int) id 0) (hro : kRo C l (596) (12752) 0) (F : Nat) : ∀   (σ : kS), Sm (C, E, Q) 4 0 121 [(0, .ref (kad E 48 0))] [] σ (f_X6_why_b121 F  σ) := by
  intro   σ
  unfold f_X6_why_b121
  refine k_aload_n hk dX6_why_121 0 rfl ?_
  refine k_aload_n hk dX6_why_122 0 rfl ?_
  refine k_getf (k := 7) hk dX6_why_123 rfl (by decide) kc6 (by decide) fl_RX6_132 rfl ?_
  refine k_putf (k := 3) hk dX6_why_126 rfl (by decide) kc6 (by decide) fl_RX6_9 rfl rfl rfl rfl (fun σ18 => ?_)
  refine k_aload_n hk dX6_why_129 0 rfl ?_
  refine k_getf (k := 6) hk dX6_why_130 rfl (by decide) kc6 (by decide) fl_RX6_129 rfl ?_
  refine k_if_eq hk dX6_why_133 144 (by decide) (fun h19 => ?_) (fun h19 => ?_)
  · refine k_iconst (v := 0) hk dX6_why_144 (by decide) ?_
    refine k_istore_n (lv' := [(2, .int 0), (0, .ref (kad E 48 0))]) hk dX6_why_145 (by decide) rfl ?_
    exact k_sub [1, 0] rfl (s_X6_why_b146 hj hn hl hk he hro F F 0  σ18)
  · refine k_aload_n hk dX6_why_136 0 rfl ?_
    refine k_getf (k := 6) hk dX6_why_137 rfl (by decide) kc6 (by decide) fl_RX6_129 rfl ?_
    refine k_bipush (v := 10) hk dX6_why_140 (by decide) ?_
    refine k_isub hk dX6_why_142 ?_
    exact k_ireturn hk he dX6_why_143 (by decide)
def f_X6_why_b92 (F : Nat) (rr92 : Unit → kS → Option kR) (a : Unit) (σ : kS) : Option kR := match a with
  | _ => if (σ.1 48 0 6) = 0 then (if (σ.1 48 0 2) ≤ (σ.1 48 0 4) then (f_X6_why_b121 F  σ) else (kBv (f_X6_clauseHere F  σ) fun σ22 => kBv (f_X6_blanks F  σ22) fun σ23 => rr92 () σ23)) else (f_X6_why_b121 F  σ)
set_option maxRecDepth 20000 in
theorem s_X6_why_b92 {l : Launch} {E : kE} (hj : kEj E) (hn : kNorm E) (hl : l.stackTraces = false) {C : kC} {Q : kR → State → Prop} (hk : kOk (C, E, Q) cX6_why RX6 4) (he : kEnd (C, E, Q) (some .int) id 0) (hro : kRo C l (596) (12752) 0) (F : Nat) : ∀ (N9 : Nat)   (σ : kS), Sm (C, E, Q) 4 0 92 [(0, .ref (kad E 48 0))] [] σ (kFix (f_X6_why_b92 F) N9 () σ) := by
  intro N9
  induction N9 with
  | zero => intro   σ; exact k_no
  | succ N9 ih =>
    intro   σ
    show Sm _ _ _ _ _ _ _ (f_X6_why_b92 F (kFix (f_X6_why_b92 F) N9) () σ)
    generalize kFix (f_X6_why_b92 F) N9 = rr92 at ih
    have hrr92 := ih
    unfold f_X6_why_b92
    dsimp only
    refine k_aload_n hk dX6_why_92 0 rfl ?_
    refine k_getf (k := 6) hk dX6_why_93 rfl (by decide) kc6 (by decide) fl_RX6_129 rfl ?_
    refine k_if_ne hk dX6_why_96 121 (by decide) (fun h20 => ?_) (fun h20 => ?_)
    · exact k_sub [0] rfl (s_X6_why_b121 hj hn hl hk he hro F    σ)
    · refine k_aload_n hk dX6_why_99 0 rfl ?_
      refine k_getf (k := 4) hk dX6_why_100 rfl (by decide) kc6 (by decide) fl_RX6_122 rfl ?_
      refine k_aload_n hk dX6_why_103 0 rfl ?_
      refine k_getf (k := 2) hk dX6_why_104 rfl (by decide) kc6 (by decide) fl_RX6_119 rfl ?_
      refine k_icmp_ge hk dX6_why_107 121 (by decide) (fun h21 => ?_) (fun h21 => ?_)
      · exact k_sub [0] rfl (s_X6_why_b121 hj hn hl hk he hro F    σ)
      · refine k_aload_n hk dX6_why_110 0 rfl ?_
        refine k_callVv (As := []) (rest := []) hk he hro (c_X6_clauseHere hj hn hl F   σ) dX6_why_111 cw_RX6_227 rfl (by decide) kc6 rfl ⟨by decide, by decide⟩ (by decide) rfl (Nat.le_of_ble_eq_true rfl) (fun σ22 => ?_)
        refine k_aload_n hk dX6_why_114 0 rfl ?_
        refine k_callVv (As := []) (rest := []) hk he hro (c_X6_blanks hj hn hl F   σ22) dX6_why_115 cw_RX6_138 rfl (by decide) kc6 rfl ⟨by decide, by decide⟩ (by decide) rfl (Nat.le_of_ble_eq_true rfl) (fun σ23 => ?_)
        refine k_goto hk dX6_why_118 92 (by decide) ?_
        exact k_sub [0] rfl (hrr92   σ23)
def f_X6_why_b23 (F : Nat) (x1 : Int32) (t1 : Int32) (σ : kS) : Option kR := kBi (f_X6_bad F t1 1 σ) fun c25 σ24 => if c25 = 0 then (kb (kU σ24 48 0 1 0) fun σ27 => kb (kU σ27 48 0 3 (-1)) fun σ28 => if (σ28.1 48 0 13) = 6 then (some (.inl (some (.int (-1))), σ28)) else (kb (kU σ28 48 0 2 x1) fun σ30 => kb (kU σ30 48 0 4 0) fun σ31 => kb (kU σ31 48 0 5 0) fun σ32 => kb (kU σ32 48 0 6 0) fun σ33 => kb (kU σ33 48 0 7 (-1)) fun σ34 => kb (kU σ34 48 0 8 0) fun σ35 => kb (kU σ35 48 0 9 0) fun σ36 => kBv (f_X6_blanks F  σ36) fun σ37 => kFix (f_X6_why_b92 F) F () σ37)) else (some (.inl (some (.int 0)), σ24))
set_option maxRecDepth 20000 in
theorem s_X6_why_b23 {l : Launch} {E : kE} (hj : kEj E) (hn : kNorm E) (hl : l.stackTraces = false) {C : kC} {Q : kR → State → Prop} (hk : kOk (C, E, Q) cX6_why RX6 4) (he : kEnd (C, E, Q) (some .int) id 0) (hro : kRo C l (596) (12752) 0) (F : Nat) : ∀ (x1 : Int32) (t1 : Int32)  (σ : kS), Sm (C, E, Q) 4 0 23 [(0, .ref (kad E 48 0)), (1, .int x1)] [.int t1, .ref (kad E 48 0)] σ (f_X6_why_b23 F x1 t1 σ) := by
  intro x1 t1  σ
  unfold f_X6_why_b23
  refine k_iconst (v := 1) hk dX6_why_23 (by decide) ?_
  refine k_callVi (As := [.int t1, .int 1]) (rest := []) hk he hro (c_X6_bad hj hn hl F t1 1  σ) dX6_why_24 cw_RX6_220 rfl (by decide) kc6 rfl ⟨by decide, by decide⟩ (by decide) rfl (Nat.le_of_ble_eq_true rfl) (fun c25 σ24 => ?_)
  refine k_if_eq hk dX6_why_27 32 (by decide) (fun h26 => ?_) (fun h26 => ?_)
  · refine k_aload_n hk dX6_why_32 0 rfl ?_
    refine k_iconst (v := 0) hk dX6_why_33 (by decide) ?_
    refine k_putf (k := 1) hk dX6_why_34 rfl (by decide) kc6 (by decide) fl_RX6_116 rfl rfl rfl rfl (fun σ27 => ?_)
    refine k_aload_n hk dX6_why_37 0 rfl ?_
    refine k_iconst (v := (-1)) hk dX6_why_38 (by decide) ?_
    refine k_putf (k := 3) hk dX6_why_39 rfl (by decide) kc6 (by decide) fl_RX6_9 rfl rfl rfl rfl (fun σ28 => ?_)
    refine k_aload_n hk dX6_why_42 0 rfl ?_
    refine k_getf (k := 13) hk dX6_why_43 rfl (by decide) kc6 (by decide) fl_RX6_224 rfl ?_
    refine k_bipush (v := 6) hk dX6_why_46 (by decide) ?_
    refine k_icmp_ne hk dX6_why_48 53 (by decide) (fun h29 => ?_) (fun h29 => ?_)
    · refine k_aload_n hk dX6_why_53 0 rfl ?_
      refine k_iload_n hk dX6_why_54 1 rfl ?_
      refine k_putf (k := 2) hk dX6_why_55 rfl (by decide) kc6 (by decide) fl_RX6_119 rfl rfl rfl rfl (fun σ30 => ?_)
      refine k_aload_n hk dX6_why_58 0 rfl ?_
      refine k_iconst (v := 0) hk dX6_why_59 (by decide) ?_
      refine k_putf (k := 4) hk dX6_why_60 rfl (by decide) kc6 (by decide) fl_RX6_122 rfl rfl rfl rfl (fun σ31 => ?_)
      refine k_aload_n hk dX6_why_63 0 rfl ?_
      refine k_iconst (v := 0) hk dX6_why_64 (by decide) ?_
      refine k_putf (k := 5) hk dX6_why_65 rfl (by decide) kc6 (by decide) fl_RX6_165 rfl rfl rfl rfl (fun σ32 => ?_)
      refine k_aload_n hk dX6_why_68 0 rfl ?_
      refine k_iconst (v := 0) hk dX6_why_69 (by decide) ?_
      refine k_putf (k := 6) hk dX6_why_70 rfl (by decide) kc6 (by decide) fl_RX6_129 rfl rfl rfl rfl (fun σ33 => ?_)
      refine k_aload_n hk dX6_why_73 0 rfl ?_
      refine k_iconst (v := (-1)) hk dX6_why_74 (by decide) ?_
      refine k_putf (k := 7) hk dX6_why_75 rfl (by decide) kc6 (by decide) fl_RX6_132 rfl rfl rfl rfl (fun σ34 => ?_)
      refine k_aload_n hk dX6_why_78 0 rfl ?_
      refine k_iconst (v := 0) hk dX6_why_79 (by decide) ?_
      refine k_putf (k := 8) hk dX6_why_80 rfl (by decide) kc6 (by decide) fl_RX6_135 rfl rfl rfl rfl (fun σ35 => ?_)
      refine k_aload_n hk dX6_why_83 0 rfl ?_
      refine k_iconst (v := 0) hk dX6_why_84 (by decide) ?_
      refine k_putf (k := 9) hk dX6_why_85 rfl (by decide) kc6 (by decide) fl_RX6_207 rfl rfl rfl rfl (fun σ36 => ?_)
      refine k_aload_n hk dX6_why_88 0 rfl ?_
      refine k_callVv (As := []) (rest := []) hk he hro (c_X6_blanks hj hn hl F   σ36) dX6_why_89 cw_RX6_138 rfl (by decide) kc6 rfl ⟨by decide, by decide⟩ (by decide) rfl (Nat.le_of_ble_eq_true rfl) (fun σ37 => ?_)
      exact k_sub [0] rfl (s_X6_why_b92 hj hn hl hk he hro F F   σ37)
    · refine k_iconst (v := (-1)) hk dX6_why_51 (by decide) ?_
      exact k_ireturn hk he dX6_why_52 (by decide)
  · refine k_iconst (v := 0) hk dX6_why_30 (by decide) ?_
    exact k_ireturn hk he dX6_why_31 (by decide)
def f_X6_why (F : Nat) (a1 : Int32) (σ : kS) : Option kR := kb (kU σ 48 0 0 0) fun σ38 => kBi (f_X6_in F a1 0 (σ38.1 48 0 1) σ38) fun c40 σ39 => if c40 = 0 then (f_X6_why_b23 F a1 1 σ39) else (f_X6_why_b23 F a1 0 σ39)
set_option maxRecDepth 20000 in
theorem c_X6_why {l : Launch} {E : kE} (hj : kEj E) (hn : kNorm E) (hl : l.stackTraces = false) (F : Nat) (a1 : Int32)  (σ : kS) : kMet l E yX6_why cX6_why 4 (some .int) (596) (12752) 0 id [.ref (kad E 48 0), .int a1] σ (f_X6_why F a1 σ) := by
  refine k_met hj hn hl (by decide) (Nat.le_of_ble_eq_true rfl) (fun C Q hk he hro => ?_)
  have hk : kOk (C, E, Q) cX6_why RX6 4 := hk
  show Sm (C, E, Q) 4 0 0 [(0, .ref (kad E 48 0)), (1, .int a1)] [] σ _
  unfold f_X6_why
  refine k_aload_n hk dX6_why_0 0 rfl ?_
  refine k_iconst (v := 0) hk dX6_why_1 (by decide) ?_
  refine k_putf (k := 0) hk dX6_why_2 rfl (by decide) kc6 (by decide) fl_RX6_113 rfl rfl rfl rfl (fun σ38 => ?_)
  refine k_aload_n hk dX6_why_5 0 rfl ?_
  refine k_iload_n hk dX6_why_6 1 rfl ?_
  refine k_iconst (v := 0) hk dX6_why_7 (by decide) ?_
  refine k_aload_n hk dX6_why_8 0 rfl ?_
  refine k_getf (k := 1) hk dX6_why_9 rfl (by decide) kc6 (by decide) fl_RX6_116 rfl ?_
  refine k_callSi (As := [.int a1, .int 0, .int (σ38.1 48 0 1)]) (rest := [.ref (kad E 48 0)]) hk he hro (c_X6_in hj hn hl F a1 0 (σ38.1 48 0 1)  σ38) dX6_why_12 cw_RX6_150 ⟨by decide, by decide⟩ (by decide) rfl (Nat.le_of_ble_eq_true rfl) (fun c40 σ39 => ?_)
  refine k_if_ne hk dX6_why_15 22 (by decide) (fun h41 => ?_) (fun h41 => ?_)
  · refine k_iconst (v := 0) hk dX6_why_22 (by decide) ?_
    exact k_sub [0, 1] rfl (s_X6_why_b23 hj hn hl hk he hro F  a1 0  σ39)
  · refine k_iconst (v := 1) hk dX6_why_18 (by decide) ?_
    refine k_goto hk dX6_why_19 23 (by decide) ?_
    exact k_sub [0, 1] rfl (s_X6_why_b23 hj hn hl hk he hro F  a1 1  σ39)
