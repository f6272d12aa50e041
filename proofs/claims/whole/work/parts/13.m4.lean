def f_X6_option_b67 (F : Nat)  (σ : kS) : Option kR := some (.inl (some (.int 0)), σ)
set_option maxRecDepth 20000 in
theorem s_X6_option_b67 {l : Launch} {E : kE} (hj : kEj E) (hn : kNorm E) (hl : l.stackTraces = false) {C : kC} {Q : kR → State → Prop} (hk : kOk (C, E, Q) cX6_option RX6 4) (he : kEnd (C, E, Q) (some .int) id 0) (hro : kRo C l (1) (22) 0) (F : Nat) : ∀   (σ : kS), Sm (C, E, Q) 4 0 67 [] [] σ (f_X6_option_b67 F  σ) := by
  intro   σ
  unfold f_X6_option_b67
  refine k_iconst (v := 0) hk dX6_option_67 (by decide) ?_
  exact k_ireturn hk he dX6_option_68 (by decide)
def f_X6_option_b60 (F : Nat) (x1 : Int32) (x2 : Int32) (x3 : Int32) (t1 : Int32) (σ : kS) : Option kR := kBi (f_X6_bad F t1 1 σ) fun c2 σ1 => if c2 = 0 then (if (σ1.1 48 0 45) = 5 then (some (.inl (some (.int (-1))), σ1)) else (kg (kin (σ1.1 48 0 45) 5) (kb ((σ1.1 48 0 45).toNatClampNeg) fun j5 => kb (kU σ1 86 j5 0 x1) fun σ6 => kg (kin (σ6.1 48 0 45) 5) (kb ((σ6.1 48 0 45).toNatClampNeg) fun j7 => kb (kU σ6 86 j7 1 x2) fun σ8 => kg (kin (σ8.1 48 0 45) 5) (kb ((σ8.1 48 0 45).toNatClampNeg) fun j9 => kb (kU σ8 86 j9 2 x3) fun σ10 => kb (kU σ10 48 0 45 ((σ10.1 48 0 45) + 1)) fun σ11 => some (.inl (some (.int ((σ11.1 48 0 45) - 1))), σ11)))))) else (f_X6_option_b67 F  σ1)
set_option maxRecDepth 20000 in
theorem s_X6_option_b60 {l : Launch} {E : kE} (hj : kEj E) (hn : kNorm E) (hl : l.stackTraces = false) {C : kC} {Q : kR → State → Prop} (hk : kOk (C, E, Q) cX6_option RX6 4) (he : kEnd (C, E, Q) (some .int) id 0) (hro : kRo C l (1) (22) 0) (F : Nat) : ∀ (x1 : Int32) (x2 : Int32) (x3 : Int32) (t1 : Int32)  (σ : kS), Sm (C, E, Q) 4 0 60 [(0, .ref (kad E 48 0)), (1, .int x1), (2, .int x2), (3, .int x3)] [.int t1, .ref (kad E 48 0)] σ (f_X6_option_b60 F x1 x2 x3 t1 σ) := by
  intro x1 x2 x3 t1  σ
  unfold f_X6_option_b60
  refine k_iconst (v := 1) hk dX6_option_60 (by decide) ?_
  refine k_callVi (As := [.int t1, .int 1]) (rest := []) hk he hro (c_X6_bad hj hn hl F t1 1  σ) dX6_option_61 cw_RX6_220 rfl (by decide) kc6 rfl ⟨by decide, by decide⟩ (by decide) rfl (Nat.le_of_ble_eq_true rfl) (fun c2 σ1 => ?_)
  refine k_if_eq hk dX6_option_64 69 (by decide) (fun h3 => ?_) (fun h3 => ?_)
  · refine k_aload_n hk dX6_option_69 0 rfl ?_
    refine k_getf (k := 45) hk dX6_option_70 rfl (by decide) kc6 (by decide) fl_RX6_237 rfl ?_
    refine k_iconst (v := 5) hk dX6_option_73 (by decide) ?_
    refine k_icmp_ne hk dX6_option_74 79 (by decide) (fun h4 => ?_) (fun h4 => ?_)
    · refine k_aload_n hk dX6_option_79 0 rfl ?_
      refine k_getr (k := 49) 85 0 hk dX6_option_80 rfl (by decide) kc6 (by decide) fl_RX6_103 rfl rfl ?_
      refine k_aload_n hk dX6_option_83 0 rfl ?_
      refine k_getf (k := 45) hk dX6_option_84 rfl (by decide) kc6 (by decide) fl_RX6_237 rfl ?_
      refine k_aaldj (g' := 86) (fun z => z) hk dX6_option_87 rfl rfl rfl (by decide) (fun z => rfl) (by decide) (fun j5 hj5 => ?_)
      refine k_iconst (v := 0) hk dX6_option_88 (by decide) ?_
      refine k_iload_n hk dX6_option_89 1 rfl ?_
      refine k_iast_k (kk := 0) hk dX6_option_90 rfl hj5 (by decide) (by decide) (fun σ6 => ?_)
      refine k_aload_n hk dX6_option_91 0 rfl ?_
      refine k_getr (k := 49) 85 0 hk dX6_option_92 rfl (by decide) kc6 (by decide) fl_RX6_103 rfl rfl ?_
      refine k_aload_n hk dX6_option_95 0 rfl ?_
      refine k_getf (k := 45) hk dX6_option_96 rfl (by decide) kc6 (by decide) fl_RX6_237 rfl ?_
      refine k_aaldj (g' := 86) (fun z => z) hk dX6_option_99 rfl rfl rfl (by decide) (fun z => rfl) (by decide) (fun j7 hj7 => ?_)
      refine k_iconst (v := 1) hk dX6_option_100 (by decide) ?_
      refine k_iload_n hk dX6_option_101 2 rfl ?_
      refine k_iast_k (kk := 1) hk dX6_option_102 rfl hj7 (by decide) (by decide) (fun σ8 => ?_)
      refine k_aload_n hk dX6_option_103 0 rfl ?_
      refine k_getr (k := 49) 85 0 hk dX6_option_104 rfl (by decide) kc6 (by decide) fl_RX6_103 rfl rfl ?_
      refine k_aload_n hk dX6_option_107 0 rfl ?_
      refine k_getf (k := 45) hk dX6_option_108 rfl (by decide) kc6 (by decide) fl_RX6_237 rfl ?_
      refine k_aaldj (g' := 86) (fun z => z) hk dX6_option_111 rfl rfl rfl (by decide) (fun z => rfl) (by decide) (fun j9 hj9 => ?_)
      refine k_iconst (v := 2) hk dX6_option_112 (by decide) ?_
      refine k_iload_n hk dX6_option_113 3 rfl ?_
      refine k_iast_k (kk := 2) hk dX6_option_114 rfl hj9 (by decide) (by decide) (fun σ10 => ?_)
      refine k_aload_n hk dX6_option_115 0 rfl ?_
      refine k_dup hk dX6_option_116 rfl ?_
      refine k_getf (k := 45) hk dX6_option_117 rfl (by decide) kc6 (by decide) fl_RX6_237 rfl ?_
      refine k_iconst (v := 1) hk dX6_option_120 (by decide) ?_
      refine k_iadd hk dX6_option_121 ?_
      refine k_putf (k := 45) hk dX6_option_122 rfl (by decide) kc6 (by decide) fl_RX6_237 rfl rfl rfl rfl (fun σ11 => ?_)
      refine k_aload_n hk dX6_option_125 0 rfl ?_
      refine k_getf (k := 45) hk dX6_option_126 rfl (by decide) kc6 (by decide) fl_RX6_237 rfl ?_
      refine k_iconst (v := 1) hk dX6_option_129 (by decide) ?_
      refine k_isub hk dX6_option_130 ?_
      exact k_ireturn hk he dX6_option_131 (by decide)
    · refine k_iconst (v := (-1)) hk dX6_option_77 (by decide) ?_
      exact k_ireturn hk he dX6_option_78 (by decide)
  · exact k_sub [] rfl (s_X6_option_b67 hj hn hl hk he hro F    σ1)
def f_X6_option_b32 (F : Nat) (x1 : Int32) (x2 : Int32) (x3 : Int32) (t1 : Int32) (σ : kS) : Option kR := kBi (f_X6_bad F t1 1 σ) fun c13 σ12 => if c13 = 0 then (kBi (f_X6_lowest F x1 σ12) fun c16 σ15 => kBi (f_X6_highest F x1 σ15) fun c18 σ17 => kBi (f_X6_in F x2 c16 c18 σ17) fun c20 σ19 => if c20 = 0 then (f_X6_option_b60 F x1 x2 x3 1 σ19) else (f_X6_option_b60 F x1 x2 x3 0 σ19)) else (f_X6_option_b67 F  σ12)
set_option maxRecDepth 20000 in
theorem s_X6_option_b32 {l : Launch} {E : kE} (hj : kEj E) (hn : kNorm E) (hl : l.stackTraces = false) {C : kC} {Q : kR → State → Prop} (hk : kOk (C, E, Q) cX6_option RX6 4) (he : kEnd (C, E, Q) (some .int) id 0) (hro : kRo C l (1) (22) 0) (F : Nat) : ∀ (x1 : Int32) (x2 : Int32) (x3 : Int32) (t1 : Int32)  (σ : kS), Sm (C, E, Q) 4 0 32 [(0, .ref (kad E 48 0)), (1, .int x1), (2, .int x2), (3, .int x3)] [.int t1, .ref (kad E 48 0)] σ (f_X6_option_b32 F x1 x2 x3 t1 σ) := by
  intro x1 x2 x3 t1  σ
  unfold f_X6_option_b32
  refine k_iconst (v := 1) hk dX6_option_32 (by decide) ?_
  refine k_callVi (As := [.int t1, .int 1]) (rest := []) hk he hro (c_X6_bad hj hn hl F t1 1  σ) dX6_option_33 cw_RX6_220 rfl (by decide) kc6 rfl ⟨by decide, by decide⟩ (by decide) rfl (Nat.le_of_ble_eq_true rfl) (fun c13 σ12 => ?_)
  refine k_if_ne hk dX6_option_36 67 (by decide) (fun h14 => ?_) (fun h14 => ?_)
  · exact k_sub [] rfl (s_X6_option_b67 hj hn hl hk he hro F    σ12)
  · refine k_aload_n hk dX6_option_39 0 rfl ?_
    refine k_iload_n hk dX6_option_40 2 rfl ?_
    refine k_iload_n hk dX6_option_41 1 rfl ?_
    refine k_callSi (As := [.int x1]) (rest := [.int x2, .ref (kad E 48 0)]) hk he hro (c_X6_lowest hj hn hl F x1  σ12) dX6_option_42 cw_RX6_214 ⟨by decide, by decide⟩ (by decide) rfl (Nat.le_of_ble_eq_true rfl) (fun c16 σ15 => ?_)
    refine k_iload_n hk dX6_option_45 1 rfl ?_
    refine k_callSi (As := [.int x1]) (rest := [.int c16, .int x2, .ref (kad E 48 0)]) hk he hro (c_X6_highest hj hn hl F x1  σ15) dX6_option_46 cw_RX6_217 ⟨by decide, by decide⟩ (by decide) rfl (Nat.le_of_ble_eq_true rfl) (fun c18 σ17 => ?_)
    refine k_callSi (As := [.int x2, .int c16, .int c18]) (rest := [.ref (kad E 48 0)]) hk he hro (c_X6_in hj hn hl F x2 c16 c18  σ17) dX6_option_49 cw_RX6_150 ⟨by decide, by decide⟩ (by decide) rfl (Nat.le_of_ble_eq_true rfl) (fun c20 σ19 => ?_)
    refine k_if_ne hk dX6_option_52 59 (by decide) (fun h21 => ?_) (fun h21 => ?_)
    · refine k_iconst (v := 0) hk dX6_option_59 (by decide) ?_
      exact k_sub [0, 1, 2, 3] rfl (s_X6_option_b60 hj hn hl hk he hro F  x1 x2 x3 0  σ19)
    · refine k_iconst (v := 1) hk dX6_option_55 (by decide) ?_
      refine k_goto hk dX6_option_56 60 (by decide) ?_
      exact k_sub [0, 1, 2, 3] rfl (s_X6_option_b60 hj hn hl hk he hro F  x1 x2 x3 1  σ19)
def f_X6_option_b27 (F : Nat) (x1 : Int32) (x2 : Int32) (x3 : Int32) (σ : kS) : Option kR := f_X6_option_b32 F x1 x2 x3 1 σ
set_option maxRecDepth 20000 in
theorem s_X6_option_b27 {l : Launch} {E : kE} (hj : kEj E) (hn : kNorm E) (hl : l.stackTraces = false) {C : kC} {Q : kR → State → Prop} (hk : kOk (C, E, Q) cX6_option RX6 4) (he : kEnd (C, E, Q) (some .int) id 0) (hro : kRo C l (1) (22) 0) (F : Nat) : ∀ (x1 : Int32) (x2 : Int32) (x3 : Int32)  (σ : kS), Sm (C, E, Q) 4 0 27 [(0, .ref (kad E 48 0)), (1, .int x1), (2, .int x2), (3, .int x3)] [.ref (kad E 48 0)] σ (f_X6_option_b27 F x1 x2 x3 σ) := by
  intro x1 x2 x3  σ
  unfold f_X6_option_b27
  refine k_iconst (v := 1) hk dX6_option_27 (by decide) ?_
  refine k_goto hk dX6_option_28 32 (by decide) ?_
  exact k_sub [0, 1, 2, 3] rfl (s_X6_option_b32 hj hn hl hk he hro F  x1 x2 x3 1  σ)
def f_X6_option (F : Nat) (a1 : Int32) (a2 : Int32) (a3 : Int32) (σ : kS) : Option kR := kb (kU σ 48 0 0 0) fun σ22 => kBi (f_X6_in F a1 0 9 σ22) fun c24 σ23 => if c24 = 0 then (f_X6_option_b27 F a1 a2 a3 σ23) else (kBi (f_X6_in F a3 0 999 σ23) fun c27 σ26 => if c27 = 0 then (f_X6_option_b27 F a1 a2 a3 σ26) else (f_X6_option_b32 F a1 a2 a3 0 σ26))
set_option maxRecDepth 20000 in
theorem c_X6_option {l : Launch} {E : kE} (hj : kEj E) (hn : kNorm E) (hl : l.stackTraces = false) (F : Nat) (a1 : Int32) (a2 : Int32) (a3 : Int32)  (σ : kS) : kMet l E yX6_option cX6_option 4 (some .int) (1) (22) 0 id [.ref (kad E 48 0), .int a1, .int a2, .int a3] σ (f_X6_option F a1 a2 a3 σ) := by
  refine k_met hj hn hl (by decide) (Nat.le_of_ble_eq_true rfl) (fun C Q hk he hro => ?_)
  have hk : kOk (C, E, Q) cX6_option RX6 4 := hk
  show Sm (C, E, Q) 4 0 0 [(0, .ref (kad E 48 0)), (1, .int a1), (2, .int a2), (3, .int a3)] [] σ _
  unfold f_X6_option
  refine k_aload_n hk dX6_option_0 0 rfl ?_
  refine k_iconst (v := 0) hk dX6_option_1 (by decide) ?_
  refine k_putf (k := 0) hk dX6_option_2 rfl (by decide) kc6 (by decide) fl_RX6_113 rfl rfl rfl rfl (fun σ22 => ?_)
  refine k_aload_n hk dX6_option_5 0 rfl ?_
  refine k_iload_n hk dX6_option_6 1 rfl ?_
  refine k_iconst (v := 0) hk dX6_option_7 (by decide) ?_
  refine k_bipush (v := 9) hk dX6_option_8 (by decide) ?_
  refine k_callSi (As := [.int a1, .int 0, .int 9]) (rest := [.ref (kad E 48 0)]) hk he hro (c_X6_in hj hn hl F a1 0 9  σ22) dX6_option_10 cw_RX6_150 ⟨by decide, by decide⟩ (by decide) rfl (Nat.le_of_ble_eq_true rfl) (fun c24 σ23 => ?_)
  refine k_if_eq hk dX6_option_13 27 (by decide) (fun h25 => ?_) (fun h25 => ?_)
  · exact k_sub [0, 1, 2, 3] rfl (s_X6_option_b27 hj hn hl hk he hro F  a1 a2 a3  σ23)
  · refine k_iload_n hk dX6_option_16 3 rfl ?_
    refine k_iconst (v := 0) hk dX6_option_17 (by decide) ?_
    refine k_sipush (v := 999) hk dX6_option_18 (by decide) ?_
    refine k_callSi (As := [.int a3, .int 0, .int 999]) (rest := [.ref (kad E 48 0)]) hk he hro (c_X6_in hj hn hl F a3 0 999  σ23) dX6_option_21 cw_RX6_150 ⟨by decide, by decide⟩ (by decide) rfl (Nat.le_of_ble_eq_true rfl) (fun c27 σ26 => ?_)
    refine k_if_ne hk dX6_option_24 31 (by decide) (fun h28 => ?_) (fun h28 => ?_)
    · refine k_iconst (v := 0) hk dX6_option_31 (by decide) ?_
      exact k_sub [0, 1, 2, 3] rfl (s_X6_option_b32 hj hn hl hk he hro F  a1 a2 a3 0  σ26)
    · exact k_sub [0, 1, 2, 3] rfl (s_X6_option_b27 hj hn hl hk he hro F  a1 a2 a3  σ26)
def f_X6_isSafe_b36 (F : Nat) (t0 : Int32) (σ : kS) : Option kR := kg (narrow .boolean (.int t0) = .int t0) (some (.inl (some (.int t0)), σ))
set_option maxRecDepth 20000 in
theorem s_X6_isSafe_b36 {l : Launch} {E : kE} (hj : kEj E) (hn : kNorm E) (hl : l.stackTraces = false) {C : kC} {Q : kR → State → Prop} (hk : kOk (C, E, Q) cX6_isSafe RX6 4) (he : kEnd (C, E, Q) (some .boolean) id 0) (hro : kRo C l (4) (99) 0) (F : Nat) : ∀ (t0 : Int32)  (σ : kS), Sm (C, E, Q) 4 0 36 [] [.int t0] σ (f_X6_isSafe_b36 F t0 σ) := by
  intro t0  σ
  unfold f_X6_isSafe_b36
  exact k_zreturn hk he dX6_isSafe_36 (by decide)
def f_X6_isSafe_b31 (F : Nat)  (σ : kS) : Option kR := f_X6_isSafe_b36 F 1 σ
set_option maxRecDepth 20000 in
theorem s_X6_isSafe_b31 {l : Launch} {E : kE} (hj : kEj E) (hn : kNorm E) (hl : l.stackTraces = false) {C : kC} {Q : kR → State → Prop} (hk : kOk (C, E, Q) cX6_isSafe RX6 4) (he : kEnd (C, E, Q) (some .boolean) id 0) (hro : kRo C l (4) (99) 0) (F : Nat) : ∀   (σ : kS), Sm (C, E, Q) 4 0 31 [] [] σ (f_X6_isSafe_b31 F  σ) := by
  intro   σ
  unfold f_X6_isSafe_b31
  refine k_iconst (v := 1) hk dX6_isSafe_31 (by decide) ?_
  refine k_goto hk dX6_isSafe_32 36 (by decide) ?_
  exact k_sub [] rfl (s_X6_isSafe_b36 hj hn hl hk he hro F  1  σ)
def f_X6_isSafe (F : Nat) (a1 : Int32) (a2 : Int32) (a3 : Int32) (σ : kS) : Option kR := kb (kU σ 48 0 42 a2) fun σ1 => kBv (f_X6_runs F a1 σ1) fun σ2 => kb (kU σ2 48 0 42 0) fun σ3 => kBi (f_X6_lasted F  σ3) fun c5 σ4 => if c5 = (-1) then (f_X6_isSafe_b31 F  σ4) else (kBi (f_X6_lasted F  σ4) fun c8 σ7 => if c8 < a3 then (f_X6_isSafe_b36 F 0 σ7) else (f_X6_isSafe_b31 F  σ7))
set_option maxRecDepth 20000 in
theorem c_X6_isSafe {l : Launch} {E : kE} (hj : kEj E) (hn : kNorm E) (hl : l.stackTraces = false) (F : Nat) (a1 : Int32) (a2 : Int32) (a3 : Int32)  (σ : kS) : kMet l E yX6_isSafe cX6_isSafe 4 (some .boolean) (4) (99) 0 id [.ref (kad E 48 0), .int a1, .int a2, .int a3] σ (f_X6_isSafe F a1 a2 a3 σ) := by
  refine k_met hj hn hl (by decide) (Nat.le_of_ble_eq_true rfl) (fun C Q hk he hro => ?_)
  have hk : kOk (C, E, Q) cX6_isSafe RX6 4 := hk
  show Sm (C, E, Q) 4 0 0 [(0, .ref (kad E 48 0)), (1, .int a1), (2, .int a2), (3, .int a3)] [] σ _
  unfold f_X6_isSafe
  refine k_aload_n hk dX6_isSafe_0 0 rfl ?_
  refine k_iload_n hk dX6_isSafe_1 2 rfl ?_
  refine k_putf (k := 42) hk dX6_isSafe_2 rfl (by decide) kc6 (by decide) fl_RX6_240 rfl rfl rfl rfl (fun σ1 => ?_)
  refine k_aload_n hk dX6_isSafe_5 0 rfl ?_
  refine k_iload_n hk dX6_isSafe_6 1 rfl ?_
  refine k_callVv (As := [.int a1]) (rest := []) hk he hro (c_X6_runs hj hn hl F a1  σ1) dX6_isSafe_7 cw_RX6_279 rfl (by decide) kc6 rfl ⟨by decide, by decide⟩ (by decide) rfl (Nat.le_of_ble_eq_true rfl) (fun σ2 => ?_)
  refine k_aload_n hk dX6_isSafe_10 0 rfl ?_
  refine k_iconst (v := 0) hk dX6_isSafe_11 (by decide) ?_
  refine k_putf (k := 42) hk dX6_isSafe_12 rfl (by decide) kc6 (by decide) fl_RX6_240 rfl rfl rfl rfl (fun σ3 => ?_)
  refine k_aload_n hk dX6_isSafe_15 0 rfl ?_
  refine k_callVi (As := []) (rest := []) hk he hro (c_X6_lasted hj hn hl F   σ3) dX6_isSafe_16 cw_RX6_291 rfl (by decide) kc6 rfl ⟨by decide, by decide⟩ (by decide) rfl (Nat.le_of_ble_eq_true rfl) (fun c5 σ4 => ?_)
  refine k_iconst (v := (-1)) hk dX6_isSafe_19 (by decide) ?_
  refine k_icmp_eq hk dX6_isSafe_20 31 (by decide) (fun h6 => ?_) (fun h6 => ?_)
  · exact k_sub [] rfl (s_X6_isSafe_b31 hj hn hl hk he hro F    σ4)
  · refine k_aload_n hk dX6_isSafe_23 0 rfl ?_
    refine k_callVi (As := []) (rest := []) hk he hro (c_X6_lasted hj hn hl F   σ4) dX6_isSafe_24 cw_RX6_291 rfl (by decide) kc6 rfl ⟨by decide, by decide⟩ (by decide) rfl (Nat.le_of_ble_eq_true rfl) (fun c8 σ7 => ?_)
    refine k_iload_n hk dX6_isSafe_27 3 rfl ?_
    refine k_icmp_lt hk dX6_isSafe_28 35 (by decide) (fun h9 => ?_) (fun h9 => ?_)
    · refine k_iconst (v := 0) hk dX6_isSafe_35 (by decide) ?_
      exact k_sub [] rfl (s_X6_isSafe_b36 hj hn hl hk he hro F  0  σ7)
    · exact k_sub [] rfl (s_X6_isSafe_b31 hj hn hl hk he hro F    σ7)
def f_X6_safe_b65 (F : Nat)  (σ : kS) : Option kR := some (.inl (some (.int 0)), σ)
set_option maxRecDepth 20000 in
theorem s_X6_safe_b65 {l : Launch} {E : kE} (hj : kEj E) (hn : kNorm E) (hl : l.stackTraces = false) {C : kC} {Q : kR → State → Prop} (hk : kOk (C, E, Q) cX6_safe RX6 4) (he : kEnd (C, E, Q) (some .boolean) id 0) (hro : kRo C l (5) (122) 0) (F : Nat) : ∀   (σ : kS), Sm (C, E, Q) 4 0 65 [] [] σ (f_X6_safe_b65 F  σ) := by
  intro   σ
  unfold f_X6_safe_b65
  refine k_iconst (v := 0) hk dX6_safe_65 (by decide) ?_
  exact k_zreturn_c hk he dX6_safe_66 (by decide) rfl
def f_X6_safe_b58 (F : Nat) (x1 : Int32) (x2 : Int32) (x3 : Int32) (t1 : Int32) (σ : kS) : Option kR := kBi (f_X6_bad F t1 2 σ) fun c2 σ1 => if c2 = 0 then (kBi (f_X6_isSafe F x1 x2 x3 σ1) fun c5 σ4 => kg (narrow .boolean (.int c5) = .int c5) (some (.inl (some (.int c5)), σ4))) else (f_X6_safe_b65 F  σ1)
set_option maxRecDepth 20000 in
theorem s_X6_safe_b58 {l : Launch} {E : kE} (hj : kEj E) (hn : kNorm E) (hl : l.stackTraces = false) {C : kC} {Q : kR → State → Prop} (hk : kOk (C, E, Q) cX6_safe RX6 4) (he : kEnd (C, E, Q) (some .boolean) id 0) (hro : kRo C l (5) (122) 0) (F : Nat) : ∀ (x1 : Int32) (x2 : Int32) (x3 : Int32) (t1 : Int32)  (σ : kS), Sm (C, E, Q) 4 0 58 [(0, .ref (kad E 48 0)), (1, .int x1), (2, .int x2), (3, .int x3)] [.int t1, .ref (kad E 48 0)] σ (f_X6_safe_b58 F x1 x2 x3 t1 σ) := by
  intro x1 x2 x3 t1  σ
  unfold f_X6_safe_b58
  refine k_iconst (v := 2) hk dX6_safe_58 (by decide) ?_
  refine k_callVi (As := [.int t1, .int 2]) (rest := []) hk he hro (c_X6_bad hj hn hl F t1 2  σ) dX6_safe_59 cw_RX6_220 rfl (by decide) kc6 rfl ⟨by decide, by decide⟩ (by decide) rfl (Nat.le_of_ble_eq_true rfl) (fun c2 σ1 => ?_)
  refine k_if_eq hk dX6_safe_62 67 (by decide) (fun h3 => ?_) (fun h3 => ?_)
  · refine k_aload_n hk dX6_safe_67 0 rfl ?_
    refine k_iload_n hk dX6_safe_68 1 rfl ?_
    refine k_iload_n hk dX6_safe_69 2 rfl ?_
    refine k_iload_n hk dX6_safe_70 3 rfl ?_
    refine k_callVi (As := [.int x1, .int x2, .int x3]) (rest := []) hk he hro (c_X6_isSafe hj hn hl F x1 x2 x3  σ1) dX6_safe_71 cw_RX6_333 rfl (by decide) kc6 rfl ⟨by decide, by decide⟩ (by decide) rfl (Nat.le_of_ble_eq_true rfl) (fun c5 σ4 => ?_)
    exact k_zreturn hk he dX6_safe_74 (by decide)
  · exact k_sub [] rfl (s_X6_safe_b65 hj hn hl hk he hro F    σ1)
def f_X6_safe_b53 (F : Nat) (x1 : Int32) (x2 : Int32) (x3 : Int32) (σ : kS) : Option kR := f_X6_safe_b58 F x1 x2 x3 1 σ
set_option maxRecDepth 20000 in
theorem s_X6_safe_b53 {l : Launch} {E : kE} (hj : kEj E) (hn : kNorm E) (hl : l.stackTraces = false) {C : kC} {Q : kR → State → Prop} (hk : kOk (C, E, Q) cX6_safe RX6 4) (he : kEnd (C, E, Q) (some .boolean) id 0) (hro : kRo C l (5) (122) 0) (F : Nat) : ∀ (x1 : Int32) (x2 : Int32) (x3 : Int32)  (σ : kS), Sm (C, E, Q) 4 0 53 [(0, .ref (kad E 48 0)), (1, .int x1), (2, .int x2), (3, .int x3)] [.ref (kad E 48 0)] σ (f_X6_safe_b53 F x1 x2 x3 σ) := by
  intro x1 x2 x3  σ
  unfold f_X6_safe_b53
  refine k_iconst (v := 1) hk dX6_safe_53 (by decide) ?_
  refine k_goto hk dX6_safe_54 58 (by decide) ?_
  exact k_sub [0, 1, 2, 3] rfl (s_X6_safe_b58 hj hn hl hk he hro F  x1 x2 x3 1  σ)
def f_X6_safe_b19 (F : Nat) (x1 : Int32) (x2 : Int32) (x3 : Int32) (t1 : Int32) (σ : kS) : Option kR := kBi (f_X6_bad F t1 1 σ) fun c7 σ6 => if c7 = 0 then (kBi (f_X6_in F x2 0 ((1 <<< ((σ6.1 48 0 45) &&& 31)) - 1) σ6) fun c10 σ9 => if c10 = 0 then (f_X6_safe_b53 F x1 x2 x3 σ9) else (kBi (f_X6_in F x3 0 99 σ9) fun c13 σ12 => if c13 = 0 then (f_X6_safe_b53 F x1 x2 x3 σ12) else (f_X6_safe_b58 F x1 x2 x3 0 σ12))) else (f_X6_safe_b65 F  σ6)
set_option maxRecDepth 20000 in
theorem s_X6_safe_b19 {l : Launch} {E : kE} (hj : kEj E) (hn : kNorm E) (hl : l.stackTraces = false) {C : kC} {Q : kR → State → Prop} (hk : kOk (C, E, Q) cX6_safe RX6 4) (he : kEnd (C, E, Q) (some .boolean) id 0) (hro : kRo C l (5) (122) 0) (F : Nat) : ∀ (x1 : Int32) (x2 : Int32) (x3 : Int32) (t1 : Int32)  (σ : kS), Sm (C, E, Q) 4 0 19 [(0, .ref (kad E 48 0)), (1, .int x1), (2, .int x2), (3, .int x3)] [.int t1, .ref (kad E 48 0)] σ (f_X6_safe_b19 F x1 x2 x3 t1 σ) := by
  intro x1 x2 x3 t1  σ
  unfold f_X6_safe_b19
  refine k_iconst (v := 1) hk dX6_safe_19 (by decide) ?_
  refine k_callVi (As := [.int t1, .int 1]) (rest := []) hk he hro (c_X6_bad hj hn hl F t1 1  σ) dX6_safe_20 cw_RX6_220 rfl (by decide) kc6 rfl ⟨by decide, by decide⟩ (by decide) rfl (Nat.le_of_ble_eq_true rfl) (fun c7 σ6 => ?_)
  refine k_if_ne hk dX6_safe_23 65 (by decide) (fun h8 => ?_) (fun h8 => ?_)
  · exact k_sub [] rfl (s_X6_safe_b65 hj hn hl hk he hro F    σ6)
  · refine k_aload_n hk dX6_safe_26 0 rfl ?_
    refine k_iload_n hk dX6_safe_27 2 rfl ?_
    refine k_iconst (v := 0) hk dX6_safe_28 (by decide) ?_
    refine k_iconst (v := 1) hk dX6_safe_29 (by decide) ?_
    refine k_aload_n hk dX6_safe_30 0 rfl ?_
    refine k_getf (k := 45) hk dX6_safe_31 rfl (by decide) kc6 (by decide) fl_RX6_237 rfl ?_
    refine k_ishl hk dX6_safe_34 ?_
    refine k_iconst (v := 1) hk dX6_safe_35 (by decide) ?_
    refine k_isub hk dX6_safe_36 ?_
    refine k_callSi (As := [.int x2, .int 0, .int ((1 <<< ((σ6.1 48 0 45) &&& 31)) - 1)]) (rest := [.ref (kad E 48 0)]) hk he hro (c_X6_in hj hn hl F x2 0 ((1 <<< ((σ6.1 48 0 45) &&& 31)) - 1)  σ6) dX6_safe_37 cw_RX6_150 ⟨by decide, by decide⟩ (by decide) rfl (Nat.le_of_ble_eq_true rfl) (fun c10 σ9 => ?_)
    refine k_if_eq hk dX6_safe_40 53 (by decide) (fun h11 => ?_) (fun h11 => ?_)
    · exact k_sub [0, 1, 2, 3] rfl (s_X6_safe_b53 hj hn hl hk he hro F  x1 x2 x3  σ9)
    · refine k_iload_n hk dX6_safe_43 3 rfl ?_
      refine k_iconst (v := 0) hk dX6_safe_44 (by decide) ?_
      refine k_bipush (v := 99) hk dX6_safe_45 (by decide) ?_
      refine k_callSi (As := [.int x3, .int 0, .int 99]) (rest := [.ref (kad E 48 0)]) hk he hro (c_X6_in hj hn hl F x3 0 99  σ9) dX6_safe_47 cw_RX6_150 ⟨by decide, by decide⟩ (by decide) rfl (Nat.le_of_ble_eq_true rfl) (fun c13 σ12 => ?_)
      refine k_if_ne hk dX6_safe_50 57 (by decide) (fun h14 => ?_) (fun h14 => ?_)
      · refine k_iconst (v := 0) hk dX6_safe_57 (by decide) ?_
        exact k_sub [0, 1, 2, 3] rfl (s_X6_safe_b58 hj hn hl hk he hro F  x1 x2 x3 0  σ12)
      · exact k_sub [0, 1, 2, 3] rfl (s_X6_safe_b53 hj hn hl hk he hro F  x1 x2 x3  σ12)
def f_X6_safe (F : Nat) (a1 : Int32) (a2 : Int32) (a3 : Int32) (σ : kS) : Option kR := kb (kU σ 48 0 0 0) fun σ15 => kBi (f_X6_isWhy F a1 σ15) fun c17 σ16 => if c17 = 0 then (f_X6_safe_b19 F a1 a2 a3 1 σ16) else (f_X6_safe_b19 F a1 a2 a3 0 σ16)
set_option maxRecDepth 20000 in
theorem c_X6_safe {l : Launch} {E : kE} (hj : kEj E) (hn : kNorm E) (hl : l.stackTraces = false) (F : Nat) (a1 : Int32) (a2 : Int32) (a3 : Int32)  (σ : kS) : kMet l E yX6_safe cX6_safe 4 (some .boolean) (5) (122) 0 id [.ref (kad E 48 0), .int a1, .int a2, .int a3] σ (f_X6_safe F a1 a2 a3 σ) := by
  refine k_met hj hn hl (by decide) (Nat.le_of_ble_eq_true rfl) (fun C Q hk he hro => ?_)
  have hk : kOk (C, E, Q) cX6_safe RX6 4 := hk
  show Sm (C, E, Q) 4 0 0 [(0, .ref (kad E 48 0)), (1, .int a1), (2, .int a2), (3, .int a3)] [] σ _
  unfold f_X6_safe
  refine k_aload_n hk dX6_safe_0 0 rfl ?_
  refine k_iconst (v := 0) hk dX6_safe_1 (by decide) ?_
  refine k_putf (k := 0) hk dX6_safe_2 rfl (by decide) kc6 (by decide) fl_RX6_113 rfl rfl rfl rfl (fun σ15 => ?_)
  refine k_aload_n hk dX6_safe_5 0 rfl ?_
  refine k_aload_n hk dX6_safe_6 0 rfl ?_
  refine k_iload_n hk dX6_safe_7 1 rfl ?_
  refine k_callVi (As := [.int a1]) (rest := [.ref (kad E 48 0)]) hk he hro (c_X6_isWhy hj hn hl F a1  σ15) dX6_safe_8 cw_RX6_234 rfl (by decide) kc6 rfl ⟨by decide, by decide⟩ (by decide) rfl (Nat.le_of_ble_eq_true rfl) (fun c17 σ16 => ?_)
  refine k_if_ne hk dX6_safe_11 18 (by decide) (fun h18 => ?_) (fun h18 => ?_)
  · refine k_iconst (v := 0) hk dX6_safe_18 (by decide) ?_
    exact k_sub [0, 1, 2, 3] rfl (s_X6_safe_b19 hj hn hl hk he hro F  a1 a2 a3 0  σ16)
  · refine k_iconst (v := 1) hk dX6_safe_14 (by decide) ?_
    refine k_goto hk dX6_safe_15 19 (by decide) ?_
    exact k_sub [0, 1, 2, 3] rfl (s_X6_safe_b19 hj hn hl hk he hro F  a1 a2 a3 1  σ16)
def f_X6_isSafeAll_b16 (F : Nat) (rr16 : (Int32 × Int32 × Int32) → kS → Option kR) (a : (Int32 × Int32 × Int32)) (σ : kS) : Option kR := match a with
  | (x2, x3, x4) => if (σ.1 48 0 13) ≤ x4 then (some (.inl (some (.int 1)), σ)) else (kBi (f_X6_isSafe F x4 x2 x3 σ) fun c3 σ2 => if c3 = 0 then (some (.inl (some (.int 0)), σ2)) else (rr16 (x2, x3, x4 + 1) σ2))
set_option maxRecDepth 20000 in
theorem s_X6_isSafeAll_b16 {l : Launch} {E : kE} (hj : kEj E) (hn : kNorm E) (hl : l.stackTraces = false) {C : kC} {Q : kR → State → Prop} (hk : kOk (C, E, Q) cX6_isSafeAll RX6 5) (he : kEnd (C, E, Q) (some .boolean) id 0) (hro : kRo C l (5) (122) 0) (F : Nat) : ∀ (N9 : Nat) (x2 : Int32) (x3 : Int32) (x4 : Int32)  (σ : kS), Sm (C, E, Q) 5 0 16 [(0, .ref (kad E 48 0)), (2, .int x2), (3, .int x3), (4, .int x4)] [] σ (kFix (f_X6_isSafeAll_b16 F) N9 (x2, x3, x4) σ) := by
  intro N9
  induction N9 with
  | zero => intro x2 x3 x4  σ; exact k_no
  | succ N9 ih =>
    intro x2 x3 x4  σ
    show Sm _ _ _ _ _ _ _ (f_X6_isSafeAll_b16 F (kFix (f_X6_isSafeAll_b16 F) N9) (x2, x3, x4) σ)
    generalize kFix (f_X6_isSafeAll_b16 F) N9 = rr16 at ih
    have hrr16 := ih
    unfold f_X6_isSafeAll_b16
    dsimp only
    refine k_iload hk dX6_isSafeAll_16 3 rfl ?_
    refine k_aload_n hk dX6_isSafeAll_18 0 rfl ?_
    refine k_getf (k := 13) hk dX6_isSafeAll_19 rfl (by decide) kc6 (by decide) fl_RX6_224 rfl ?_
    refine k_icmp_ge hk dX6_isSafeAll_22 44 (by decide) (fun h1 => ?_) (fun h1 => ?_)
    · refine k_iconst (v := 1) hk dX6_isSafeAll_44 (by decide) ?_
      exact k_zreturn_c hk he dX6_isSafeAll_45 (by decide) rfl
    · refine k_aload_n hk dX6_isSafeAll_25 0 rfl ?_
      refine k_iload hk dX6_isSafeAll_26 3 rfl ?_
      refine k_iload_n hk dX6_isSafeAll_28 1 rfl ?_
      refine k_iload_n hk dX6_isSafeAll_29 2 rfl ?_
      refine k_callVi (As := [.int x4, .int x2, .int x3]) (rest := []) hk he hro (c_X6_isSafe hj hn hl F x4 x2 x3  σ) dX6_isSafeAll_30 cw_RX6_333 rfl (by decide) kc6 rfl ⟨by decide, by decide⟩ (by decide) rfl (Nat.le_of_ble_eq_true rfl) (fun c3 σ2 => ?_)
      refine k_if_ne hk dX6_isSafeAll_33 38 (by decide) (fun h4 => ?_) (fun h4 => ?_)
      · refine k_iinc (lv' := [(4, .int (x4 + 1)), (0, .ref (kad E 48 0)), (2, .int x2), (3, .int x3)]) (j := 3) (y := x4 + 1) hk dX6_isSafeAll_38 rfl rfl (by decide) rfl ?_
        refine k_goto hk dX6_isSafeAll_41 16 (by decide) ?_
        exact k_sub [1, 2, 3, 0] rfl (hrr16 x2 x3 (x4 + 1)  σ2)
      · refine k_iconst (v := 0) hk dX6_isSafeAll_36 (by decide) ?_
        exact k_zreturn_c hk he dX6_isSafeAll_37 (by decide) rfl
def f_X6_isSafeAll (F : Nat) (a1 : Int32) (a2 : Int32) (a3 : Int32) (σ : kS) : Option kR := if a1 = (-1) then (kFix (f_X6_isSafeAll_b16 F) F (a2, a3, 0) σ) else (kBi (f_X6_isSafe F a1 a2 a3 σ) fun c7 σ6 => kg (narrow .boolean (.int c7) = .int c7) (some (.inl (some (.int c7)), σ6)))
set_option maxRecDepth 20000 in
theorem c_X6_isSafeAll {l : Launch} {E : kE} (hj : kEj E) (hn : kNorm E) (hl : l.stackTraces = false) (F : Nat) (a1 : Int32) (a2 : Int32) (a3 : Int32)  (σ : kS) : kMet l E yX6_isSafeAll cX6_isSafeAll 5 (some .boolean) (5) (122) 0 id [.ref (kad E 48 0), .int a1, .int a2, .int a3] σ (f_X6_isSafeAll F a1 a2 a3 σ) := by
  refine k_met hj hn hl (by decide) (Nat.le_of_ble_eq_true rfl) (fun C Q hk he hro => ?_)
  have hk : kOk (C, E, Q) cX6_isSafeAll RX6 5 := hk
  show Sm (C, E, Q) 5 0 0 [(0, .ref (kad E 48 0)), (1, .int a1), (2, .int a2), (3, .int a3)] [] σ _
  unfold f_X6_isSafeAll
  refine k_iload_n hk dX6_isSafeAll_0 1 rfl ?_
  refine k_iconst (v := (-1)) hk dX6_isSafeAll_1 (by decide) ?_
  refine k_icmp_eq hk dX6_isSafeAll_2 13 (by decide) (fun h5 => ?_) (fun h5 => ?_)
  · refine k_iconst (v := 0) hk dX6_isSafeAll_13 (by decide) ?_
    refine k_istore (lv' := [(4, .int 0), (0, .ref (kad E 48 0)), (1, .int a1), (2, .int a2), (3, .int a3)]) hk dX6_isSafeAll_14 (by decide) rfl ?_
    exact k_sub [1, 3, 4, 0] rfl (s_X6_isSafeAll_b16 hj hn hl hk he hro F F a2 a3 0  σ)
  · refine k_aload_n hk dX6_isSafeAll_5 0 rfl ?_
    refine k_iload_n hk dX6_isSafeAll_6 1 rfl ?_
    refine k_iload_n hk dX6_isSafeAll_7 2 rfl ?_
    refine k_iload_n hk dX6_isSafeAll_8 3 rfl ?_
    refine k_callVi (As := [.int a1, .int a2, .int a3]) (rest := []) hk he hro (c_X6_isSafe hj hn hl F a1 a2 a3  σ) dX6_isSafeAll_9 cw_RX6_333 rfl (by decide) kc6 rfl ⟨by decide, by decide⟩ (by decide) rfl (Nat.le_of_ble_eq_true rfl) (fun c7 σ6 => ?_)
    exact k_zreturn hk he dX6_isSafeAll_12 (by decide)
def f_X6_leastOf_b102 (F : Nat) (rr8 : (Int32 × Int32 × Int32 × Int32 × Int32) → kS → Option kR) (x1 : Int32) (x2 : Int32) (x3 : Int32) (x4 : Int32) (x5 : Int32) (σ : kS) : Option kR := rr8 (x1, x2, x3, x4, x5 + 1) σ
set_option maxRecDepth 20000 in
theorem s_X6_leastOf_b102 {l : Launch} {E : kE} (hj : kEj E) (hn : kNorm E) (hl : l.stackTraces = false) {C : kC} {Q : kR → State → Prop} (hk : kOk (C, E, Q) cX6_leastOf RX6 8) (he : kEnd (C, E, Q) (some .int) id 0) (hro : kRo C l (6) (146) 0) (F : Nat) (rr8 : (Int32 × Int32 × Int32 × Int32 × Int32) → kS → Option kR) (hrr8 : ∀ (x1 : Int32) (x2 : Int32) (x3 : Int32) (x4 : Int32) (x5 : Int32)  (σ : kS), Sm (C, E, Q) 8 0 8 [(0, .ref (kad E 48 0)), (1, .int x1), (2, .int x2), (3, .int x3), (4, .int x4), (5, .int x5)] [] σ (rr8 (x1, x2, x3, x4, x5) σ)) : ∀ (x1 : Int32) (x2 : Int32) (x3 : Int32) (x4 : Int32) (x5 : Int32)  (σ : kS), Sm (C, E, Q) 8 0 102 [(0, .ref (kad E 48 0)), (1, .int x1), (2, .int x2), (3, .int x3), (4, .int x4), (5, .int x5)] [] σ (f_X6_leastOf_b102 F rr8 x1 x2 x3 x4 x5 σ) := by
  intro x1 x2 x3 x4 x5  σ
  unfold f_X6_leastOf_b102
  refine k_iinc (lv' := [(5, .int (x5 + 1)), (0, .ref (kad E 48 0)), (1, .int x1), (2, .int x2), (3, .int x3), (4, .int x4)]) (j := 5) (y := x5 + 1) hk dX6_leastOf_102 rfl rfl (by decide) rfl ?_
  refine k_goto hk dX6_leastOf_105 8 (by decide) ?_
  exact k_sub [1, 2, 3, 4, 5, 0] rfl (hrr8 x1 x2 x3 x4 (x5 + 1)  σ)
def f_X6_leastOf_b81 (F : Nat) (rr8 : (Int32 × Int32 × Int32 × Int32 × Int32) → kS → Option kR) (x1 : Int32) (x2 : Int32) (x3 : Int32) (x4 : Int32) (x5 : Int32) (x6 : Int32) (σ : kS) : Option kR := kBi (f_X6_isSafeAll F x1 x5 x2 σ) fun c2 σ1 => if c2 = 0 then (f_X6_leastOf_b102 F rr8 x1 x2 x3 x4 x5 σ1) else (f_X6_leastOf_b102 F rr8 x1 x2 x5 x6 x5 σ1)
set_option maxRecDepth 20000 in
theorem s_X6_leastOf_b81 {l : Launch} {E : kE} (hj : kEj E) (hn : kNorm E) (hl : l.stackTraces = false) {C : kC} {Q : kR → State → Prop} (hk : kOk (C, E, Q) cX6_leastOf RX6 8) (he : kEnd (C, E, Q) (some .int) id 0) (hro : kRo C l (6) (146) 0) (F : Nat) (rr8 : (Int32 × Int32 × Int32 × Int32 × Int32) → kS → Option kR) (hrr8 : ∀ (x1 : Int32) (x2 : Int32) (x3 : Int32) (x4 : Int32) (x5 : Int32)  (σ : kS), Sm (C, E, Q) 8 0 8 [(0, .ref (kad E 48 0)), (1, .int x1), (2, .int x2), (3, .int x3), (4, .int x4), (5, .int x5)] [] σ (rr8 (x1, x2, x3, x4, x5) σ)) : ∀ (x1 : Int32) (x2 : Int32) (x3 : Int32) (x4 : Int32) (x5 : Int32) (x6 : Int32)  (σ : kS), Sm (C, E, Q) 8 0 81 [(0, .ref (kad E 48 0)), (1, .int x1), (2, .int x2), (3, .int x3), (4, .int x4), (5, .int x5), (6, .int x6)] [] σ (f_X6_leastOf_b81 F rr8 x1 x2 x3 x4 x5 x6 σ) := by
  intro x1 x2 x3 x4 x5 x6  σ
  unfold f_X6_leastOf_b81
  refine k_aload_n hk dX6_leastOf_81 0 rfl ?_
  refine k_iload_n hk dX6_leastOf_82 1 rfl ?_
  refine k_iload hk dX6_leastOf_83 5 rfl ?_
  refine k_iload_n hk dX6_leastOf_85 2 rfl ?_
  refine k_callVi (As := [.int x1, .int x5, .int x2]) (rest := []) hk he hro (c_X6_isSafeAll hj hn hl F x1 x5 x2  σ) dX6_leastOf_86 cw_RX6_336 rfl (by decide) kc6 rfl ⟨by decide, by decide⟩ (by decide) rfl (Nat.le_of_ble_eq_true rfl) (fun c2 σ1 => ?_)
  refine k_if_ne hk dX6_leastOf_89 95 (by decide) (fun h3 => ?_) (fun h3 => ?_)
  · refine k_iload hk dX6_leastOf_95 5 rfl ?_
    refine k_istore_n (lv' := [(3, .int x5), (0, .ref (kad E 48 0)), (1, .int x1), (2, .int x2), (4, .int x4), (5, .int x5), (6, .int x6)]) hk dX6_leastOf_97 (by decide) rfl ?_
    refine k_iload hk dX6_leastOf_98 6 rfl ?_
    refine k_istore (lv' := [(4, .int x6), (3, .int x5), (0, .ref (kad E 48 0)), (1, .int x1), (2, .int x2), (5, .int x5), (6, .int x6)]) hk dX6_leastOf_100 (by decide) rfl ?_
    exact k_sub [2, 3, 4, 1, 0, 5] rfl (s_X6_leastOf_b102 hj hn hl hk he hro F rr8 hrr8  x1 x2 x5 x6 x5  σ1)
  · refine k_goto hk dX6_leastOf_92 102 (by decide) ?_
    exact k_sub [0, 1, 2, 3, 4, 5] rfl (s_X6_leastOf_b102 hj hn hl hk he hro F rr8 hrr8  x1 x2 x3 x4 x5  σ1)
def f_X6_leastOf_b60 (F : Nat) (rr25 : (Int32 × Int32 × Int32 × Int32 × Int32 × Int32 × Int32) → kS → Option kR) (x1 : Int32) (x2 : Int32) (x3 : Int32) (x4 : Int32) (x5 : Int32) (x7 : Int32) (t0 : Int32) (t1 : Int32) (σ : kS) : Option kR := kb (t0 + t1) fun y4 => rr25 (x1, x2, x3, x4, x5, y4, x7 + 1) σ
set_option maxRecDepth 20000 in
theorem s_X6_leastOf_b60 {l : Launch} {E : kE} (hj : kEj E) (hn : kNorm E) (hl : l.stackTraces = false) {C : kC} {Q : kR → State → Prop} (hk : kOk (C, E, Q) cX6_leastOf RX6 8) (he : kEnd (C, E, Q) (some .int) id 0) (hro : kRo C l (6) (146) 0) (F : Nat) (rr25 : (Int32 × Int32 × Int32 × Int32 × Int32 × Int32 × Int32) → kS → Option kR) (hrr25 : ∀ (x1 : Int32) (x2 : Int32) (x3 : Int32) (x4 : Int32) (x5 : Int32) (x6 : Int32) (x7 : Int32)  (σ : kS), Sm (C, E, Q) 8 0 25 [(0, .ref (kad E 48 0)), (1, .int x1), (2, .int x2), (3, .int x3), (4, .int x4), (5, .int x5), (6, .int x6), (7, .int x7)] [] σ (rr25 (x1, x2, x3, x4, x5, x6, x7) σ)) : ∀ (x1 : Int32) (x2 : Int32) (x3 : Int32) (x4 : Int32) (x5 : Int32) (x7 : Int32) (t0 : Int32) (t1 : Int32)  (σ : kS), Sm (C, E, Q) 8 0 60 [(0, .ref (kad E 48 0)), (1, .int x1), (2, .int x2), (3, .int x3), (4, .int x4), (5, .int x5), (7, .int x7)] [.int t1, .int t0] σ (f_X6_leastOf_b60 F rr25 x1 x2 x3 x4 x5 x7 t0 t1 σ) := by
  intro x1 x2 x3 x4 x5 x7 t0 t1  σ
  unfold f_X6_leastOf_b60
  refine k_iadd hk dX6_leastOf_60 ?_
  refine k_nm (fun y4 => ?_)
  refine k_istore (lv' := [(6, .int y4), (0, .ref (kad E 48 0)), (1, .int x1), (2, .int x2), (3, .int x3), (4, .int x4), (5, .int x5), (7, .int x7)]) hk dX6_leastOf_61 (by decide) rfl ?_
  refine k_iinc (lv' := [(7, .int (x7 + 1)), (6, .int y4), (0, .ref (kad E 48 0)), (1, .int x1), (2, .int x2), (3, .int x3), (4, .int x4), (5, .int x5)]) (j := 7) (y := x7 + 1) hk dX6_leastOf_63 rfl rfl (by decide) rfl ?_
  refine k_goto hk dX6_leastOf_66 25 (by decide) ?_
  exact k_sub [2, 3, 4, 5, 6, 7, 1, 0] rfl (hrr25 x1 x2 x3 x4 x5 y4 (x7 + 1)  σ)
def f_X6_leastOf_b25 (F : Nat) (rr8 : (Int32 × Int32 × Int32 × Int32 × Int32) → kS → Option kR) (rr25 : (Int32 × Int32 × Int32 × Int32 × Int32 × Int32 × Int32) → kS → Option kR) (a : (Int32 × Int32 × Int32 × Int32 × Int32 × Int32 × Int32)) (σ : kS) : Option kR := match a with
  | (x1, x2, x3, x4, x5, x6, x7) => if (σ.1 48 0 45) ≤ x7 then (if x3 = (-1) then (f_X6_leastOf_b81 F rr8 x1 x2 x3 x4 x5 x6 σ) else (if x4 ≤ x6 then (f_X6_leastOf_b102 F rr8 x1 x2 x3 x4 x5 σ) else (f_X6_leastOf_b81 F rr8 x1 x2 x3 x4 x5 x6 σ))) else (if ((x5 >>> (x7 &&& 31)) &&& 1) = 1 then (kg (kin x7 5) (kb (x7.toNatClampNeg) fun j9 => f_X6_leastOf_b60 F rr25 x1 x2 x3 x4 x5 x7 x6 (σ.1 86 j9 2) σ)) else (f_X6_leastOf_b60 F rr25 x1 x2 x3 x4 x5 x7 x6 0 σ))
set_option maxRecDepth 20000 in
theorem s_X6_leastOf_b25 {l : Launch} {E : kE} (hj : kEj E) (hn : kNorm E) (hl : l.stackTraces = false) {C : kC} {Q : kR → State → Prop} (hk : kOk (C, E, Q) cX6_leastOf RX6 8) (he : kEnd (C, E, Q) (some .int) id 0) (hro : kRo C l (6) (146) 0) (F : Nat) (rr8 : (Int32 × Int32 × Int32 × Int32 × Int32) → kS → Option kR) (hrr8 : ∀ (x1 : Int32) (x2 : Int32) (x3 : Int32) (x4 : Int32) (x5 : Int32)  (σ : kS), Sm (C, E, Q) 8 0 8 [(0, .ref (kad E 48 0)), (1, .int x1), (2, .int x2), (3, .int x3), (4, .int x4), (5, .int x5)] [] σ (rr8 (x1, x2, x3, x4, x5) σ)) : ∀ (N9 : Nat) (x1 : Int32) (x2 : Int32) (x3 : Int32) (x4 : Int32) (x5 : Int32) (x6 : Int32) (x7 : Int32)  (σ : kS), Sm (C, E, Q) 8 0 25 [(0, .ref (kad E 48 0)), (1, .int x1), (2, .int x2), (3, .int x3), (4, .int x4), (5, .int x5), (6, .int x6), (7, .int x7)] [] σ (kFix (f_X6_leastOf_b25 F rr8) N9 (x1, x2, x3, x4, x5, x6, x7) σ) := by
  intro N9
  induction N9 with
  | zero => intro x1 x2 x3 x4 x5 x6 x7  σ; exact k_no
  | succ N9 ih =>
    intro x1 x2 x3 x4 x5 x6 x7  σ
    show Sm _ _ _ _ _ _ _ (f_X6_leastOf_b25 F rr8 (kFix (f_X6_leastOf_b25 F rr8) N9) (x1, x2, x3, x4, x5, x6, x7) σ)
    generalize kFix (f_X6_leastOf_b25 F rr8) N9 = rr25 at ih
    have hrr25 := ih
    unfold f_X6_leastOf_b25
    dsimp only
    refine k_iload hk dX6_leastOf_25 7 rfl ?_
    refine k_aload_n hk dX6_leastOf_27 0 rfl ?_
    refine k_getf (k := 45) hk dX6_leastOf_28 rfl (by decide) kc6 (by decide) fl_RX6_237 rfl ?_
    refine k_icmp_ge hk dX6_leastOf_31 69 (by decide) (fun h5 => ?_) (fun h5 => ?_)
    · refine k_iload_n hk dX6_leastOf_69 3 rfl ?_
      refine k_iconst (v := (-1)) hk dX6_leastOf_70 (by decide) ?_
      refine k_icmp_eq hk dX6_leastOf_71 81 (by decide) (fun h6 => ?_) (fun h6 => ?_)
      · exact k_sub [0, 1, 2, 3, 4, 5, 6] rfl (s_X6_leastOf_b81 hj hn hl hk he hro F rr8 hrr8  x1 x2 x3 x4 x5 x6  σ)
      · refine k_iload hk dX6_leastOf_74 6 rfl ?_
        refine k_iload hk dX6_leastOf_76 4 rfl ?_
        refine k_icmp_ge hk dX6_leastOf_78 102 (by decide) (fun h7 => ?_) (fun h7 => ?_)
        · exact k_sub [0, 1, 2, 3, 4, 5] rfl (s_X6_leastOf_b102 hj hn hl hk he hro F rr8 hrr8  x1 x2 x3 x4 x5  σ)
        · exact k_sub [0, 1, 2, 3, 4, 5, 6] rfl (s_X6_leastOf_b81 hj hn hl hk he hro F rr8 hrr8  x1 x2 x3 x4 x5 x6  σ)
    · refine k_iload hk dX6_leastOf_34 6 rfl ?_
      refine k_iload hk dX6_leastOf_36 5 rfl ?_
      refine k_iload hk dX6_leastOf_38 7 rfl ?_
      refine k_ishr hk dX6_leastOf_40 ?_
      refine k_iconst (v := 1) hk dX6_leastOf_41 (by decide) ?_
      refine k_iand hk dX6_leastOf_42 ?_
      refine k_iconst (v := 1) hk dX6_leastOf_43 (by decide) ?_
      refine k_icmp_ne hk dX6_leastOf_44 59 (by decide) (fun h8 => ?_) (fun h8 => ?_)
      · refine k_iconst (v := 0) hk dX6_leastOf_59 (by decide) ?_
        exact k_sub [0, 1, 2, 3, 4, 5, 7] rfl (s_X6_leastOf_b60 hj hn hl hk he hro F rr25 hrr25  x1 x2 x3 x4 x5 x7 x6 0  σ)
      · refine k_aload_n hk dX6_leastOf_47 0 rfl ?_
        refine k_getr (k := 49) 85 0 hk dX6_leastOf_48 rfl (by decide) kc6 (by decide) fl_RX6_103 rfl rfl ?_
        refine k_iload hk dX6_leastOf_51 7 rfl ?_
        refine k_aaldj (g' := 86) (fun z => z) hk dX6_leastOf_53 rfl rfl rfl (by decide) (fun z => rfl) (by decide) (fun j9 hj9 => ?_)
        refine k_iconst (v := 2) hk dX6_leastOf_54 (by decide) ?_
        refine k_iald_k (kk := 2) hk dX6_leastOf_55 rfl hj9 (by decide) (by decide) ?_
        refine k_goto hk dX6_leastOf_56 60 (by decide) ?_
        exact k_sub [0, 1, 2, 3, 4, 5, 7] rfl (s_X6_leastOf_b60 hj hn hl hk he hro F rr25 hrr25  x1 x2 x3 x4 x5 x7 x6 (σ.1 86 j9 2)  σ)
def f_X6_leastOf_b8 (F : Nat) (rr8 : (Int32 × Int32 × Int32 × Int32 × Int32) → kS → Option kR) (a : (Int32 × Int32 × Int32 × Int32 × Int32)) (σ : kS) : Option kR := match a with
  | (x1, x2, x3, x4, x5) => if (1 <<< ((σ.1 48 0 45) &&& 31)) ≤ x5 then (some (.inl (some (.int x3)), σ)) else (kFix (f_X6_leastOf_b25 F rr8) F (x1, x2, x3, x4, x5, 0, 0) σ)
set_option maxRecDepth 20000 in
theorem s_X6_leastOf_b8 {l : Launch} {E : kE} (hj : kEj E) (hn : kNorm E) (hl : l.stackTraces = false) {C : kC} {Q : kR → State → Prop} (hk : kOk (C, E, Q) cX6_leastOf RX6 8) (he : kEnd (C, E, Q) (some .int) id 0) (hro : kRo C l (6) (146) 0) (F : Nat) : ∀ (N9 : Nat) (x1 : Int32) (x2 : Int32) (x3 : Int32) (x4 : Int32) (x5 : Int32)  (σ : kS), Sm (C, E, Q) 8 0 8 [(0, .ref (kad E 48 0)), (1, .int x1), (2, .int x2), (3, .int x3), (4, .int x4), (5, .int x5)] [] σ (kFix (f_X6_leastOf_b8 F) N9 (x1, x2, x3, x4, x5) σ) := by
  intro N9
  induction N9 with
  | zero => intro x1 x2 x3 x4 x5  σ; exact k_no
  | succ N9 ih =>
    intro x1 x2 x3 x4 x5  σ
    show Sm _ _ _ _ _ _ _ (f_X6_leastOf_b8 F (kFix (f_X6_leastOf_b8 F) N9) (x1, x2, x3, x4, x5) σ)
    generalize kFix (f_X6_leastOf_b8 F) N9 = rr8 at ih
    have hrr8 := ih
    unfold f_X6_leastOf_b8
    dsimp only
    refine k_iload hk dX6_leastOf_8 5 rfl ?_
    refine k_iconst (v := 1) hk dX6_leastOf_10 (by decide) ?_
    refine k_aload_n hk dX6_leastOf_11 0 rfl ?_
    refine k_getf (k := 45) hk dX6_leastOf_12 rfl (by decide) kc6 (by decide) fl_RX6_237 rfl ?_
    refine k_ishl hk dX6_leastOf_15 ?_
    refine k_icmp_ge hk dX6_leastOf_16 108 (by decide) (fun h10 => ?_) (fun h10 => ?_)
    · refine k_iload_n hk dX6_leastOf_108 3 rfl ?_
      exact k_ireturn hk he dX6_leastOf_109 (by decide)
    · refine k_iconst (v := 0) hk dX6_leastOf_19 (by decide) ?_
      refine k_istore (lv' := [(6, .int 0), (0, .ref (kad E 48 0)), (1, .int x1), (2, .int x2), (3, .int x3), (4, .int x4), (5, .int x5)]) hk dX6_leastOf_20 (by decide) rfl ?_
      refine k_iconst (v := 0) hk dX6_leastOf_22 (by decide) ?_
      refine k_istore (lv' := [(7, .int 0), (6, .int 0), (0, .ref (kad E 48 0)), (1, .int x1), (2, .int x2), (3, .int x3), (4, .int x4), (5, .int x5)]) hk dX6_leastOf_23 (by decide) rfl ?_
      exact k_sub [2, 3, 4, 5, 6, 7, 1, 0] rfl (s_X6_leastOf_b25 hj hn hl hk he hro F rr8 hrr8 F x1 x2 x3 x4 x5 0 0  σ)
def f_X6_leastOf (F : Nat) (a1 : Int32) (a2 : Int32) (σ : kS) : Option kR := kFix (f_X6_leastOf_b8 F) F (a1, a2, (-1), 0, 0) σ
set_option maxRecDepth 20000 in
theorem c_X6_leastOf {l : Launch} {E : kE} (hj : kEj E) (hn : kNorm E) (hl : l.stackTraces = false) (F : Nat) (a1 : Int32) (a2 : Int32)  (σ : kS) : kMet l E yX6_leastOf cX6_leastOf 8 (some .int) (6) (146) 0 id [.ref (kad E 48 0), .int a1, .int a2] σ (f_X6_leastOf F a1 a2 σ) := by
  refine k_met hj hn hl (by decide) (Nat.le_of_ble_eq_true rfl) (fun C Q hk he hro => ?_)
  have hk : kOk (C, E, Q) cX6_leastOf RX6 8 := hk
  show Sm (C, E, Q) 8 0 0 [(0, .ref (kad E 48 0)), (1, .int a1), (2, .int a2)] [] σ _
  unfold f_X6_leastOf
  refine k_iconst (v := (-1)) hk dX6_leastOf_0 (by decide) ?_
  refine k_istore_n (lv' := [(3, .int (-1)), (0, .ref (kad E 48 0)), (1, .int a1), (2, .int a2)]) hk dX6_leastOf_1 (by decide) rfl ?_
  refine k_iconst (v := 0) hk dX6_leastOf_2 (by decide) ?_
  refine k_istore (lv' := [(4, .int 0), (3, .int (-1)), (0, .ref (kad E 48 0)), (1, .int a1), (2, .int a2)]) hk dX6_leastOf_3 (by decide) rfl ?_
  refine k_iconst (v := 0) hk dX6_leastOf_5 (by decide) ?_
  refine k_istore (lv' := [(5, .int 0), (4, .int 0), (3, .int (-1)), (0, .ref (kad E 48 0)), (1, .int a1), (2, .int a2)]) hk dX6_leastOf_6 (by decide) rfl ?_
  exact k_sub [3, 4, 5, 2, 1, 0] rfl (s_X6_leastOf_b8 hj hn hl hk he hro F F a1 a2 (-1) 0 0  σ)
def f_X6_least_b49 (F : Nat)  (σ : kS) : Option kR := some (.inl (some (.int 0)), σ)
set_option maxRecDepth 20000 in
theorem s_X6_least_b49 {l : Launch} {E : kE} (hj : kEj E) (hn : kNorm E) (hl : l.stackTraces = false) {C : kC} {Q : kR → State → Prop} (hk : kOk (C, E, Q) cX6_least RX6 3) (he : kEnd (C, E, Q) (some .int) id 0) (hro : kRo C l (7) (173) 0) (F : Nat) : ∀   (σ : kS), Sm (C, E, Q) 3 0 49 [] [] σ (f_X6_least_b49 F  σ) := by
  intro   σ
  unfold f_X6_least_b49
  refine k_iconst (v := 0) hk dX6_least_49 (by decide) ?_
  exact k_ireturn hk he dX6_least_50 (by decide)
def f_X6_least_b42 (F : Nat) (x1 : Int32) (x2 : Int32) (t1 : Int32) (σ : kS) : Option kR := kBi (f_X6_bad F t1 2 σ) fun c2 σ1 => if c2 = 0 then (kBi (f_X6_leastOf F x1 x2 σ1) fun c5 σ4 => some (.inl (some (.int c5)), σ4)) else (f_X6_least_b49 F  σ1)
set_option maxRecDepth 20000 in
theorem s_X6_least_b42 {l : Launch} {E : kE} (hj : kEj E) (hn : kNorm E) (hl : l.stackTraces = false) {C : kC} {Q : kR → State → Prop} (hk : kOk (C, E, Q) cX6_least RX6 3) (he : kEnd (C, E, Q) (some .int) id 0) (hro : kRo C l (7) (173) 0) (F : Nat) : ∀ (x1 : Int32) (x2 : Int32) (t1 : Int32)  (σ : kS), Sm (C, E, Q) 3 0 42 [(0, .ref (kad E 48 0)), (1, .int x1), (2, .int x2)] [.int t1, .ref (kad E 48 0)] σ (f_X6_least_b42 F x1 x2 t1 σ) := by
  intro x1 x2 t1  σ
  unfold f_X6_least_b42
  refine k_iconst (v := 2) hk dX6_least_42 (by decide) ?_
  refine k_callVi (As := [.int t1, .int 2]) (rest := []) hk he hro (c_X6_bad hj hn hl F t1 2  σ) dX6_least_43 cw_RX6_220 rfl (by decide) kc6 rfl ⟨by decide, by decide⟩ (by decide) rfl (Nat.le_of_ble_eq_true rfl) (fun c2 σ1 => ?_)
  refine k_if_eq hk dX6_least_46 51 (by decide) (fun h3 => ?_) (fun h3 => ?_)
  · refine k_aload_n hk dX6_least_51 0 rfl ?_
    refine k_iload_n hk dX6_least_52 1 rfl ?_
    refine k_iload_n hk dX6_least_53 2 rfl ?_
    refine k_callVi (As := [.int x1, .int x2]) (rest := []) hk he hro (c_X6_leastOf hj hn hl F x1 x2  σ1) dX6_least_54 cw_RX6_339 rfl (by decide) kc6 rfl ⟨by decide, by decide⟩ (by decide) rfl (Nat.le_of_ble_eq_true rfl) (fun c5 σ4 => ?_)
    exact k_ireturn hk he dX6_least_57 (by decide)
  · exact k_sub [] rfl (s_X6_least_b49 hj hn hl hk he hro F    σ1)
def f_X6_least_b19 (F : Nat) (x1 : Int32) (x2 : Int32) (t1 : Int32) (σ : kS) : Option kR := kBi (f_X6_bad F t1 1 σ) fun c7 σ6 => if c7 = 0 then (kBi (f_X6_in F x2 0 99 σ6) fun c10 σ9 => if c10 = 0 then (f_X6_least_b42 F x1 x2 1 σ9) else (f_X6_least_b42 F x1 x2 0 σ9)) else (f_X6_least_b49 F  σ6)
set_option maxRecDepth 20000 in
theorem s_X6_least_b19 {l : Launch} {E : kE} (hj : kEj E) (hn : kNorm E) (hl : l.stackTraces = false) {C : kC} {Q : kR → State → Prop} (hk : kOk (C, E, Q) cX6_least RX6 3) (he : kEnd (C, E, Q) (some .int) id 0) (hro : kRo C l (7) (173) 0) (F : Nat) : ∀ (x1 : Int32) (x2 : Int32) (t1 : Int32)  (σ : kS), Sm (C, E, Q) 3 0 19 [(0, .ref (kad E 48 0)), (1, .int x1), (2, .int x2)] [.int t1, .ref (kad E 48 0)] σ (f_X6_least_b19 F x1 x2 t1 σ) := by
  intro x1 x2 t1  σ
  unfold f_X6_least_b19
  refine k_iconst (v := 1) hk dX6_least_19 (by decide) ?_
  refine k_callVi (As := [.int t1, .int 1]) (rest := []) hk he hro (c_X6_bad hj hn hl F t1 1  σ) dX6_least_20 cw_RX6_220 rfl (by decide) kc6 rfl ⟨by decide, by decide⟩ (by decide) rfl (Nat.le_of_ble_eq_true rfl) (fun c7 σ6 => ?_)
  refine k_if_ne hk dX6_least_23 49 (by decide) (fun h8 => ?_) (fun h8 => ?_)
  · exact k_sub [] rfl (s_X6_least_b49 hj hn hl hk he hro F    σ6)
  · refine k_aload_n hk dX6_least_26 0 rfl ?_
    refine k_iload_n hk dX6_least_27 2 rfl ?_
    refine k_iconst (v := 0) hk dX6_least_28 (by decide) ?_
    refine k_bipush (v := 99) hk dX6_least_29 (by decide) ?_
    refine k_callSi (As := [.int x2, .int 0, .int 99]) (rest := [.ref (kad E 48 0)]) hk he hro (c_X6_in hj hn hl F x2 0 99  σ6) dX6_least_31 cw_RX6_150 ⟨by decide, by decide⟩ (by decide) rfl (Nat.le_of_ble_eq_true rfl) (fun c10 σ9 => ?_)
    refine k_if_ne hk dX6_least_34 41 (by decide) (fun h11 => ?_) (fun h11 => ?_)
    · refine k_iconst (v := 0) hk dX6_least_41 (by decide) ?_
      exact k_sub [0, 1, 2] rfl (s_X6_least_b42 hj hn hl hk he hro F  x1 x2 0  σ9)
    · refine k_iconst (v := 1) hk dX6_least_37 (by decide) ?_
      refine k_goto hk dX6_least_38 42 (by decide) ?_
      exact k_sub [0, 1, 2] rfl (s_X6_least_b42 hj hn hl hk he hro F  x1 x2 1  σ9)
def f_X6_least (F : Nat) (a1 : Int32) (a2 : Int32) (σ : kS) : Option kR := kb (kU σ 48 0 0 0) fun σ12 => kBi (f_X6_isWhy F a1 σ12) fun c14 σ13 => if c14 = 0 then (f_X6_least_b19 F a1 a2 1 σ13) else (f_X6_least_b19 F a1 a2 0 σ13)
set_option maxRecDepth 20000 in
theorem c_X6_least {l : Launch} {E : kE} (hj : kEj E) (hn : kNorm E) (hl : l.stackTraces = false) (F : Nat) (a1 : Int32) (a2 : Int32)  (σ : kS) : kMet l E yX6_least cX6_least 3 (some .int) (7) (173) 0 id [.ref (kad E 48 0), .int a1, .int a2] σ (f_X6_least F a1 a2 σ) := by
  refine k_met hj hn hl (by decide) (Nat.le_of_ble_eq_true rfl) (fun C Q hk he hro => ?_)
  have hk : kOk (C, E, Q) cX6_least RX6 3 := hk
  show Sm (C, E, Q) 3 0 0 [(0, .ref (kad E 48 0)), (1, .int a1), (2, .int a2)] [] σ _
  unfold f_X6_least
  refine k_aload_n hk dX6_least_0 0 rfl ?_
  refine k_iconst (v := 0) hk dX6_least_1 (by decide) ?_
  refine k_putf (k := 0) hk dX6_least_2 rfl (by decide) kc6 (by decide) fl_RX6_113 rfl rfl rfl rfl (fun σ12 => ?_)
  refine k_aload_n hk dX6_least_5 0 rfl ?_
  refine k_aload_n hk dX6_least_6 0 rfl ?_
  refine k_iload_n hk dX6_least_7 1 rfl ?_
  refine k_callVi (As := [.int a1]) (rest := [.ref (kad E 48 0)]) hk he hro (c_X6_isWhy hj hn hl F a1  σ12) dX6_least_8 cw_RX6_234 rfl (by decide) kc6 rfl ⟨by decide, by decide⟩ (by decide) rfl (Nat.le_of_ble_eq_true rfl) (fun c14 σ13 => ?_)
  refine k_if_ne hk dX6_least_11 18 (by decide) (fun h15 => ?_) (fun h15 => ?_)
  · refine k_iconst (v := 0) hk dX6_least_18 (by decide) ?_
    exact k_sub [0, 1, 2] rfl (s_X6_least_b19 hj hn hl hk he hro F  a1 a2 0  σ13)
  · refine k_iconst (v := 1) hk dX6_least_14 (by decide) ?_
    refine k_goto hk dX6_least_15 19 (by decide) ?_
    exact k_sub [0, 1, 2] rfl (s_X6_least_b19 hj hn hl hk he hro F  a1 a2 1  σ13)
def f_X6_all_b21 (F : Nat) (x1 : Int32) (t1 : Int32) (σ : kS) : Option kR := kBi (f_X6_bad F t1 1 σ) fun c2 σ1 => if c2 = 0 then (kBi (f_X6_leastOf F (-1) x1 σ1) fun c5 σ4 => some (.inl (some (.int c5)), σ4)) else (some (.inl (some (.int 0)), σ1))
set_option maxRecDepth 20000 in
theorem s_X6_all_b21 {l : Launch} {E : kE} (hj : kEj E) (hn : kNorm E) (hl : l.stackTraces = false) {C : kC} {Q : kR → State → Prop} (hk : kOk (C, E, Q) cX6_all RX6 2) (he : kEnd (C, E, Q) (some .int) id 0) (hro : kRo C l (7) (173) 0) (F : Nat) : ∀ (x1 : Int32) (t1 : Int32)  (σ : kS), Sm (C, E, Q) 2 0 21 [(0, .ref (kad E 48 0)), (1, .int x1)] [.int t1, .ref (kad E 48 0)] σ (f_X6_all_b21 F x1 t1 σ) := by
  intro x1 t1  σ
  unfold f_X6_all_b21
  refine k_iconst (v := 1) hk dX6_all_21 (by decide) ?_
  refine k_callVi (As := [.int t1, .int 1]) (rest := []) hk he hro (c_X6_bad hj hn hl F t1 1  σ) dX6_all_22 cw_RX6_220 rfl (by decide) kc6 rfl ⟨by decide, by decide⟩ (by decide) rfl (Nat.le_of_ble_eq_true rfl) (fun c2 σ1 => ?_)
  refine k_if_eq hk dX6_all_25 30 (by decide) (fun h3 => ?_) (fun h3 => ?_)
  · refine k_aload_n hk dX6_all_30 0 rfl ?_
    refine k_iconst (v := (-1)) hk dX6_all_31 (by decide) ?_
    refine k_iload_n hk dX6_all_32 1 rfl ?_
    refine k_callVi (As := [.int (-1), .int x1]) (rest := []) hk he hro (c_X6_leastOf hj hn hl F (-1) x1  σ1) dX6_all_33 cw_RX6_339 rfl (by decide) kc6 rfl ⟨by decide, by decide⟩ (by decide) rfl (Nat.le_of_ble_eq_true rfl) (fun c5 σ4 => ?_)
    exact k_ireturn hk he dX6_all_36 (by decide)
  · refine k_iconst (v := 0) hk dX6_all_28 (by decide) ?_
    exact k_ireturn hk he dX6_all_29 (by decide)
def f_X6_all (F : Nat) (a1 : Int32) (σ : kS) : Option kR := kb (kU σ 48 0 0 0) fun σ6 => kBi (f_X6_in F a1 0 99 σ6) fun c8 σ7 => if c8 = 0 then (f_X6_all_b21 F a1 1 σ7) else (f_X6_all_b21 F a1 0 σ7)
set_option maxRecDepth 20000 in
theorem c_X6_all {l : Launch} {E : kE} (hj : kEj E) (hn : kNorm E) (hl : l.stackTraces = false) (F : Nat) (a1 : Int32)  (σ : kS) : kMet l E yX6_all cX6_all 2 (some .int) (7) (173) 0 id [.ref (kad E 48 0), .int a1] σ (f_X6_all F a1 σ) := by
  refine k_met hj hn hl (by decide) (Nat.le_of_ble_eq_true rfl) (fun C Q hk he hro => ?_)
  have hk : kOk (C, E, Q) cX6_all RX6 2 := hk
  show Sm (C, E, Q) 2 0 0 [(0, .ref (kad E 48 0)), (1, .int a1)] [] σ _
  unfold f_X6_all
  refine k_aload_n hk dX6_all_0 0 rfl ?_
  refine k_iconst (v := 0) hk dX6_all_1 (by decide) ?_
  refine k_putf (k := 0) hk dX6_all_2 rfl (by decide) kc6 (by decide) fl_RX6_113 rfl rfl rfl rfl (fun σ6 => ?_)
  refine k_aload_n hk dX6_all_5 0 rfl ?_
  refine k_iload_n hk dX6_all_6 1 rfl ?_
  refine k_iconst (v := 0) hk dX6_all_7 (by decide) ?_
  refine k_bipush (v := 99) hk dX6_all_8 (by decide) ?_
  refine k_callSi (As := [.int a1, .int 0, .int 99]) (rest := [.ref (kad E 48 0)]) hk he hro (c_X6_in hj hn hl F a1 0 99  σ6) dX6_all_10 cw_RX6_150 ⟨by decide, by decide⟩ (by decide) rfl (Nat.le_of_ble_eq_true rfl) (fun c8 σ7 => ?_)
  refine k_if_ne hk dX6_all_13 20 (by decide) (fun h9 => ?_) (fun h9 => ?_)
  · refine k_iconst (v := 0) hk dX6_all_20 (by decide) ?_
    exact k_sub [0, 1] rfl (s_X6_all_b21 hj hn hl hk he hro F  a1 0  σ7)
  · refine k_iconst (v := 1) hk dX6_all_16 (by decide) ?_
    refine k_goto hk dX6_all_17 21 (by decide) ?_
    exact k_sub [0, 1] rfl (s_X6_all_b21 hj hn hl hk he hro F  a1 1  σ7)
def f_X6_parted_b279 (F : Nat) (rr183 : (Int32 × Int32 × Int32) → kS → Option kR) (x3 : Int32) (x5 : Int32) (t0 : Int32) (σ : kS) : Option kR := rr183 (x3, t0, x5 + 1) σ
set_option maxRecDepth 20000 in
theorem s_X6_parted_b279 {l : Launch} {E : kE} (hj : kEj E) (hn : kNorm E) (hl : l.stackTraces = false) {C : kC} {Q : kR → State → Prop} (hk : kOk (C, E, Q) cX6_parted RX6 6) (he : kEnd (C, E, Q) (some .int) id 0) (hro : kRo C l (4) (99) 0) (F : Nat) (rr183 : (Int32 × Int32 × Int32) → kS → Option kR) (hrr183 : ∀ (x3 : Int32) (x4 : Int32) (x5 : Int32)  (σ : kS), Sm (C, E, Q) 6 0 183 [(0, .ref (kad E 48 0)), (3, .int x3), (4, .int x4), (5, .int x5)] [] σ (rr183 (x3, x4, x5) σ)) : ∀ (x3 : Int32) (x5 : Int32) (t0 : Int32)  (σ : kS), Sm (C, E, Q) 6 0 279 [(0, .ref (kad E 48 0)), (3, .int x3), (5, .int x5)] [.int t0] σ (f_X6_parted_b279 F rr183 x3 x5 t0 σ) := by
  intro x3 x5 t0  σ
  unfold f_X6_parted_b279
  refine k_istore (lv' := [(4, .int t0), (0, .ref (kad E 48 0)), (3, .int x3), (5, .int x5)]) hk dX6_parted_279 (by decide) rfl ?_
  refine k_iinc (lv' := [(5, .int (x5 + 1)), (4, .int t0), (0, .ref (kad E 48 0)), (3, .int x3)]) (j := 3) (y := x5 + 1) hk dX6_parted_281 rfl rfl (by decide) rfl ?_
  refine k_goto hk dX6_parted_284 183 (by decide) ?_
  exact k_sub [2, 3, 1, 0] rfl (hrr183 x3 t0 (x5 + 1)  σ)
def f_X6_parted_b278 (F : Nat) (rr183 : (Int32 × Int32 × Int32) → kS → Option kR) (x3 : Int32) (x5 : Int32) (σ : kS) : Option kR := f_X6_parted_b279 F rr183 x3 x5 0 σ
set_option maxRecDepth 20000 in
theorem s_X6_parted_b278 {l : Launch} {E : kE} (hj : kEj E) (hn : kNorm E) (hl : l.stackTraces = false) {C : kC} {Q : kR → State → Prop} (hk : kOk (C, E, Q) cX6_parted RX6 6) (he : kEnd (C, E, Q) (some .int) id 0) (hro : kRo C l (4) (99) 0) (F : Nat) (rr183 : (Int32 × Int32 × Int32) → kS → Option kR) (hrr183 : ∀ (x3 : Int32) (x4 : Int32) (x5 : Int32)  (σ : kS), Sm (C, E, Q) 6 0 183 [(0, .ref (kad E 48 0)), (3, .int x3), (4, .int x4), (5, .int x5)] [] σ (rr183 (x3, x4, x5) σ)) : ∀ (x3 : Int32) (x5 : Int32)  (σ : kS), Sm (C, E, Q) 6 0 278 [(0, .ref (kad E 48 0)), (3, .int x3), (5, .int x5)] [] σ (f_X6_parted_b278 F rr183 x3 x5 σ) := by
  intro x3 x5  σ
  unfold f_X6_parted_b278
  refine k_iconst (v := 0) hk dX6_parted_278 (by decide) ?_
  exact k_sub [0, 1, 2] rfl (s_X6_parted_b279 hj hn hl hk he hro F rr183 hrr183  x3 x5 0  σ)
def f_X6_parted_b271 (F : Nat) (rr183 : (Int32 × Int32 × Int32) → kS → Option kR) (x3 : Int32) (x5 : Int32) (t0 : Int32) (t1 : Int32) (σ : kS) : Option kR := if t0 = t1 then (f_X6_parted_b279 F rr183 x3 x5 1 σ) else (f_X6_parted_b278 F rr183 x3 x5 σ)
set_option maxRecDepth 20000 in
theorem s_X6_parted_b271 {l : Launch} {E : kE} (hj : kEj E) (hn : kNorm E) (hl : l.stackTraces = false) {C : kC} {Q : kR → State → Prop} (hk : kOk (C, E, Q) cX6_parted RX6 6) (he : kEnd (C, E, Q) (some .int) id 0) (hro : kRo C l (4) (99) 0) (F : Nat) (rr183 : (Int32 × Int32 × Int32) → kS → Option kR) (hrr183 : ∀ (x3 : Int32) (x4 : Int32) (x5 : Int32)  (σ : kS), Sm (C, E, Q) 6 0 183 [(0, .ref (kad E 48 0)), (3, .int x3), (4, .int x4), (5, .int x5)] [] σ (rr183 (x3, x4, x5) σ)) : ∀ (x3 : Int32) (x5 : Int32) (t0 : Int32) (t1 : Int32)  (σ : kS), Sm (C, E, Q) 6 0 271 [(0, .ref (kad E 48 0)), (3, .int x3), (5, .int x5)] [.int t1, .int t0] σ (f_X6_parted_b271 F rr183 x3 x5 t0 t1 σ) := by
  intro x3 x5 t0 t1  σ
  unfold f_X6_parted_b271
  refine k_icmp_ne hk dX6_parted_271 278 (by decide) (fun h1 => ?_) (fun h1 => ?_)
  · exact k_sub [0, 1, 2] rfl (s_X6_parted_b278 hj hn hl hk he hro F rr183 hrr183  x3 x5  σ)
  · refine k_iconst (v := 1) hk dX6_parted_274 (by decide) ?_
    refine k_goto hk dX6_parted_275 279 (by decide) ?_
    exact k_sub [0, 1, 2] rfl (s_X6_parted_b279 hj hn hl hk he hro F rr183 hrr183  x3 x5 1  σ)
def f_X6_parted_b270 (F : Nat) (rr183 : (Int32 × Int32 × Int32) → kS → Option kR) (x3 : Int32) (x5 : Int32) (t0 : Int32) (σ : kS) : Option kR := f_X6_parted_b271 F rr183 x3 x5 t0 0 σ
set_option maxRecDepth 20000 in
theorem s_X6_parted_b270 {l : Launch} {E : kE} (hj : kEj E) (hn : kNorm E) (hl : l.stackTraces = false) {C : kC} {Q : kR → State → Prop} (hk : kOk (C, E, Q) cX6_parted RX6 6) (he : kEnd (C, E, Q) (some .int) id 0) (hro : kRo C l (4) (99) 0) (F : Nat) (rr183 : (Int32 × Int32 × Int32) → kS → Option kR) (hrr183 : ∀ (x3 : Int32) (x4 : Int32) (x5 : Int32)  (σ : kS), Sm (C, E, Q) 6 0 183 [(0, .ref (kad E 48 0)), (3, .int x3), (4, .int x4), (5, .int x5)] [] σ (rr183 (x3, x4, x5) σ)) : ∀ (x3 : Int32) (x5 : Int32) (t0 : Int32)  (σ : kS), Sm (C, E, Q) 6 0 270 [(0, .ref (kad E 48 0)), (3, .int x3), (5, .int x5)] [.int t0] σ (f_X6_parted_b270 F rr183 x3 x5 t0 σ) := by
  intro x3 x5 t0  σ
  unfold f_X6_parted_b270
  refine k_iconst (v := 0) hk dX6_parted_270 (by decide) ?_
  exact k_sub [0, 1, 2] rfl (s_X6_parted_b271 hj hn hl hk he hro F rr183 hrr183  x3 x5 t0 0  σ)
def f_X6_parted_b183 (F : Nat) (rr152 : Int32 → kS → Option kR) (rr183 : (Int32 × Int32 × Int32) → kS → Option kR) (a : (Int32 × Int32 × Int32)) (σ : kS) : Option kR := match a with
  | (x3, x4, x5) => if 8 ≤ x5 then (if x4 = 0 then (some (.inl (some (.int x3)), σ)) else (rr152 (x3 + 1) σ)) else (if x4 = 0 then (f_X6_parted_b278 F rr183 x3 x5 σ) else (kg (kin x3 100) (kb (x3.toNatClampNeg) fun j5 => kg (kin x5 8) (kg (kin x3 100) (kb (x3.toNatClampNeg) fun j7 => kg (kin x5 8) (if (σ.1 72 j5 x5.toNatClampNeg) = (σ.1 68 j7 x5.toNatClampNeg) then (kg (kin x3 100) (kb (x3.toNatClampNeg) fun j10 => kg (kin x5 8) (kg (kin x3 100) (kb (x3.toNatClampNeg) fun j12 => kg (kin x5 8) (if (σ.1 74 j10 x5.toNatClampNeg) = (σ.1 70 j12 x5.toNatClampNeg) then (kBi (f_X6_isLit F x5 x3 σ) fun c16 σ15 => kg (kin x5 8) (if (σ15.1 80 0 x5.toNatClampNeg) = (-1) then (f_X6_parted_b270 F rr183 x3 x5 c16 σ15) else (kg (kin x5 8) (if x3 < (σ15.1 80 0 x5.toNatClampNeg) then (f_X6_parted_b270 F rr183 x3 x5 c16 σ15) else (f_X6_parted_b271 F rr183 x3 x5 c16 1 σ15))))) else (f_X6_parted_b278 F rr183 x3 x5 σ)))))) else (f_X6_parted_b278 F rr183 x3 x5 σ)))))))
set_option maxRecDepth 20000 in
theorem s_X6_parted_b183 {l : Launch} {E : kE} (hj : kEj E) (hn : kNorm E) (hl : l.stackTraces = false) {C : kC} {Q : kR → State → Prop} (hk : kOk (C, E, Q) cX6_parted RX6 6) (he : kEnd (C, E, Q) (some .int) id 0) (hro : kRo C l (4) (99) 0) (F : Nat) (rr152 : Int32 → kS → Option kR) (hrr152 : ∀ (x3 : Int32)  (σ : kS), Sm (C, E, Q) 6 0 152 [(0, .ref (kad E 48 0)), (3, .int x3)] [] σ (rr152 x3 σ)) : ∀ (N9 : Nat) (x3 : Int32) (x4 : Int32) (x5 : Int32)  (σ : kS), Sm (C, E, Q) 6 0 183 [(0, .ref (kad E 48 0)), (3, .int x3), (4, .int x4), (5, .int x5)] [] σ (kFix (f_X6_parted_b183 F rr152) N9 (x3, x4, x5) σ) := by
  intro N9
  induction N9 with
  | zero => intro x3 x4 x5  σ; exact k_no
  | succ N9 ih =>
    intro x3 x4 x5  σ
    show Sm _ _ _ _ _ _ _ (f_X6_parted_b183 F rr152 (kFix (f_X6_parted_b183 F rr152) N9) (x3, x4, x5) σ)
    generalize kFix (f_X6_parted_b183 F rr152) N9 = rr183 at ih
    have hrr183 := ih
    unfold f_X6_parted_b183
    dsimp only
    refine k_iload hk dX6_parted_183 3 rfl ?_
    refine k_bipush (v := 8) hk dX6_parted_185 (by decide) ?_
    refine k_icmp_ge hk dX6_parted_187 287 (by decide) (fun h2 => ?_) (fun h2 => ?_)
    · refine k_iload hk dX6_parted_287 2 rfl ?_
      refine k_if_ne hk dX6_parted_289 294 (by decide) (fun h3 => ?_) (fun h3 => ?_)
      · refine k_iinc (lv' := [(3, .int (x3 + 1)), (0, .ref (kad E 48 0)), (4, .int x4), (5, .int x5)]) (j := 1) (y := x3 + 1) hk dX6_parted_294 rfl rfl (by decide) rfl ?_
        refine k_goto hk dX6_parted_297 152 (by decide) ?_
        exact k_sub [1, 0] rfl (hrr152 (x3 + 1)  σ)
      · refine k_iload_n hk dX6_parted_292 1 rfl ?_
        exact k_ireturn hk he dX6_parted_293 (by decide)
    · refine k_iload hk dX6_parted_190 2 rfl ?_
      refine k_if_eq hk dX6_parted_192 278 (by decide) (fun h4 => ?_) (fun h4 => ?_)
      · exact k_sub [0, 1, 3] rfl (s_X6_parted_b278 hj hn hl hk he hro F rr183 hrr183  x3 x5  σ)
      · refine k_aload_n hk dX6_parted_195 0 rfl ?_
        refine k_getr (k := 28) 71 0 hk dX6_parted_196 rfl (by decide) kc6 (by decide) fl_RX6_67 rfl rfl ?_
        refine k_iload_n hk dX6_parted_199 1 rfl ?_
        refine k_aaldj (g' := 72) (fun z => z) hk dX6_parted_200 rfl rfl rfl (by decide) (fun z => rfl) (by decide) (fun j5 hj5 => ?_)
        refine k_iload hk dX6_parted_201 3 rfl ?_
        refine k_iald hk dX6_parted_203 rfl hj5 (fun h6 => ?_)
        refine k_aload_n hk dX6_parted_204 0 rfl ?_
        refine k_getr (k := 26) 67 0 hk dX6_parted_205 rfl (by decide) kc6 (by decide) fl_RX6_61 rfl rfl ?_
        refine k_iload_n hk dX6_parted_208 1 rfl ?_
        refine k_aaldj (g' := 68) (fun z => z) hk dX6_parted_209 rfl rfl rfl (by decide) (fun z => rfl) (by decide) (fun j7 hj7 => ?_)
        refine k_iload hk dX6_parted_210 3 rfl ?_
        refine k_iald hk dX6_parted_212 rfl hj7 (fun h8 => ?_)
        refine k_icmp_ne hk dX6_parted_213 278 (by decide) (fun h9 => ?_) (fun h9 => ?_)
        · exact k_sub [0, 1, 3] rfl (s_X6_parted_b278 hj hn hl hk he hro F rr183 hrr183  x3 x5  σ)
        · refine k_aload_n hk dX6_parted_216 0 rfl ?_
          refine k_getr (k := 29) 73 0 hk dX6_parted_217 rfl (by decide) kc6 (by decide) fl_RX6_70 rfl rfl ?_
          refine k_iload_n hk dX6_parted_220 1 rfl ?_
          refine k_aaldj (g' := 74) (fun z => z) hk dX6_parted_221 rfl rfl rfl (by decide) (fun z => rfl) (by decide) (fun j10 hj10 => ?_)
          refine k_iload hk dX6_parted_222 3 rfl ?_
          refine k_iald hk dX6_parted_224 rfl hj10 (fun h11 => ?_)
          refine k_aload_n hk dX6_parted_225 0 rfl ?_
          refine k_getr (k := 27) 69 0 hk dX6_parted_226 rfl (by decide) kc6 (by decide) fl_RX6_64 rfl rfl ?_
          refine k_iload_n hk dX6_parted_229 1 rfl ?_
          refine k_aaldj (g' := 70) (fun z => z) hk dX6_parted_230 rfl rfl rfl (by decide) (fun z => rfl) (by decide) (fun j12 hj12 => ?_)
          refine k_iload hk dX6_parted_231 3 rfl ?_
          refine k_iald hk dX6_parted_233 rfl hj12 (fun h13 => ?_)
          refine k_icmp_ne hk dX6_parted_234 278 (by decide) (fun h14 => ?_) (fun h14 => ?_)
          · exact k_sub [0, 1, 3] rfl (s_X6_parted_b278 hj hn hl hk he hro F rr183 hrr183  x3 x5  σ)
          · refine k_aload_n hk dX6_parted_237 0 rfl ?_
            refine k_iload hk dX6_parted_238 3 rfl ?_
            refine k_iload_n hk dX6_parted_240 1 rfl ?_
            refine k_callVi (As := [.int x5, .int x3]) (rest := []) hk he hro (c_X6_isLit hj hn hl F x5 x3  σ) dX6_parted_241 cw_RX6_282 rfl (by decide) kc6 rfl ⟨by decide, by decide⟩ (by decide) rfl (Nat.le_of_ble_eq_true rfl) (fun c16 σ15 => ?_)
            refine k_aload_n hk dX6_parted_244 0 rfl ?_
            refine k_getr (k := 35) 80 0 hk dX6_parted_245 rfl (by decide) kc6 (by decide) fl_RX6_88 rfl rfl ?_
            refine k_iload hk dX6_parted_248 3 rfl ?_
            refine k_iald hk dX6_parted_250 rfl (by decide) (fun h17 => ?_)
            refine k_iconst (v := (-1)) hk dX6_parted_251 (by decide) ?_
            refine k_icmp_eq hk dX6_parted_252 270 (by decide) (fun h18 => ?_) (fun h18 => ?_)
            · exact k_sub [0, 1, 3] rfl (s_X6_parted_b270 hj hn hl hk he hro F rr183 hrr183  x3 x5 c16  σ15)
            · refine k_aload_n hk dX6_parted_255 0 rfl ?_
              refine k_getr (k := 35) 80 0 hk dX6_parted_256 rfl (by decide) kc6 (by decide) fl_RX6_88 rfl rfl ?_
              refine k_iload hk dX6_parted_259 3 rfl ?_
              refine k_iald hk dX6_parted_261 rfl (by decide) (fun h19 => ?_)
              refine k_iload_n hk dX6_parted_262 1 rfl ?_
              refine k_icmp_gt hk dX6_parted_263 270 (by decide) (fun h20 => ?_) (fun h20 => ?_)
              · exact k_sub [0, 1, 3] rfl (s_X6_parted_b270 hj hn hl hk he hro F rr183 hrr183  x3 x5 c16  σ15)
              · refine k_iconst (v := 1) hk dX6_parted_266 (by decide) ?_
                refine k_goto hk dX6_parted_267 271 (by decide) ?_
                exact k_sub [0, 1, 3] rfl (s_X6_parted_b271 hj hn hl hk he hro F rr183 hrr183  x3 x5 c16 1  σ15)
def f_X6_parted_b178 (F : Nat) (rr152 : Int32 → kS → Option kR) (x3 : Int32) (t0 : Int32) (σ : kS) : Option kR := kFix (f_X6_parted_b183 F rr152) F (x3, t0, 0) σ
set_option maxRecDepth 20000 in
theorem s_X6_parted_b178 {l : Launch} {E : kE} (hj : kEj E) (hn : kNorm E) (hl : l.stackTraces = false) {C : kC} {Q : kR → State → Prop} (hk : kOk (C, E, Q) cX6_parted RX6 6) (he : kEnd (C, E, Q) (some .int) id 0) (hro : kRo C l (4) (99) 0) (F : Nat) (rr152 : Int32 → kS → Option kR) (hrr152 : ∀ (x3 : Int32)  (σ : kS), Sm (C, E, Q) 6 0 152 [(0, .ref (kad E 48 0)), (3, .int x3)] [] σ (rr152 x3 σ)) : ∀ (x3 : Int32) (t0 : Int32)  (σ : kS), Sm (C, E, Q) 6 0 178 [(0, .ref (kad E 48 0)), (3, .int x3)] [.int t0] σ (f_X6_parted_b178 F rr152 x3 t0 σ) := by
  intro x3 t0  σ
  unfold f_X6_parted_b178
  refine k_istore (lv' := [(4, .int t0), (0, .ref (kad E 48 0)), (3, .int x3)]) hk dX6_parted_178 (by decide) rfl ?_
  refine k_iconst (v := 0) hk dX6_parted_180 (by decide) ?_
  refine k_istore (lv' := [(5, .int 0), (4, .int t0), (0, .ref (kad E 48 0)), (3, .int x3)]) hk dX6_parted_181 (by decide) rfl ?_
  exact k_sub [2, 3, 1, 0] rfl (s_X6_parted_b183 hj hn hl hk he hro F rr152 hrr152 F x3 t0 0  σ)
def f_X6_parted_b152 (F : Nat) (rr152 : Int32 → kS → Option kR) (a : Int32) (σ : kS) : Option kR := match a with
  | x3 => if 100 ≤ x3 then (some (.inl (some (.int (-1))), σ)) else (kg (kin x3 100) (kg (kin x3 100) (if (σ.1 79 0 x3.toNatClampNeg) = (σ.1 78 0 x3.toNatClampNeg) then (f_X6_parted_b178 F rr152 x3 1 σ) else (f_X6_parted_b178 F rr152 x3 0 σ))))
set_option maxRecDepth 20000 in
theorem s_X6_parted_b152 {l : Launch} {E : kE} (hj : kEj E) (hn : kNorm E) (hl : l.stackTraces = false) {C : kC} {Q : kR → State → Prop} (hk : kOk (C, E, Q) cX6_parted RX6 6) (he : kEnd (C, E, Q) (some .int) id 0) (hro : kRo C l (4) (99) 0) (F : Nat) : ∀ (N9 : Nat) (x3 : Int32)  (σ : kS), Sm (C, E, Q) 6 0 152 [(0, .ref (kad E 48 0)), (3, .int x3)] [] σ (kFix (f_X6_parted_b152 F) N9 x3 σ) := by
  intro N9
  induction N9 with
  | zero => intro x3  σ; exact k_no
  | succ N9 ih =>
    intro x3  σ
    show Sm _ _ _ _ _ _ _ (f_X6_parted_b152 F (kFix (f_X6_parted_b152 F) N9) x3 σ)
    generalize kFix (f_X6_parted_b152 F) N9 = rr152 at ih
    have hrr152 := ih
    unfold f_X6_parted_b152
    dsimp only
    refine k_iload_n hk dX6_parted_152 1 rfl ?_
    refine k_bipush (v := 100) hk dX6_parted_153 (by decide) ?_
    refine k_icmp_ge hk dX6_parted_155 300 (by decide) (fun h21 => ?_) (fun h21 => ?_)
    · refine k_iconst (v := (-1)) hk dX6_parted_300 (by decide) ?_
      exact k_ireturn hk he dX6_parted_301 (by decide)
    · refine k_aload_n hk dX6_parted_158 0 rfl ?_
      refine k_getr (k := 34) 79 0 hk dX6_parted_159 rfl (by decide) kc6 (by decide) fl_RX6_85 rfl rfl ?_
      refine k_iload_n hk dX6_parted_162 1 rfl ?_
      refine k_iald hk dX6_parted_163 rfl (by decide) (fun h22 => ?_)
      refine k_aload_n hk dX6_parted_164 0 rfl ?_
      refine k_getr (k := 33) 78 0 hk dX6_parted_165 rfl (by decide) kc6 (by decide) fl_RX6_82 rfl rfl ?_
      refine k_iload_n hk dX6_parted_168 1 rfl ?_
      refine k_iald hk dX6_parted_169 rfl (by decide) (fun h23 => ?_)
      refine k_icmp_ne hk dX6_parted_170 177 (by decide) (fun h24 => ?_) (fun h24 => ?_)
      · refine k_iconst (v := 0) hk dX6_parted_177 (by decide) ?_
        exact k_sub [0, 1] rfl (s_X6_parted_b178 hj hn hl hk he hro F rr152 hrr152  x3 0  σ)
      · refine k_iconst (v := 1) hk dX6_parted_173 (by decide) ?_
        refine k_goto hk dX6_parted_174 178 (by decide) ?_
        exact k_sub [0, 1] rfl (s_X6_parted_b178 hj hn hl hk he hro F rr152 hrr152  x3 1  σ)
def f_X6_parted_b121 (F : Nat) (rr121 : (Int32 × Int32) → kS → Option kR) (a : (Int32 × Int32)) (σ : kS) : Option kR := match a with
  | (x1, x3) => if 8 ≤ x3 then (kBv (f_X6_runs F x1 σ) fun σ26 => kFix (f_X6_parted_b152 F) F 0 σ26) else (kg (kin x3 8) (kg (kin x3 8) (kb (kU σ 80 0 x3.toNatClampNeg (σ.1 66 0 x3.toNatClampNeg)) fun σ28 => rr121 (x1, x3 + 1) σ28)))
set_option maxRecDepth 20000 in
theorem s_X6_parted_b121 {l : Launch} {E : kE} (hj : kEj E) (hn : kNorm E) (hl : l.stackTraces = false) {C : kC} {Q : kR → State → Prop} (hk : kOk (C, E, Q) cX6_parted RX6 6) (he : kEnd (C, E, Q) (some .int) id 0) (hro : kRo C l (4) (99) 0) (F : Nat) : ∀ (N9 : Nat) (x1 : Int32) (x3 : Int32)  (σ : kS), Sm (C, E, Q) 6 0 121 [(0, .ref (kad E 48 0)), (1, .int x1), (3, .int x3)] [] σ (kFix (f_X6_parted_b121 F) N9 (x1, x3) σ) := by
  intro N9
  induction N9 with
  | zero => intro x1 x3  σ; exact k_no
  | succ N9 ih =>
    intro x1 x3  σ
    show Sm _ _ _ _ _ _ _ (f_X6_parted_b121 F (kFix (f_X6_parted_b121 F) N9) (x1, x3) σ)
    generalize kFix (f_X6_parted_b121 F) N9 = rr121 at ih
    have hrr121 := ih
    unfold f_X6_parted_b121
    dsimp only
    refine k_iload_n hk dX6_parted_121 2 rfl ?_
    refine k_bipush (v := 8) hk dX6_parted_122 (by decide) ?_
    refine k_icmp_ge hk dX6_parted_124 145 (by decide) (fun h25 => ?_) (fun h25 => ?_)
    · refine k_aload_n hk dX6_parted_145 0 rfl ?_
      refine k_iload_n hk dX6_parted_146 1 rfl ?_
      refine k_callVv (As := [.int x1]) (rest := []) hk he hro (c_X6_runs hj hn hl F x1  σ) dX6_parted_147 cw_RX6_279 rfl (by decide) kc6 rfl ⟨by decide, by decide⟩ (by decide) rfl (Nat.le_of_ble_eq_true rfl) (fun σ26 => ?_)
      refine k_iconst (v := 0) hk dX6_parted_150 (by decide) ?_
      refine k_istore_n (lv' := [(3, .int 0), (0, .ref (kad E 48 0)), (1, .int x1)]) hk dX6_parted_151 (by decide) rfl ?_
      exact k_sub [1, 0] rfl (s_X6_parted_b152 hj hn hl hk he hro F F 0  σ26)
    · refine k_aload_n hk dX6_parted_127 0 rfl ?_
      refine k_getr (k := 35) 80 0 hk dX6_parted_128 rfl (by decide) kc6 (by decide) fl_RX6_88 rfl rfl ?_
      refine k_iload_n hk dX6_parted_131 2 rfl ?_
      refine k_aload_n hk dX6_parted_132 0 rfl ?_
      refine k_getr (k := 25) 66 0 hk dX6_parted_133 rfl (by decide) kc6 (by decide) fl_RX6_58 rfl rfl ?_
      refine k_iload_n hk dX6_parted_136 2 rfl ?_
      refine k_iald hk dX6_parted_137 rfl (by decide) (fun h27 => ?_)
      refine k_iast hk dX6_parted_138 rfl (by decide) (fun h29 σ28 => ?_)
      refine k_iinc (lv' := [(3, .int (x3 + 1)), (0, .ref (kad E 48 0)), (1, .int x1)]) (j := 2) (y := x3 + 1) hk dX6_parted_139 rfl rfl (by decide) rfl ?_
      refine k_goto hk dX6_parted_142 121 (by decide) ?_
      exact k_sub [1, 2, 0] rfl (hrr121 x1 (x3 + 1)  σ28)
def f_X6_parted_b52 (F : Nat) (rr43 : (Int32 × Int32) → kS → Option kR) (rr52 : (Int32 × Int32 × Int32) → kS → Option kR) (a : (Int32 × Int32 × Int32)) (σ : kS) : Option kR := match a with
  | (x1, x3, x4) => if 8 ≤ x4 then (kg (kin x3 100) (kg (kin x3 100) (kb (kU σ 79 0 x3.toNatClampNeg (σ.1 78 0 x3.toNatClampNeg)) fun σ32 => rr43 (x1, x3 + 1) σ32))) else (kg (kin x3 100) (kb (x3.toNatClampNeg) fun j34 => kg (kin x3 100) (kb (x3.toNatClampNeg) fun j35 => kg (kin x4 8) (kg (kin x4 8) (kb (kU σ 72 j34 x4.toNatClampNeg (σ.1 68 j35 x4.toNatClampNeg)) fun σ37 => kg (kin x3 100) (kb (x3.toNatClampNeg) fun j39 => kg (kin x3 100) (kb (x3.toNatClampNeg) fun j40 => kg (kin x4 8) (kg (kin x4 8) (kb (kU σ37 74 j39 x4.toNatClampNeg (σ37.1 70 j40 x4.toNatClampNeg)) fun σ42 => rr52 (x1, x3, x4 + 1) σ42)))))))))
set_option maxRecDepth 20000 in
theorem s_X6_parted_b52 {l : Launch} {E : kE} (hj : kEj E) (hn : kNorm E) (hl : l.stackTraces = false) {C : kC} {Q : kR → State → Prop} (hk : kOk (C, E, Q) cX6_parted RX6 6) (he : kEnd (C, E, Q) (some .int) id 0) (hro : kRo C l (4) (99) 0) (F : Nat) (rr43 : (Int32 × Int32) → kS → Option kR) (hrr43 : ∀ (x1 : Int32) (x3 : Int32)  (σ : kS), Sm (C, E, Q) 6 0 43 [(0, .ref (kad E 48 0)), (1, .int x1), (3, .int x3)] [] σ (rr43 (x1, x3) σ)) : ∀ (N9 : Nat) (x1 : Int32) (x3 : Int32) (x4 : Int32)  (σ : kS), Sm (C, E, Q) 6 0 52 [(0, .ref (kad E 48 0)), (1, .int x1), (3, .int x3), (4, .int x4)] [] σ (kFix (f_X6_parted_b52 F rr43) N9 (x1, x3, x4) σ) := by
  intro N9
  induction N9 with
  | zero => intro x1 x3 x4  σ; exact k_no
  | succ N9 ih =>
    intro x1 x3 x4  σ
    show Sm _ _ _ _ _ _ _ (f_X6_parted_b52 F rr43 (kFix (f_X6_parted_b52 F rr43) N9) (x1, x3, x4) σ)
    generalize kFix (f_X6_parted_b52 F rr43) N9 = rr52 at ih
    have hrr52 := ih
    unfold f_X6_parted_b52
    dsimp only
    refine k_iload hk dX6_parted_52 3 rfl ?_
    refine k_bipush (v := 8) hk dX6_parted_54 (by decide) ?_
    refine k_icmp_ge hk dX6_parted_56 101 (by decide) (fun h30 => ?_) (fun h30 => ?_)
    · refine k_aload_n hk dX6_parted_101 0 rfl ?_
      refine k_getr (k := 34) 79 0 hk dX6_parted_102 rfl (by decide) kc6 (by decide) fl_RX6_85 rfl rfl ?_
      refine k_iload_n hk dX6_parted_105 2 rfl ?_
      refine k_aload_n hk dX6_parted_106 0 rfl ?_
      refine k_getr (k := 33) 78 0 hk dX6_parted_107 rfl (by decide) kc6 (by decide) fl_RX6_82 rfl rfl ?_
      refine k_iload_n hk dX6_parted_110 2 rfl ?_
      refine k_iald hk dX6_parted_111 rfl (by decide) (fun h31 => ?_)
      refine k_iast hk dX6_parted_112 rfl (by decide) (fun h33 σ32 => ?_)
      refine k_iinc (lv' := [(3, .int (x3 + 1)), (0, .ref (kad E 48 0)), (1, .int x1), (4, .int x4)]) (j := 2) (y := x3 + 1) hk dX6_parted_113 rfl rfl (by decide) rfl ?_
      refine k_goto hk dX6_parted_116 43 (by decide) ?_
      exact k_sub [1, 2, 0] rfl (hrr43 x1 (x3 + 1)  σ32)
    · refine k_aload_n hk dX6_parted_59 0 rfl ?_
      refine k_getr (k := 28) 71 0 hk dX6_parted_60 rfl (by decide) kc6 (by decide) fl_RX6_67 rfl rfl ?_
      refine k_iload_n hk dX6_parted_63 2 rfl ?_
      refine k_aaldj (g' := 72) (fun z => z) hk dX6_parted_64 rfl rfl rfl (by decide) (fun z => rfl) (by decide) (fun j34 hj34 => ?_)
      refine k_iload hk dX6_parted_65 3 rfl ?_
      refine k_aload_n hk dX6_parted_67 0 rfl ?_
      refine k_getr (k := 26) 67 0 hk dX6_parted_68 rfl (by decide) kc6 (by decide) fl_RX6_61 rfl rfl ?_
      refine k_iload_n hk dX6_parted_71 2 rfl ?_
      refine k_aaldj (g' := 68) (fun z => z) hk dX6_parted_72 rfl rfl rfl (by decide) (fun z => rfl) (by decide) (fun j35 hj35 => ?_)
      refine k_iload hk dX6_parted_73 3 rfl ?_
      refine k_iald hk dX6_parted_75 rfl hj35 (fun h36 => ?_)
      refine k_iast hk dX6_parted_76 rfl hj34 (fun h38 σ37 => ?_)
      refine k_aload_n hk dX6_parted_77 0 rfl ?_
      refine k_getr (k := 29) 73 0 hk dX6_parted_78 rfl (by decide) kc6 (by decide) fl_RX6_70 rfl rfl ?_
      refine k_iload_n hk dX6_parted_81 2 rfl ?_
      refine k_aaldj (g' := 74) (fun z => z) hk dX6_parted_82 rfl rfl rfl (by decide) (fun z => rfl) (by decide) (fun j39 hj39 => ?_)
      refine k_iload hk dX6_parted_83 3 rfl ?_
      refine k_aload_n hk dX6_parted_85 0 rfl ?_
      refine k_getr (k := 27) 69 0 hk dX6_parted_86 rfl (by decide) kc6 (by decide) fl_RX6_64 rfl rfl ?_
      refine k_iload_n hk dX6_parted_89 2 rfl ?_
      refine k_aaldj (g' := 70) (fun z => z) hk dX6_parted_90 rfl rfl rfl (by decide) (fun z => rfl) (by decide) (fun j40 hj40 => ?_)
      refine k_iload hk dX6_parted_91 3 rfl ?_
      refine k_iald hk dX6_parted_93 rfl hj40 (fun h41 => ?_)
      refine k_iast hk dX6_parted_94 rfl hj39 (fun h43 σ42 => ?_)
      refine k_iinc (lv' := [(4, .int (x4 + 1)), (0, .ref (kad E 48 0)), (1, .int x1), (3, .int x3)]) (j := 3) (y := x4 + 1) hk dX6_parted_95 rfl rfl (by decide) rfl ?_
      refine k_goto hk dX6_parted_98 52 (by decide) ?_
      exact k_sub [1, 2, 3, 0] rfl (hrr52 x1 x3 (x4 + 1)  σ42)
def f_X6_parted_b43 (F : Nat) (rr43 : (Int32 × Int32) → kS → Option kR) (a : (Int32 × Int32)) (σ : kS) : Option kR := match a with
  | (x1, x3) => if 100 ≤ x3 then (kFix (f_X6_parted_b121 F) F (x1, 0) σ) else (kFix (f_X6_parted_b52 F rr43) F (x1, x3, 0) σ)
set_option maxRecDepth 20000 in
theorem s_X6_parted_b43 {l : Launch} {E : kE} (hj : kEj E) (hn : kNorm E) (hl : l.stackTraces = false) {C : kC} {Q : kR → State → Prop} (hk : kOk (C, E, Q) cX6_parted RX6 6) (he : kEnd (C, E, Q) (some .int) id 0) (hro : kRo C l (4) (99) 0) (F : Nat) : ∀ (N9 : Nat) (x1 : Int32) (x3 : Int32)  (σ : kS), Sm (C, E, Q) 6 0 43 [(0, .ref (kad E 48 0)), (1, .int x1), (3, .int x3)] [] σ (kFix (f_X6_parted_b43 F) N9 (x1, x3) σ) := by
  intro N9
  induction N9 with
  | zero => intro x1 x3  σ; exact k_no
  | succ N9 ih =>
    intro x1 x3  σ
    show Sm _ _ _ _ _ _ _ (f_X6_parted_b43 F (kFix (f_X6_parted_b43 F) N9) (x1, x3) σ)
    generalize kFix (f_X6_parted_b43 F) N9 = rr43 at ih
    have hrr43 := ih
    unfold f_X6_parted_b43
    dsimp only
    refine k_iload_n hk dX6_parted_43 2 rfl ?_
    refine k_bipush (v := 100) hk dX6_parted_44 (by decide) ?_
    refine k_icmp_ge hk dX6_parted_46 119 (by decide) (fun h44 => ?_) (fun h44 => ?_)
    · refine k_iconst (v := 0) hk dX6_parted_119 (by decide) ?_
      refine k_istore_n (lv' := [(3, .int 0), (0, .ref (kad E 48 0)), (1, .int x1)]) hk dX6_parted_120 (by decide) rfl ?_
      exact k_sub [1, 2, 0] rfl (s_X6_parted_b121 hj hn hl hk he hro F F x1 0  σ)
    · refine k_iconst (v := 0) hk dX6_parted_49 (by decide) ?_
      refine k_istore (lv' := [(4, .int 0), (0, .ref (kad E 48 0)), (1, .int x1), (3, .int x3)]) hk dX6_parted_50 (by decide) rfl ?_
      exact k_sub [1, 2, 3, 0] rfl (s_X6_parted_b52 hj hn hl hk he hro F rr43 hrr43 F x1 x3 0  σ)
def f_X6_parted_b27 (F : Nat) (x1 : Int32) (x2 : Int32) (t1 : Int32) (σ : kS) : Option kR := kBi (f_X6_bad F t1 1 σ) fun c46 σ45 => if c46 = 0 then (kBv (f_X6_runs F x2 σ45) fun σ48 => kFix (f_X6_parted_b43 F) F (x1, 0) σ48) else (some (.inl (some (.int 0)), σ45))
set_option maxRecDepth 20000 in
theorem s_X6_parted_b27 {l : Launch} {E : kE} (hj : kEj E) (hn : kNorm E) (hl : l.stackTraces = false) {C : kC} {Q : kR → State → Prop} (hk : kOk (C, E, Q) cX6_parted RX6 6) (he : kEnd (C, E, Q) (some .int) id 0) (hro : kRo C l (4) (99) 0) (F : Nat) : ∀ (x1 : Int32) (x2 : Int32) (t1 : Int32)  (σ : kS), Sm (C, E, Q) 6 0 27 [(0, .ref (kad E 48 0)), (1, .int x1), (2, .int x2)] [.int t1, .ref (kad E 48 0)] σ (f_X6_parted_b27 F x1 x2 t1 σ) := by
  intro x1 x2 t1  σ
  unfold f_X6_parted_b27
  refine k_iconst (v := 1) hk dX6_parted_27 (by decide) ?_
  refine k_callVi (As := [.int t1, .int 1]) (rest := []) hk he hro (c_X6_bad hj hn hl F t1 1  σ) dX6_parted_28 cw_RX6_220 rfl (by decide) kc6 rfl ⟨by decide, by decide⟩ (by decide) rfl (Nat.le_of_ble_eq_true rfl) (fun c46 σ45 => ?_)
  refine k_if_eq hk dX6_parted_31 36 (by decide) (fun h47 => ?_) (fun h47 => ?_)
  · refine k_aload_n hk dX6_parted_36 0 rfl ?_
    refine k_iload_n hk dX6_parted_37 2 rfl ?_
    refine k_callVv (As := [.int x2]) (rest := []) hk he hro (c_X6_runs hj hn hl F x2  σ45) dX6_parted_38 cw_RX6_279 rfl (by decide) kc6 rfl ⟨by decide, by decide⟩ (by decide) rfl (Nat.le_of_ble_eq_true rfl) (fun σ48 => ?_)
    refine k_iconst (v := 0) hk dX6_parted_41 (by decide) ?_
    refine k_istore_n (lv' := [(3, .int 0), (0, .ref (kad E 48 0)), (1, .int x1), (2, .int x2)]) hk dX6_parted_42 (by decide) rfl ?_
    exact k_sub [1, 2, 0] rfl (s_X6_parted_b43 hj hn hl hk he hro F F x1 0  σ48)
  · refine k_iconst (v := 0) hk dX6_parted_34 (by decide) ?_
    exact k_ireturn hk he dX6_parted_35 (by decide)
def f_X6_parted_b22 (F : Nat) (x1 : Int32) (x2 : Int32) (σ : kS) : Option kR := f_X6_parted_b27 F x1 x2 1 σ
set_option maxRecDepth 20000 in
theorem s_X6_parted_b22 {l : Launch} {E : kE} (hj : kEj E) (hn : kNorm E) (hl : l.stackTraces = false) {C : kC} {Q : kR → State → Prop} (hk : kOk (C, E, Q) cX6_parted RX6 6) (he : kEnd (C, E, Q) (some .int) id 0) (hro : kRo C l (4) (99) 0) (F : Nat) : ∀ (x1 : Int32) (x2 : Int32)  (σ : kS), Sm (C, E, Q) 6 0 22 [(0, .ref (kad E 48 0)), (1, .int x1), (2, .int x2)] [.ref (kad E 48 0)] σ (f_X6_parted_b22 F x1 x2 σ) := by
  intro x1 x2  σ
  unfold f_X6_parted_b22
  refine k_iconst (v := 1) hk dX6_parted_22 (by decide) ?_
  refine k_goto hk dX6_parted_23 27 (by decide) ?_
  exact k_sub [0, 1, 2] rfl (s_X6_parted_b27 hj hn hl hk he hro F  x1 x2 1  σ)
def f_X6_parted (F : Nat) (a1 : Int32) (a2 : Int32) (σ : kS) : Option kR := kb (kU σ 48 0 0 0) fun σ49 => kBi (f_X6_isWhy F a1 σ49) fun c51 σ50 => if c51 = 0 then (f_X6_parted_b22 F a1 a2 σ50) else (kBi (f_X6_isWhy F a2 σ50) fun c54 σ53 => if c54 = 0 then (f_X6_parted_b22 F a1 a2 σ53) else (f_X6_parted_b27 F a1 a2 0 σ53))
set_option maxRecDepth 20000 in
theorem c_X6_parted {l : Launch} {E : kE} (hj : kEj E) (hn : kNorm E) (hl : l.stackTraces = false) (F : Nat) (a1 : Int32) (a2 : Int32)  (σ : kS) : kMet l E yX6_parted cX6_parted 6 (some .int) (4) (99) 0 id [.ref (kad E 48 0), .int a1, .int a2] σ (f_X6_parted F a1 a2 σ) := by
  refine k_met hj hn hl (by decide) (Nat.le_of_ble_eq_true rfl) (fun C Q hk he hro => ?_)
  have hk : kOk (C, E, Q) cX6_parted RX6 6 := hk
  show Sm (C, E, Q) 6 0 0 [(0, .ref (kad E 48 0)), (1, .int a1), (2, .int a2)] [] σ _
  unfold f_X6_parted
  refine k_aload_n hk dX6_parted_0 0 rfl ?_
  refine k_iconst (v := 0) hk dX6_parted_1 (by decide) ?_
  refine k_putf (k := 0) hk dX6_parted_2 rfl (by decide) kc6 (by decide) fl_RX6_113 rfl rfl rfl rfl (fun σ49 => ?_)
  refine k_aload_n hk dX6_parted_5 0 rfl ?_
  refine k_aload_n hk dX6_parted_6 0 rfl ?_
  refine k_iload_n hk dX6_parted_7 1 rfl ?_
  refine k_callVi (As := [.int a1]) (rest := [.ref (kad E 48 0)]) hk he hro (c_X6_isWhy hj hn hl F a1  σ49) dX6_parted_8 cw_RX6_234 rfl (by decide) kc6 rfl ⟨by decide, by decide⟩ (by decide) rfl (Nat.le_of_ble_eq_true rfl) (fun c51 σ50 => ?_)
  refine k_if_eq hk dX6_parted_11 22 (by decide) (fun h52 => ?_) (fun h52 => ?_)
  · exact k_sub [0, 1, 2] rfl (s_X6_parted_b22 hj hn hl hk he hro F  a1 a2  σ50)
  · refine k_aload_n hk dX6_parted_14 0 rfl ?_
    refine k_iload_n hk dX6_parted_15 2 rfl ?_
    refine k_callVi (As := [.int a2]) (rest := [.ref (kad E 48 0)]) hk he hro (c_X6_isWhy hj hn hl F a2  σ50) dX6_parted_16 cw_RX6_234 rfl (by decide) kc6 rfl ⟨by decide, by decide⟩ (by decide) rfl (Nat.le_of_ble_eq_true rfl) (fun c54 σ53 => ?_)
    refine k_if_ne hk dX6_parted_19 26 (by decide) (fun h55 => ?_) (fun h55 => ?_)
    · refine k_iconst (v := 0) hk dX6_parted_26 (by decide) ?_
      exact k_sub [0, 1, 2] rfl (s_X6_parted_b27 hj hn hl hk he hro F  a1 a2 0  σ53)
    · exact k_sub [0, 1, 2] rfl (s_X6_parted_b22 hj hn hl hk he hro F  a1 a2  σ53)
def f_X6_order_b137 (F : Nat) (rr35 : (Int32 × Int32) → kS → Option kR) (x2 : Int32) (x3 : Int32) (σ : kS) : Option kR := rr35 (x2, x3 + 1) σ
set_option maxRecDepth 20000 in
theorem s_X6_order_b137 {l : Launch} {E : kE} (hj : kEj E) (hn : kNorm E) (hl : l.stackTraces = false) {C : kC} {Q : kR → State → Prop} (hk : kOk (C, E, Q) cX6_order RX6 6) (he : kEnd (C, E, Q) (some .int) id 0) (hro : kRo C l (4) (99) 0) (F : Nat) (rr35 : (Int32 × Int32) → kS → Option kR) (hrr35 : ∀ (x2 : Int32) (x3 : Int32)  (σ : kS), Sm (C, E, Q) 6 0 35 [(0, .ref (kad E 48 0)), (2, .int x2), (3, .int x3)] [] σ (rr35 (x2, x3) σ)) : ∀ (x2 : Int32) (x3 : Int32)  (σ : kS), Sm (C, E, Q) 6 0 137 [(0, .ref (kad E 48 0)), (2, .int x2), (3, .int x3)] [] σ (f_X6_order_b137 F rr35 x2 x3 σ) := by
  intro x2 x3  σ
  unfold f_X6_order_b137
  refine k_iinc (lv' := [(3, .int (x3 + 1)), (0, .ref (kad E 48 0)), (2, .int x2)]) (j := 2) (y := x3 + 1) hk dX6_order_137 rfl rfl (by decide) rfl ?_
  refine k_goto hk dX6_order_140 35 (by decide) ?_
  exact k_sub [1, 2, 0] rfl (hrr35 x2 (x3 + 1)  σ)
def f_X6_order_b110 (F : Nat) (rr47 : (Int32 × Int32 × Int32 × Int32) → kS → Option kR) (x2 : Int32) (x3 : Int32) (x5 : Int32) (t0 : Int32) (t1 : Int32) (σ : kS) : Option kR := kb (t0 + t1) fun y1 => rr47 (x2, x3, y1, x5 + 1) σ
set_option maxRecDepth 20000 in
theorem s_X6_order_b110 {l : Launch} {E : kE} (hj : kEj E) (hn : kNorm E) (hl : l.stackTraces = false) {C : kC} {Q : kR → State → Prop} (hk : kOk (C, E, Q) cX6_order RX6 6) (he : kEnd (C, E, Q) (some .int) id 0) (hro : kRo C l (4) (99) 0) (F : Nat) (rr47 : (Int32 × Int32 × Int32 × Int32) → kS → Option kR) (hrr47 : ∀ (x2 : Int32) (x3 : Int32) (x4 : Int32) (x5 : Int32)  (σ : kS), Sm (C, E, Q) 6 0 47 [(0, .ref (kad E 48 0)), (2, .int x2), (3, .int x3), (4, .int x4), (5, .int x5)] [] σ (rr47 (x2, x3, x4, x5) σ)) : ∀ (x2 : Int32) (x3 : Int32) (x5 : Int32) (t0 : Int32) (t1 : Int32)  (σ : kS), Sm (C, E, Q) 6 0 110 [(0, .ref (kad E 48 0)), (2, .int x2), (3, .int x3), (5, .int x5)] [.int t1, .int t0] σ (f_X6_order_b110 F rr47 x2 x3 x5 t0 t1 σ) := by
  intro x2 x3 x5 t0 t1  σ
  unfold f_X6_order_b110
  refine k_iadd hk dX6_order_110 ?_
  refine k_nm (fun y1 => ?_)
  refine k_istore (lv' := [(4, .int y1), (0, .ref (kad E 48 0)), (2, .int x2), (3, .int x3), (5, .int x5)]) hk dX6_order_111 (by decide) rfl ?_
  refine k_iinc (lv' := [(5, .int (x5 + 1)), (4, .int y1), (0, .ref (kad E 48 0)), (2, .int x2), (3, .int x3)]) (j := 4) (y := x5 + 1) hk dX6_order_113 rfl rfl (by decide) rfl ?_
  refine k_goto hk dX6_order_116 47 (by decide) ?_
  exact k_sub [2, 3, 4, 1, 0] rfl (hrr47 x2 x3 y1 (x5 + 1)  σ)
def f_X6_order_b109 (F : Nat) (rr47 : (Int32 × Int32 × Int32 × Int32) → kS → Option kR) (x2 : Int32) (x3 : Int32) (x5 : Int32) (t0 : Int32) (σ : kS) : Option kR := f_X6_order_b110 F rr47 x2 x3 x5 t0 0 σ
set_option maxRecDepth 20000 in
theorem s_X6_order_b109 {l : Launch} {E : kE} (hj : kEj E) (hn : kNorm E) (hl : l.stackTraces = false) {C : kC} {Q : kR → State → Prop} (hk : kOk (C, E, Q) cX6_order RX6 6) (he : kEnd (C, E, Q) (some .int) id 0) (hro : kRo C l (4) (99) 0) (F : Nat) (rr47 : (Int32 × Int32 × Int32 × Int32) → kS → Option kR) (hrr47 : ∀ (x2 : Int32) (x3 : Int32) (x4 : Int32) (x5 : Int32)  (σ : kS), Sm (C, E, Q) 6 0 47 [(0, .ref (kad E 48 0)), (2, .int x2), (3, .int x3), (4, .int x4), (5, .int x5)] [] σ (rr47 (x2, x3, x4, x5) σ)) : ∀ (x2 : Int32) (x3 : Int32) (x5 : Int32) (t0 : Int32)  (σ : kS), Sm (C, E, Q) 6 0 109 [(0, .ref (kad E 48 0)), (2, .int x2), (3, .int x3), (5, .int x5)] [.int t0] σ (f_X6_order_b109 F rr47 x2 x3 x5 t0 σ) := by
  intro x2 x3 x5 t0  σ
  unfold f_X6_order_b109
  refine k_iconst (v := 0) hk dX6_order_109 (by decide) ?_
  exact k_sub [0, 1, 2, 3] rfl (s_X6_order_b110 hj hn hl hk he hro F rr47 hrr47  x2 x3 x5 t0 0  σ)
def f_X6_order_b105 (F : Nat) (rr47 : (Int32 × Int32 × Int32 × Int32) → kS → Option kR) (x2 : Int32) (x3 : Int32) (x5 : Int32) (t0 : Int32) (σ : kS) : Option kR := f_X6_order_b110 F rr47 x2 x3 x5 t0 1 σ
set_option maxRecDepth 20000 in
theorem s_X6_order_b105 {l : Launch} {E : kE} (hj : kEj E) (hn : kNorm E) (hl : l.stackTraces = false) {C : kC} {Q : kR → State → Prop} (hk : kOk (C, E, Q) cX6_order RX6 6) (he : kEnd (C, E, Q) (some .int) id 0) (hro : kRo C l (4) (99) 0) (F : Nat) (rr47 : (Int32 × Int32 × Int32 × Int32) → kS → Option kR) (hrr47 : ∀ (x2 : Int32) (x3 : Int32) (x4 : Int32) (x5 : Int32)  (σ : kS), Sm (C, E, Q) 6 0 47 [(0, .ref (kad E 48 0)), (2, .int x2), (3, .int x3), (4, .int x4), (5, .int x5)] [] σ (rr47 (x2, x3, x4, x5) σ)) : ∀ (x2 : Int32) (x3 : Int32) (x5 : Int32) (t0 : Int32)  (σ : kS), Sm (C, E, Q) 6 0 105 [(0, .ref (kad E 48 0)), (2, .int x2), (3, .int x3), (5, .int x5)] [.int t0] σ (f_X6_order_b105 F rr47 x2 x3 x5 t0 σ) := by
  intro x2 x3 x5 t0  σ
  unfold f_X6_order_b105
  refine k_iconst (v := 1) hk dX6_order_105 (by decide) ?_
  refine k_goto hk dX6_order_106 110 (by decide) ?_
  exact k_sub [0, 1, 2, 3] rfl (s_X6_order_b110 hj hn hl hk he hro F rr47 hrr47  x2 x3 x5 t0 1  σ)
def f_X6_order_b47 (F : Nat) (rr35 : (Int32 × Int32) → kS → Option kR) (rr47 : (Int32 × Int32 × Int32 × Int32) → kS → Option kR) (a : (Int32 × Int32 × Int32 × Int32)) (σ : kS) : Option kR := match a with
  | (x2, x3, x4, x5) => if 8 ≤ x5 then (kg (kin x3 8) (if (σ.1 66 0 x3.toNatClampNeg) = (-1) then (f_X6_order_b137 F rr35 x2 x3 σ) else (if x4 = x2 then (some (.inl (some (.int x3)), σ)) else (f_X6_order_b137 F rr35 x2 x3 σ)))) else (kg (kin x5 8) (if (σ.1 66 0 x5.toNatClampNeg) = (-1) then (f_X6_order_b109 F rr47 x2 x3 x5 x4 σ) else (kg (kin x5 8) (kg (kin x3 8) (if (σ.1 66 0 x5.toNatClampNeg) < (σ.1 66 0 x3.toNatClampNeg) then (f_X6_order_b105 F rr47 x2 x3 x5 x4 σ) else (kg (kin x5 8) (kg (kin x3 8) (if (σ.1 66 0 x5.toNatClampNeg) = (σ.1 66 0 x3.toNatClampNeg) then (if x3 ≤ x5 then (f_X6_order_b109 F rr47 x2 x3 x5 x4 σ) else (f_X6_order_b105 F rr47 x2 x3 x5 x4 σ)) else (f_X6_order_b109 F rr47 x2 x3 x5 x4 σ)))))))))
set_option maxRecDepth 20000 in
theorem s_X6_order_b47 {l : Launch} {E : kE} (hj : kEj E) (hn : kNorm E) (hl : l.stackTraces = false) {C : kC} {Q : kR → State → Prop} (hk : kOk (C, E, Q) cX6_order RX6 6) (he : kEnd (C, E, Q) (some .int) id 0) (hro : kRo C l (4) (99) 0) (F : Nat) (rr35 : (Int32 × Int32) → kS → Option kR) (hrr35 : ∀ (x2 : Int32) (x3 : Int32)  (σ : kS), Sm (C, E, Q) 6 0 35 [(0, .ref (kad E 48 0)), (2, .int x2), (3, .int x3)] [] σ (rr35 (x2, x3) σ)) : ∀ (N9 : Nat) (x2 : Int32) (x3 : Int32) (x4 : Int32) (x5 : Int32)  (σ : kS), Sm (C, E, Q) 6 0 47 [(0, .ref (kad E 48 0)), (2, .int x2), (3, .int x3), (4, .int x4), (5, .int x5)] [] σ (kFix (f_X6_order_b47 F rr35) N9 (x2, x3, x4, x5) σ) := by
  intro N9
  induction N9 with
  | zero => intro x2 x3 x4 x5  σ; exact k_no
  | succ N9 ih =>
    intro x2 x3 x4 x5  σ
    show Sm _ _ _ _ _ _ _ (f_X6_order_b47 F rr35 (kFix (f_X6_order_b47 F rr35) N9) (x2, x3, x4, x5) σ)
    generalize kFix (f_X6_order_b47 F rr35) N9 = rr47 at ih
    have hrr47 := ih
    unfold f_X6_order_b47
    dsimp only
    refine k_iload hk dX6_order_47 4 rfl ?_
    refine k_bipush (v := 8) hk dX6_order_49 (by decide) ?_
    refine k_icmp_ge hk dX6_order_51 119 (by decide) (fun h2 => ?_) (fun h2 => ?_)
    · refine k_aload_n hk dX6_order_119 0 rfl ?_
      refine k_getr (k := 25) 66 0 hk dX6_order_120 rfl (by decide) kc6 (by decide) fl_RX6_58 rfl rfl ?_
      refine k_iload_n hk dX6_order_123 2 rfl ?_
      refine k_iald hk dX6_order_124 rfl (by decide) (fun h3 => ?_)
      refine k_iconst (v := (-1)) hk dX6_order_125 (by decide) ?_
      refine k_icmp_eq hk dX6_order_126 137 (by decide) (fun h4 => ?_) (fun h4 => ?_)
      · exact k_sub [0, 1, 2] rfl (s_X6_order_b137 hj hn hl hk he hro F rr35 hrr35  x2 x3  σ)
      · refine k_iload hk dX6_order_129 3 rfl ?_
        refine k_iload_n hk dX6_order_131 1 rfl ?_
        refine k_icmp_ne hk dX6_order_132 137 (by decide) (fun h5 => ?_) (fun h5 => ?_)
        · exact k_sub [0, 1, 2] rfl (s_X6_order_b137 hj hn hl hk he hro F rr35 hrr35  x2 x3  σ)
        · refine k_iload_n hk dX6_order_135 2 rfl ?_
          exact k_ireturn hk he dX6_order_136 (by decide)
    · refine k_iload hk dX6_order_54 3 rfl ?_
      refine k_aload_n hk dX6_order_56 0 rfl ?_
      refine k_getr (k := 25) 66 0 hk dX6_order_57 rfl (by decide) kc6 (by decide) fl_RX6_58 rfl rfl ?_
      refine k_iload hk dX6_order_60 4 rfl ?_
      refine k_iald hk dX6_order_62 rfl (by decide) (fun h6 => ?_)
      refine k_iconst (v := (-1)) hk dX6_order_63 (by decide) ?_
      refine k_icmp_eq hk dX6_order_64 109 (by decide) (fun h7 => ?_) (fun h7 => ?_)
      · exact k_sub [0, 1, 2, 4] rfl (s_X6_order_b109 hj hn hl hk he hro F rr47 hrr47  x2 x3 x5 x4  σ)
      · refine k_aload_n hk dX6_order_67 0 rfl ?_
        refine k_getr (k := 25) 66 0 hk dX6_order_68 rfl (by decide) kc6 (by decide) fl_RX6_58 rfl rfl ?_
        refine k_iload hk dX6_order_71 4 rfl ?_
        refine k_iald hk dX6_order_73 rfl (by decide) (fun h8 => ?_)
        refine k_aload_n hk dX6_order_74 0 rfl ?_
        refine k_getr (k := 25) 66 0 hk dX6_order_75 rfl (by decide) kc6 (by decide) fl_RX6_58 rfl rfl ?_
        refine k_iload_n hk dX6_order_78 2 rfl ?_
        refine k_iald hk dX6_order_79 rfl (by decide) (fun h9 => ?_)
        refine k_icmp_lt hk dX6_order_80 105 (by decide) (fun h10 => ?_) (fun h10 => ?_)
        · exact k_sub [0, 1, 2, 4] rfl (s_X6_order_b105 hj hn hl hk he hro F rr47 hrr47  x2 x3 x5 x4  σ)
        · refine k_aload_n hk dX6_order_83 0 rfl ?_
          refine k_getr (k := 25) 66 0 hk dX6_order_84 rfl (by decide) kc6 (by decide) fl_RX6_58 rfl rfl ?_
          refine k_iload hk dX6_order_87 4 rfl ?_
          refine k_iald hk dX6_order_89 rfl (by decide) (fun h11 => ?_)
          refine k_aload_n hk dX6_order_90 0 rfl ?_
          refine k_getr (k := 25) 66 0 hk dX6_order_91 rfl (by decide) kc6 (by decide) fl_RX6_58 rfl rfl ?_
          refine k_iload_n hk dX6_order_94 2 rfl ?_
          refine k_iald hk dX6_order_95 rfl (by decide) (fun h12 => ?_)
          refine k_icmp_ne hk dX6_order_96 109 (by decide) (fun h13 => ?_) (fun h13 => ?_)
          · exact k_sub [0, 1, 2, 4] rfl (s_X6_order_b109 hj hn hl hk he hro F rr47 hrr47  x2 x3 x5 x4  σ)
          · refine k_iload hk dX6_order_99 4 rfl ?_
            refine k_iload_n hk dX6_order_101 2 rfl ?_
            refine k_icmp_ge hk dX6_order_102 109 (by decide) (fun h14 => ?_) (fun h14 => ?_)
            · exact k_sub [0, 1, 2, 4] rfl (s_X6_order_b109 hj hn hl hk he hro F rr47 hrr47  x2 x3 x5 x4  σ)
            · exact k_sub [0, 1, 2, 4] rfl (s_X6_order_b105 hj hn hl hk he hro F rr47 hrr47  x2 x3 x5 x4  σ)
def f_X6_order_b35 (F : Nat) (rr35 : (Int32 × Int32) → kS → Option kR) (a : (Int32 × Int32)) (σ : kS) : Option kR := match a with
  | (x2, x3) => if 8 ≤ x3 then (some (.inl (some (.int (-1))), σ)) else (kFix (f_X6_order_b47 F rr35) F (x2, x3, 0, 0) σ)
set_option maxRecDepth 20000 in
theorem s_X6_order_b35 {l : Launch} {E : kE} (hj : kEj E) (hn : kNorm E) (hl : l.stackTraces = false) {C : kC} {Q : kR → State → Prop} (hk : kOk (C, E, Q) cX6_order RX6 6) (he : kEnd (C, E, Q) (some .int) id 0) (hro : kRo C l (4) (99) 0) (F : Nat) : ∀ (N9 : Nat) (x2 : Int32) (x3 : Int32)  (σ : kS), Sm (C, E, Q) 6 0 35 [(0, .ref (kad E 48 0)), (2, .int x2), (3, .int x3)] [] σ (kFix (f_X6_order_b35 F) N9 (x2, x3) σ) := by
  intro N9
  induction N9 with
  | zero => intro x2 x3  σ; exact k_no
  | succ N9 ih =>
    intro x2 x3  σ
    show Sm _ _ _ _ _ _ _ (f_X6_order_b35 F (kFix (f_X6_order_b35 F) N9) (x2, x3) σ)
    generalize kFix (f_X6_order_b35 F) N9 = rr35 at ih
    have hrr35 := ih
    unfold f_X6_order_b35
    dsimp only
    refine k_iload_n hk dX6_order_35 2 rfl ?_
    refine k_bipush (v := 8) hk dX6_order_36 (by decide) ?_
    refine k_icmp_ge hk dX6_order_38 143 (by decide) (fun h15 => ?_) (fun h15 => ?_)
    · refine k_iconst (v := (-1)) hk dX6_order_143 (by decide) ?_
      exact k_ireturn hk he dX6_order_144 (by decide)
    · refine k_iconst (v := 0) hk dX6_order_41 (by decide) ?_
      refine k_istore (lv' := [(4, .int 0), (0, .ref (kad E 48 0)), (2, .int x2), (3, .int x3)]) hk dX6_order_42 (by decide) rfl ?_
      refine k_iconst (v := 0) hk dX6_order_44 (by decide) ?_
      refine k_istore (lv' := [(5, .int 0), (4, .int 0), (0, .ref (kad E 48 0)), (2, .int x2), (3, .int x3)]) hk dX6_order_45 (by decide) rfl ?_
      exact k_sub [2, 3, 4, 1, 0] rfl (s_X6_order_b47 hj hn hl hk he hro F rr35 hrr35 F x2 x3 0 0  σ)
def f_X6_order_b19 (F : Nat) (x1 : Int32) (x2 : Int32) (t1 : Int32) (σ : kS) : Option kR := kBi (f_X6_bad F t1 1 σ) fun c17 σ16 => if c17 = 0 then (kBv (f_X6_runs F x1 σ16) fun σ19 => kFix (f_X6_order_b35 F) F (x2, 0) σ19) else (some (.inl (some (.int 0)), σ16))
set_option maxRecDepth 20000 in
theorem s_X6_order_b19 {l : Launch} {E : kE} (hj : kEj E) (hn : kNorm E) (hl : l.stackTraces = false) {C : kC} {Q : kR → State → Prop} (hk : kOk (C, E, Q) cX6_order RX6 6) (he : kEnd (C, E, Q) (some .int) id 0) (hro : kRo C l (4) (99) 0) (F : Nat) : ∀ (x1 : Int32) (x2 : Int32) (t1 : Int32)  (σ : kS), Sm (C, E, Q) 6 0 19 [(0, .ref (kad E 48 0)), (1, .int x1), (2, .int x2)] [.int t1, .ref (kad E 48 0)] σ (f_X6_order_b19 F x1 x2 t1 σ) := by
  intro x1 x2 t1  σ
  unfold f_X6_order_b19
  refine k_iconst (v := 1) hk dX6_order_19 (by decide) ?_
  refine k_callVi (As := [.int t1, .int 1]) (rest := []) hk he hro (c_X6_bad hj hn hl F t1 1  σ) dX6_order_20 cw_RX6_220 rfl (by decide) kc6 rfl ⟨by decide, by decide⟩ (by decide) rfl (Nat.le_of_ble_eq_true rfl) (fun c17 σ16 => ?_)
  refine k_if_eq hk dX6_order_23 28 (by decide) (fun h18 => ?_) (fun h18 => ?_)
  · refine k_aload_n hk dX6_order_28 0 rfl ?_
    refine k_iload_n hk dX6_order_29 1 rfl ?_
    refine k_callVv (As := [.int x1]) (rest := []) hk he hro (c_X6_runs hj hn hl F x1  σ16) dX6_order_30 cw_RX6_279 rfl (by decide) kc6 rfl ⟨by decide, by decide⟩ (by decide) rfl (Nat.le_of_ble_eq_true rfl) (fun σ19 => ?_)
    refine k_iconst (v := 0) hk dX6_order_33 (by decide) ?_
    refine k_istore_n (lv' := [(3, .int 0), (0, .ref (kad E 48 0)), (1, .int x1), (2, .int x2)]) hk dX6_order_34 (by decide) rfl ?_
    exact k_sub [1, 3, 0] rfl (s_X6_order_b35 hj hn hl hk he hro F F x2 0  σ19)
  · refine k_iconst (v := 0) hk dX6_order_26 (by decide) ?_
    exact k_ireturn hk he dX6_order_27 (by decide)
def f_X6_order (F : Nat) (a1 : Int32) (a2 : Int32) (σ : kS) : Option kR := kb (kU σ 48 0 0 0) fun σ20 => kBi (f_X6_isWhy F a1 σ20) fun c22 σ21 => if c22 = 0 then (f_X6_order_b19 F a1 a2 1 σ21) else (f_X6_order_b19 F a1 a2 0 σ21)
set_option maxRecDepth 20000 in
theorem c_X6_order {l : Launch} {E : kE} (hj : kEj E) (hn : kNorm E) (hl : l.stackTraces = false) (F : Nat) (a1 : Int32) (a2 : Int32)  (σ : kS) : kMet l E yX6_order cX6_order 6 (some .int) (4) (99) 0 id [.ref (kad E 48 0), .int a1, .int a2] σ (f_X6_order F a1 a2 σ) := by
  refine k_met hj hn hl (by decide) (Nat.le_of_ble_eq_true rfl) (fun C Q hk he hro => ?_)
  have hk : kOk (C, E, Q) cX6_order RX6 6 := hk
  show Sm (C, E, Q) 6 0 0 [(0, .ref (kad E 48 0)), (1, .int a1), (2, .int a2)] [] σ _
  unfold f_X6_order
  refine k_aload_n hk dX6_order_0 0 rfl ?_
  refine k_iconst (v := 0) hk dX6_order_1 (by decide) ?_
  refine k_putf (k := 0) hk dX6_order_2 rfl (by decide) kc6 (by decide) fl_RX6_113 rfl rfl rfl rfl (fun σ20 => ?_)
  refine k_aload_n hk dX6_order_5 0 rfl ?_
  refine k_aload_n hk dX6_order_6 0 rfl ?_
  refine k_iload_n hk dX6_order_7 1 rfl ?_
  refine k_callVi (As := [.int a1]) (rest := [.ref (kad E 48 0)]) hk he hro (c_X6_isWhy hj hn hl F a1  σ20) dX6_order_8 cw_RX6_234 rfl (by decide) kc6 rfl ⟨by decide, by decide⟩ (by decide) rfl (Nat.le_of_ble_eq_true rfl) (fun c22 σ21 => ?_)
  refine k_if_ne hk dX6_order_11 18 (by decide) (fun h23 => ?_) (fun h23 => ?_)
  · refine k_iconst (v := 0) hk dX6_order_18 (by decide) ?_
    exact k_sub [0, 1, 2] rfl (s_X6_order_b19 hj hn hl hk he hro F  a1 a2 0  σ21)
  · refine k_iconst (v := 1) hk dX6_order_14 (by decide) ?_
    refine k_goto hk dX6_order_15 19 (by decide) ?_
    exact k_sub [0, 1, 2] rfl (s_X6_order_b19 hj hn hl hk he hro F  a1 a2 1  σ21)
def f_X6_dry_b74 (F : Nat) (x2 : Int32) (σ : kS) : Option kR := kb (kU σ 48 0 41 (-1)) fun σ1 => some (.inl (some (.int x2)), σ1)
set_option maxRecDepth 20000 in
theorem s_X6_dry_b74 {l : Launch} {E : kE} (hj : kEj E) (hn : kNorm E) (hl : l.stackTraces = false) {C : kC} {Q : kR → State → Prop} (hk : kOk (C, E, Q) cX6_dry RX6 4) (he : kEnd (C, E, Q) (some .int) id 0) (hro : kRo C l (4) (99) 0) (F : Nat) : ∀ (x2 : Int32)  (σ : kS), Sm (C, E, Q) 4 0 74 [(0, .ref (kad E 48 0)), (2, .int x2)] [] σ (f_X6_dry_b74 F x2 σ) := by
  intro x2  σ
  unfold f_X6_dry_b74
  refine k_aload_n hk dX6_dry_74 0 rfl ?_
  refine k_iconst (v := (-1)) hk dX6_dry_75 (by decide) ?_
  refine k_putf (k := 41) hk dX6_dry_76 rfl (by decide) kc6 (by decide) fl_RX6_94 rfl rfl rfl rfl (fun σ1 => ?_)
  refine k_iload_n hk dX6_dry_79 1 rfl ?_
  exact k_ireturn hk he dX6_dry_80 (by decide)
def f_X6_dry_b67 (F : Nat) (rr32 : (Int32 × Int32 × Int32) → kS → Option kR) (x1 : Int32) (x3 : Int32) (t0 : Int32) (σ : kS) : Option kR := rr32 (x1, t0, x3 + 1) σ
set_option maxRecDepth 20000 in
theorem s_X6_dry_b67 {l : Launch} {E : kE} (hj : kEj E) (hn : kNorm E) (hl : l.stackTraces = false) {C : kC} {Q : kR → State → Prop} (hk : kOk (C, E, Q) cX6_dry RX6 4) (he : kEnd (C, E, Q) (some .int) id 0) (hro : kRo C l (4) (99) 0) (F : Nat) (rr32 : (Int32 × Int32 × Int32) → kS → Option kR) (hrr32 : ∀ (x1 : Int32) (x2 : Int32) (x3 : Int32)  (σ : kS), Sm (C, E, Q) 4 0 32 [(0, .ref (kad E 48 0)), (1, .int x1), (2, .int x2), (3, .int x3)] [] σ (rr32 (x1, x2, x3) σ)) : ∀ (x1 : Int32) (x3 : Int32) (t0 : Int32)  (σ : kS), Sm (C, E, Q) 4 0 67 [(0, .ref (kad E 48 0)), (1, .int x1), (3, .int x3)] [.int t0] σ (f_X6_dry_b67 F rr32 x1 x3 t0 σ) := by
  intro x1 x3 t0  σ
  unfold f_X6_dry_b67
  refine k_istore_n (lv' := [(2, .int t0), (0, .ref (kad E 48 0)), (1, .int x1), (3, .int x3)]) hk dX6_dry_67 (by decide) rfl ?_
  refine k_iinc (lv' := [(3, .int (x3 + 1)), (2, .int t0), (0, .ref (kad E 48 0)), (1, .int x1)]) (j := 3) (y := x3 + 1) hk dX6_dry_68 rfl rfl (by decide) rfl ?_
  refine k_goto hk dX6_dry_71 32 (by decide) ?_
  exact k_sub [2, 3, 1, 0] rfl (hrr32 x1 t0 (x3 + 1)  σ)
def f_X6_dry_b32 (F : Nat) (rr32 : (Int32 × Int32 × Int32) → kS → Option kR) (a : (Int32 × Int32 × Int32)) (σ : kS) : Option kR := match a with
  | (x1, x2, x3) => if 1000 ≤ x3 then (f_X6_dry_b74 F x2 σ) else (if x2 = (-1) then (kb (kU σ 48 0 41 x3) fun σ4 => kBv (f_X6_runs F x1 σ4) fun σ5 => if (σ5.1 48 0 37) = (-1) then (f_X6_dry_b67 F rr32 x1 x3 x3 σ5) else (f_X6_dry_b67 F rr32 x1 x3 (-1) σ5)) else (f_X6_dry_b74 F x2 σ))
set_option maxRecDepth 20000 in
theorem s_X6_dry_b32 {l : Launch} {E : kE} (hj : kEj E) (hn : kNorm E) (hl : l.stackTraces = false) {C : kC} {Q : kR → State → Prop} (hk : kOk (C, E, Q) cX6_dry RX6 4) (he : kEnd (C, E, Q) (some .int) id 0) (hro : kRo C l (4) (99) 0) (F : Nat) : ∀ (N9 : Nat) (x1 : Int32) (x2 : Int32) (x3 : Int32)  (σ : kS), Sm (C, E, Q) 4 0 32 [(0, .ref (kad E 48 0)), (1, .int x1), (2, .int x2), (3, .int x3)] [] σ (kFix (f_X6_dry_b32 F) N9 (x1, x2, x3) σ) := by
  intro N9
  induction N9 with
  | zero => intro x1 x2 x3  σ; exact k_no
  | succ N9 ih =>
    intro x1 x2 x3  σ
    show Sm _ _ _ _ _ _ _ (f_X6_dry_b32 F (kFix (f_X6_dry_b32 F) N9) (x1, x2, x3) σ)
    generalize kFix (f_X6_dry_b32 F) N9 = rr32 at ih
    have hrr32 := ih
    unfold f_X6_dry_b32
    dsimp only
    refine k_iload_n hk dX6_dry_32 3 rfl ?_
    refine k_sipush (v := 1000) hk dX6_dry_33 (by decide) ?_
    refine k_icmp_ge hk dX6_dry_36 74 (by decide) (fun h2 => ?_) (fun h2 => ?_)
    · exact k_sub [0, 2] rfl (s_X6_dry_b74 hj hn hl hk he hro F  x2  σ)
    · refine k_iload_n hk dX6_dry_39 2 rfl ?_
      refine k_iconst (v := (-1)) hk dX6_dry_40 (by decide) ?_
      refine k_icmp_ne hk dX6_dry_41 74 (by decide) (fun h3 => ?_) (fun h3 => ?_)
      · exact k_sub [0, 2] rfl (s_X6_dry_b74 hj hn hl hk he hro F  x2  σ)
      · refine k_aload_n hk dX6_dry_44 0 rfl ?_
        refine k_iload_n hk dX6_dry_45 3 rfl ?_
        refine k_putf (k := 41) hk dX6_dry_46 rfl (by decide) kc6 (by decide) fl_RX6_94 rfl rfl rfl rfl (fun σ4 => ?_)
        refine k_aload_n hk dX6_dry_49 0 rfl ?_
        refine k_iload_n hk dX6_dry_50 1 rfl ?_
        refine k_callVv (As := [.int x1]) (rest := []) hk he hro (c_X6_runs hj hn hl F x1  σ4) dX6_dry_51 cw_RX6_279 rfl (by decide) kc6 rfl ⟨by decide, by decide⟩ (by decide) rfl (Nat.le_of_ble_eq_true rfl) (fun σ5 => ?_)
        refine k_aload_n hk dX6_dry_54 0 rfl ?_
        refine k_getf (k := 37) hk dX6_dry_55 rfl (by decide) kc6 (by decide) fl_RX6_249 rfl ?_
        refine k_iconst (v := (-1)) hk dX6_dry_58 (by decide) ?_
        refine k_icmp_ne hk dX6_dry_59 66 (by decide) (fun h6 => ?_) (fun h6 => ?_)
        · refine k_iconst (v := (-1)) hk dX6_dry_66 (by decide) ?_
          exact k_sub [0, 1, 3] rfl (s_X6_dry_b67 hj hn hl hk he hro F rr32 hrr32  x1 x3 (-1)  σ5)
        · refine k_iload_n hk dX6_dry_62 3 rfl ?_
          refine k_goto hk dX6_dry_63 67 (by decide) ?_
          exact k_sub [0, 1, 3] rfl (s_X6_dry_b67 hj hn hl hk he hro F rr32 hrr32  x1 x3 x3  σ5)
def f_X6_dry_b19 (F : Nat) (x1 : Int32) (t1 : Int32) (σ : kS) : Option kR := kBi (f_X6_bad F t1 1 σ) fun c8 σ7 => if c8 = 0 then (kFix (f_X6_dry_b32 F) F (x1, (-1), 0) σ7) else (some (.inl (some (.int 0)), σ7))
set_option maxRecDepth 20000 in
theorem s_X6_dry_b19 {l : Launch} {E : kE} (hj : kEj E) (hn : kNorm E) (hl : l.stackTraces = false) {C : kC} {Q : kR → State → Prop} (hk : kOk (C, E, Q) cX6_dry RX6 4) (he : kEnd (C, E, Q) (some .int) id 0) (hro : kRo C l (4) (99) 0) (F : Nat) : ∀ (x1 : Int32) (t1 : Int32)  (σ : kS), Sm (C, E, Q) 4 0 19 [(0, .ref (kad E 48 0)), (1, .int x1)] [.int t1, .ref (kad E 48 0)] σ (f_X6_dry_b19 F x1 t1 σ) := by
  intro x1 t1  σ
  unfold f_X6_dry_b19
  refine k_iconst (v := 1) hk dX6_dry_19 (by decide) ?_
  refine k_callVi (As := [.int t1, .int 1]) (rest := []) hk he hro (c_X6_bad hj hn hl F t1 1  σ) dX6_dry_20 cw_RX6_220 rfl (by decide) kc6 rfl ⟨by decide, by decide⟩ (by decide) rfl (Nat.le_of_ble_eq_true rfl) (fun c8 σ7 => ?_)
  refine k_if_eq hk dX6_dry_23 28 (by decide) (fun h9 => ?_) (fun h9 => ?_)
  · refine k_iconst (v := (-1)) hk dX6_dry_28 (by decide) ?_
    refine k_istore_n (lv' := [(2, .int (-1)), (0, .ref (kad E 48 0)), (1, .int x1)]) hk dX6_dry_29 (by decide) rfl ?_
    refine k_iconst (v := 0) hk dX6_dry_30 (by decide) ?_
    refine k_istore_n (lv' := [(3, .int 0), (2, .int (-1)), (0, .ref (kad E 48 0)), (1, .int x1)]) hk dX6_dry_31 (by decide) rfl ?_
    exact k_sub [2, 3, 1, 0] rfl (s_X6_dry_b32 hj hn hl hk he hro F F x1 (-1) 0  σ7)
  · refine k_iconst (v := 0) hk dX6_dry_26 (by decide) ?_
    exact k_ireturn hk he dX6_dry_27 (by decide)
def f_X6_dry (F : Nat) (a1 : Int32) (σ : kS) : Option kR := kb (kU σ 48 0 0 0) fun σ10 => kBi (f_X6_isWhy F a1 σ10) fun c12 σ11 => if c12 = 0 then (f_X6_dry_b19 F a1 1 σ11) else (f_X6_dry_b19 F a1 0 σ11)
set_option maxRecDepth 20000 in
theorem c_X6_dry {l : Launch} {E : kE} (hj : kEj E) (hn : kNorm E) (hl : l.stackTraces = false) (F : Nat) (a1 : Int32)  (σ : kS) : kMet l E yX6_dry cX6_dry 4 (some .int) (4) (99) 0 id [.ref (kad E 48 0), .int a1] σ (f_X6_dry F a1 σ) := by
  refine k_met hj hn hl (by decide) (Nat.le_of_ble_eq_true rfl) (fun C Q hk he hro => ?_)
  have hk : kOk (C, E, Q) cX6_dry RX6 4 := hk
  show Sm (C, E, Q) 4 0 0 [(0, .ref (kad E 48 0)), (1, .int a1)] [] σ _
  unfold f_X6_dry
  refine k_aload_n hk dX6_dry_0 0 rfl ?_
  refine k_iconst (v := 0) hk dX6_dry_1 (by decide) ?_
  refine k_putf (k := 0) hk dX6_dry_2 rfl (by decide) kc6 (by decide) fl_RX6_113 rfl rfl rfl rfl (fun σ10 => ?_)
  refine k_aload_n hk dX6_dry_5 0 rfl ?_
  refine k_aload_n hk dX6_dry_6 0 rfl ?_
  refine k_iload_n hk dX6_dry_7 1 rfl ?_
  refine k_callVi (As := [.int a1]) (rest := [.ref (kad E 48 0)]) hk he hro (c_X6_isWhy hj hn hl F a1  σ10) dX6_dry_8 cw_RX6_234 rfl (by decide) kc6 rfl ⟨by decide, by decide⟩ (by decide) rfl (Nat.le_of_ble_eq_true rfl) (fun c12 σ11 => ?_)
  refine k_if_ne hk dX6_dry_11 18 (by decide) (fun h13 => ?_) (fun h13 => ?_)
  · refine k_iconst (v := 0) hk dX6_dry_18 (by decide) ?_
    exact k_sub [0, 1] rfl (s_X6_dry_b19 hj hn hl hk he hro F  a1 0  σ11)
  · refine k_iconst (v := 1) hk dX6_dry_14 (by decide) ?_
    refine k_goto hk dX6_dry_15 19 (by decide) ?_
    exact k_sub [0, 1] rfl (s_X6_dry_b19 hj hn hl hk he hro F  a1 1  σ11)
def f_X6_moves_b16 (F : Nat) (x1 : Int32) (σ : kS) : Option kR := kb (kU σ 48 0 51 ((σ.1 48 0 51) + 1)) fun σ1 => kg (kin x1 3) (kb (x1.toNatClampNeg) fun j2 => kg (kin ((σ1.1 48 0 51) - 1) 160) (some (.inl (some (.int (σ1.1 88 j2 ((σ1.1 48 0 51) - 1).toNatClampNeg))), σ1)))
set_option maxRecDepth 20000 in
theorem s_X6_moves_b16 {l : Launch} {E : kE} (hj : kEj E) (hn : kNorm E) (hl : l.stackTraces = false) {C : kC} {Q : kR → State → Prop} (hk : kOk (C, E, Q) cX6_moves RX6 4) (he : kEnd (C, E, Q) (some .int) id 0) (hro : kRo C l (0) (0) 0) (F : Nat) : ∀ (x1 : Int32)  (σ : kS), Sm (C, E, Q) 4 0 16 [(0, .ref (kad E 48 0)), (1, .int x1)] [] σ (f_X6_moves_b16 F x1 σ) := by
  intro x1  σ
  unfold f_X6_moves_b16
  refine k_aload_n hk dX6_moves_16 0 rfl ?_
  refine k_dup hk dX6_moves_17 rfl ?_
  refine k_getf (k := 51) hk dX6_moves_18 rfl (by decide) kc6 (by decide) fl_RX6_342 rfl ?_
  refine k_iconst (v := 1) hk dX6_moves_21 (by decide) ?_
  refine k_iadd hk dX6_moves_22 ?_
  refine k_putf (k := 51) hk dX6_moves_23 rfl (by decide) kc6 (by decide) fl_RX6_342 rfl rfl rfl rfl (fun σ1 => ?_)
  refine k_aload_n hk dX6_moves_26 0 rfl ?_
  refine k_getr (k := 50) 87 0 hk dX6_moves_27 rfl (by decide) kc6 (by decide) fl_RX6_106 rfl rfl ?_
  refine k_iload_n hk dX6_moves_30 1 rfl ?_
  refine k_aaldj (g' := 88) (fun z => z) hk dX6_moves_31 rfl rfl rfl (by decide) (fun z => rfl) (by decide) (fun j2 hj2 => ?_)
  refine k_aload_n hk dX6_moves_32 0 rfl ?_
  refine k_getf (k := 51) hk dX6_moves_33 rfl (by decide) kc6 (by decide) fl_RX6_342 rfl ?_
  refine k_iconst (v := 1) hk dX6_moves_36 (by decide) ?_
  refine k_isub hk dX6_moves_37 ?_
  refine k_iald hk dX6_moves_38 rfl hj2 (fun h3 => ?_)
  exact k_ireturn hk he dX6_moves_39 (by decide)
def f_X6_moves (F : Nat) (a1 : Int32) (a2 : Int32) (a3 : Int32) (σ : kS) : Option kR := if a3 = 0 then (kg (kin a1 3) (kb (a1.toNatClampNeg) fun j5 => kg (kin (σ.1 48 0 51) 160) (kb (kU σ 88 j5 (σ.1 48 0 51).toNatClampNeg a2) fun σ6 => f_X6_moves_b16 F a1 σ6))) else (f_X6_moves_b16 F a1 σ)
set_option maxRecDepth 20000 in
theorem c_X6_moves {l : Launch} {E : kE} (hj : kEj E) (hn : kNorm E) (hl : l.stackTraces = false) (F : Nat) (a1 : Int32) (a2 : Int32) (a3 : Int32)  (σ : kS) : kMet l E yX6_moves cX6_moves 4 (some .int) (0) (0) 0 id [.ref (kad E 48 0), .int a1, .int a2, .int a3] σ (f_X6_moves F a1 a2 a3 σ) := by
  refine k_met hj hn hl (by decide) (Nat.le_of_ble_eq_true rfl) (fun C Q hk he hro => ?_)
  have hk : kOk (C, E, Q) cX6_moves RX6 4 := hk
  show Sm (C, E, Q) 4 0 0 [(0, .ref (kad E 48 0)), (1, .int a1), (2, .int a2), (3, .int a3)] [] σ _
  unfold f_X6_moves
  refine k_iload_n hk dX6_moves_0 3 rfl ?_
  refine k_if_ne hk dX6_moves_1 16 (by decide) (fun h4 => ?_) (fun h4 => ?_)
  · exact k_sub [0, 1] rfl (s_X6_moves_b16 hj hn hl hk he hro F  a1  σ)
  · refine k_aload_n hk dX6_moves_4 0 rfl ?_
    refine k_getr (k := 50) 87 0 hk dX6_moves_5 rfl (by decide) kc6 (by decide) fl_RX6_106 rfl rfl ?_
    refine k_iload_n hk dX6_moves_8 1 rfl ?_
    refine k_aaldj (g' := 88) (fun z => z) hk dX6_moves_9 rfl rfl rfl (by decide) (fun z => rfl) (by decide) (fun j5 hj5 => ?_)
    refine k_aload_n hk dX6_moves_10 0 rfl ?_
    refine k_getf (k := 51) hk dX6_moves_11 rfl (by decide) kc6 (by decide) fl_RX6_342 rfl ?_
    refine k_iload_n hk dX6_moves_14 2 rfl ?_
    refine k_iast hk dX6_moves_15 rfl hj5 (fun h7 σ6 => ?_)
    exact k_sub [0, 1] rfl (s_X6_moves_b16 hj hn hl hk he hro F  a1  σ6)
def f_X6_movesRow_number_b3 (F : Nat) (rr3 : (Int32 × Int32 × Int32) → kS → Option kR) (a : (Int32 × Int32 × Int32)) (σ : kS) : Option kR := match a with
  | (x1, x3, x4) => if 10 ≤ x4 then (some (.inl none, σ)) else (kg (kin x4 10) (kBi (f_X6_moves F x1 (σ.1 61 0 x4.toNatClampNeg) x3 σ) fun c4 σ3 => kg (kin x4 10) (kb (kU σ3 61 0 x4.toNatClampNeg c4) fun σ5 => rr3 (x1, x3, x4 + 1) σ5)))
set_option maxRecDepth 20000 in
theorem s_X6_movesRow_number_b3 {l : Launch} {E : kE} (hj : kEj E) (hn : kNorm E) (hl : l.stackTraces = false) {C : kC} {Q : kR → State → Prop} (hk : kOk (C, E, Q) cX6_movesRow RX6 5) (he : kEnd (C, E, Q) none id 0) (hro : kRo C l (1) (23) 0) (F : Nat) : ∀ (N9 : Nat) (x1 : Int32) (x3 : Int32) (x4 : Int32)  (σ : kS), Sm (C, E, Q) 5 0 3 [(0, .ref (kad E 48 0)), (1, .int x1), (2, .ref (kad E 61 0)), (3, .int x3), (4, .int x4)] [] σ (kFix (f_X6_movesRow_number_b3 F) N9 (x1, x3, x4) σ) := by
  intro N9
  induction N9 with
  | zero => intro x1 x3 x4  σ; exact k_no
  | succ N9 ih =>
    intro x1 x3 x4  σ
    show Sm _ _ _ _ _ _ _ (f_X6_movesRow_number_b3 F (kFix (f_X6_movesRow_number_b3 F) N9) (x1, x3, x4) σ)
    generalize kFix (f_X6_movesRow_number_b3 F) N9 = rr3 at ih
    have hrr3 := ih
    unfold f_X6_movesRow_number_b3
    dsimp only
    refine k_iload hk dX6_movesRow_3 4 rfl ?_
    refine k_aload_n hk dX6_movesRow_5 2 rfl ?_
    refine k_alen (v := 10) hk dX6_movesRow_6 rfl (by decide) (by decide) ?_
    refine k_icmp_ge hk dX6_movesRow_7 30 (by decide) (fun h1 => ?_) (fun h1 => ?_)
    · exact k_return hk he dX6_movesRow_30 (by decide)
    · refine k_aload_n hk dX6_movesRow_10 2 rfl ?_
      refine k_iload hk dX6_movesRow_11 4 rfl ?_
      refine k_aload_n hk dX6_movesRow_13 0 rfl ?_
      refine k_iload_n hk dX6_movesRow_14 1 rfl ?_
      refine k_aload_n hk dX6_movesRow_15 2 rfl ?_
      refine k_iload hk dX6_movesRow_16 4 rfl ?_
      refine k_iald hk dX6_movesRow_18 rfl (by decide) (fun h2 => ?_)
      refine k_iload_n hk dX6_movesRow_19 3 rfl ?_
      refine k_callVi (As := [.int x1, .int (σ.1 61 0 x4.toNatClampNeg), .int x3]) (rest := [.int x4, .ref (kad E 61 0)]) hk he hro (c_X6_moves hj hn hl F x1 (σ.1 61 0 x4.toNatClampNeg) x3  σ) dX6_movesRow_20 cw_RX6_345 rfl (by decide) kc6 rfl ⟨by decide, by decide⟩ (by decide) rfl (Nat.le_of_ble_eq_true rfl) (fun c4 σ3 => ?_)
      refine k_iast hk dX6_movesRow_23 rfl (by decide) (fun h6 σ5 => ?_)
      refine k_iinc (lv' := [(4, .int (x4 + 1)), (0, .ref (kad E 48 0)), (1, .int x1), (2, .ref (kad E 61 0)), (3, .int x3)]) (j := 4) (y := x4 + 1) hk dX6_movesRow_24 rfl rfl (by decide) rfl ?_
      refine k_goto hk dX6_movesRow_27 3 (by decide) ?_
      exact k_sub [1, 2, 3, 4, 0] rfl (hrr3 x1 x3 (x4 + 1)  σ5)
def f_X6_movesRow_number (F : Nat) (a1 : Int32) (a3 : Int32) (σ : kS) : Option kR := kFix (f_X6_movesRow_number_b3 F) F (a1, a3, 0) σ
set_option maxRecDepth 20000 in
theorem c_X6_movesRow_number {l : Launch} {E : kE} (hj : kEj E) (hn : kNorm E) (hl : l.stackTraces = false) (F : Nat) (a1 : Int32) (a3 : Int32)  (σ : kS) : kMet l E yX6_movesRow cX6_movesRow 5 none (1) (23) 0 id [.ref (kad E 48 0), .int a1, .ref (kad E 61 0), .int a3] σ (f_X6_movesRow_number F a1 a3 σ) := by
  refine k_met hj hn hl (by decide) (Nat.le_of_ble_eq_true rfl) (fun C Q hk he hro => ?_)
  have hk : kOk (C, E, Q) cX6_movesRow RX6 5 := hk
  show Sm (C, E, Q) 5 0 0 [(0, .ref (kad E 48 0)), (1, .int a1), (2, .ref (kad E 61 0)), (3, .int a3)] [] σ _
  unfold f_X6_movesRow_number
  refine k_iconst (v := 0) hk dX6_movesRow_0 (by decide) ?_
  refine k_istore (lv' := [(4, .int 0), (0, .ref (kad E 48 0)), (1, .int a1), (2, .ref (kad E 61 0)), (3, .int a3)]) hk dX6_movesRow_1 (by decide) rfl ?_
  exact k_sub [1, 2, 3, 4, 0] rfl (s_X6_movesRow_number_b3 hj hn hl hk he hro F F a1 a3 0  σ)
def f_X6_movesRow_gasFirst_b3 (F : Nat) (rr3 : (Int32 × Int32 × Int32) → kS → Option kR) (a : (Int32 × Int32 × Int32)) (σ : kS) : Option kR := match a with
  | (x1, x3, x4) => if 8 ≤ x4 then (some (.inl none, σ)) else (kg (kin x4 8) (kBi (f_X6_moves F x1 (σ.1 62 0 x4.toNatClampNeg) x3 σ) fun c4 σ3 => kg (kin x4 8) (kb (kU σ3 62 0 x4.toNatClampNeg c4) fun σ5 => rr3 (x1, x3, x4 + 1) σ5)))
set_option maxRecDepth 20000 in
theorem s_X6_movesRow_gasFirst_b3 {l : Launch} {E : kE} (hj : kEj E) (hn : kNorm E) (hl : l.stackTraces = false) {C : kC} {Q : kR → State → Prop} (hk : kOk (C, E, Q) cX6_movesRow RX6 5) (he : kEnd (C, E, Q) none id 0) (hro : kRo C l (1) (23) 0) (F : Nat) : ∀ (N9 : Nat) (x1 : Int32) (x3 : Int32) (x4 : Int32)  (σ : kS), Sm (C, E, Q) 5 0 3 [(0, .ref (kad E 48 0)), (1, .int x1), (2, .ref (kad E 62 0)), (3, .int x3), (4, .int x4)] [] σ (kFix (f_X6_movesRow_gasFirst_b3 F) N9 (x1, x3, x4) σ) := by
  intro N9
  induction N9 with
  | zero => intro x1 x3 x4  σ; exact k_no
  | succ N9 ih =>
    intro x1 x3 x4  σ
    show Sm _ _ _ _ _ _ _ (f_X6_movesRow_gasFirst_b3 F (kFix (f_X6_movesRow_gasFirst_b3 F) N9) (x1, x3, x4) σ)
    generalize kFix (f_X6_movesRow_gasFirst_b3 F) N9 = rr3 at ih
    have hrr3 := ih
    unfold f_X6_movesRow_gasFirst_b3
    dsimp only
    refine k_iload hk dX6_movesRow_3 4 rfl ?_
    refine k_aload_n hk dX6_movesRow_5 2 rfl ?_
    refine k_alen (v := 8) hk dX6_movesRow_6 rfl (by decide) (by decide) ?_
    refine k_icmp_ge hk dX6_movesRow_7 30 (by decide) (fun h1 => ?_) (fun h1 => ?_)
    · exact k_return hk he dX6_movesRow_30 (by decide)
    · refine k_aload_n hk dX6_movesRow_10 2 rfl ?_
      refine k_iload hk dX6_movesRow_11 4 rfl ?_
      refine k_aload_n hk dX6_movesRow_13 0 rfl ?_
      refine k_iload_n hk dX6_movesRow_14 1 rfl ?_
      refine k_aload_n hk dX6_movesRow_15 2 rfl ?_
      refine k_iload hk dX6_movesRow_16 4 rfl ?_
      refine k_iald hk dX6_movesRow_18 rfl (by decide) (fun h2 => ?_)
      refine k_iload_n hk dX6_movesRow_19 3 rfl ?_
      refine k_callVi (As := [.int x1, .int (σ.1 62 0 x4.toNatClampNeg), .int x3]) (rest := [.int x4, .ref (kad E 62 0)]) hk he hro (c_X6_moves hj hn hl F x1 (σ.1 62 0 x4.toNatClampNeg) x3  σ) dX6_movesRow_20 cw_RX6_345 rfl (by decide) kc6 rfl ⟨by decide, by decide⟩ (by decide) rfl (Nat.le_of_ble_eq_true rfl) (fun c4 σ3 => ?_)
      refine k_iast hk dX6_movesRow_23 rfl (by decide) (fun h6 σ5 => ?_)
      refine k_iinc (lv' := [(4, .int (x4 + 1)), (0, .ref (kad E 48 0)), (1, .int x1), (2, .ref (kad E 62 0)), (3, .int x3)]) (j := 4) (y := x4 + 1) hk dX6_movesRow_24 rfl rfl (by decide) rfl ?_
      refine k_goto hk dX6_movesRow_27 3 (by decide) ?_
      exact k_sub [1, 2, 3, 4, 0] rfl (hrr3 x1 x3 (x4 + 1)  σ5)
def f_X6_movesRow_gasFirst (F : Nat) (a1 : Int32) (a3 : Int32) (σ : kS) : Option kR := kFix (f_X6_movesRow_gasFirst_b3 F) F (a1, a3, 0) σ
set_option maxRecDepth 20000 in
theorem c_X6_movesRow_gasFirst {l : Launch} {E : kE} (hj : kEj E) (hn : kNorm E) (hl : l.stackTraces = false) (F : Nat) (a1 : Int32) (a3 : Int32)  (σ : kS) : kMet l E yX6_movesRow cX6_movesRow 5 none (1) (23) 0 id [.ref (kad E 48 0), .int a1, .ref (kad E 62 0), .int a3] σ (f_X6_movesRow_gasFirst F a1 a3 σ) := by
  refine k_met hj hn hl (by decide) (Nat.le_of_ble_eq_true rfl) (fun C Q hk he hro => ?_)
  have hk : kOk (C, E, Q) cX6_movesRow RX6 5 := hk
  show Sm (C, E, Q) 5 0 0 [(0, .ref (kad E 48 0)), (1, .int a1), (2, .ref (kad E 62 0)), (3, .int a3)] [] σ _
  unfold f_X6_movesRow_gasFirst
  refine k_iconst (v := 0) hk dX6_movesRow_0 (by decide) ?_
  refine k_istore (lv' := [(4, .int 0), (0, .ref (kad E 48 0)), (1, .int a1), (2, .ref (kad E 62 0)), (3, .int a3)]) hk dX6_movesRow_1 (by decide) rfl ?_
  exact k_sub [1, 2, 3, 4, 0] rfl (s_X6_movesRow_gasFirst_b3 hj hn hl hk he hro F F a1 a3 0  σ)
def f_X6_movesRow_weight_b3 (F : Nat) (rr3 : (Int32 × Int32 × Int32) → kS → Option kR) (a : (Int32 × Int32 × Int32)) (σ : kS) : Option kR := match a with
  | (x1, x3, x4) => if 6 ≤ x4 then (some (.inl none, σ)) else (kg (kin x4 6) (kBi (f_X6_moves F x1 (σ.1 58 0 x4.toNatClampNeg) x3 σ) fun c4 σ3 => kg (kin x4 6) (kb (kU σ3 58 0 x4.toNatClampNeg c4) fun σ5 => rr3 (x1, x3, x4 + 1) σ5)))
set_option maxRecDepth 20000 in
theorem s_X6_movesRow_weight_b3 {l : Launch} {E : kE} (hj : kEj E) (hn : kNorm E) (hl : l.stackTraces = false) {C : kC} {Q : kR → State → Prop} (hk : kOk (C, E, Q) cX6_movesRow RX6 5) (he : kEnd (C, E, Q) none id 0) (hro : kRo C l (1) (23) 0) (F : Nat) : ∀ (N9 : Nat) (x1 : Int32) (x3 : Int32) (x4 : Int32)  (σ : kS), Sm (C, E, Q) 5 0 3 [(0, .ref (kad E 48 0)), (1, .int x1), (2, .ref (kad E 58 0)), (3, .int x3), (4, .int x4)] [] σ (kFix (f_X6_movesRow_weight_b3 F) N9 (x1, x3, x4) σ) := by
  intro N9
  induction N9 with
  | zero => intro x1 x3 x4  σ; exact k_no
  | succ N9 ih =>
    intro x1 x3 x4  σ
    show Sm _ _ _ _ _ _ _ (f_X6_movesRow_weight_b3 F (kFix (f_X6_movesRow_weight_b3 F) N9) (x1, x3, x4) σ)
    generalize kFix (f_X6_movesRow_weight_b3 F) N9 = rr3 at ih
    have hrr3 := ih
    unfold f_X6_movesRow_weight_b3
    dsimp only
    refine k_iload hk dX6_movesRow_3 4 rfl ?_
    refine k_aload_n hk dX6_movesRow_5 2 rfl ?_
    refine k_alen (v := 6) hk dX6_movesRow_6 rfl (by decide) (by decide) ?_
    refine k_icmp_ge hk dX6_movesRow_7 30 (by decide) (fun h1 => ?_) (fun h1 => ?_)
    · exact k_return hk he dX6_movesRow_30 (by decide)
    · refine k_aload_n hk dX6_movesRow_10 2 rfl ?_
      refine k_iload hk dX6_movesRow_11 4 rfl ?_
      refine k_aload_n hk dX6_movesRow_13 0 rfl ?_
      refine k_iload_n hk dX6_movesRow_14 1 rfl ?_
      refine k_aload_n hk dX6_movesRow_15 2 rfl ?_
      refine k_iload hk dX6_movesRow_16 4 rfl ?_
      refine k_iald hk dX6_movesRow_18 rfl (by decide) (fun h2 => ?_)
      refine k_iload_n hk dX6_movesRow_19 3 rfl ?_
      refine k_callVi (As := [.int x1, .int (σ.1 58 0 x4.toNatClampNeg), .int x3]) (rest := [.int x4, .ref (kad E 58 0)]) hk he hro (c_X6_moves hj hn hl F x1 (σ.1 58 0 x4.toNatClampNeg) x3  σ) dX6_movesRow_20 cw_RX6_345 rfl (by decide) kc6 rfl ⟨by decide, by decide⟩ (by decide) rfl (Nat.le_of_ble_eq_true rfl) (fun c4 σ3 => ?_)
      refine k_iast hk dX6_movesRow_23 rfl (by decide) (fun h6 σ5 => ?_)
      refine k_iinc (lv' := [(4, .int (x4 + 1)), (0, .ref (kad E 48 0)), (1, .int x1), (2, .ref (kad E 58 0)), (3, .int x3)]) (j := 4) (y := x4 + 1) hk dX6_movesRow_24 rfl rfl (by decide) rfl ?_
      refine k_goto hk dX6_movesRow_27 3 (by decide) ?_
      exact k_sub [1, 2, 3, 4, 0] rfl (hrr3 x1 x3 (x4 + 1)  σ5)
def f_X6_movesRow_weight (F : Nat) (a1 : Int32) (a3 : Int32) (σ : kS) : Option kR := kFix (f_X6_movesRow_weight_b3 F) F (a1, a3, 0) σ
set_option maxRecDepth 20000 in
theorem c_X6_movesRow_weight {l : Launch} {E : kE} (hj : kEj E) (hn : kNorm E) (hl : l.stackTraces = false) (F : Nat) (a1 : Int32) (a3 : Int32)  (σ : kS) : kMet l E yX6_movesRow cX6_movesRow 5 none (1) (23) 0 id [.ref (kad E 48 0), .int a1, .ref (kad E 58 0), .int a3] σ (f_X6_movesRow_weight F a1 a3 σ) := by
  refine k_met hj hn hl (by decide) (Nat.le_of_ble_eq_true rfl) (fun C Q hk he hro => ?_)
  have hk : kOk (C, E, Q) cX6_movesRow RX6 5 := hk
  show Sm (C, E, Q) 5 0 0 [(0, .ref (kad E 48 0)), (1, .int a1), (2, .ref (kad E 58 0)), (3, .int a3)] [] σ _
  unfold f_X6_movesRow_weight
  refine k_iconst (v := 0) hk dX6_movesRow_0 (by decide) ?_
  refine k_istore (lv' := [(4, .int 0), (0, .ref (kad E 48 0)), (1, .int a1), (2, .ref (kad E 58 0)), (3, .int a3)]) hk dX6_movesRow_1 (by decide) rfl ?_
  exact k_sub [1, 2, 3, 4, 0] rfl (s_X6_movesRow_weight_b3 hj hn hl hk he hro F F a1 a3 0  σ)
def f_X6_movesRow_row_b3 (F : Nat) (rr3 : (Int32 × Nat × Int32 × Int32) → kS → Option kR) (a : (Int32 × Nat × Int32 × Int32)) (σ : kS) : Option kR := match a with
  | (x1, x2, x3, x4) => if 6 ≤ x4 then (some (.inl none, σ)) else (kg (kin x4 6) (kBi (f_X6_moves F x1 (σ.1 82 x2 x4.toNatClampNeg) x3 σ) fun c4 σ3 => kg (kin x4 6) (kb (kU σ3 82 x2 x4.toNatClampNeg c4) fun σ5 => rr3 (x1, x2, x3, x4 + 1) σ5)))
set_option maxRecDepth 20000 in
theorem s_X6_movesRow_row_b3 {l : Launch} {E : kE} (hj : kEj E) (hn : kNorm E) (hl : l.stackTraces = false) {C : kC} {Q : kR → State → Prop} (hk : kOk (C, E, Q) cX6_movesRow RX6 5) (he : kEnd (C, E, Q) none id 0) (hro : kRo C l (1) (23) 0) (F : Nat) : ∀ (N9 : Nat) (x1 : Int32) (x2 : Nat) (x3 : Int32) (x4 : Int32) (hx2 : x2 < kCnt 82) (σ : kS), Sm (C, E, Q) 5 0 3 [(0, .ref (kad E 48 0)), (1, .int x1), (2, .ref (kad E 82 x2)), (3, .int x3), (4, .int x4)] [] σ (kFix (f_X6_movesRow_row_b3 F) N9 (x1, x2, x3, x4) σ) := by
  intro N9
  induction N9 with
  | zero => intro x1 x2 x3 x4 hx2 σ; exact k_no
  | succ N9 ih =>
    intro x1 x2 x3 x4 hx2 σ
    show Sm _ _ _ _ _ _ _ (f_X6_movesRow_row_b3 F (kFix (f_X6_movesRow_row_b3 F) N9) (x1, x2, x3, x4) σ)
    generalize kFix (f_X6_movesRow_row_b3 F) N9 = rr3 at ih
    have hrr3 := ih
    unfold f_X6_movesRow_row_b3
    dsimp only
    refine k_iload hk dX6_movesRow_3 4 rfl ?_
    refine k_aload_n hk dX6_movesRow_5 2 rfl ?_
    refine k_alen (v := 6) hk dX6_movesRow_6 rfl hx2 (by decide) ?_
    refine k_icmp_ge hk dX6_movesRow_7 30 (by decide) (fun h1 => ?_) (fun h1 => ?_)
    · exact k_return hk he dX6_movesRow_30 (by decide)
    · refine k_aload_n hk dX6_movesRow_10 2 rfl ?_
      refine k_iload hk dX6_movesRow_11 4 rfl ?_
      refine k_aload_n hk dX6_movesRow_13 0 rfl ?_
      refine k_iload_n hk dX6_movesRow_14 1 rfl ?_
      refine k_aload_n hk dX6_movesRow_15 2 rfl ?_
      refine k_iload hk dX6_movesRow_16 4 rfl ?_
      refine k_iald hk dX6_movesRow_18 rfl hx2 (fun h2 => ?_)
      refine k_iload_n hk dX6_movesRow_19 3 rfl ?_
      refine k_callVi (As := [.int x1, .int (σ.1 82 x2 x4.toNatClampNeg), .int x3]) (rest := [.int x4, .ref (kad E 82 x2)]) hk he hro (c_X6_moves hj hn hl F x1 (σ.1 82 x2 x4.toNatClampNeg) x3  σ) dX6_movesRow_20 cw_RX6_345 rfl (by decide) kc6 rfl ⟨by decide, by decide⟩ (by decide) rfl (Nat.le_of_ble_eq_true rfl) (fun c4 σ3 => ?_)
      refine k_iast hk dX6_movesRow_23 rfl hx2 (fun h6 σ5 => ?_)
      refine k_iinc (lv' := [(4, .int (x4 + 1)), (0, .ref (kad E 48 0)), (1, .int x1), (2, .ref (kad E 82 x2)), (3, .int x3)]) (j := 4) (y := x4 + 1) hk dX6_movesRow_24 rfl rfl (by decide) rfl ?_
      refine k_goto hk dX6_movesRow_27 3 (by decide) ?_
      exact k_sub [1, 2, 3, 4, 0] rfl (hrr3 x1 x2 x3 (x4 + 1) hx2 σ5)
def f_X6_movesRow_row (F : Nat) (a1 : Int32) (a2 : Nat) (a3 : Int32) (σ : kS) : Option kR := kFix (f_X6_movesRow_row_b3 F) F (a1, a2, a3, 0) σ
set_option maxRecDepth 20000 in
theorem c_X6_movesRow_row {l : Launch} {E : kE} (hj : kEj E) (hn : kNorm E) (hl : l.stackTraces = false) (F : Nat) (a1 : Int32) (a2 : Nat) (a3 : Int32) (ha2 : a2 < kCnt 82) (σ : kS) : kMet l E yX6_movesRow cX6_movesRow 5 none (1) (23) 0 id [.ref (kad E 48 0), .int a1, .ref (kad E 82 a2), .int a3] σ (f_X6_movesRow_row F a1 a2 a3 σ) := by
  refine k_met hj hn hl (by decide) (Nat.le_of_ble_eq_true rfl) (fun C Q hk he hro => ?_)
  have hk : kOk (C, E, Q) cX6_movesRow RX6 5 := hk
  show Sm (C, E, Q) 5 0 0 [(0, .ref (kad E 48 0)), (1, .int a1), (2, .ref (kad E 82 a2)), (3, .int a3)] [] σ _
  unfold f_X6_movesRow_row
  refine k_iconst (v := 0) hk dX6_movesRow_0 (by decide) ?_
  refine k_istore (lv' := [(4, .int 0), (0, .ref (kad E 48 0)), (1, .int a1), (2, .ref (kad E 82 a2)), (3, .int a3)]) hk dX6_movesRow_1 (by decide) rfl ?_
  exact k_sub [1, 2, 3, 4, 0] rfl (s_X6_movesRow_row_b3 hj hn hl hk he hro F F a1 a2 a3 0 ha2 σ)
def f_X6_movesRow_before_b3 (F : Nat) (rr3 : (Int32 × Nat × Int32 × Int32) → kS → Option kR) (a : (Int32 × Nat × Int32 × Int32)) (σ : kS) : Option kR := match a with
  | (x1, x2, x3, x4) => if 2 ≤ x4 then (some (.inl none, σ)) else (kg (kin x4 2) (kBi (f_X6_moves F x1 (σ.1 84 x2 x4.toNatClampNeg) x3 σ) fun c4 σ3 => kg (kin x4 2) (kb (kU σ3 84 x2 x4.toNatClampNeg c4) fun σ5 => rr3 (x1, x2, x3, x4 + 1) σ5)))
set_option maxRecDepth 20000 in
theorem s_X6_movesRow_before_b3 {l : Launch} {E : kE} (hj : kEj E) (hn : kNorm E) (hl : l.stackTraces = false) {C : kC} {Q : kR → State → Prop} (hk : kOk (C, E, Q) cX6_movesRow RX6 5) (he : kEnd (C, E, Q) none id 0) (hro : kRo C l (1) (23) 0) (F : Nat) : ∀ (N9 : Nat) (x1 : Int32) (x2 : Nat) (x3 : Int32) (x4 : Int32) (hx2 : x2 < kCnt 84) (σ : kS), Sm (C, E, Q) 5 0 3 [(0, .ref (kad E 48 0)), (1, .int x1), (2, .ref (kad E 84 x2)), (3, .int x3), (4, .int x4)] [] σ (kFix (f_X6_movesRow_before_b3 F) N9 (x1, x2, x3, x4) σ) := by
  intro N9
  induction N9 with
  | zero => intro x1 x2 x3 x4 hx2 σ; exact k_no
  | succ N9 ih =>
    intro x1 x2 x3 x4 hx2 σ
    show Sm _ _ _ _ _ _ _ (f_X6_movesRow_before_b3 F (kFix (f_X6_movesRow_before_b3 F) N9) (x1, x2, x3, x4) σ)
    generalize kFix (f_X6_movesRow_before_b3 F) N9 = rr3 at ih
    have hrr3 := ih
    unfold f_X6_movesRow_before_b3
    dsimp only
    refine k_iload hk dX6_movesRow_3 4 rfl ?_
    refine k_aload_n hk dX6_movesRow_5 2 rfl ?_
    refine k_alen (v := 2) hk dX6_movesRow_6 rfl hx2 (by decide) ?_
    refine k_icmp_ge hk dX6_movesRow_7 30 (by decide) (fun h1 => ?_) (fun h1 => ?_)
    · exact k_return hk he dX6_movesRow_30 (by decide)
    · refine k_aload_n hk dX6_movesRow_10 2 rfl ?_
      refine k_iload hk dX6_movesRow_11 4 rfl ?_
      refine k_aload_n hk dX6_movesRow_13 0 rfl ?_
      refine k_iload_n hk dX6_movesRow_14 1 rfl ?_
      refine k_aload_n hk dX6_movesRow_15 2 rfl ?_
      refine k_iload hk dX6_movesRow_16 4 rfl ?_
      refine k_iald hk dX6_movesRow_18 rfl hx2 (fun h2 => ?_)
      refine k_iload_n hk dX6_movesRow_19 3 rfl ?_
      refine k_callVi (As := [.int x1, .int (σ.1 84 x2 x4.toNatClampNeg), .int x3]) (rest := [.int x4, .ref (kad E 84 x2)]) hk he hro (c_X6_moves hj hn hl F x1 (σ.1 84 x2 x4.toNatClampNeg) x3  σ) dX6_movesRow_20 cw_RX6_345 rfl (by decide) kc6 rfl ⟨by decide, by decide⟩ (by decide) rfl (Nat.le_of_ble_eq_true rfl) (fun c4 σ3 => ?_)
      refine k_iast hk dX6_movesRow_23 rfl hx2 (fun h6 σ5 => ?_)
      refine k_iinc (lv' := [(4, .int (x4 + 1)), (0, .ref (kad E 48 0)), (1, .int x1), (2, .ref (kad E 84 x2)), (3, .int x3)]) (j := 4) (y := x4 + 1) hk dX6_movesRow_24 rfl rfl (by decide) rfl ?_
      refine k_goto hk dX6_movesRow_27 3 (by decide) ?_
      exact k_sub [1, 2, 3, 4, 0] rfl (hrr3 x1 x2 x3 (x4 + 1) hx2 σ5)
def f_X6_movesRow_before (F : Nat) (a1 : Int32) (a2 : Nat) (a3 : Int32) (σ : kS) : Option kR := kFix (f_X6_movesRow_before_b3 F) F (a1, a2, a3, 0) σ
set_option maxRecDepth 20000 in
theorem c_X6_movesRow_before {l : Launch} {E : kE} (hj : kEj E) (hn : kNorm E) (hl : l.stackTraces = false) (F : Nat) (a1 : Int32) (a2 : Nat) (a3 : Int32) (ha2 : a2 < kCnt 84) (σ : kS) : kMet l E yX6_movesRow cX6_movesRow 5 none (1) (23) 0 id [.ref (kad E 48 0), .int a1, .ref (kad E 84 a2), .int a3] σ (f_X6_movesRow_before F a1 a2 a3 σ) := by
  refine k_met hj hn hl (by decide) (Nat.le_of_ble_eq_true rfl) (fun C Q hk he hro => ?_)
  have hk : kOk (C, E, Q) cX6_movesRow RX6 5 := hk
  show Sm (C, E, Q) 5 0 0 [(0, .ref (kad E 48 0)), (1, .int a1), (2, .ref (kad E 84 a2)), (3, .int a3)] [] σ _
  unfold f_X6_movesRow_before
  refine k_iconst (v := 0) hk dX6_movesRow_0 (by decide) ?_
  refine k_istore (lv' := [(4, .int 0), (0, .ref (kad E 48 0)), (1, .int a1), (2, .ref (kad E 84 a2)), (3, .int a3)]) hk dX6_movesRow_1 (by decide) rfl ?_
  exact k_sub [1, 2, 3, 4, 0] rfl (s_X6_movesRow_before_b3 hj hn hl hk he hro F F a1 a2 a3 0 ha2 σ)
def f_X6_movesRow_option_b3 (F : Nat) (rr3 : (Int32 × Nat × Int32 × Int32) → kS → Option kR) (a : (Int32 × Nat × Int32 × Int32)) (σ : kS) : Option kR := match a with
  | (x1, x2, x3, x4) => if 3 ≤ x4 then (some (.inl none, σ)) else (kg (kin x4 3) (kBi (f_X6_moves F x1 (σ.1 86 x2 x4.toNatClampNeg) x3 σ) fun c4 σ3 => kg (kin x4 3) (kb (kU σ3 86 x2 x4.toNatClampNeg c4) fun σ5 => rr3 (x1, x2, x3, x4 + 1) σ5)))
set_option maxRecDepth 20000 in
theorem s_X6_movesRow_option_b3 {l : Launch} {E : kE} (hj : kEj E) (hn : kNorm E) (hl : l.stackTraces = false) {C : kC} {Q : kR → State → Prop} (hk : kOk (C, E, Q) cX6_movesRow RX6 5) (he : kEnd (C, E, Q) none id 0) (hro : kRo C l (1) (23) 0) (F : Nat) : ∀ (N9 : Nat) (x1 : Int32) (x2 : Nat) (x3 : Int32) (x4 : Int32) (hx2 : x2 < kCnt 86) (σ : kS), Sm (C, E, Q) 5 0 3 [(0, .ref (kad E 48 0)), (1, .int x1), (2, .ref (kad E 86 x2)), (3, .int x3), (4, .int x4)] [] σ (kFix (f_X6_movesRow_option_b3 F) N9 (x1, x2, x3, x4) σ) := by
  intro N9
  induction N9 with
  | zero => intro x1 x2 x3 x4 hx2 σ; exact k_no
  | succ N9 ih =>
    intro x1 x2 x3 x4 hx2 σ
    show Sm _ _ _ _ _ _ _ (f_X6_movesRow_option_b3 F (kFix (f_X6_movesRow_option_b3 F) N9) (x1, x2, x3, x4) σ)
    generalize kFix (f_X6_movesRow_option_b3 F) N9 = rr3 at ih
    have hrr3 := ih
    unfold f_X6_movesRow_option_b3
    dsimp only
    refine k_iload hk dX6_movesRow_3 4 rfl ?_
    refine k_aload_n hk dX6_movesRow_5 2 rfl ?_
    refine k_alen (v := 3) hk dX6_movesRow_6 rfl hx2 (by decide) ?_
    refine k_icmp_ge hk dX6_movesRow_7 30 (by decide) (fun h1 => ?_) (fun h1 => ?_)
    · exact k_return hk he dX6_movesRow_30 (by decide)
    · refine k_aload_n hk dX6_movesRow_10 2 rfl ?_
      refine k_iload hk dX6_movesRow_11 4 rfl ?_
      refine k_aload_n hk dX6_movesRow_13 0 rfl ?_
      refine k_iload_n hk dX6_movesRow_14 1 rfl ?_
      refine k_aload_n hk dX6_movesRow_15 2 rfl ?_
      refine k_iload hk dX6_movesRow_16 4 rfl ?_
      refine k_iald hk dX6_movesRow_18 rfl hx2 (fun h2 => ?_)
      refine k_iload_n hk dX6_movesRow_19 3 rfl ?_
      refine k_callVi (As := [.int x1, .int (σ.1 86 x2 x4.toNatClampNeg), .int x3]) (rest := [.int x4, .ref (kad E 86 x2)]) hk he hro (c_X6_moves hj hn hl F x1 (σ.1 86 x2 x4.toNatClampNeg) x3  σ) dX6_movesRow_20 cw_RX6_345 rfl (by decide) kc6 rfl ⟨by decide, by decide⟩ (by decide) rfl (Nat.le_of_ble_eq_true rfl) (fun c4 σ3 => ?_)
      refine k_iast hk dX6_movesRow_23 rfl hx2 (fun h6 σ5 => ?_)
      refine k_iinc (lv' := [(4, .int (x4 + 1)), (0, .ref (kad E 48 0)), (1, .int x1), (2, .ref (kad E 86 x2)), (3, .int x3)]) (j := 4) (y := x4 + 1) hk dX6_movesRow_24 rfl rfl (by decide) rfl ?_
      refine k_goto hk dX6_movesRow_27 3 (by decide) ?_
      exact k_sub [1, 2, 3, 4, 0] rfl (hrr3 x1 x2 x3 (x4 + 1) hx2 σ5)
def f_X6_movesRow_option (F : Nat) (a1 : Int32) (a2 : Nat) (a3 : Int32) (σ : kS) : Option kR := kFix (f_X6_movesRow_option_b3 F) F (a1, a2, a3, 0) σ
set_option maxRecDepth 20000 in
theorem c_X6_movesRow_option {l : Launch} {E : kE} (hj : kEj E) (hn : kNorm E) (hl : l.stackTraces = false) (F : Nat) (a1 : Int32) (a2 : Nat) (a3 : Int32) (ha2 : a2 < kCnt 86) (σ : kS) : kMet l E yX6_movesRow cX6_movesRow 5 none (1) (23) 0 id [.ref (kad E 48 0), .int a1, .ref (kad E 86 a2), .int a3] σ (f_X6_movesRow_option F a1 a2 a3 σ) := by
  refine k_met hj hn hl (by decide) (Nat.le_of_ble_eq_true rfl) (fun C Q hk he hro => ?_)
  have hk : kOk (C, E, Q) cX6_movesRow RX6 5 := hk
  show Sm (C, E, Q) 5 0 0 [(0, .ref (kad E 48 0)), (1, .int a1), (2, .ref (kad E 86 a2)), (3, .int a3)] [] σ _
  unfold f_X6_movesRow_option
  refine k_iconst (v := 0) hk dX6_movesRow_0 (by decide) ?_
  refine k_istore (lv' := [(4, .int 0), (0, .ref (kad E 48 0)), (1, .int a1), (2, .ref (kad E 86 a2)), (3, .int a3)]) hk dX6_movesRow_1 (by decide) rfl ?_
  exact k_sub [1, 2, 3, 4, 0] rfl (s_X6_movesRow_option_b3 hj hn hl hk he hro F F a1 a2 a3 0 ha2 σ)
def f_X6_movesAll_b178 (F : Nat) (rr178 : (Int32 × Int32 × Int32) → kS → Option kR) (a : (Int32 × Int32 × Int32)) (σ : kS) : Option kR := match a with
  | (x1, x2, x4) => if 5 ≤ x4 then (some (.inl none, σ)) else (kg (kin x4 5) (kb (x4.toNatClampNeg) fun j2 => kBv (f_X6_movesRow_option F x1 j2 x2 σ) fun σ3 => rr178 (x1, x2, x4 + 1) σ3))
set_option maxRecDepth 20000 in
theorem s_X6_movesAll_b178 {l : Launch} {E : kE} (hj : kEj E) (hn : kNorm E) (hl : l.stackTraces = false) {C : kC} {Q : kR → State → Prop} (hk : kOk (C, E, Q) cX6_movesAll RX6 5) (he : kEnd (C, E, Q) none id 0) (hro : kRo C l (2) (47) 0) (F : Nat) : ∀ (N9 : Nat) (x1 : Int32) (x2 : Int32) (x4 : Int32)  (σ : kS), Sm (C, E, Q) 5 0 178 [(0, .ref (kad E 48 0)), (1, .int x1), (2, .int x2), (4, .int x4)] [] σ (kFix (f_X6_movesAll_b178 F) N9 (x1, x2, x4) σ) := by
  intro N9
  induction N9 with
  | zero => intro x1 x2 x4  σ; exact k_no
  | succ N9 ih =>
    intro x1 x2 x4  σ
    show Sm _ _ _ _ _ _ _ (f_X6_movesAll_b178 F (kFix (f_X6_movesAll_b178 F) N9) (x1, x2, x4) σ)
    generalize kFix (f_X6_movesAll_b178 F) N9 = rr178 at ih
    have hrr178 := ih
    unfold f_X6_movesAll_b178
    dsimp only
    refine k_iload hk dX6_movesAll_178 3 rfl ?_
    refine k_iconst (v := 5) hk dX6_movesAll_180 (by decide) ?_
    refine k_icmp_ge hk dX6_movesAll_181 203 (by decide) (fun h1 => ?_) (fun h1 => ?_)
    · exact k_return hk he dX6_movesAll_203 (by decide)
    · refine k_aload_n hk dX6_movesAll_184 0 rfl ?_
      refine k_iload_n hk dX6_movesAll_185 1 rfl ?_
      refine k_aload_n hk dX6_movesAll_186 0 rfl ?_
      refine k_getr (k := 49) 85 0 hk dX6_movesAll_187 rfl (by decide) kc6 (by decide) fl_RX6_103 rfl rfl ?_
      refine k_iload hk dX6_movesAll_190 3 rfl ?_
      refine k_aaldj (g' := 86) (fun z => z) hk dX6_movesAll_192 rfl rfl rfl (by decide) (fun z => rfl) (by decide) (fun j2 hj2 => ?_)
      refine k_iload_n hk dX6_movesAll_193 2 rfl ?_
      refine k_callVv (As := [.int x1, .ref (kad E 86 j2), .int x2]) (rest := []) hk he hro (c_X6_movesRow_option hj hn hl F x1 j2 x2 hj2 σ) dX6_movesAll_194 cw_RX6_349 rfl (by decide) kc6 rfl ⟨by decide, by decide⟩ (by decide) rfl (Nat.le_of_ble_eq_true rfl) (fun σ3 => ?_)
      refine k_iinc (lv' := [(4, .int (x4 + 1)), (0, .ref (kad E 48 0)), (1, .int x1), (2, .int x2)]) (j := 3) (y := x4 + 1) hk dX6_movesAll_197 rfl rfl (by decide) rfl ?_
      refine k_goto hk dX6_movesAll_200 178 (by decide) ?_
      exact k_sub [1, 2, 3, 0] rfl (hrr178 x1 x2 (x4 + 1)  σ3)
def f_X6_movesAll_b149 (F : Nat) (rr149 : (Int32 × Int32 × Int32) → kS → Option kR) (a : (Int32 × Int32 × Int32)) (σ : kS) : Option kR := match a with
  | (x1, x2, x4) => if 10 ≤ x4 then (kFix (f_X6_movesAll_b178 F) F (x1, x2, 0) σ) else (kg (kin x4 10) (kb (x4.toNatClampNeg) fun j5 => kBv (f_X6_movesRow_before F x1 j5 x2 σ) fun σ6 => rr149 (x1, x2, x4 + 1) σ6))
set_option maxRecDepth 20000 in
theorem s_X6_movesAll_b149 {l : Launch} {E : kE} (hj : kEj E) (hn : kNorm E) (hl : l.stackTraces = false) {C : kC} {Q : kR → State → Prop} (hk : kOk (C, E, Q) cX6_movesAll RX6 5) (he : kEnd (C, E, Q) none id 0) (hro : kRo C l (2) (47) 0) (F : Nat) : ∀ (N9 : Nat) (x1 : Int32) (x2 : Int32) (x4 : Int32)  (σ : kS), Sm (C, E, Q) 5 0 149 [(0, .ref (kad E 48 0)), (1, .int x1), (2, .int x2), (4, .int x4)] [] σ (kFix (f_X6_movesAll_b149 F) N9 (x1, x2, x4) σ) := by
  intro N9
  induction N9 with
  | zero => intro x1 x2 x4  σ; exact k_no
  | succ N9 ih =>
    intro x1 x2 x4  σ
    show Sm _ _ _ _ _ _ _ (f_X6_movesAll_b149 F (kFix (f_X6_movesAll_b149 F) N9) (x1, x2, x4) σ)
    generalize kFix (f_X6_movesAll_b149 F) N9 = rr149 at ih
    have hrr149 := ih
    unfold f_X6_movesAll_b149
    dsimp only
    refine k_iload hk dX6_movesAll_149 3 rfl ?_
    refine k_bipush (v := 10) hk dX6_movesAll_151 (by decide) ?_
    refine k_icmp_ge hk dX6_movesAll_153 175 (by decide) (fun h4 => ?_) (fun h4 => ?_)
    · refine k_iconst (v := 0) hk dX6_movesAll_175 (by decide) ?_
      refine k_istore (lv' := [(4, .int 0), (0, .ref (kad E 48 0)), (1, .int x1), (2, .int x2)]) hk dX6_movesAll_176 (by decide) rfl ?_
      exact k_sub [1, 2, 3, 0] rfl (s_X6_movesAll_b178 hj hn hl hk he hro F F x1 x2 0  σ)
    · refine k_aload_n hk dX6_movesAll_156 0 rfl ?_
      refine k_iload_n hk dX6_movesAll_157 1 rfl ?_
      refine k_aload_n hk dX6_movesAll_158 0 rfl ?_
      refine k_getr (k := 48) 83 0 hk dX6_movesAll_159 rfl (by decide) kc6 (by decide) fl_RX6_100 rfl rfl ?_
      refine k_iload hk dX6_movesAll_162 3 rfl ?_
      refine k_aaldj (g' := 84) (fun z => z) hk dX6_movesAll_164 rfl rfl rfl (by decide) (fun z => rfl) (by decide) (fun j5 hj5 => ?_)
      refine k_iload_n hk dX6_movesAll_165 2 rfl ?_
      refine k_callVv (As := [.int x1, .ref (kad E 84 j5), .int x2]) (rest := []) hk he hro (c_X6_movesRow_before hj hn hl F x1 j5 x2 hj5 σ) dX6_movesAll_166 cw_RX6_349 rfl (by decide) kc6 rfl ⟨by decide, by decide⟩ (by decide) rfl (Nat.le_of_ble_eq_true rfl) (fun σ6 => ?_)
      refine k_iinc (lv' := [(4, .int (x4 + 1)), (0, .ref (kad E 48 0)), (1, .int x1), (2, .int x2)]) (j := 3) (y := x4 + 1) hk dX6_movesAll_169 rfl rfl (by decide) rfl ?_
      refine k_goto hk dX6_movesAll_172 149 (by decide) ?_
      exact k_sub [1, 2, 3, 0] rfl (hrr149 x1 x2 (x4 + 1)  σ6)
def f_X6_movesAll_b120 (F : Nat) (rr120 : (Int32 × Int32 × Int32) → kS → Option kR) (a : (Int32 × Int32 × Int32)) (σ : kS) : Option kR := match a with
  | (x1, x2, x4) => if 10 ≤ x4 then (kFix (f_X6_movesAll_b149 F) F (x1, x2, 0) σ) else (kg (kin x4 10) (kb (x4.toNatClampNeg) fun j8 => kBv (f_X6_movesRow_row F x1 j8 x2 σ) fun σ9 => rr120 (x1, x2, x4 + 1) σ9))
set_option maxRecDepth 20000 in
theorem s_X6_movesAll_b120 {l : Launch} {E : kE} (hj : kEj E) (hn : kNorm E) (hl : l.stackTraces = false) {C : kC} {Q : kR → State → Prop} (hk : kOk (C, E, Q) cX6_movesAll RX6 5) (he : kEnd (C, E, Q) none id 0) (hro : kRo C l (2) (47) 0) (F : Nat) : ∀ (N9 : Nat) (x1 : Int32) (x2 : Int32) (x4 : Int32)  (σ : kS), Sm (C, E, Q) 5 0 120 [(0, .ref (kad E 48 0)), (1, .int x1), (2, .int x2), (4, .int x4)] [] σ (kFix (f_X6_movesAll_b120 F) N9 (x1, x2, x4) σ) := by
  intro N9
  induction N9 with
  | zero => intro x1 x2 x4  σ; exact k_no
  | succ N9 ih =>
    intro x1 x2 x4  σ
    show Sm _ _ _ _ _ _ _ (f_X6_movesAll_b120 F (kFix (f_X6_movesAll_b120 F) N9) (x1, x2, x4) σ)
    generalize kFix (f_X6_movesAll_b120 F) N9 = rr120 at ih
    have hrr120 := ih
    unfold f_X6_movesAll_b120
    dsimp only
    refine k_iload hk dX6_movesAll_120 3 rfl ?_
    refine k_bipush (v := 10) hk dX6_movesAll_122 (by decide) ?_
    refine k_icmp_ge hk dX6_movesAll_124 146 (by decide) (fun h7 => ?_) (fun h7 => ?_)
    · refine k_iconst (v := 0) hk dX6_movesAll_146 (by decide) ?_
      refine k_istore (lv' := [(4, .int 0), (0, .ref (kad E 48 0)), (1, .int x1), (2, .int x2)]) hk dX6_movesAll_147 (by decide) rfl ?_
      exact k_sub [1, 2, 3, 0] rfl (s_X6_movesAll_b149 hj hn hl hk he hro F F x1 x2 0  σ)
    · refine k_aload_n hk dX6_movesAll_127 0 rfl ?_
      refine k_iload_n hk dX6_movesAll_128 1 rfl ?_
      refine k_aload_n hk dX6_movesAll_129 0 rfl ?_
      refine k_getr (k := 47) 81 0 hk dX6_movesAll_130 rfl (by decide) kc6 (by decide) fl_RX6_97 rfl rfl ?_
      refine k_iload hk dX6_movesAll_133 3 rfl ?_
      refine k_aaldj (g' := 82) (fun z => z) hk dX6_movesAll_135 rfl rfl rfl (by decide) (fun z => rfl) (by decide) (fun j8 hj8 => ?_)
      refine k_iload_n hk dX6_movesAll_136 2 rfl ?_
      refine k_callVv (As := [.int x1, .ref (kad E 82 j8), .int x2]) (rest := []) hk he hro (c_X6_movesRow_row hj hn hl F x1 j8 x2 hj8 σ) dX6_movesAll_137 cw_RX6_349 rfl (by decide) kc6 rfl ⟨by decide, by decide⟩ (by decide) rfl (Nat.le_of_ble_eq_true rfl) (fun σ9 => ?_)
      refine k_iinc (lv' := [(4, .int (x4 + 1)), (0, .ref (kad E 48 0)), (1, .int x1), (2, .int x2)]) (j := 3) (y := x4 + 1) hk dX6_movesAll_140 rfl rfl (by decide) rfl ?_
      refine k_goto hk dX6_movesAll_143 120 (by decide) ?_
      exact k_sub [1, 2, 3, 0] rfl (hrr120 x1 x2 (x4 + 1)  σ9)
def f_X6_movesAll_b117 (F : Nat) (x1 : Int32) (x2 : Int32) (σ : kS) : Option kR := kFix (f_X6_movesAll_b120 F) F (x1, x2, 0) σ
set_option maxRecDepth 20000 in
theorem s_X6_movesAll_b117 {l : Launch} {E : kE} (hj : kEj E) (hn : kNorm E) (hl : l.stackTraces = false) {C : kC} {Q : kR → State → Prop} (hk : kOk (C, E, Q) cX6_movesAll RX6 5) (he : kEnd (C, E, Q) none id 0) (hro : kRo C l (2) (47) 0) (F : Nat) : ∀ (x1 : Int32) (x2 : Int32)  (σ : kS), Sm (C, E, Q) 5 0 117 [(0, .ref (kad E 48 0)), (1, .int x1), (2, .int x2)] [] σ (f_X6_movesAll_b117 F x1 x2 σ) := by
  intro x1 x2  σ
  unfold f_X6_movesAll_b117
  refine k_iconst (v := 0) hk dX6_movesAll_117 (by decide) ?_
  refine k_istore (lv' := [(4, .int 0), (0, .ref (kad E 48 0)), (1, .int x1), (2, .int x2)]) hk dX6_movesAll_118 (by decide) rfl ?_
  exact k_sub [1, 2, 3, 0] rfl (s_X6_movesAll_b120 hj hn hl hk he hro F F x1 x2 0  σ)
def f_X6_movesAll_b91 (F : Nat) (rr91 : (Int32 × Int32 × Int32) → kS → Option kR) (a : (Int32 × Int32 × Int32)) (σ : kS) : Option kR := match a with
  | (x1, x2, x4) => if 6 ≤ x4 then (f_X6_movesAll_b117 F x1 x2 σ) else (if x2 = 0 then (f_X6_movesAll_b117 F x1 x2 σ) else (kg (kin x4 6) (kb (kU σ 58 0 x4.toNatClampNeg 10) fun σ12 => rr91 (x1, x2, x4 + 1) σ12)))
set_option maxRecDepth 20000 in
theorem s_X6_movesAll_b91 {l : Launch} {E : kE} (hj : kEj E) (hn : kNorm E) (hl : l.stackTraces = false) {C : kC} {Q : kR → State → Prop} (hk : kOk (C, E, Q) cX6_movesAll RX6 5) (he : kEnd (C, E, Q) none id 0) (hro : kRo C l (2) (47) 0) (F : Nat) : ∀ (N9 : Nat) (x1 : Int32) (x2 : Int32) (x4 : Int32)  (σ : kS), Sm (C, E, Q) 5 0 91 [(0, .ref (kad E 48 0)), (1, .int x1), (2, .int x2), (4, .int x4)] [] σ (kFix (f_X6_movesAll_b91 F) N9 (x1, x2, x4) σ) := by
  intro N9
  induction N9 with
  | zero => intro x1 x2 x4  σ; exact k_no
  | succ N9 ih =>
    intro x1 x2 x4  σ
    show Sm _ _ _ _ _ _ _ (f_X6_movesAll_b91 F (kFix (f_X6_movesAll_b91 F) N9) (x1, x2, x4) σ)
    generalize kFix (f_X6_movesAll_b91 F) N9 = rr91 at ih
    have hrr91 := ih
    unfold f_X6_movesAll_b91
    dsimp only
    refine k_iload hk dX6_movesAll_91 3 rfl ?_
    refine k_bipush (v := 6) hk dX6_movesAll_93 (by decide) ?_
    refine k_icmp_ge hk dX6_movesAll_95 117 (by decide) (fun h10 => ?_) (fun h10 => ?_)
    · exact k_sub [0, 1, 2] rfl (s_X6_movesAll_b117 hj hn hl hk he hro F  x1 x2  σ)
    · refine k_iload_n hk dX6_movesAll_98 2 rfl ?_
      refine k_if_eq hk dX6_movesAll_99 117 (by decide) (fun h11 => ?_) (fun h11 => ?_)
      · exact k_sub [0, 1, 2] rfl (s_X6_movesAll_b117 hj hn hl hk he hro F  x1 x2  σ)
      · refine k_aload_n hk dX6_movesAll_102 0 rfl ?_
        refine k_getr (k := 17) 58 0 hk dX6_movesAll_103 rfl (by decide) kc6 (by decide) fl_RX6_34 rfl rfl ?_
        refine k_iload hk dX6_movesAll_106 3 rfl ?_
        refine k_bipush (v := 10) hk dX6_movesAll_108 (by decide) ?_
        refine k_iast hk dX6_movesAll_110 rfl (by decide) (fun h13 σ12 => ?_)
        refine k_iinc (lv' := [(4, .int (x4 + 1)), (0, .ref (kad E 48 0)), (1, .int x1), (2, .int x2)]) (j := 3) (y := x4 + 1) hk dX6_movesAll_111 rfl rfl (by decide) rfl ?_
        refine k_goto hk dX6_movesAll_114 91 (by decide) ?_
        exact k_sub [1, 2, 3, 0] rfl (hrr91 x1 x2 (x4 + 1)  σ12)
def f_X6_movesAll (F : Nat) (a1 : Int32) (a2 : Int32) (σ : kS) : Option kR := kb (kU σ 48 0 51 0) fun σ14 => kBi (f_X6_moves F a1 (σ14.1 48 0 43) a2 σ14) fun c16 σ15 => kb (kU σ15 48 0 43 c16) fun σ17 => kBi (f_X6_moves F a1 (σ17.1 48 0 44) a2 σ17) fun c19 σ18 => kb (kU σ18 48 0 44 c19) fun σ20 => kBi (f_X6_moves F a1 (σ20.1 48 0 45) a2 σ20) fun c22 σ21 => kb (kU σ21 48 0 45 c22) fun σ23 => kBi (f_X6_moves F a1 (σ23.1 48 0 13) a2 σ23) fun c25 σ24 => kBv (f_X6_movesRow_number F a1 a2 σ24) fun σ26 => kBv (f_X6_movesRow_gasFirst F a1 a2 σ26) fun σ27 => kBv (f_X6_movesRow_weight F a1 a2 σ27) fun σ28 => kFix (f_X6_movesAll_b91 F) F (a1, a2, c25) σ28
set_option maxRecDepth 20000 in
theorem c_X6_movesAll {l : Launch} {E : kE} (hj : kEj E) (hn : kNorm E) (hl : l.stackTraces = false) (F : Nat) (a1 : Int32) (a2 : Int32)  (σ : kS) : kMet l E yX6_movesAll cX6_movesAll 5 none (2) (47) 0 id [.ref (kad E 48 0), .int a1, .int a2] σ (f_X6_movesAll F a1 a2 σ) := by
  refine k_met hj hn hl (by decide) (Nat.le_of_ble_eq_true rfl) (fun C Q hk he hro => ?_)
  have hk : kOk (C, E, Q) cX6_movesAll RX6 5 := hk
  show Sm (C, E, Q) 5 0 0 [(0, .ref (kad E 48 0)), (1, .int a1), (2, .int a2)] [] σ _
  unfold f_X6_movesAll
  refine k_aload_n hk dX6_movesAll_0 0 rfl ?_
  refine k_iconst (v := 0) hk dX6_movesAll_1 (by decide) ?_
  refine k_putf (k := 51) hk dX6_movesAll_2 rfl (by decide) kc6 (by decide) fl_RX6_342 rfl rfl rfl rfl (fun σ14 => ?_)
  refine k_aload_n hk dX6_movesAll_5 0 rfl ?_
  refine k_aload_n hk dX6_movesAll_6 0 rfl ?_
  refine k_iload_n hk dX6_movesAll_7 1 rfl ?_
  refine k_aload_n hk dX6_movesAll_8 0 rfl ?_
  refine k_getf (k := 43) hk dX6_movesAll_9 rfl (by decide) kc6 (by decide) fl_RX6_294 rfl ?_
  refine k_iload_n hk dX6_movesAll_12 2 rfl ?_
  refine k_callVi (As := [.int a1, .int (σ14.1 48 0 43), .int a2]) (rest := [.ref (kad E 48 0)]) hk he hro (c_X6_moves hj hn hl F a1 (σ14.1 48 0 43) a2  σ14) dX6_movesAll_13 cw_RX6_345 rfl (by decide) kc6 rfl ⟨by decide, by decide⟩ (by decide) rfl (Nat.le_of_ble_eq_true rfl) (fun c16 σ15 => ?_)
  refine k_putf (k := 43) hk dX6_movesAll_16 rfl (by decide) kc6 (by decide) fl_RX6_294 rfl rfl rfl rfl (fun σ17 => ?_)
  refine k_aload_n hk dX6_movesAll_19 0 rfl ?_
  refine k_aload_n hk dX6_movesAll_20 0 rfl ?_
  refine k_iload_n hk dX6_movesAll_21 1 rfl ?_
  refine k_aload_n hk dX6_movesAll_22 0 rfl ?_
  refine k_getf (k := 44) hk dX6_movesAll_23 rfl (by decide) kc6 (by decide) fl_RX6_306 rfl ?_
  refine k_iload_n hk dX6_movesAll_26 2 rfl ?_
  refine k_callVi (As := [.int a1, .int (σ17.1 48 0 44), .int a2]) (rest := [.ref (kad E 48 0)]) hk he hro (c_X6_moves hj hn hl F a1 (σ17.1 48 0 44) a2  σ17) dX6_movesAll_27 cw_RX6_345 rfl (by decide) kc6 rfl ⟨by decide, by decide⟩ (by decide) rfl (Nat.le_of_ble_eq_true rfl) (fun c19 σ18 => ?_)
  refine k_putf (k := 44) hk dX6_movesAll_30 rfl (by decide) kc6 (by decide) fl_RX6_306 rfl rfl rfl rfl (fun σ20 => ?_)
  refine k_aload_n hk dX6_movesAll_33 0 rfl ?_
  refine k_aload_n hk dX6_movesAll_34 0 rfl ?_
  refine k_iload_n hk dX6_movesAll_35 1 rfl ?_
  refine k_aload_n hk dX6_movesAll_36 0 rfl ?_
  refine k_getf (k := 45) hk dX6_movesAll_37 rfl (by decide) kc6 (by decide) fl_RX6_237 rfl ?_
  refine k_iload_n hk dX6_movesAll_40 2 rfl ?_
  refine k_callVi (As := [.int a1, .int (σ20.1 48 0 45), .int a2]) (rest := [.ref (kad E 48 0)]) hk he hro (c_X6_moves hj hn hl F a1 (σ20.1 48 0 45) a2  σ20) dX6_movesAll_41 cw_RX6_345 rfl (by decide) kc6 rfl ⟨by decide, by decide⟩ (by decide) rfl (Nat.le_of_ble_eq_true rfl) (fun c22 σ21 => ?_)
  refine k_putf (k := 45) hk dX6_movesAll_44 rfl (by decide) kc6 (by decide) fl_RX6_237 rfl rfl rfl rfl (fun σ23 => ?_)
  refine k_aload_n hk dX6_movesAll_47 0 rfl ?_
  refine k_iload_n hk dX6_movesAll_48 1 rfl ?_
  refine k_aload_n hk dX6_movesAll_49 0 rfl ?_
  refine k_getf (k := 13) hk dX6_movesAll_50 rfl (by decide) kc6 (by decide) fl_RX6_224 rfl ?_
  refine k_iload_n hk dX6_movesAll_53 2 rfl ?_
  refine k_callVi (As := [.int a1, .int (σ23.1 48 0 13), .int a2]) (rest := []) hk he hro (c_X6_moves hj hn hl F a1 (σ23.1 48 0 13) a2  σ23) dX6_movesAll_54 cw_RX6_345 rfl (by decide) kc6 rfl ⟨by decide, by decide⟩ (by decide) rfl (Nat.le_of_ble_eq_true rfl) (fun c25 σ24 => ?_)
  refine k_istore_n (lv' := [(3, .int c25), (0, .ref (kad E 48 0)), (1, .int a1), (2, .int a2)]) hk dX6_movesAll_57 (by decide) rfl ?_
  refine k_aload_n hk dX6_movesAll_58 1 rfl ?_
  refine k_iload_n hk dX6_movesAll_59 2 rfl ?_
  refine k_aload_n hk dX6_movesAll_60 1 rfl ?_
  refine k_getr (k := 20) 61 0 hk dX6_movesAll_61 rfl (by decide) kc6 (by decide) fl_RX6_43 rfl rfl ?_
  refine k_iload_n hk dX6_movesAll_64 3 rfl ?_
  refine k_callVv (As := [.int a1, .ref (kad E 61 0), .int a2]) (rest := []) hk he hro (c_X6_movesRow_number hj hn hl F a1 a2  σ24) dX6_movesAll_65 cw_RX6_349 rfl (by decide) kc6 rfl ⟨by decide, by decide⟩ (by decide) rfl (Nat.le_of_ble_eq_true rfl) (fun σ26 => ?_)
  refine k_aload_n hk dX6_movesAll_68 1 rfl ?_
  refine k_iload_n hk dX6_movesAll_69 2 rfl ?_
  refine k_aload_n hk dX6_movesAll_70 1 rfl ?_
  refine k_getr (k := 21) 62 0 hk dX6_movesAll_71 rfl (by decide) kc6 (by decide) fl_RX6_46 rfl rfl ?_
  refine k_iload_n hk dX6_movesAll_74 3 rfl ?_
  refine k_callVv (As := [.int a1, .ref (kad E 62 0), .int a2]) (rest := []) hk he hro (c_X6_movesRow_gasFirst hj hn hl F a1 a2  σ26) dX6_movesAll_75 cw_RX6_349 rfl (by decide) kc6 rfl ⟨by decide, by decide⟩ (by decide) rfl (Nat.le_of_ble_eq_true rfl) (fun σ27 => ?_)
  refine k_aload_n hk dX6_movesAll_78 1 rfl ?_
  refine k_iload_n hk dX6_movesAll_79 2 rfl ?_
  refine k_aload_n hk dX6_movesAll_80 1 rfl ?_
  refine k_getr (k := 17) 58 0 hk dX6_movesAll_81 rfl (by decide) kc6 (by decide) fl_RX6_34 rfl rfl ?_
  refine k_iload_n hk dX6_movesAll_84 3 rfl ?_
  refine k_callVv (As := [.int a1, .ref (kad E 58 0), .int a2]) (rest := []) hk he hro (c_X6_movesRow_weight hj hn hl F a1 a2  σ27) dX6_movesAll_85 cw_RX6_349 rfl (by decide) kc6 rfl ⟨by decide, by decide⟩ (by decide) rfl (Nat.le_of_ble_eq_true rfl) (fun σ28 => ?_)
  refine k_iload_n hk dX6_movesAll_88 0 rfl ?_
  refine k_istore (lv' := [(4, .int c25), (3, .int c25), (0, .ref (kad E 48 0)), (1, .int a1), (2, .int a2)]) hk dX6_movesAll_89 (by decide) rfl ?_
  exact k_sub [2, 3, 4, 0] rfl (s_X6_movesAll_b91 hj hn hl hk he hro F F a1 a2 c25  σ28)
def f_X6_image (F : Nat)  (σ : kS) : Option kR := kb (kU σ 48 0 0 0) fun σ1 => if (σ1.1 48 0 46) = 3 then (some (.inl (some (.int (-1))), σ1)) else (kBv (f_X6_movesAll F (σ1.1 48 0 46) 0 σ1) fun σ3 => kb (kU σ3 48 0 46 ((σ3.1 48 0 46) + 1)) fun σ4 => some (.inl (some (.int (σ4.1 48 0 46))), σ4))
set_option maxRecDepth 20000 in
theorem c_X6_image {l : Launch} {E : kE} (hj : kEj E) (hn : kNorm E) (hl : l.stackTraces = false) (F : Nat)   (σ : kS) : kMet l E yX6_image cX6_image 1 (some .int) (3) (71) 0 id [.ref (kad E 48 0)] σ (f_X6_image F  σ) := by
  refine k_met hj hn hl (by decide) (Nat.le_of_ble_eq_true rfl) (fun C Q hk he hro => ?_)
  have hk : kOk (C, E, Q) cX6_image RX6 1 := hk
  show Sm (C, E, Q) 1 0 0 [(0, .ref (kad E 48 0))] [] σ _
  unfold f_X6_image
  refine k_aload_n hk dX6_image_0 0 rfl ?_
  refine k_iconst (v := 0) hk dX6_image_1 (by decide) ?_
  refine k_putf (k := 0) hk dX6_image_2 rfl (by decide) kc6 (by decide) fl_RX6_113 rfl rfl rfl rfl (fun σ1 => ?_)
  refine k_aload_n hk dX6_image_5 0 rfl ?_
  refine k_getf (k := 46) hk dX6_image_6 rfl (by decide) kc6 (by decide) fl_RX6_353 rfl ?_
  refine k_iconst (v := 3) hk dX6_image_9 (by decide) ?_
  refine k_icmp_ne hk dX6_image_10 15 (by decide) (fun h2 => ?_) (fun h2 => ?_)
  · refine k_aload_n hk dX6_image_15 0 rfl ?_
    refine k_aload_n hk dX6_image_16 0 rfl ?_
    refine k_getf (k := 46) hk dX6_image_17 rfl (by decide) kc6 (by decide) fl_RX6_353 rfl ?_
    refine k_iconst (v := 0) hk dX6_image_20 (by decide) ?_
    refine k_callVv (As := [.int (σ1.1 48 0 46), .int 0]) (rest := []) hk he hro (c_X6_movesAll hj hn hl F (σ1.1 48 0 46) 0  σ1) dX6_image_21 cw_RX6_356 rfl (by decide) kc6 rfl ⟨by decide, by decide⟩ (by decide) rfl (Nat.le_of_ble_eq_true rfl) (fun σ3 => ?_)
    refine k_aload_n hk dX6_image_24 0 rfl ?_
    refine k_dup hk dX6_image_25 rfl ?_
    refine k_getf (k := 46) hk dX6_image_26 rfl (by decide) kc6 (by decide) fl_RX6_353 rfl ?_
    refine k_iconst (v := 1) hk dX6_image_29 (by decide) ?_
    refine k_iadd hk dX6_image_30 ?_
    refine k_putf (k := 46) hk dX6_image_31 rfl (by decide) kc6 (by decide) fl_RX6_353 rfl rfl rfl rfl (fun σ4 => ?_)
    refine k_aload_n hk dX6_image_34 0 rfl ?_
    refine k_getf (k := 46) hk dX6_image_35 rfl (by decide) kc6 (by decide) fl_RX6_353 rfl ?_
    exact k_ireturn hk he dX6_image_38 (by decide)
  · refine k_iconst (v := (-1)) hk dX6_image_13 (by decide) ?_
    exact k_ireturn hk he dX6_image_14 (by decide)
def f_X6_restore (F : Nat)  (σ : kS) : Option kR := kb (kU σ 48 0 0 0) fun σ1 => if (σ1.1 48 0 46) = 0 then (some (.inl (some (.int (-1))), σ1)) else (kb (kU σ1 48 0 46 ((σ1.1 48 0 46) - 1)) fun σ3 => kBv (f_X6_movesAll F (σ3.1 48 0 46) 1 σ3) fun σ4 => some (.inl (some (.int (σ4.1 48 0 46))), σ4))
set_option maxRecDepth 20000 in
theorem c_X6_restore {l : Launch} {E : kE} (hj : kEj E) (hn : kNorm E) (hl : l.stackTraces = false) (F : Nat)   (σ : kS) : kMet l E yX6_restore cX6_restore 1 (some .int) (3) (71) 0 id [.ref (kad E 48 0)] σ (f_X6_restore F  σ) := by
  refine k_met hj hn hl (by decide) (Nat.le_of_ble_eq_true rfl) (fun C Q hk he hro => ?_)
  have hk : kOk (C, E, Q) cX6_restore RX6 1 := hk
  show Sm (C, E, Q) 1 0 0 [(0, .ref (kad E 48 0))] [] σ _
  unfold f_X6_restore
  refine k_aload_n hk dX6_restore_0 0 rfl ?_
  refine k_iconst (v := 0) hk dX6_restore_1 (by decide) ?_
  refine k_putf (k := 0) hk dX6_restore_2 rfl (by decide) kc6 (by decide) fl_RX6_113 rfl rfl rfl rfl (fun σ1 => ?_)
  refine k_aload_n hk dX6_restore_5 0 rfl ?_
  refine k_getf (k := 46) hk dX6_restore_6 rfl (by decide) kc6 (by decide) fl_RX6_353 rfl ?_
  refine k_if_ne hk dX6_restore_9 14 (by decide) (fun h2 => ?_) (fun h2 => ?_)
  · refine k_aload_n hk dX6_restore_14 0 rfl ?_
    refine k_dup hk dX6_restore_15 rfl ?_
    refine k_getf (k := 46) hk dX6_restore_16 rfl (by decide) kc6 (by decide) fl_RX6_353 rfl ?_
    refine k_iconst (v := 1) hk dX6_restore_19 (by decide) ?_
    refine k_isub hk dX6_restore_20 ?_
    refine k_putf (k := 46) hk dX6_restore_21 rfl (by decide) kc6 (by decide) fl_RX6_353 rfl rfl rfl rfl (fun σ3 => ?_)
    refine k_aload_n hk dX6_restore_24 0 rfl ?_
    refine k_aload_n hk dX6_restore_25 0 rfl ?_
    refine k_getf (k := 46) hk dX6_restore_26 rfl (by decide) kc6 (by decide) fl_RX6_353 rfl ?_
    refine k_iconst (v := 1) hk dX6_restore_29 (by decide) ?_
    refine k_callVv (As := [.int (σ3.1 48 0 46), .int 1]) (rest := []) hk he hro (c_X6_movesAll hj hn hl F (σ3.1 48 0 46) 1  σ3) dX6_restore_30 cw_RX6_356 rfl (by decide) kc6 rfl ⟨by decide, by decide⟩ (by decide) rfl (Nat.le_of_ble_eq_true rfl) (fun σ4 => ?_)
    refine k_aload_n hk dX6_restore_33 0 rfl ?_
    refine k_getf (k := 46) hk dX6_restore_34 rfl (by decide) kc6 (by decide) fl_RX6_353 rfl ?_
    exact k_ireturn hk he dX6_restore_37 (by decide)
  · refine k_iconst (v := (-1)) hk dX6_restore_12 (by decide) ?_
    exact k_ireturn hk he dX6_restore_13 (by decide)
def f_X6_count (F : Nat) (a1 : Int32) (σ : kS) : Option kR := kb (kU σ 48 0 0 0) fun σ1 => kBi (f_X6_in F a1 10 19 σ1) fun c3 σ2 => if c3 = 0 then (if a1 = 0 then (some (.inl (some (.int (σ2.1 48 0 13))), σ2)) else (if a1 = 1 then (some (.inl (some (.int (σ2.1 48 0 43))), σ2)) else (if a1 = 2 then (some (.inl (some (.int (σ2.1 48 0 44))), σ2)) else (if a1 = 3 then (some (.inl (some (.int (σ2.1 48 0 45))), σ2)) else (if a1 = 4 then (some (.inl (some (.int (σ2.1 48 0 46))), σ2)) else (if a1 = 5 then (some (.inl (some (.int (σ2.1 48 0 1))), σ2)) else (some (.inl (some (.int (-1))), σ2)))))))) else (kg (kin (a1 - 10) 10) (some (.inl (some (.int (σ2.1 61 0 (a1 - 10).toNatClampNeg))), σ2)))
set_option maxRecDepth 20000 in
theorem c_X6_count {l : Launch} {E : kE} (hj : kEj E) (hn : kNorm E) (hl : l.stackTraces = false) (F : Nat) (a1 : Int32)  (σ : kS) : kMet l E yX6_count cX6_count 2 (some .int) (1) (22) 0 id [.ref (kad E 48 0), .int a1] σ (f_X6_count F a1 σ) := by
  refine k_met hj hn hl (by decide) (Nat.le_of_ble_eq_true rfl) (fun C Q hk he hro => ?_)
  have hk : kOk (C, E, Q) cX6_count RX6 2 := hk
  show Sm (C, E, Q) 2 0 0 [(0, .ref (kad E 48 0)), (1, .int a1)] [] σ _
  unfold f_X6_count
  refine k_aload_n hk dX6_count_0 0 rfl ?_
  refine k_iconst (v := 0) hk dX6_count_1 (by decide) ?_
  refine k_putf (k := 0) hk dX6_count_2 rfl (by decide) kc6 (by decide) fl_RX6_113 rfl rfl rfl rfl (fun σ1 => ?_)
  refine k_iload_n hk dX6_count_5 1 rfl ?_
  refine k_bipush (v := 10) hk dX6_count_6 (by decide) ?_
  refine k_bipush (v := 19) hk dX6_count_8 (by decide) ?_
  refine k_callSi (As := [.int a1, .int 10, .int 19]) (rest := []) hk he hro (c_X6_in hj hn hl F a1 10 19  σ1) dX6_count_10 cw_RX6_150 ⟨by decide, by decide⟩ (by decide) rfl (Nat.le_of_ble_eq_true rfl) (fun c3 σ2 => ?_)
  refine k_if_eq hk dX6_count_13 26 (by decide) (fun h4 => ?_) (fun h4 => ?_)
  · refine k_iload_n hk dX6_count_26 1 rfl ?_
    refine k_ite (fun h5 => ?_) (fun h5 => ?_)
    · refine k_tin (v := 0) hk dX6_count_27 h5 (by decide) (by decide) rfl 64 (by decide) ?_
      refine k_aload_n hk dX6_count_64 0 rfl ?_
      refine k_getf (k := 13) hk dX6_count_65 rfl (by decide) kc6 (by decide) fl_RX6_224 rfl ?_
      exact k_ireturn hk he dX6_count_68 (by decide)
    · skip
      refine k_ite (fun h6 => ?_) (fun h6 => ?_)
      · refine k_tin (v := 1) hk dX6_count_27 h6 (by decide) (by decide) rfl 69 (by decide) ?_
        refine k_aload_n hk dX6_count_69 0 rfl ?_
        refine k_getf (k := 43) hk dX6_count_70 rfl (by decide) kc6 (by decide) fl_RX6_294 rfl ?_
        exact k_ireturn hk he dX6_count_73 (by decide)
      · skip
        refine k_ite (fun h7 => ?_) (fun h7 => ?_)
        · refine k_tin (v := 2) hk dX6_count_27 h7 (by decide) (by decide) rfl 74 (by decide) ?_
          refine k_aload_n hk dX6_count_74 0 rfl ?_
          refine k_getf (k := 44) hk dX6_count_75 rfl (by decide) kc6 (by decide) fl_RX6_306 rfl ?_
          exact k_ireturn hk he dX6_count_78 (by decide)
        · skip
          refine k_ite (fun h8 => ?_) (fun h8 => ?_)
          · refine k_tin (v := 3) hk dX6_count_27 h8 (by decide) (by decide) rfl 79 (by decide) ?_
            refine k_aload_n hk dX6_count_79 0 rfl ?_
            refine k_getf (k := 45) hk dX6_count_80 rfl (by decide) kc6 (by decide) fl_RX6_237 rfl ?_
            exact k_ireturn hk he dX6_count_83 (by decide)
          · skip
            refine k_ite (fun h9 => ?_) (fun h9 => ?_)
            · refine k_tin (v := 4) hk dX6_count_27 h9 (by decide) (by decide) rfl 84 (by decide) ?_
              refine k_aload_n hk dX6_count_84 0 rfl ?_
              refine k_getf (k := 46) hk dX6_count_85 rfl (by decide) kc6 (by decide) fl_RX6_353 rfl ?_
              exact k_ireturn hk he dX6_count_88 (by decide)
            · skip
              refine k_ite (fun h10 => ?_) (fun h10 => ?_)
              · refine k_tin (v := 5) hk dX6_count_27 h10 (by decide) (by decide) rfl 89 (by decide) ?_
                refine k_aload_n hk dX6_count_89 0 rfl ?_
                refine k_getf (k := 1) hk dX6_count_90 rfl (by decide) kc6 (by decide) fl_RX6_116 rfl ?_
                exact k_ireturn hk he dX6_count_93 (by decide)
              · skip
                refine k_tout hk dX6_count_27 (by have h5q := k_neI h5 (a := 0) (by decide); have h6q := k_neI h6 (a := 1) (by decide); have h7q := k_neI h7 (a := 2) (by decide); have h8q := k_neI h8 (a := 3) (by decide); have h9q := k_neI h9 (a := 4) (by decide); have h10q := k_neI h10 (a := 5) (by decide); omega) 94 (by decide) ?_
                refine k_iconst (v := (-1)) hk dX6_count_94 (by decide) ?_
                exact k_ireturn hk he dX6_count_95 (by decide)
  · refine k_aload_n hk dX6_count_16 0 rfl ?_
    refine k_getr (k := 20) 61 0 hk dX6_count_17 rfl (by decide) kc6 (by decide) fl_RX6_43 rfl rfl ?_
    refine k_iload_n hk dX6_count_20 1 rfl ?_
    refine k_bipush (v := 10) hk dX6_count_21 (by decide) ?_
    refine k_isub hk dX6_count_23 ?_
    refine k_iald hk dX6_count_24 rfl (by decide) (fun h11 => ?_)
    exact k_ireturn hk he dX6_count_25 (by decide)
