def f_X3_readUnit_b129 (F : Nat) (oS : Int32 → kS → Option kR) (t0 : Int32) (σ : kS) : Option kR := kg (narrow .boolean (.int t0) = .int t0) (some (.inl (some (.int t0)), σ))
set_option maxRecDepth 20000 in
theorem s_X3_readUnit_b129 {l : Launch} {E : kE} (hj : kEj E) (hn : kNorm E) (hl : l.stackTraces = false) (fo lo9 : Nat) {C : kC} {Q : kR → State → Prop} (hk : kOk (C, E, Q) cX3_readUnit RX3 4) (he : kEnd (C, E, Q) (some .boolean) id 0) (hro : kRo C l (fo + 2) (lo9 + 44) 0) (F : Nat) (oS : Int32 → kS → Option kR) (hoS : ∀ (a1 : Int32)  (σ : kS), kMet l E yX3_readSum cX3_readSum 5 (some .boolean) fo lo9 0 id [.ref (kad E 2 0), .int a1] σ (oS a1 σ)) : ∀ (t0 : Int32)  (σ : kS), Sm (C, E, Q) 4 0 129 [] [.int t0] σ (f_X3_readUnit_b129 F oS t0 σ) := by
  intro t0  σ
  unfold f_X3_readUnit_b129
  exact k_zreturn hk he dX3_readUnit_129 (by decide)
def f_X3_readUnit_b128 (F : Nat) (oS : Int32 → kS → Option kR)  (σ : kS) : Option kR := f_X3_readUnit_b129 F oS 0 σ
set_option maxRecDepth 20000 in
theorem s_X3_readUnit_b128 {l : Launch} {E : kE} (hj : kEj E) (hn : kNorm E) (hl : l.stackTraces = false) (fo lo9 : Nat) {C : kC} {Q : kR → State → Prop} (hk : kOk (C, E, Q) cX3_readUnit RX3 4) (he : kEnd (C, E, Q) (some .boolean) id 0) (hro : kRo C l (fo + 2) (lo9 + 44) 0) (F : Nat) (oS : Int32 → kS → Option kR) (hoS : ∀ (a1 : Int32)  (σ : kS), kMet l E yX3_readSum cX3_readSum 5 (some .boolean) fo lo9 0 id [.ref (kad E 2 0), .int a1] σ (oS a1 σ)) : ∀   (σ : kS), Sm (C, E, Q) 4 0 128 [] [] σ (f_X3_readUnit_b128 F oS  σ) := by
  intro   σ
  unfold f_X3_readUnit_b128
  refine k_iconst (v := 0) hk dX3_readUnit_128 (by decide) ?_
  exact k_sub [] rfl (s_X3_readUnit_b129 hj hn hl fo lo9 hk he hro F oS hoS  0  σ)
def f_X3_readUnit_b71 (F : Nat) (oS : Int32 → kS → Option kR) (x1 : Int32) (x2 : Int32) (σ : kS) : Option kR := if x2 = 40 then (if x1 < 6 then (kb (kU σ 2 0 7 ((σ.1 2 0 7) + 1)) fun σ3 => kBi (oS (x1 + 1) σ3) fun c5 σ4 => if c5 = 0 then (f_X3_readUnit_b128 F oS  σ4) else (kBi (f_X3_expect F 41 σ4) fun c8 σ7 => if c8 = 0 then (f_X3_readUnit_b128 F oS  σ7) else (f_X3_readUnit_b129 F oS 1 σ7))) else (kBi (f_X3_fail F 3 σ) fun c11 σ10 => kg (narrow .boolean (.int c11) = .int c11) (some (.inl (some (.int c11)), σ10)))) else (kBi (f_X3_fail F 1 σ) fun c13 σ12 => kg (narrow .boolean (.int c13) = .int c13) (some (.inl (some (.int c13)), σ12)))
set_option maxRecDepth 20000 in
theorem s_X3_readUnit_b71 {l : Launch} {E : kE} (hj : kEj E) (hn : kNorm E) (hl : l.stackTraces = false) (fo lo9 : Nat) {C : kC} {Q : kR → State → Prop} (hk : kOk (C, E, Q) cX3_readUnit RX3 4) (he : kEnd (C, E, Q) (some .boolean) id 0) (hro : kRo C l (fo + 2) (lo9 + 44) 0) (F : Nat) (oS : Int32 → kS → Option kR) (hoS : ∀ (a1 : Int32)  (σ : kS), kMet l E yX3_readSum cX3_readSum 5 (some .boolean) fo lo9 0 id [.ref (kad E 2 0), .int a1] σ (oS a1 σ)) : ∀ (x1 : Int32) (x2 : Int32)  (σ : kS), Sm (C, E, Q) 4 0 71 [(0, .ref (kad E 2 0)), (1, .int x1), (2, .int x2)] [] σ (f_X3_readUnit_b71 F oS x1 x2 σ) := by
  intro x1 x2  σ
  unfold f_X3_readUnit_b71
  refine k_iload_n hk dX3_readUnit_71 2 rfl ?_
  refine k_bipush (v := 40) hk dX3_readUnit_72 (by decide) ?_
  refine k_icmp_eq hk dX3_readUnit_74 83 (by decide) (fun h1 => ?_) (fun h1 => ?_)
  · refine k_iload_n hk dX3_readUnit_83 1 rfl ?_
    refine k_bipush (v := 6) hk dX3_readUnit_84 (by decide) ?_
    refine k_icmp_lt hk dX3_readUnit_86 95 (by decide) (fun h2 => ?_) (fun h2 => ?_)
    · refine k_aload_n hk dX3_readUnit_95 0 rfl ?_
      refine k_dup hk dX3_readUnit_96 rfl ?_
      refine k_getf (k := 7) hk dX3_readUnit_97 rfl (by decide) kc3 (by decide) fl_RX3_38 rfl ?_
      refine k_iconst (v := 1) hk dX3_readUnit_100 (by decide) ?_
      refine k_iadd hk dX3_readUnit_101 ?_
      refine k_putf (k := 7) hk dX3_readUnit_102 rfl (by decide) kc3 (by decide) fl_RX3_38 rfl rfl rfl rfl (fun σ3 => ?_)
      refine k_aload_n hk dX3_readUnit_105 0 rfl ?_
      refine k_iload_n hk dX3_readUnit_106 1 rfl ?_
      refine k_iconst (v := 1) hk dX3_readUnit_107 (by decide) ?_
      refine k_iadd hk dX3_readUnit_108 ?_
      refine k_callVi (As := [.int (x1 + 1)]) (rest := []) hk he hro (hoS (x1 + 1)  σ3) dX3_readUnit_109 cw_RX3_179 rfl (by decide) kc3 rfl ⟨by omega, by omega⟩ (by decide) rfl (Nat.le_of_ble_eq_true rfl) (fun c5 σ4 => ?_)
      refine k_if_eq hk dX3_readUnit_112 128 (by decide) (fun h6 => ?_) (fun h6 => ?_)
      · exact k_sub [] rfl (s_X3_readUnit_b128 hj hn hl fo lo9 hk he hro F oS hoS    σ4)
      · refine k_aload_n hk dX3_readUnit_115 0 rfl ?_
        refine k_bipush (v := 41) hk dX3_readUnit_116 (by decide) ?_
        refine k_callVi (As := [.int 41]) (rest := []) hk he hro (c_X3_expect hj hn hl F 41  σ4) dX3_readUnit_118 cw_RX3_137 rfl (by decide) kc3 rfl ⟨by omega, by omega⟩ (by decide) rfl (Nat.le_of_ble_eq_true rfl) (fun c8 σ7 => ?_)
        refine k_if_eq hk dX3_readUnit_121 128 (by decide) (fun h9 => ?_) (fun h9 => ?_)
        · exact k_sub [] rfl (s_X3_readUnit_b128 hj hn hl fo lo9 hk he hro F oS hoS    σ7)
        · refine k_iconst (v := 1) hk dX3_readUnit_124 (by decide) ?_
          refine k_goto hk dX3_readUnit_125 129 (by decide) ?_
          exact k_sub [] rfl (s_X3_readUnit_b129 hj hn hl fo lo9 hk he hro F oS hoS  1  σ7)
    · refine k_aload_n hk dX3_readUnit_89 0 rfl ?_
      refine k_iconst (v := 3) hk dX3_readUnit_90 (by decide) ?_
      refine k_callVi (As := [.int 3]) (rest := []) hk he hro (c_X3_fail hj hn hl F 3  σ) dX3_readUnit_91 cw_RX3_124 rfl (by decide) kc3 rfl ⟨by omega, by omega⟩ (by decide) rfl (Nat.le_of_ble_eq_true rfl) (fun c11 σ10 => ?_)
      exact k_zreturn hk he dX3_readUnit_94 (by decide)
  · refine k_aload_n hk dX3_readUnit_77 0 rfl ?_
    refine k_iconst (v := 1) hk dX3_readUnit_78 (by decide) ?_
    refine k_callVi (As := [.int 1]) (rest := []) hk he hro (c_X3_fail hj hn hl F 1  σ) dX3_readUnit_79 cw_RX3_124 rfl (by decide) kc3 rfl ⟨by omega, by omega⟩ (by decide) rfl (Nat.le_of_ble_eq_true rfl) (fun c13 σ12 => ?_)
    exact k_zreturn hk he dX3_readUnit_82 (by decide)
def f_X3_readUnit_b43 (F : Nat) (oS : Int32 → kS → Option kR) (t0 : Int32) (σ : kS) : Option kR := kg (narrow .boolean (.int t0) = .int t0) (some (.inl (some (.int t0)), σ))
set_option maxRecDepth 20000 in
theorem s_X3_readUnit_b43 {l : Launch} {E : kE} (hj : kEj E) (hn : kNorm E) (hl : l.stackTraces = false) (fo lo9 : Nat) {C : kC} {Q : kR → State → Prop} (hk : kOk (C, E, Q) cX3_readUnit RX3 4) (he : kEnd (C, E, Q) (some .boolean) id 0) (hro : kRo C l (fo + 2) (lo9 + 44) 0) (F : Nat) (oS : Int32 → kS → Option kR) (hoS : ∀ (a1 : Int32)  (σ : kS), kMet l E yX3_readSum cX3_readSum 5 (some .boolean) fo lo9 0 id [.ref (kad E 2 0), .int a1] σ (oS a1 σ)) : ∀ (t0 : Int32)  (σ : kS), Sm (C, E, Q) 4 0 43 [] [.int t0] σ (f_X3_readUnit_b43 F oS t0 σ) := by
  intro t0  σ
  unfold f_X3_readUnit_b43
  exact k_zreturn hk he dX3_readUnit_43 (by decide)
def f_X3_readUnit_b42 (F : Nat) (oS : Int32 → kS → Option kR)  (σ : kS) : Option kR := f_X3_readUnit_b43 F oS 0 σ
set_option maxRecDepth 20000 in
theorem s_X3_readUnit_b42 {l : Launch} {E : kE} (hj : kEj E) (hn : kNorm E) (hl : l.stackTraces = false) (fo lo9 : Nat) {C : kC} {Q : kR → State → Prop} (hk : kOk (C, E, Q) cX3_readUnit RX3 4) (he : kEnd (C, E, Q) (some .boolean) id 0) (hro : kRo C l (fo + 2) (lo9 + 44) 0) (F : Nat) (oS : Int32 → kS → Option kR) (hoS : ∀ (a1 : Int32)  (σ : kS), kMet l E yX3_readSum cX3_readSum 5 (some .boolean) fo lo9 0 id [.ref (kad E 2 0), .int a1] σ (oS a1 σ)) : ∀   (σ : kS), Sm (C, E, Q) 4 0 42 [] [] σ (f_X3_readUnit_b42 F oS  σ) := by
  intro   σ
  unfold f_X3_readUnit_b42
  refine k_iconst (v := 0) hk dX3_readUnit_42 (by decide) ?_
  exact k_sub [] rfl (s_X3_readUnit_b43 hj hn hl fo lo9 hk he hro F oS hoS  0  σ)
def f_X3_readUnit (F : Nat) (oS : Int32 → kS → Option kR) (a1 : Int32) (σ : kS) : Option kR := kg (kin (σ.1 2 0 7) 301) (kb (σ.1 18 0 (σ.1 2 0 7).toNatClampNeg) fun y15 => if y15 = (-22) then (kBi (f_X3_number F 0 9999 σ) fun c23 σ22 => if c23 = (-1) then (f_X3_readUnit_b42 F oS  σ22) else (kBi (f_X3_write F c23 σ22) fun c26 σ25 => if c26 = 0 then (f_X3_readUnit_b42 F oS  σ25) else (f_X3_readUnit_b43 F oS 1 σ25))) else (if (-1) < y15 then (f_X3_readUnit_b71 F oS a1 y15 σ) else (if y15 < (-7) then (f_X3_readUnit_b71 F oS a1 y15 σ) else (kb (kU σ 2 0 7 ((σ.1 2 0 7) + 1)) fun σ19 => kBi (f_X3_write F y15 σ19) fun c21 σ20 => kg (narrow .boolean (.int c21) = .int c21) (some (.inl (some (.int c21)), σ20))))))
set_option maxRecDepth 20000 in
theorem c_X3_readUnit {l : Launch} {E : kE} (hj : kEj E) (hn : kNorm E) (hl : l.stackTraces = false) (F : Nat) (fo lo9 : Nat) (oS : Int32 → kS → Option kR) (hoS : ∀ (a1 : Int32)  (σ : kS), kMet l E yX3_readSum cX3_readSum 5 (some .boolean) fo lo9 0 id [.ref (kad E 2 0), .int a1] σ (oS a1 σ)) (a1 : Int32)  (σ : kS) : kMet l E yX3_readUnit cX3_readUnit 4 (some .boolean) (fo + 2) (lo9 + 44) 0 id [.ref (kad E 2 0), .int a1] σ (f_X3_readUnit F oS a1 σ) := by
  refine k_met hj hn hl (by decide) (Nat.le_of_ble_eq_true rfl) (fun C Q hk he hro => ?_)
  have hk : kOk (C, E, Q) cX3_readUnit RX3 4 := hk
  show Sm (C, E, Q) 4 0 0 [(0, .ref (kad E 2 0)), (1, .int a1)] [] σ _
  unfold f_X3_readUnit
  refine k_aload_n hk dX3_readUnit_0 0 rfl ?_
  refine k_getr (k := 3) 18 0 hk dX3_readUnit_1 rfl (by decide) kc3 (by decide) fl_RX3_25 rfl rfl ?_
  refine k_aload_n hk dX3_readUnit_4 0 rfl ?_
  refine k_getf (k := 7) hk dX3_readUnit_5 rfl (by decide) kc3 (by decide) fl_RX3_38 rfl ?_
  refine k_iald hk dX3_readUnit_8 rfl (by decide) (fun h14 => ?_)
  refine k_nm (fun y15 => ?_)
  refine k_istore_n (lv' := [(2, .int y15), (0, .ref (kad E 2 0)), (1, .int a1)]) hk dX3_readUnit_9 (by decide) rfl ?_
  refine k_iload_n hk dX3_readUnit_10 0 rfl ?_
  refine k_bipush (v := (-22)) hk dX3_readUnit_11 (by decide) ?_
  refine k_icmp_ne hk dX3_readUnit_13 44 (by decide) (fun h16 => ?_) (fun h16 => ?_)
  · refine k_iload_n hk dX3_readUnit_44 0 rfl ?_
    refine k_iconst (v := (-1)) hk dX3_readUnit_45 (by decide) ?_
    refine k_icmp_gt hk dX3_readUnit_46 71 (by decide) (fun h17 => ?_) (fun h17 => ?_)
    · exact k_sub [1, 2, 0] rfl (s_X3_readUnit_b71 hj hn hl fo lo9 hk he hro F oS hoS  a1 y15  σ)
    · refine k_iload_n hk dX3_readUnit_49 0 rfl ?_
      refine k_bipush (v := (-7)) hk dX3_readUnit_50 (by decide) ?_
      refine k_icmp_lt hk dX3_readUnit_52 71 (by decide) (fun h18 => ?_) (fun h18 => ?_)
      · exact k_sub [1, 2, 0] rfl (s_X3_readUnit_b71 hj hn hl fo lo9 hk he hro F oS hoS  a1 y15  σ)
      · refine k_aload_n hk dX3_readUnit_55 1 rfl ?_
        refine k_dup hk dX3_readUnit_56 rfl ?_
        refine k_getf (k := 7) hk dX3_readUnit_57 rfl (by decide) kc3 (by decide) fl_RX3_38 rfl ?_
        refine k_iconst (v := 1) hk dX3_readUnit_60 (by decide) ?_
        refine k_iadd hk dX3_readUnit_61 ?_
        refine k_putf (k := 7) hk dX3_readUnit_62 rfl (by decide) kc3 (by decide) fl_RX3_38 rfl rfl rfl rfl (fun σ19 => ?_)
        refine k_aload_n hk dX3_readUnit_65 1 rfl ?_
        refine k_iload_n hk dX3_readUnit_66 0 rfl ?_
        refine k_callVi (As := [.int y15]) (rest := []) hk he hro (c_X3_write hj hn hl F y15  σ19) dX3_readUnit_67 cw_RX3_173 rfl (by decide) kc3 rfl ⟨by omega, by omega⟩ (by decide) rfl (Nat.le_of_ble_eq_true rfl) (fun c21 σ20 => ?_)
        exact k_zreturn hk he dX3_readUnit_70 (by decide)
  · refine k_aload_n hk dX3_readUnit_16 1 rfl ?_
    refine k_iconst (v := 0) hk dX3_readUnit_17 (by decide) ?_
    refine k_sipush (v := 9999) hk dX3_readUnit_18 (by decide) ?_
    refine k_callVi (As := [.int 0, .int 9999]) (rest := []) hk he hro (c_X3_number hj hn hl F 0 9999  σ) dX3_readUnit_21 cw_RX3_140 rfl (by decide) kc3 rfl ⟨by omega, by omega⟩ (by decide) rfl (Nat.le_of_ble_eq_true rfl) (fun c23 σ22 => ?_)
    refine k_istore_n (lv' := [(3, .int c23), (2, .int y15), (0, .ref (kad E 2 0)), (1, .int a1)]) hk dX3_readUnit_24 (by decide) rfl ?_
    refine k_iload_n hk dX3_readUnit_25 0 rfl ?_
    refine k_iconst (v := (-1)) hk dX3_readUnit_26 (by decide) ?_
    refine k_icmp_eq hk dX3_readUnit_27 42 (by decide) (fun h24 => ?_) (fun h24 => ?_)
    · exact k_sub [] rfl (s_X3_readUnit_b42 hj hn hl fo lo9 hk he hro F oS hoS    σ22)
    · refine k_aload_n hk dX3_readUnit_30 2 rfl ?_
      refine k_iload_n hk dX3_readUnit_31 0 rfl ?_
      refine k_callVi (As := [.int c23]) (rest := []) hk he hro (c_X3_write hj hn hl F c23  σ22) dX3_readUnit_32 cw_RX3_173 rfl (by decide) kc3 rfl ⟨by omega, by omega⟩ (by decide) rfl (Nat.le_of_ble_eq_true rfl) (fun c26 σ25 => ?_)
      refine k_if_eq hk dX3_readUnit_35 42 (by decide) (fun h27 => ?_) (fun h27 => ?_)
      · exact k_sub [] rfl (s_X3_readUnit_b42 hj hn hl fo lo9 hk he hro F oS hoS    σ25)
      · refine k_iconst (v := 1) hk dX3_readUnit_38 (by decide) ?_
        refine k_goto hk dX3_readUnit_39 43 (by decide) ?_
        exact k_sub [] rfl (s_X3_readUnit_b43 hj hn hl fo lo9 hk he hro F oS hoS  1  σ25)
def f_X3_readProduct_b57 (F : Nat) (oS : Int32 → kS → Option kR) (x2 : Int32) (σ : kS) : Option kR := kg (narrow .boolean (.int x2) = .int x2) (some (.inl (some (.int x2)), σ))
set_option maxRecDepth 20000 in
theorem s_X3_readProduct_b57 {l : Launch} {E : kE} (hj : kEj E) (hn : kNorm E) (hl : l.stackTraces = false) (fo lo9 : Nat) {C : kC} {Q : kR → State → Prop} (hk : kOk (C, E, Q) cX3_readProduct RX3 4) (he : kEnd (C, E, Q) (some .boolean) id 0) (hro : kRo C l (fo + 3) (lo9 + 67) 0) (F : Nat) (oS : Int32 → kS → Option kR) (hoS : ∀ (a1 : Int32)  (σ : kS), kMet l E yX3_readSum cX3_readSum 5 (some .boolean) fo lo9 0 id [.ref (kad E 2 0), .int a1] σ (oS a1 σ)) : ∀ (x2 : Int32)  (σ : kS), Sm (C, E, Q) 4 0 57 [(2, .int x2)] [] σ (f_X3_readProduct_b57 F oS x2 σ) := by
  intro x2  σ
  unfold f_X3_readProduct_b57
  refine k_iload_n hk dX3_readProduct_57 0 rfl ?_
  exact k_zreturn hk he dX3_readProduct_58 (by decide)
def f_X3_readProduct_b50 (F : Nat) (oS : Int32 → kS → Option kR) (rr8 : (Int32 × Int32 × Int32) → kS → Option kR) (x1 : Int32) (x3 : Int32) (t0 : Int32) (σ : kS) : Option kR := rr8 (x1, t0, x3 + 1) σ
set_option maxRecDepth 20000 in
theorem s_X3_readProduct_b50 {l : Launch} {E : kE} (hj : kEj E) (hn : kNorm E) (hl : l.stackTraces = false) (fo lo9 : Nat) {C : kC} {Q : kR → State → Prop} (hk : kOk (C, E, Q) cX3_readProduct RX3 4) (he : kEnd (C, E, Q) (some .boolean) id 0) (hro : kRo C l (fo + 3) (lo9 + 67) 0) (F : Nat) (oS : Int32 → kS → Option kR) (hoS : ∀ (a1 : Int32)  (σ : kS), kMet l E yX3_readSum cX3_readSum 5 (some .boolean) fo lo9 0 id [.ref (kad E 2 0), .int a1] σ (oS a1 σ)) (rr8 : (Int32 × Int32 × Int32) → kS → Option kR) (hrr8 : ∀ (x1 : Int32) (x2 : Int32) (x3 : Int32)  (σ : kS), Sm (C, E, Q) 4 0 8 [(0, .ref (kad E 2 0)), (1, .int x1), (2, .int x2), (3, .int x3)] [] σ (rr8 (x1, x2, x3) σ)) : ∀ (x1 : Int32) (x3 : Int32) (t0 : Int32)  (σ : kS), Sm (C, E, Q) 4 0 50 [(0, .ref (kad E 2 0)), (1, .int x1), (3, .int x3)] [.int t0] σ (f_X3_readProduct_b50 F oS rr8 x1 x3 t0 σ) := by
  intro x1 x3 t0  σ
  unfold f_X3_readProduct_b50
  refine k_istore_n (lv' := [(2, .int t0), (0, .ref (kad E 2 0)), (1, .int x1), (3, .int x3)]) hk dX3_readProduct_50 (by decide) rfl ?_
  refine k_iinc (lv' := [(3, .int (x3 + 1)), (2, .int t0), (0, .ref (kad E 2 0)), (1, .int x1)]) (j := 3) (y := x3 + 1) hk dX3_readProduct_51 rfl rfl (by decide) rfl ?_
  refine k_goto hk dX3_readProduct_54 8 (by decide) ?_
  exact k_sub [2, 3, 1, 0] rfl (hrr8 x1 t0 (x3 + 1)  σ)
def f_X3_readProduct_b49 (F : Nat) (oS : Int32 → kS → Option kR) (rr8 : (Int32 × Int32 × Int32) → kS → Option kR) (x1 : Int32) (x3 : Int32) (σ : kS) : Option kR := f_X3_readProduct_b50 F oS rr8 x1 x3 0 σ
set_option maxRecDepth 20000 in
theorem s_X3_readProduct_b49 {l : Launch} {E : kE} (hj : kEj E) (hn : kNorm E) (hl : l.stackTraces = false) (fo lo9 : Nat) {C : kC} {Q : kR → State → Prop} (hk : kOk (C, E, Q) cX3_readProduct RX3 4) (he : kEnd (C, E, Q) (some .boolean) id 0) (hro : kRo C l (fo + 3) (lo9 + 67) 0) (F : Nat) (oS : Int32 → kS → Option kR) (hoS : ∀ (a1 : Int32)  (σ : kS), kMet l E yX3_readSum cX3_readSum 5 (some .boolean) fo lo9 0 id [.ref (kad E 2 0), .int a1] σ (oS a1 σ)) (rr8 : (Int32 × Int32 × Int32) → kS → Option kR) (hrr8 : ∀ (x1 : Int32) (x2 : Int32) (x3 : Int32)  (σ : kS), Sm (C, E, Q) 4 0 8 [(0, .ref (kad E 2 0)), (1, .int x1), (2, .int x2), (3, .int x3)] [] σ (rr8 (x1, x2, x3) σ)) : ∀ (x1 : Int32) (x3 : Int32)  (σ : kS), Sm (C, E, Q) 4 0 49 [(0, .ref (kad E 2 0)), (1, .int x1), (3, .int x3)] [] σ (f_X3_readProduct_b49 F oS rr8 x1 x3 σ) := by
  intro x1 x3  σ
  unfold f_X3_readProduct_b49
  refine k_iconst (v := 0) hk dX3_readProduct_49 (by decide) ?_
  exact k_sub [0, 1, 2] rfl (s_X3_readProduct_b50 hj hn hl fo lo9 hk he hro F oS hoS rr8 hrr8  x1 x3 0  σ)
def f_X3_readProduct_b8 (F : Nat) (oS : Int32 → kS → Option kR) (rr8 : (Int32 × Int32 × Int32) → kS → Option kR) (a : (Int32 × Int32 × Int32)) (σ : kS) : Option kR := match a with
  | (x1, x2, x3) => if 300 ≤ x3 then (f_X3_readProduct_b57 F oS x2 σ) else (if x2 = 0 then (f_X3_readProduct_b57 F oS x2 σ) else (kBi (f_X3_take F 42 σ) fun c4 σ3 => if c4 = 0 then (f_X3_readProduct_b57 F oS x2 σ3) else (kBi (f_X3_readUnit F oS x1 σ3) fun c7 σ6 => if c7 = 0 then (f_X3_readProduct_b49 F oS rr8 x1 x3 σ6) else (kBi (f_X3_write F (-16) σ6) fun c10 σ9 => if c10 = 0 then (f_X3_readProduct_b49 F oS rr8 x1 x3 σ9) else (f_X3_readProduct_b50 F oS rr8 x1 x3 1 σ9)))))
set_option maxRecDepth 20000 in
theorem s_X3_readProduct_b8 {l : Launch} {E : kE} (hj : kEj E) (hn : kNorm E) (hl : l.stackTraces = false) (fo lo9 : Nat) {C : kC} {Q : kR → State → Prop} (hk : kOk (C, E, Q) cX3_readProduct RX3 4) (he : kEnd (C, E, Q) (some .boolean) id 0) (hro : kRo C l (fo + 3) (lo9 + 67) 0) (F : Nat) (oS : Int32 → kS → Option kR) (hoS : ∀ (a1 : Int32)  (σ : kS), kMet l E yX3_readSum cX3_readSum 5 (some .boolean) fo lo9 0 id [.ref (kad E 2 0), .int a1] σ (oS a1 σ)) : ∀ (N9 : Nat) (x1 : Int32) (x2 : Int32) (x3 : Int32)  (σ : kS), Sm (C, E, Q) 4 0 8 [(0, .ref (kad E 2 0)), (1, .int x1), (2, .int x2), (3, .int x3)] [] σ (kFix (f_X3_readProduct_b8 F oS) N9 (x1, x2, x3) σ) := by
  intro N9
  induction N9 with
  | zero => intro x1 x2 x3  σ; exact k_no
  | succ N9 ih =>
    intro x1 x2 x3  σ
    show Sm _ _ _ _ _ _ _ (f_X3_readProduct_b8 F oS (kFix (f_X3_readProduct_b8 F oS) N9) (x1, x2, x3) σ)
    generalize kFix (f_X3_readProduct_b8 F oS) N9 = rr8 at ih
    have hrr8 := ih
    unfold f_X3_readProduct_b8
    dsimp only
    refine k_iload_n hk dX3_readProduct_8 3 rfl ?_
    refine k_sipush (v := 300) hk dX3_readProduct_9 (by decide) ?_
    refine k_icmp_ge hk dX3_readProduct_12 57 (by decide) (fun h1 => ?_) (fun h1 => ?_)
    · exact k_sub [2] rfl (s_X3_readProduct_b57 hj hn hl fo lo9 hk he hro F oS hoS  x2  σ)
    · refine k_iload_n hk dX3_readProduct_15 2 rfl ?_
      refine k_if_eq hk dX3_readProduct_16 57 (by decide) (fun h2 => ?_) (fun h2 => ?_)
      · exact k_sub [2] rfl (s_X3_readProduct_b57 hj hn hl fo lo9 hk he hro F oS hoS  x2  σ)
      · refine k_aload_n hk dX3_readProduct_19 0 rfl ?_
        refine k_bipush (v := 42) hk dX3_readProduct_20 (by decide) ?_
        refine k_callVi (As := [.int 42]) (rest := []) hk he hro (c_X3_take hj hn hl F 42  σ) dX3_readProduct_22 cw_RX3_170 rfl (by decide) kc3 rfl ⟨by omega, by omega⟩ (by decide) rfl (Nat.le_of_ble_eq_true rfl) (fun c4 σ3 => ?_)
        refine k_if_eq hk dX3_readProduct_25 57 (by decide) (fun h5 => ?_) (fun h5 => ?_)
        · exact k_sub [2] rfl (s_X3_readProduct_b57 hj hn hl fo lo9 hk he hro F oS hoS  x2  σ3)
        · refine k_aload_n hk dX3_readProduct_28 0 rfl ?_
          refine k_iload_n hk dX3_readProduct_29 1 rfl ?_
          refine k_callVi (As := [.int x1]) (rest := []) hk he hro (c_X3_readUnit hj hn hl F fo lo9 oS hoS x1  σ3) dX3_readProduct_30 cw_RX3_185 rfl (by decide) kc3 rfl ⟨by omega, by omega⟩ (by decide) rfl (Nat.le_of_ble_eq_true rfl) (fun c7 σ6 => ?_)
          refine k_if_eq hk dX3_readProduct_33 49 (by decide) (fun h8 => ?_) (fun h8 => ?_)
          · exact k_sub [0, 1, 3] rfl (s_X3_readProduct_b49 hj hn hl fo lo9 hk he hro F oS hoS rr8 hrr8  x1 x3  σ6)
          · refine k_aload_n hk dX3_readProduct_36 0 rfl ?_
            refine k_bipush (v := (-16)) hk dX3_readProduct_37 (by decide) ?_
            refine k_callVi (As := [.int (-16)]) (rest := []) hk he hro (c_X3_write hj hn hl F (-16)  σ6) dX3_readProduct_39 cw_RX3_173 rfl (by decide) kc3 rfl ⟨by omega, by omega⟩ (by decide) rfl (Nat.le_of_ble_eq_true rfl) (fun c10 σ9 => ?_)
            refine k_if_eq hk dX3_readProduct_42 49 (by decide) (fun h11 => ?_) (fun h11 => ?_)
            · exact k_sub [0, 1, 3] rfl (s_X3_readProduct_b49 hj hn hl fo lo9 hk he hro F oS hoS rr8 hrr8  x1 x3  σ9)
            · refine k_iconst (v := 1) hk dX3_readProduct_45 (by decide) ?_
              refine k_goto hk dX3_readProduct_46 50 (by decide) ?_
              exact k_sub [0, 1, 3] rfl (s_X3_readProduct_b50 hj hn hl fo lo9 hk he hro F oS hoS rr8 hrr8  x1 x3 1  σ9)
def f_X3_readProduct (F : Nat) (oS : Int32 → kS → Option kR) (a1 : Int32) (σ : kS) : Option kR := kBi (f_X3_readUnit F oS a1 σ) fun c13 σ12 => kFix (f_X3_readProduct_b8 F oS) F (a1, c13, 0) σ12
set_option maxRecDepth 20000 in
theorem c_X3_readProduct {l : Launch} {E : kE} (hj : kEj E) (hn : kNorm E) (hl : l.stackTraces = false) (F : Nat) (fo lo9 : Nat) (oS : Int32 → kS → Option kR) (hoS : ∀ (a1 : Int32)  (σ : kS), kMet l E yX3_readSum cX3_readSum 5 (some .boolean) fo lo9 0 id [.ref (kad E 2 0), .int a1] σ (oS a1 σ)) (a1 : Int32)  (σ : kS) : kMet l E yX3_readProduct cX3_readProduct 4 (some .boolean) (fo + 3) (lo9 + 67) 0 id [.ref (kad E 2 0), .int a1] σ (f_X3_readProduct F oS a1 σ) := by
  refine k_met hj hn hl (by decide) (Nat.le_of_ble_eq_true rfl) (fun C Q hk he hro => ?_)
  have hk : kOk (C, E, Q) cX3_readProduct RX3 4 := hk
  show Sm (C, E, Q) 4 0 0 [(0, .ref (kad E 2 0)), (1, .int a1)] [] σ _
  unfold f_X3_readProduct
  refine k_aload_n hk dX3_readProduct_0 0 rfl ?_
  refine k_iload_n hk dX3_readProduct_1 1 rfl ?_
  refine k_callVi (As := [.int a1]) (rest := []) hk he hro (c_X3_readUnit hj hn hl F fo lo9 oS hoS a1  σ) dX3_readProduct_2 cw_RX3_185 rfl (by decide) kc3 rfl ⟨by omega, by omega⟩ (by decide) rfl (Nat.le_of_ble_eq_true rfl) (fun c13 σ12 => ?_)
  refine k_istore_n (lv' := [(2, .int c13), (0, .ref (kad E 2 0)), (1, .int a1)]) hk dX3_readProduct_5 (by decide) rfl ?_
  refine k_iconst (v := 0) hk dX3_readProduct_6 (by decide) ?_
  refine k_istore_n (lv' := [(3, .int 0), (2, .int c13), (0, .ref (kad E 2 0)), (1, .int a1)]) hk dX3_readProduct_7 (by decide) rfl ?_
  exact k_sub [2, 3, 1, 0] rfl (s_X3_readProduct_b8 hj hn hl fo lo9 hk he hro F oS hoS F a1 c13 0  σ12)
def f_X3_readSum_b109 (F : Nat) (oS : Int32 → kS → Option kR) (x2 : Int32) (σ : kS) : Option kR := kg (narrow .boolean (.int x2) = .int x2) (some (.inl (some (.int x2)), σ))
set_option maxRecDepth 20000 in
theorem s_X3_readSum_b109 {l : Launch} {E : kE} (hj : kEj E) (hn : kNorm E) (hl : l.stackTraces = false) (fo lo9 : Nat) {C : kC} {Q : kR → State → Prop} (hk : kOk (C, E, Q) cX3_readSum RX3 5) (he : kEnd (C, E, Q) (some .boolean) id 0) (hro : kRo C l (fo + 4) (lo9 + 90) 0) (F : Nat) (oS : Int32 → kS → Option kR) (hoS : ∀ (a1 : Int32)  (σ : kS), kMet l E yX3_readSum cX3_readSum 5 (some .boolean) fo lo9 0 id [.ref (kad E 2 0), .int a1] σ (oS a1 σ)) : ∀ (x2 : Int32)  (σ : kS), Sm (C, E, Q) 5 0 109 [(2, .int x2)] [] σ (f_X3_readSum_b109 F oS x2 σ) := by
  intro x2  σ
  unfold f_X3_readSum_b109
  refine k_iload_n hk dX3_readSum_109 0 rfl ?_
  exact k_zreturn hk he dX3_readSum_110 (by decide)
def f_X3_readSum_b102 (F : Nat) (oS : Int32 → kS → Option kR) (rr8 : (Int32 × Int32 × Int32) → kS → Option kR) (x1 : Int32) (x3 : Int32) (t0 : Int32) (σ : kS) : Option kR := rr8 (x1, t0, x3 + 1) σ
set_option maxRecDepth 20000 in
theorem s_X3_readSum_b102 {l : Launch} {E : kE} (hj : kEj E) (hn : kNorm E) (hl : l.stackTraces = false) (fo lo9 : Nat) {C : kC} {Q : kR → State → Prop} (hk : kOk (C, E, Q) cX3_readSum RX3 5) (he : kEnd (C, E, Q) (some .boolean) id 0) (hro : kRo C l (fo + 4) (lo9 + 90) 0) (F : Nat) (oS : Int32 → kS → Option kR) (hoS : ∀ (a1 : Int32)  (σ : kS), kMet l E yX3_readSum cX3_readSum 5 (some .boolean) fo lo9 0 id [.ref (kad E 2 0), .int a1] σ (oS a1 σ)) (rr8 : (Int32 × Int32 × Int32) → kS → Option kR) (hrr8 : ∀ (x1 : Int32) (x2 : Int32) (x3 : Int32)  (σ : kS), Sm (C, E, Q) 5 0 8 [(0, .ref (kad E 2 0)), (1, .int x1), (2, .int x2), (3, .int x3)] [] σ (rr8 (x1, x2, x3) σ)) : ∀ (x1 : Int32) (x3 : Int32) (t0 : Int32)  (σ : kS), Sm (C, E, Q) 5 0 102 [(0, .ref (kad E 2 0)), (1, .int x1), (3, .int x3)] [.int t0] σ (f_X3_readSum_b102 F oS rr8 x1 x3 t0 σ) := by
  intro x1 x3 t0  σ
  unfold f_X3_readSum_b102
  refine k_istore_n (lv' := [(2, .int t0), (0, .ref (kad E 2 0)), (1, .int x1), (3, .int x3)]) hk dX3_readSum_102 (by decide) rfl ?_
  refine k_iinc (lv' := [(3, .int (x3 + 1)), (2, .int t0), (0, .ref (kad E 2 0)), (1, .int x1)]) (j := 3) (y := x3 + 1) hk dX3_readSum_103 rfl rfl (by decide) rfl ?_
  refine k_goto hk dX3_readSum_106 8 (by decide) ?_
  exact k_sub [2, 3, 1, 0] rfl (hrr8 x1 t0 (x3 + 1)  σ)
def f_X3_readSum_b101 (F : Nat) (oS : Int32 → kS → Option kR) (rr8 : (Int32 × Int32 × Int32) → kS → Option kR) (x1 : Int32) (x3 : Int32) (σ : kS) : Option kR := f_X3_readSum_b102 F oS rr8 x1 x3 0 σ
set_option maxRecDepth 20000 in
theorem s_X3_readSum_b101 {l : Launch} {E : kE} (hj : kEj E) (hn : kNorm E) (hl : l.stackTraces = false) (fo lo9 : Nat) {C : kC} {Q : kR → State → Prop} (hk : kOk (C, E, Q) cX3_readSum RX3 5) (he : kEnd (C, E, Q) (some .boolean) id 0) (hro : kRo C l (fo + 4) (lo9 + 90) 0) (F : Nat) (oS : Int32 → kS → Option kR) (hoS : ∀ (a1 : Int32)  (σ : kS), kMet l E yX3_readSum cX3_readSum 5 (some .boolean) fo lo9 0 id [.ref (kad E 2 0), .int a1] σ (oS a1 σ)) (rr8 : (Int32 × Int32 × Int32) → kS → Option kR) (hrr8 : ∀ (x1 : Int32) (x2 : Int32) (x3 : Int32)  (σ : kS), Sm (C, E, Q) 5 0 8 [(0, .ref (kad E 2 0)), (1, .int x1), (2, .int x2), (3, .int x3)] [] σ (rr8 (x1, x2, x3) σ)) : ∀ (x1 : Int32) (x3 : Int32)  (σ : kS), Sm (C, E, Q) 5 0 101 [(0, .ref (kad E 2 0)), (1, .int x1), (3, .int x3)] [] σ (f_X3_readSum_b101 F oS rr8 x1 x3 σ) := by
  intro x1 x3  σ
  unfold f_X3_readSum_b101
  refine k_iconst (v := 0) hk dX3_readSum_101 (by decide) ?_
  exact k_sub [0, 1, 2] rfl (s_X3_readSum_b102 hj hn hl fo lo9 hk he hro F oS hoS rr8 hrr8  x1 x3 0  σ)
def f_X3_readSum_b68 (F : Nat) (oS : Int32 → kS → Option kR) (rr8 : (Int32 × Int32 × Int32) → kS → Option kR) (x1 : Int32) (x3 : Int32) (t0 : Int32) (σ : kS) : Option kR := kb (kU σ 2 0 7 ((σ.1 2 0 7) + 1)) fun σ1 => kBi (f_X3_readProduct F oS x1 σ1) fun c3 σ2 => if c3 = 0 then (f_X3_readSum_b101 F oS rr8 x1 x3 σ2) else (kBi (f_X3_write F t0 σ2) fun c6 σ5 => if c6 = 0 then (f_X3_readSum_b101 F oS rr8 x1 x3 σ5) else (f_X3_readSum_b102 F oS rr8 x1 x3 1 σ5))
set_option maxRecDepth 20000 in
theorem s_X3_readSum_b68 {l : Launch} {E : kE} (hj : kEj E) (hn : kNorm E) (hl : l.stackTraces = false) (fo lo9 : Nat) {C : kC} {Q : kR → State → Prop} (hk : kOk (C, E, Q) cX3_readSum RX3 5) (he : kEnd (C, E, Q) (some .boolean) id 0) (hro : kRo C l (fo + 4) (lo9 + 90) 0) (F : Nat) (oS : Int32 → kS → Option kR) (hoS : ∀ (a1 : Int32)  (σ : kS), kMet l E yX3_readSum cX3_readSum 5 (some .boolean) fo lo9 0 id [.ref (kad E 2 0), .int a1] σ (oS a1 σ)) (rr8 : (Int32 × Int32 × Int32) → kS → Option kR) (hrr8 : ∀ (x1 : Int32) (x2 : Int32) (x3 : Int32)  (σ : kS), Sm (C, E, Q) 5 0 8 [(0, .ref (kad E 2 0)), (1, .int x1), (2, .int x2), (3, .int x3)] [] σ (rr8 (x1, x2, x3) σ)) : ∀ (x1 : Int32) (x3 : Int32) (t0 : Int32)  (σ : kS), Sm (C, E, Q) 5 0 68 [(0, .ref (kad E 2 0)), (1, .int x1), (3, .int x3)] [.int t0] σ (f_X3_readSum_b68 F oS rr8 x1 x3 t0 σ) := by
  intro x1 x3 t0  σ
  unfold f_X3_readSum_b68
  refine k_istore (lv' := [(4, .int t0), (0, .ref (kad E 2 0)), (1, .int x1), (3, .int x3)]) hk dX3_readSum_68 (by decide) rfl ?_
  refine k_aload_n hk dX3_readSum_70 1 rfl ?_
  refine k_dup hk dX3_readSum_71 rfl ?_
  refine k_getf (k := 7) hk dX3_readSum_72 rfl (by decide) kc3 (by decide) fl_RX3_38 rfl ?_
  refine k_iconst (v := 1) hk dX3_readSum_75 (by decide) ?_
  refine k_iadd hk dX3_readSum_76 ?_
  refine k_putf (k := 7) hk dX3_readSum_77 rfl (by decide) kc3 (by decide) fl_RX3_38 rfl rfl rfl rfl (fun σ1 => ?_)
  refine k_aload_n hk dX3_readSum_80 1 rfl ?_
  refine k_iload_n hk dX3_readSum_81 2 rfl ?_
  refine k_callVi (As := [.int x1]) (rest := []) hk he hro (c_X3_readProduct hj hn hl F fo lo9 oS hoS x1  σ1) dX3_readSum_82 cw_RX3_182 rfl (by decide) kc3 rfl ⟨by omega, by omega⟩ (by decide) rfl (Nat.le_of_ble_eq_true rfl) (fun c3 σ2 => ?_)
  refine k_if_eq hk dX3_readSum_85 101 (by decide) (fun h4 => ?_) (fun h4 => ?_)
  · exact k_sub [1, 2, 3] rfl (s_X3_readSum_b101 hj hn hl fo lo9 hk he hro F oS hoS rr8 hrr8  x1 x3  σ2)
  · refine k_aload_n hk dX3_readSum_88 1 rfl ?_
    refine k_iload hk dX3_readSum_89 0 rfl ?_
    refine k_callVi (As := [.int t0]) (rest := []) hk he hro (c_X3_write hj hn hl F t0  σ2) dX3_readSum_91 cw_RX3_173 rfl (by decide) kc3 rfl ⟨by omega, by omega⟩ (by decide) rfl (Nat.le_of_ble_eq_true rfl) (fun c6 σ5 => ?_)
    refine k_if_eq hk dX3_readSum_94 101 (by decide) (fun h7 => ?_) (fun h7 => ?_)
    · exact k_sub [1, 2, 3] rfl (s_X3_readSum_b101 hj hn hl fo lo9 hk he hro F oS hoS rr8 hrr8  x1 x3  σ5)
    · refine k_iconst (v := 1) hk dX3_readSum_97 (by decide) ?_
      refine k_goto hk dX3_readSum_98 102 (by decide) ?_
      exact k_sub [1, 2, 3] rfl (s_X3_readSum_b102 hj hn hl fo lo9 hk he hro F oS hoS rr8 hrr8  x1 x3 1  σ5)
def f_X3_readSum_b47 (F : Nat) (oS : Int32 → kS → Option kR) (rr8 : (Int32 × Int32 × Int32) → kS → Option kR) (x1 : Int32) (x3 : Int32) (σ : kS) : Option kR := kg (kin (σ.1 2 0 7) 301) (if (σ.1 18 0 (σ.1 2 0 7).toNatClampNeg) = 43 then (f_X3_readSum_b68 F oS rr8 x1 x3 (-14) σ) else (f_X3_readSum_b68 F oS rr8 x1 x3 (-15) σ))
set_option maxRecDepth 20000 in
theorem s_X3_readSum_b47 {l : Launch} {E : kE} (hj : kEj E) (hn : kNorm E) (hl : l.stackTraces = false) (fo lo9 : Nat) {C : kC} {Q : kR → State → Prop} (hk : kOk (C, E, Q) cX3_readSum RX3 5) (he : kEnd (C, E, Q) (some .boolean) id 0) (hro : kRo C l (fo + 4) (lo9 + 90) 0) (F : Nat) (oS : Int32 → kS → Option kR) (hoS : ∀ (a1 : Int32)  (σ : kS), kMet l E yX3_readSum cX3_readSum 5 (some .boolean) fo lo9 0 id [.ref (kad E 2 0), .int a1] σ (oS a1 σ)) (rr8 : (Int32 × Int32 × Int32) → kS → Option kR) (hrr8 : ∀ (x1 : Int32) (x2 : Int32) (x3 : Int32)  (σ : kS), Sm (C, E, Q) 5 0 8 [(0, .ref (kad E 2 0)), (1, .int x1), (2, .int x2), (3, .int x3)] [] σ (rr8 (x1, x2, x3) σ)) : ∀ (x1 : Int32) (x3 : Int32)  (σ : kS), Sm (C, E, Q) 5 0 47 [(0, .ref (kad E 2 0)), (1, .int x1), (3, .int x3)] [] σ (f_X3_readSum_b47 F oS rr8 x1 x3 σ) := by
  intro x1 x3  σ
  unfold f_X3_readSum_b47
  refine k_aload_n hk dX3_readSum_47 0 rfl ?_
  refine k_getr (k := 3) 18 0 hk dX3_readSum_48 rfl (by decide) kc3 (by decide) fl_RX3_25 rfl rfl ?_
  refine k_aload_n hk dX3_readSum_51 0 rfl ?_
  refine k_getf (k := 7) hk dX3_readSum_52 rfl (by decide) kc3 (by decide) fl_RX3_38 rfl ?_
  refine k_iald hk dX3_readSum_55 rfl (by decide) (fun h8 => ?_)
  refine k_bipush (v := 43) hk dX3_readSum_56 (by decide) ?_
  refine k_icmp_ne hk dX3_readSum_58 66 (by decide) (fun h9 => ?_) (fun h9 => ?_)
  · refine k_bipush (v := (-15)) hk dX3_readSum_66 (by decide) ?_
    exact k_sub [0, 1, 2] rfl (s_X3_readSum_b68 hj hn hl fo lo9 hk he hro F oS hoS rr8 hrr8  x1 x3 (-15)  σ)
  · refine k_bipush (v := (-14)) hk dX3_readSum_61 (by decide) ?_
    refine k_goto hk dX3_readSum_63 68 (by decide) ?_
    exact k_sub [0, 1, 2] rfl (s_X3_readSum_b68 hj hn hl fo lo9 hk he hro F oS hoS rr8 hrr8  x1 x3 (-14)  σ)
def f_X3_readSum_b8 (F : Nat) (oS : Int32 → kS → Option kR) (rr8 : (Int32 × Int32 × Int32) → kS → Option kR) (a : (Int32 × Int32 × Int32)) (σ : kS) : Option kR := match a with
  | (x1, x2, x3) => if 300 ≤ x3 then (f_X3_readSum_b109 F oS x2 σ) else (if x2 = 0 then (f_X3_readSum_b109 F oS x2 σ) else (kg (kin (σ.1 2 0 7) 301) (if (σ.1 18 0 (σ.1 2 0 7).toNatClampNeg) = 43 then (f_X3_readSum_b47 F oS rr8 x1 x3 σ) else (kg (kin (σ.1 2 0 7) 301) (if (σ.1 18 0 (σ.1 2 0 7).toNatClampNeg) = 45 then (f_X3_readSum_b47 F oS rr8 x1 x3 σ) else (f_X3_readSum_b109 F oS x2 σ))))))
set_option maxRecDepth 20000 in
theorem s_X3_readSum_b8 {l : Launch} {E : kE} (hj : kEj E) (hn : kNorm E) (hl : l.stackTraces = false) (fo lo9 : Nat) {C : kC} {Q : kR → State → Prop} (hk : kOk (C, E, Q) cX3_readSum RX3 5) (he : kEnd (C, E, Q) (some .boolean) id 0) (hro : kRo C l (fo + 4) (lo9 + 90) 0) (F : Nat) (oS : Int32 → kS → Option kR) (hoS : ∀ (a1 : Int32)  (σ : kS), kMet l E yX3_readSum cX3_readSum 5 (some .boolean) fo lo9 0 id [.ref (kad E 2 0), .int a1] σ (oS a1 σ)) : ∀ (N9 : Nat) (x1 : Int32) (x2 : Int32) (x3 : Int32)  (σ : kS), Sm (C, E, Q) 5 0 8 [(0, .ref (kad E 2 0)), (1, .int x1), (2, .int x2), (3, .int x3)] [] σ (kFix (f_X3_readSum_b8 F oS) N9 (x1, x2, x3) σ) := by
  intro N9
  induction N9 with
  | zero => intro x1 x2 x3  σ; exact k_no
  | succ N9 ih =>
    intro x1 x2 x3  σ
    show Sm _ _ _ _ _ _ _ (f_X3_readSum_b8 F oS (kFix (f_X3_readSum_b8 F oS) N9) (x1, x2, x3) σ)
    generalize kFix (f_X3_readSum_b8 F oS) N9 = rr8 at ih
    have hrr8 := ih
    unfold f_X3_readSum_b8
    dsimp only
    refine k_iload_n hk dX3_readSum_8 3 rfl ?_
    refine k_sipush (v := 300) hk dX3_readSum_9 (by decide) ?_
    refine k_icmp_ge hk dX3_readSum_12 109 (by decide) (fun h10 => ?_) (fun h10 => ?_)
    · exact k_sub [2] rfl (s_X3_readSum_b109 hj hn hl fo lo9 hk he hro F oS hoS  x2  σ)
    · refine k_iload_n hk dX3_readSum_15 2 rfl ?_
      refine k_if_eq hk dX3_readSum_16 109 (by decide) (fun h11 => ?_) (fun h11 => ?_)
      · exact k_sub [2] rfl (s_X3_readSum_b109 hj hn hl fo lo9 hk he hro F oS hoS  x2  σ)
      · refine k_aload_n hk dX3_readSum_19 0 rfl ?_
        refine k_getr (k := 3) 18 0 hk dX3_readSum_20 rfl (by decide) kc3 (by decide) fl_RX3_25 rfl rfl ?_
        refine k_aload_n hk dX3_readSum_23 0 rfl ?_
        refine k_getf (k := 7) hk dX3_readSum_24 rfl (by decide) kc3 (by decide) fl_RX3_38 rfl ?_
        refine k_iald hk dX3_readSum_27 rfl (by decide) (fun h12 => ?_)
        refine k_bipush (v := 43) hk dX3_readSum_28 (by decide) ?_
        refine k_icmp_eq hk dX3_readSum_30 47 (by decide) (fun h13 => ?_) (fun h13 => ?_)
        · exact k_sub [0, 1, 3] rfl (s_X3_readSum_b47 hj hn hl fo lo9 hk he hro F oS hoS rr8 hrr8  x1 x3  σ)
        · refine k_aload_n hk dX3_readSum_33 0 rfl ?_
          refine k_getr (k := 3) 18 0 hk dX3_readSum_34 rfl (by decide) kc3 (by decide) fl_RX3_25 rfl rfl ?_
          refine k_aload_n hk dX3_readSum_37 0 rfl ?_
          refine k_getf (k := 7) hk dX3_readSum_38 rfl (by decide) kc3 (by decide) fl_RX3_38 rfl ?_
          refine k_iald hk dX3_readSum_41 rfl (by decide) (fun h14 => ?_)
          refine k_bipush (v := 45) hk dX3_readSum_42 (by decide) ?_
          refine k_icmp_ne hk dX3_readSum_44 109 (by decide) (fun h15 => ?_) (fun h15 => ?_)
          · exact k_sub [2] rfl (s_X3_readSum_b109 hj hn hl fo lo9 hk he hro F oS hoS  x2  σ)
          · exact k_sub [0, 1, 3] rfl (s_X3_readSum_b47 hj hn hl fo lo9 hk he hro F oS hoS rr8 hrr8  x1 x3  σ)
def f_X3_readSum (F : Nat) (oS : Int32 → kS → Option kR) (a1 : Int32) (σ : kS) : Option kR := kBi (f_X3_readProduct F oS a1 σ) fun c17 σ16 => kFix (f_X3_readSum_b8 F oS) F (a1, c17, 0) σ16
set_option maxRecDepth 20000 in
theorem c_X3_readSum {l : Launch} {E : kE} (hj : kEj E) (hn : kNorm E) (hl : l.stackTraces = false) (F : Nat) (fo lo9 : Nat) (oS : Int32 → kS → Option kR) (hoS : ∀ (a1 : Int32)  (σ : kS), kMet l E yX3_readSum cX3_readSum 5 (some .boolean) fo lo9 0 id [.ref (kad E 2 0), .int a1] σ (oS a1 σ)) (a1 : Int32)  (σ : kS) : kMet l E yX3_readSum cX3_readSum 5 (some .boolean) (fo + 4) (lo9 + 90) 0 id [.ref (kad E 2 0), .int a1] σ (f_X3_readSum F oS a1 σ) := by
  refine k_met hj hn hl (by decide) (Nat.le_of_ble_eq_true rfl) (fun C Q hk he hro => ?_)
  have hk : kOk (C, E, Q) cX3_readSum RX3 5 := hk
  show Sm (C, E, Q) 5 0 0 [(0, .ref (kad E 2 0)), (1, .int a1)] [] σ _
  unfold f_X3_readSum
  refine k_aload_n hk dX3_readSum_0 0 rfl ?_
  refine k_iload_n hk dX3_readSum_1 1 rfl ?_
  refine k_callVi (As := [.int a1]) (rest := []) hk he hro (c_X3_readProduct hj hn hl F fo lo9 oS hoS a1  σ) dX3_readSum_2 cw_RX3_182 rfl (by decide) kc3 rfl ⟨by omega, by omega⟩ (by decide) rfl (Nat.le_of_ble_eq_true rfl) (fun c17 σ16 => ?_)
  refine k_istore_n (lv' := [(2, .int c17), (0, .ref (kad E 2 0)), (1, .int a1)]) hk dX3_readSum_5 (by decide) rfl ?_
  refine k_iconst (v := 0) hk dX3_readSum_6 (by decide) ?_
  refine k_istore_n (lv' := [(3, .int 0), (2, .int c17), (0, .ref (kad E 2 0)), (1, .int a1)]) hk dX3_readSum_7 (by decide) rfl ?_
  exact k_sub [2, 3, 1, 0] rfl (s_X3_readSum_b8 hj hn hl fo lo9 hk he hro F oS hoS F a1 c17 0  σ16)
def g_X3_sum (F : Nat) : Nat → Int32 → kS → Option kR
  | 0 => fun _ _ => none
  | D + 1 => f_X3_readSum F (g_X3_sum F D)
theorem e_X3_sum {l : Launch} {E : kE} (hj : kEj E) (hn : kNorm E) (hl : l.stackTraces = false) (F : Nat) : ∀ (D : Nat) (a1 : Int32) (σ : kS), kMet l E yX3_readSum cX3_readSum 5 (some .boolean) (4 * D) (90 * D) 0 id [.ref (kad E 2 0), .int a1] σ (g_X3_sum F D a1 σ)
  | 0, a1, σ => fun u h => (by cases h)
  | D + 1, a1, σ => c_X3_readSum hj hn hl F (4 * D) (90 * D) (g_X3_sum F D) (e_X3_sum hj hn hl F D) a1 σ
def f_X3_readSumD (F : Nat) (a1 : Int32) (σ : kS) : Option kR := g_X3_sum F 9 a1 σ
theorem c_X3_readSumD {l : Launch} {E : kE} (hj : kEj E) (hn : kNorm E) (hl : l.stackTraces = false) (F : Nat) (a1 : Int32) (σ : kS) : kMet l E yX3_readSum cX3_readSum 5 (some .boolean) 36 810 0 id [.ref (kad E 2 0), .int a1] σ (f_X3_readSumD F a1 σ) := e_X3_sum hj hn hl F 9 a1 σ
def f_X3_readBasic_b224 (F : Nat) (oB : Int32 → kS → Option kR) (oC : Int32 → kS → Option kR) (t0 : Int32) (σ : kS) : Option kR := kg (narrow .boolean (.int t0) = .int t0) (some (.inl (some (.int t0)), σ))
set_option maxRecDepth 20000 in
theorem s_X3_readBasic_b224 {l : Launch} {E : kE} (hj : kEj E) (hn : kNorm E) (hl : l.stackTraces = false) (fo lo9 : Nat) {C : kC} {Q : kR → State → Prop} (hk : kOk (C, E, Q) cX3_readBasic RX3 4) (he : kEnd (C, E, Q) (some .boolean) id 0) (hro : kRo C l (fo + 37) (lo9 + 834) 0) (F : Nat) (oB : Int32 → kS → Option kR) (hoB : ∀ (a1 : Int32)  (σ : kS), kMet l E yX3_readBasic cX3_readBasic 4 (some .boolean) fo lo9 0 id [.ref (kad E 2 0), .int a1] σ (oB a1 σ)) (oC : Int32 → kS → Option kR) (hoC : ∀ (a1 : Int32)  (σ : kS), kMet l E yX3_readCondition cX3_readCondition 4 (some .boolean) fo lo9 0 id [.ref (kad E 2 0), .int a1] σ (oC a1 σ)) : ∀ (t0 : Int32)  (σ : kS), Sm (C, E, Q) 4 0 224 [] [.int t0] σ (f_X3_readBasic_b224 F oB oC t0 σ) := by
  intro t0  σ
  unfold f_X3_readBasic_b224
  exact k_zreturn hk he dX3_readBasic_224 (by decide)
def f_X3_readBasic_b223 (F : Nat) (oB : Int32 → kS → Option kR) (oC : Int32 → kS → Option kR)  (σ : kS) : Option kR := f_X3_readBasic_b224 F oB oC 0 σ
set_option maxRecDepth 20000 in
theorem s_X3_readBasic_b223 {l : Launch} {E : kE} (hj : kEj E) (hn : kNorm E) (hl : l.stackTraces = false) (fo lo9 : Nat) {C : kC} {Q : kR → State → Prop} (hk : kOk (C, E, Q) cX3_readBasic RX3 4) (he : kEnd (C, E, Q) (some .boolean) id 0) (hro : kRo C l (fo + 37) (lo9 + 834) 0) (F : Nat) (oB : Int32 → kS → Option kR) (hoB : ∀ (a1 : Int32)  (σ : kS), kMet l E yX3_readBasic cX3_readBasic 4 (some .boolean) fo lo9 0 id [.ref (kad E 2 0), .int a1] σ (oB a1 σ)) (oC : Int32 → kS → Option kR) (hoC : ∀ (a1 : Int32)  (σ : kS), kMet l E yX3_readCondition cX3_readCondition 4 (some .boolean) fo lo9 0 id [.ref (kad E 2 0), .int a1] σ (oC a1 σ)) : ∀   (σ : kS), Sm (C, E, Q) 4 0 223 [] [] σ (f_X3_readBasic_b223 F oB oC  σ) := by
  intro   σ
  unfold f_X3_readBasic_b223
  refine k_iconst (v := 0) hk dX3_readBasic_223 (by decide) ?_
  exact k_sub [] rfl (s_X3_readBasic_b224 hj hn hl fo lo9 hk he hro F oB hoB oC hoC  0  σ)
def f_X3_readBasic_b193 (F : Nat) (oB : Int32 → kS → Option kR) (oC : Int32 → kS → Option kR) (x1 : Int32) (x3 : Int32) (σ : kS) : Option kR := kb (kU σ 2 0 7 ((σ.1 2 0 7) + 1)) fun σ1 => kBi (f_X3_readSumD F x1 σ1) fun c3 σ2 => if c3 = 0 then (f_X3_readBasic_b223 F oB oC  σ2) else (kBi (f_X3_write F x3 σ2) fun c6 σ5 => if c6 = 0 then (f_X3_readBasic_b223 F oB oC  σ5) else (f_X3_readBasic_b224 F oB oC 1 σ5))
set_option maxRecDepth 20000 in
theorem s_X3_readBasic_b193 {l : Launch} {E : kE} (hj : kEj E) (hn : kNorm E) (hl : l.stackTraces = false) (fo lo9 : Nat) {C : kC} {Q : kR → State → Prop} (hk : kOk (C, E, Q) cX3_readBasic RX3 4) (he : kEnd (C, E, Q) (some .boolean) id 0) (hro : kRo C l (fo + 37) (lo9 + 834) 0) (F : Nat) (oB : Int32 → kS → Option kR) (hoB : ∀ (a1 : Int32)  (σ : kS), kMet l E yX3_readBasic cX3_readBasic 4 (some .boolean) fo lo9 0 id [.ref (kad E 2 0), .int a1] σ (oB a1 σ)) (oC : Int32 → kS → Option kR) (hoC : ∀ (a1 : Int32)  (σ : kS), kMet l E yX3_readCondition cX3_readCondition 4 (some .boolean) fo lo9 0 id [.ref (kad E 2 0), .int a1] σ (oC a1 σ)) : ∀ (x1 : Int32) (x3 : Int32)  (σ : kS), Sm (C, E, Q) 4 0 193 [(0, .ref (kad E 2 0)), (1, .int x1), (3, .int x3)] [] σ (f_X3_readBasic_b193 F oB oC x1 x3 σ) := by
  intro x1 x3  σ
  unfold f_X3_readBasic_b193
  refine k_aload_n hk dX3_readBasic_193 0 rfl ?_
  refine k_dup hk dX3_readBasic_194 rfl ?_
  refine k_getf (k := 7) hk dX3_readBasic_195 rfl (by decide) kc3 (by decide) fl_RX3_38 rfl ?_
  refine k_iconst (v := 1) hk dX3_readBasic_198 (by decide) ?_
  refine k_iadd hk dX3_readBasic_199 ?_
  refine k_putf (k := 7) hk dX3_readBasic_200 rfl (by decide) kc3 (by decide) fl_RX3_38 rfl rfl rfl rfl (fun σ1 => ?_)
  refine k_aload_n hk dX3_readBasic_203 0 rfl ?_
  refine k_iload_n hk dX3_readBasic_204 1 rfl ?_
  refine k_callVi (As := [.int x1]) (rest := []) hk he hro (c_X3_readSumD hj hn hl F x1  σ1) dX3_readBasic_205 cw_RX3_179 rfl (by decide) kc3 rfl ⟨by omega, by omega⟩ (by decide) rfl (Nat.le_of_ble_eq_true rfl) (fun c3 σ2 => ?_)
  refine k_if_eq hk dX3_readBasic_208 223 (by decide) (fun h4 => ?_) (fun h4 => ?_)
  · exact k_sub [] rfl (s_X3_readBasic_b223 hj hn hl fo lo9 hk he hro F oB hoB oC hoC    σ2)
  · refine k_aload_n hk dX3_readBasic_211 0 rfl ?_
    refine k_iload_n hk dX3_readBasic_212 2 rfl ?_
    refine k_callVi (As := [.int x3]) (rest := []) hk he hro (c_X3_write hj hn hl F x3  σ2) dX3_readBasic_213 cw_RX3_173 rfl (by decide) kc3 rfl ⟨by omega, by omega⟩ (by decide) rfl (Nat.le_of_ble_eq_true rfl) (fun c6 σ5 => ?_)
    refine k_if_eq hk dX3_readBasic_216 223 (by decide) (fun h7 => ?_) (fun h7 => ?_)
    · exact k_sub [] rfl (s_X3_readBasic_b223 hj hn hl fo lo9 hk he hro F oB hoB oC hoC    σ5)
    · refine k_iconst (v := 1) hk dX3_readBasic_219 (by decide) ?_
      refine k_goto hk dX3_readBasic_220 224 (by decide) ?_
      exact k_sub [] rfl (s_X3_readBasic_b224 hj hn hl fo lo9 hk he hro F oB hoB oC hoC  1  σ5)
def f_X3_readBasic_b166 (F : Nat) (oB : Int32 → kS → Option kR) (oC : Int32 → kS → Option kR) (x1 : Int32) (t0 : Int32) (σ : kS) : Option kR := if t0 = (-13) then (kg (kin (σ.1 2 0 7) 301) (if (σ.1 18 0 (σ.1 2 0 7).toNatClampNeg) = 61 then (f_X3_readBasic_b193 F oB oC x1 t0 σ) else (kBi (f_X3_fail F 1 σ) fun c12 σ11 => kg (narrow .boolean (.int c12) = .int c12) (some (.inl (some (.int c12)), σ11))))) else (f_X3_readBasic_b193 F oB oC x1 t0 σ)
set_option maxRecDepth 20000 in
theorem s_X3_readBasic_b166 {l : Launch} {E : kE} (hj : kEj E) (hn : kNorm E) (hl : l.stackTraces = false) (fo lo9 : Nat) {C : kC} {Q : kR → State → Prop} (hk : kOk (C, E, Q) cX3_readBasic RX3 4) (he : kEnd (C, E, Q) (some .boolean) id 0) (hro : kRo C l (fo + 37) (lo9 + 834) 0) (F : Nat) (oB : Int32 → kS → Option kR) (hoB : ∀ (a1 : Int32)  (σ : kS), kMet l E yX3_readBasic cX3_readBasic 4 (some .boolean) fo lo9 0 id [.ref (kad E 2 0), .int a1] σ (oB a1 σ)) (oC : Int32 → kS → Option kR) (hoC : ∀ (a1 : Int32)  (σ : kS), kMet l E yX3_readCondition cX3_readCondition 4 (some .boolean) fo lo9 0 id [.ref (kad E 2 0), .int a1] σ (oC a1 σ)) : ∀ (x1 : Int32) (t0 : Int32)  (σ : kS), Sm (C, E, Q) 4 0 166 [(0, .ref (kad E 2 0)), (1, .int x1)] [.int t0] σ (f_X3_readBasic_b166 F oB oC x1 t0 σ) := by
  intro x1 t0  σ
  unfold f_X3_readBasic_b166
  refine k_istore_n (lv' := [(3, .int t0), (0, .ref (kad E 2 0)), (1, .int x1)]) hk dX3_readBasic_166 (by decide) rfl ?_
  refine k_iload_n hk dX3_readBasic_167 0 rfl ?_
  refine k_bipush (v := (-13)) hk dX3_readBasic_168 (by decide) ?_
  refine k_icmp_ne hk dX3_readBasic_170 193 (by decide) (fun h8 => ?_) (fun h8 => ?_)
  · exact k_sub [1, 2, 0] rfl (s_X3_readBasic_b193 hj hn hl fo lo9 hk he hro F oB hoB oC hoC  x1 t0  σ)
  · refine k_aload_n hk dX3_readBasic_173 1 rfl ?_
    refine k_getr (k := 3) 18 0 hk dX3_readBasic_174 rfl (by decide) kc3 (by decide) fl_RX3_25 rfl rfl ?_
    refine k_aload_n hk dX3_readBasic_177 1 rfl ?_
    refine k_getf (k := 7) hk dX3_readBasic_178 rfl (by decide) kc3 (by decide) fl_RX3_38 rfl ?_
    refine k_iald hk dX3_readBasic_181 rfl (by decide) (fun h9 => ?_)
    refine k_bipush (v := 61) hk dX3_readBasic_182 (by decide) ?_
    refine k_icmp_eq hk dX3_readBasic_184 193 (by decide) (fun h10 => ?_) (fun h10 => ?_)
    · exact k_sub [1, 2, 0] rfl (s_X3_readBasic_b193 hj hn hl fo lo9 hk he hro F oB hoB oC hoC  x1 t0  σ)
    · refine k_aload_n hk dX3_readBasic_187 1 rfl ?_
      refine k_iconst (v := 1) hk dX3_readBasic_188 (by decide) ?_
      refine k_callVi (As := [.int 1]) (rest := []) hk he hro (c_X3_fail hj hn hl F 1  σ) dX3_readBasic_189 cw_RX3_124 rfl (by decide) kc3 rfl ⟨by omega, by omega⟩ (by decide) rfl (Nat.le_of_ble_eq_true rfl) (fun c12 σ11 => ?_)
      exact k_zreturn hk he dX3_readBasic_192 (by decide)
def f_X3_readBasic_b115 (F : Nat) (oB : Int32 → kS → Option kR) (oC : Int32 → kS → Option kR) (t0 : Int32) (σ : kS) : Option kR := kg (narrow .boolean (.int t0) = .int t0) (some (.inl (some (.int t0)), σ))
set_option maxRecDepth 20000 in
theorem s_X3_readBasic_b115 {l : Launch} {E : kE} (hj : kEj E) (hn : kNorm E) (hl : l.stackTraces = false) (fo lo9 : Nat) {C : kC} {Q : kR → State → Prop} (hk : kOk (C, E, Q) cX3_readBasic RX3 4) (he : kEnd (C, E, Q) (some .boolean) id 0) (hro : kRo C l (fo + 37) (lo9 + 834) 0) (F : Nat) (oB : Int32 → kS → Option kR) (hoB : ∀ (a1 : Int32)  (σ : kS), kMet l E yX3_readBasic cX3_readBasic 4 (some .boolean) fo lo9 0 id [.ref (kad E 2 0), .int a1] σ (oB a1 σ)) (oC : Int32 → kS → Option kR) (hoC : ∀ (a1 : Int32)  (σ : kS), kMet l E yX3_readCondition cX3_readCondition 4 (some .boolean) fo lo9 0 id [.ref (kad E 2 0), .int a1] σ (oC a1 σ)) : ∀ (t0 : Int32)  (σ : kS), Sm (C, E, Q) 4 0 115 [] [.int t0] σ (f_X3_readBasic_b115 F oB oC t0 σ) := by
  intro t0  σ
  unfold f_X3_readBasic_b115
  exact k_zreturn hk he dX3_readBasic_115 (by decide)
def f_X3_readBasic_b114 (F : Nat) (oB : Int32 → kS → Option kR) (oC : Int32 → kS → Option kR)  (σ : kS) : Option kR := f_X3_readBasic_b115 F oB oC 0 σ
set_option maxRecDepth 20000 in
theorem s_X3_readBasic_b114 {l : Launch} {E : kE} (hj : kEj E) (hn : kNorm E) (hl : l.stackTraces = false) (fo lo9 : Nat) {C : kC} {Q : kR → State → Prop} (hk : kOk (C, E, Q) cX3_readBasic RX3 4) (he : kEnd (C, E, Q) (some .boolean) id 0) (hro : kRo C l (fo + 37) (lo9 + 834) 0) (F : Nat) (oB : Int32 → kS → Option kR) (hoB : ∀ (a1 : Int32)  (σ : kS), kMet l E yX3_readBasic cX3_readBasic 4 (some .boolean) fo lo9 0 id [.ref (kad E 2 0), .int a1] σ (oB a1 σ)) (oC : Int32 → kS → Option kR) (hoC : ∀ (a1 : Int32)  (σ : kS), kMet l E yX3_readCondition cX3_readCondition 4 (some .boolean) fo lo9 0 id [.ref (kad E 2 0), .int a1] σ (oC a1 σ)) : ∀   (σ : kS), Sm (C, E, Q) 4 0 114 [] [] σ (f_X3_readBasic_b114 F oB oC  σ) := by
  intro   σ
  unfold f_X3_readBasic_b114
  refine k_iconst (v := 0) hk dX3_readBasic_114 (by decide) ?_
  exact k_sub [] rfl (s_X3_readBasic_b115 hj hn hl fo lo9 hk he hro F oB hoB oC hoC  0  σ)
def f_X3_readBasic_b87 (F : Nat) (oB : Int32 → kS → Option kR) (oC : Int32 → kS → Option kR)  (σ : kS) : Option kR := f_X3_readBasic_b115 F oB oC 0 σ
set_option maxRecDepth 20000 in
theorem s_X3_readBasic_b87 {l : Launch} {E : kE} (hj : kEj E) (hn : kNorm E) (hl : l.stackTraces = false) (fo lo9 : Nat) {C : kC} {Q : kR → State → Prop} (hk : kOk (C, E, Q) cX3_readBasic RX3 4) (he : kEnd (C, E, Q) (some .boolean) id 0) (hro : kRo C l (fo + 37) (lo9 + 834) 0) (F : Nat) (oB : Int32 → kS → Option kR) (hoB : ∀ (a1 : Int32)  (σ : kS), kMet l E yX3_readBasic cX3_readBasic 4 (some .boolean) fo lo9 0 id [.ref (kad E 2 0), .int a1] σ (oB a1 σ)) (oC : Int32 → kS → Option kR) (hoC : ∀ (a1 : Int32)  (σ : kS), kMet l E yX3_readCondition cX3_readCondition 4 (some .boolean) fo lo9 0 id [.ref (kad E 2 0), .int a1] σ (oC a1 σ)) : ∀   (σ : kS), Sm (C, E, Q) 4 0 87 [] [] σ (f_X3_readBasic_b87 F oB oC  σ) := by
  intro   σ
  unfold f_X3_readBasic_b87
  refine k_iconst (v := 0) hk dX3_readBasic_87 (by decide) ?_
  refine k_goto hk dX3_readBasic_88 115 (by decide) ?_
  exact k_sub [] rfl (s_X3_readBasic_b115 hj hn hl fo lo9 hk he hro F oB hoB oC hoC  0  σ)
def f_X3_readBasic_b38 (F : Nat) (oB : Int32 → kS → Option kR) (oC : Int32 → kS → Option kR) (x1 : Int32) (x2 : Int32) (σ : kS) : Option kR := if x1 < 6 then (kb (kU σ 2 0 7 ((σ.1 2 0 7) + 1)) fun σ14 => if x2 = 0 then (kBi (oC (x1 + 1) σ14) fun c17 σ16 => if c17 = 0 then (f_X3_readBasic_b114 F oB oC  σ16) else (kBi (f_X3_expect F 93 σ16) fun c20 σ19 => if c20 = 0 then (f_X3_readBasic_b114 F oB oC  σ19) else (f_X3_readBasic_b115 F oB oC 1 σ19))) else (kBi (oB (x1 + 1) σ14) fun c23 σ22 => if c23 = 0 then (f_X3_readBasic_b87 F oB oC  σ22) else (kBi (f_X3_write F (-8) σ22) fun c26 σ25 => if c26 = 0 then (f_X3_readBasic_b87 F oB oC  σ25) else (f_X3_readBasic_b115 F oB oC 1 σ25)))) else (kBi (f_X3_fail F 3 σ) fun c29 σ28 => kg (narrow .boolean (.int c29) = .int c29) (some (.inl (some (.int c29)), σ28)))
set_option maxRecDepth 20000 in
theorem s_X3_readBasic_b38 {l : Launch} {E : kE} (hj : kEj E) (hn : kNorm E) (hl : l.stackTraces = false) (fo lo9 : Nat) {C : kC} {Q : kR → State → Prop} (hk : kOk (C, E, Q) cX3_readBasic RX3 4) (he : kEnd (C, E, Q) (some .boolean) id 0) (hro : kRo C l (fo + 37) (lo9 + 834) 0) (F : Nat) (oB : Int32 → kS → Option kR) (hoB : ∀ (a1 : Int32)  (σ : kS), kMet l E yX3_readBasic cX3_readBasic 4 (some .boolean) fo lo9 0 id [.ref (kad E 2 0), .int a1] σ (oB a1 σ)) (oC : Int32 → kS → Option kR) (hoC : ∀ (a1 : Int32)  (σ : kS), kMet l E yX3_readCondition cX3_readCondition 4 (some .boolean) fo lo9 0 id [.ref (kad E 2 0), .int a1] σ (oC a1 σ)) : ∀ (x1 : Int32) (x2 : Int32)  (σ : kS), Sm (C, E, Q) 4 0 38 [(0, .ref (kad E 2 0)), (1, .int x1), (2, .int x2)] [] σ (f_X3_readBasic_b38 F oB oC x1 x2 σ) := by
  intro x1 x2  σ
  unfold f_X3_readBasic_b38
  refine k_iload_n hk dX3_readBasic_38 1 rfl ?_
  refine k_bipush (v := 6) hk dX3_readBasic_39 (by decide) ?_
  refine k_icmp_lt hk dX3_readBasic_41 50 (by decide) (fun h13 => ?_) (fun h13 => ?_)
  · refine k_aload_n hk dX3_readBasic_50 0 rfl ?_
    refine k_dup hk dX3_readBasic_51 rfl ?_
    refine k_getf (k := 7) hk dX3_readBasic_52 rfl (by decide) kc3 (by decide) fl_RX3_38 rfl ?_
    refine k_iconst (v := 1) hk dX3_readBasic_55 (by decide) ?_
    refine k_iadd hk dX3_readBasic_56 ?_
    refine k_putf (k := 7) hk dX3_readBasic_57 rfl (by decide) kc3 (by decide) fl_RX3_38 rfl rfl rfl rfl (fun σ14 => ?_)
    refine k_iload_n hk dX3_readBasic_60 2 rfl ?_
    refine k_if_eq hk dX3_readBasic_61 91 (by decide) (fun h15 => ?_) (fun h15 => ?_)
    · refine k_aload_n hk dX3_readBasic_91 0 rfl ?_
      refine k_iload_n hk dX3_readBasic_92 1 rfl ?_
      refine k_iconst (v := 1) hk dX3_readBasic_93 (by decide) ?_
      refine k_iadd hk dX3_readBasic_94 ?_
      refine k_callVi (As := [.int (x1 + 1)]) (rest := []) hk he hro (hoC (x1 + 1)  σ14) dX3_readBasic_95 cw_RX3_155 rfl (by decide) kc3 rfl ⟨by omega, by omega⟩ (by decide) rfl (Nat.le_of_ble_eq_true rfl) (fun c17 σ16 => ?_)
      refine k_if_eq hk dX3_readBasic_98 114 (by decide) (fun h18 => ?_) (fun h18 => ?_)
      · exact k_sub [] rfl (s_X3_readBasic_b114 hj hn hl fo lo9 hk he hro F oB hoB oC hoC    σ16)
      · refine k_aload_n hk dX3_readBasic_101 0 rfl ?_
        refine k_bipush (v := 93) hk dX3_readBasic_102 (by decide) ?_
        refine k_callVi (As := [.int 93]) (rest := []) hk he hro (c_X3_expect hj hn hl F 93  σ16) dX3_readBasic_104 cw_RX3_137 rfl (by decide) kc3 rfl ⟨by omega, by omega⟩ (by decide) rfl (Nat.le_of_ble_eq_true rfl) (fun c20 σ19 => ?_)
        refine k_if_eq hk dX3_readBasic_107 114 (by decide) (fun h21 => ?_) (fun h21 => ?_)
        · exact k_sub [] rfl (s_X3_readBasic_b114 hj hn hl fo lo9 hk he hro F oB hoB oC hoC    σ19)
        · refine k_iconst (v := 1) hk dX3_readBasic_110 (by decide) ?_
          refine k_goto hk dX3_readBasic_111 115 (by decide) ?_
          exact k_sub [] rfl (s_X3_readBasic_b115 hj hn hl fo lo9 hk he hro F oB hoB oC hoC  1  σ19)
    · refine k_aload_n hk dX3_readBasic_64 0 rfl ?_
      refine k_iload_n hk dX3_readBasic_65 1 rfl ?_
      refine k_iconst (v := 1) hk dX3_readBasic_66 (by decide) ?_
      refine k_iadd hk dX3_readBasic_67 ?_
      refine k_callVi (As := [.int (x1 + 1)]) (rest := []) hk he hro (hoB (x1 + 1)  σ14) dX3_readBasic_68 cw_RX3_176 rfl (by decide) kc3 rfl ⟨by omega, by omega⟩ (by decide) rfl (Nat.le_of_ble_eq_true rfl) (fun c23 σ22 => ?_)
      refine k_if_eq hk dX3_readBasic_71 87 (by decide) (fun h24 => ?_) (fun h24 => ?_)
      · exact k_sub [] rfl (s_X3_readBasic_b87 hj hn hl fo lo9 hk he hro F oB hoB oC hoC    σ22)
      · refine k_aload_n hk dX3_readBasic_74 0 rfl ?_
        refine k_bipush (v := (-8)) hk dX3_readBasic_75 (by decide) ?_
        refine k_callVi (As := [.int (-8)]) (rest := []) hk he hro (c_X3_write hj hn hl F (-8)  σ22) dX3_readBasic_77 cw_RX3_173 rfl (by decide) kc3 rfl ⟨by omega, by omega⟩ (by decide) rfl (Nat.le_of_ble_eq_true rfl) (fun c26 σ25 => ?_)
        refine k_if_eq hk dX3_readBasic_80 87 (by decide) (fun h27 => ?_) (fun h27 => ?_)
        · exact k_sub [] rfl (s_X3_readBasic_b87 hj hn hl fo lo9 hk he hro F oB hoB oC hoC    σ25)
        · refine k_iconst (v := 1) hk dX3_readBasic_83 (by decide) ?_
          refine k_goto hk dX3_readBasic_84 115 (by decide) ?_
          exact k_sub [] rfl (s_X3_readBasic_b115 hj hn hl fo lo9 hk he hro F oB hoB oC hoC  1  σ25)
  · refine k_aload_n hk dX3_readBasic_44 0 rfl ?_
    refine k_iconst (v := 3) hk dX3_readBasic_45 (by decide) ?_
    refine k_callVi (As := [.int 3]) (rest := []) hk he hro (c_X3_fail hj hn hl F 3  σ) dX3_readBasic_46 cw_RX3_124 rfl (by decide) kc3 rfl ⟨by omega, by omega⟩ (by decide) rfl (Nat.le_of_ble_eq_true rfl) (fun c29 σ28 => ?_)
    exact k_zreturn hk he dX3_readBasic_49 (by decide)
def f_X3_readBasic_b19 (F : Nat) (oB : Int32 → kS → Option kR) (oC : Int32 → kS → Option kR) (x1 : Int32) (t0 : Int32) (σ : kS) : Option kR := if t0 = 0 then (kg (kin (σ.1 2 0 7) 301) (if (σ.1 18 0 (σ.1 2 0 7).toNatClampNeg) = 91 then (f_X3_readBasic_b38 F oB oC x1 t0 σ) else (kBi (f_X3_readSumD F x1 σ) fun c34 σ33 => if c34 = 0 then (some (.inl (some (.int 0)), σ33)) else (kg (kin (σ33.1 2 0 7) 301) (if (σ33.1 18 0 (σ33.1 2 0 7).toNatClampNeg) = 60 then (f_X3_readBasic_b166 F oB oC x1 (-11) σ33) else (kg (kin (σ33.1 2 0 7) 301) (if (σ33.1 18 0 (σ33.1 2 0 7).toNatClampNeg) = 62 then (f_X3_readBasic_b166 F oB oC x1 (-12) σ33) else (f_X3_readBasic_b166 F oB oC x1 (-13) σ33)))))))) else (f_X3_readBasic_b38 F oB oC x1 t0 σ)
set_option maxRecDepth 20000 in
theorem s_X3_readBasic_b19 {l : Launch} {E : kE} (hj : kEj E) (hn : kNorm E) (hl : l.stackTraces = false) (fo lo9 : Nat) {C : kC} {Q : kR → State → Prop} (hk : kOk (C, E, Q) cX3_readBasic RX3 4) (he : kEnd (C, E, Q) (some .boolean) id 0) (hro : kRo C l (fo + 37) (lo9 + 834) 0) (F : Nat) (oB : Int32 → kS → Option kR) (hoB : ∀ (a1 : Int32)  (σ : kS), kMet l E yX3_readBasic cX3_readBasic 4 (some .boolean) fo lo9 0 id [.ref (kad E 2 0), .int a1] σ (oB a1 σ)) (oC : Int32 → kS → Option kR) (hoC : ∀ (a1 : Int32)  (σ : kS), kMet l E yX3_readCondition cX3_readCondition 4 (some .boolean) fo lo9 0 id [.ref (kad E 2 0), .int a1] σ (oC a1 σ)) : ∀ (x1 : Int32) (t0 : Int32)  (σ : kS), Sm (C, E, Q) 4 0 19 [(0, .ref (kad E 2 0)), (1, .int x1)] [.int t0] σ (f_X3_readBasic_b19 F oB oC x1 t0 σ) := by
  intro x1 t0  σ
  unfold f_X3_readBasic_b19
  refine k_istore_n (lv' := [(2, .int t0), (0, .ref (kad E 2 0)), (1, .int x1)]) hk dX3_readBasic_19 (by decide) rfl ?_
  refine k_iload_n hk dX3_readBasic_20 0 rfl ?_
  refine k_if_ne hk dX3_readBasic_21 38 (by decide) (fun h30 => ?_) (fun h30 => ?_)
  · exact k_sub [1, 2, 0] rfl (s_X3_readBasic_b38 hj hn hl fo lo9 hk he hro F oB hoB oC hoC  x1 t0  σ)
  · refine k_aload_n hk dX3_readBasic_24 1 rfl ?_
    refine k_getr (k := 3) 18 0 hk dX3_readBasic_25 rfl (by decide) kc3 (by decide) fl_RX3_25 rfl rfl ?_
    refine k_aload_n hk dX3_readBasic_28 1 rfl ?_
    refine k_getf (k := 7) hk dX3_readBasic_29 rfl (by decide) kc3 (by decide) fl_RX3_38 rfl ?_
    refine k_iald hk dX3_readBasic_32 rfl (by decide) (fun h31 => ?_)
    refine k_bipush (v := 91) hk dX3_readBasic_33 (by decide) ?_
    refine k_icmp_ne hk dX3_readBasic_35 116 (by decide) (fun h32 => ?_) (fun h32 => ?_)
    · refine k_aload_n hk dX3_readBasic_116 1 rfl ?_
      refine k_iload_n hk dX3_readBasic_117 2 rfl ?_
      refine k_callVi (As := [.int x1]) (rest := []) hk he hro (c_X3_readSumD hj hn hl F x1  σ) dX3_readBasic_118 cw_RX3_179 rfl (by decide) kc3 rfl ⟨by omega, by omega⟩ (by decide) rfl (Nat.le_of_ble_eq_true rfl) (fun c34 σ33 => ?_)
      refine k_if_ne hk dX3_readBasic_121 126 (by decide) (fun h35 => ?_) (fun h35 => ?_)
      · refine k_aload_n hk dX3_readBasic_126 1 rfl ?_
        refine k_getr (k := 3) 18 0 hk dX3_readBasic_127 rfl (by decide) kc3 (by decide) fl_RX3_25 rfl rfl ?_
        refine k_aload_n hk dX3_readBasic_130 1 rfl ?_
        refine k_getf (k := 7) hk dX3_readBasic_131 rfl (by decide) kc3 (by decide) fl_RX3_38 rfl ?_
        refine k_iald hk dX3_readBasic_134 rfl (by decide) (fun h36 => ?_)
        refine k_bipush (v := 60) hk dX3_readBasic_135 (by decide) ?_
        refine k_icmp_ne hk dX3_readBasic_137 145 (by decide) (fun h37 => ?_) (fun h37 => ?_)
        · refine k_aload_n hk dX3_readBasic_145 1 rfl ?_
          refine k_getr (k := 3) 18 0 hk dX3_readBasic_146 rfl (by decide) kc3 (by decide) fl_RX3_25 rfl rfl ?_
          refine k_aload_n hk dX3_readBasic_149 1 rfl ?_
          refine k_getf (k := 7) hk dX3_readBasic_150 rfl (by decide) kc3 (by decide) fl_RX3_38 rfl ?_
          refine k_iald hk dX3_readBasic_153 rfl (by decide) (fun h38 => ?_)
          refine k_bipush (v := 62) hk dX3_readBasic_154 (by decide) ?_
          refine k_icmp_ne hk dX3_readBasic_156 164 (by decide) (fun h39 => ?_) (fun h39 => ?_)
          · refine k_bipush (v := (-13)) hk dX3_readBasic_164 (by decide) ?_
            exact k_sub [1, 2] rfl (s_X3_readBasic_b166 hj hn hl fo lo9 hk he hro F oB hoB oC hoC  x1 (-13)  σ33)
          · refine k_bipush (v := (-12)) hk dX3_readBasic_159 (by decide) ?_
            refine k_goto hk dX3_readBasic_161 166 (by decide) ?_
            exact k_sub [1, 2] rfl (s_X3_readBasic_b166 hj hn hl fo lo9 hk he hro F oB hoB oC hoC  x1 (-12)  σ33)
        · refine k_bipush (v := (-11)) hk dX3_readBasic_140 (by decide) ?_
          refine k_goto hk dX3_readBasic_142 166 (by decide) ?_
          exact k_sub [1, 2] rfl (s_X3_readBasic_b166 hj hn hl fo lo9 hk he hro F oB hoB oC hoC  x1 (-11)  σ33)
      · refine k_iconst (v := 0) hk dX3_readBasic_124 (by decide) ?_
        exact k_zreturn_c hk he dX3_readBasic_125 (by decide) rfl
    · exact k_sub [1, 2, 0] rfl (s_X3_readBasic_b38 hj hn hl fo lo9 hk he hro F oB hoB oC hoC  x1 t0  σ)
def f_X3_readBasic (F : Nat) (oB : Int32 → kS → Option kR) (oC : Int32 → kS → Option kR) (a1 : Int32) (σ : kS) : Option kR := kg (kin (σ.1 2 0 7) 301) (if (σ.1 18 0 (σ.1 2 0 7).toNatClampNeg) = (-8) then (f_X3_readBasic_b19 F oB oC a1 1 σ) else (f_X3_readBasic_b19 F oB oC a1 0 σ))
set_option maxRecDepth 20000 in
theorem c_X3_readBasic {l : Launch} {E : kE} (hj : kEj E) (hn : kNorm E) (hl : l.stackTraces = false) (F : Nat) (fo lo9 : Nat) (oB : Int32 → kS → Option kR) (hoB : ∀ (a1 : Int32)  (σ : kS), kMet l E yX3_readBasic cX3_readBasic 4 (some .boolean) fo lo9 0 id [.ref (kad E 2 0), .int a1] σ (oB a1 σ)) (oC : Int32 → kS → Option kR) (hoC : ∀ (a1 : Int32)  (σ : kS), kMet l E yX3_readCondition cX3_readCondition 4 (some .boolean) fo lo9 0 id [.ref (kad E 2 0), .int a1] σ (oC a1 σ)) (a1 : Int32)  (σ : kS) : kMet l E yX3_readBasic cX3_readBasic 4 (some .boolean) (fo + 37) (lo9 + 834) 0 id [.ref (kad E 2 0), .int a1] σ (f_X3_readBasic F oB oC a1 σ) := by
  refine k_met hj hn hl (by decide) (Nat.le_of_ble_eq_true rfl) (fun C Q hk he hro => ?_)
  have hk : kOk (C, E, Q) cX3_readBasic RX3 4 := hk
  show Sm (C, E, Q) 4 0 0 [(0, .ref (kad E 2 0)), (1, .int a1)] [] σ _
  unfold f_X3_readBasic
  refine k_aload_n hk dX3_readBasic_0 0 rfl ?_
  refine k_getr (k := 3) 18 0 hk dX3_readBasic_1 rfl (by decide) kc3 (by decide) fl_RX3_25 rfl rfl ?_
  refine k_aload_n hk dX3_readBasic_4 0 rfl ?_
  refine k_getf (k := 7) hk dX3_readBasic_5 rfl (by decide) kc3 (by decide) fl_RX3_38 rfl ?_
  refine k_iald hk dX3_readBasic_8 rfl (by decide) (fun h40 => ?_)
  refine k_bipush (v := (-8)) hk dX3_readBasic_9 (by decide) ?_
  refine k_icmp_ne hk dX3_readBasic_11 18 (by decide) (fun h41 => ?_) (fun h41 => ?_)
  · refine k_iconst (v := 0) hk dX3_readBasic_18 (by decide) ?_
    exact k_sub [0, 1] rfl (s_X3_readBasic_b19 hj hn hl fo lo9 hk he hro F oB hoB oC hoC  a1 0  σ)
  · refine k_iconst (v := 1) hk dX3_readBasic_14 (by decide) ?_
    refine k_goto hk dX3_readBasic_15 19 (by decide) ?_
    exact k_sub [0, 1] rfl (s_X3_readBasic_b19 hj hn hl fo lo9 hk he hro F oB hoB oC hoC  a1 1  σ)
def f_X3_readAnds_b57 (F : Nat) (oB : Int32 → kS → Option kR) (oC : Int32 → kS → Option kR) (x2 : Int32) (σ : kS) : Option kR := kg (narrow .boolean (.int x2) = .int x2) (some (.inl (some (.int x2)), σ))
set_option maxRecDepth 20000 in
theorem s_X3_readAnds_b57 {l : Launch} {E : kE} (hj : kEj E) (hn : kNorm E) (hl : l.stackTraces = false) (fo lo9 : Nat) {C : kC} {Q : kR → State → Prop} (hk : kOk (C, E, Q) cX3_readAnds RX3 4) (he : kEnd (C, E, Q) (some .boolean) id 0) (hro : kRo C l (fo + 38) (lo9 + 857) 0) (F : Nat) (oB : Int32 → kS → Option kR) (hoB : ∀ (a1 : Int32)  (σ : kS), kMet l E yX3_readBasic cX3_readBasic 4 (some .boolean) fo lo9 0 id [.ref (kad E 2 0), .int a1] σ (oB a1 σ)) (oC : Int32 → kS → Option kR) (hoC : ∀ (a1 : Int32)  (σ : kS), kMet l E yX3_readCondition cX3_readCondition 4 (some .boolean) fo lo9 0 id [.ref (kad E 2 0), .int a1] σ (oC a1 σ)) : ∀ (x2 : Int32)  (σ : kS), Sm (C, E, Q) 4 0 57 [(2, .int x2)] [] σ (f_X3_readAnds_b57 F oB oC x2 σ) := by
  intro x2  σ
  unfold f_X3_readAnds_b57
  refine k_iload_n hk dX3_readAnds_57 0 rfl ?_
  exact k_zreturn hk he dX3_readAnds_58 (by decide)
def f_X3_readAnds_b50 (F : Nat) (oB : Int32 → kS → Option kR) (oC : Int32 → kS → Option kR) (rr8 : (Int32 × Int32 × Int32) → kS → Option kR) (x1 : Int32) (x3 : Int32) (t0 : Int32) (σ : kS) : Option kR := rr8 (x1, t0, x3 + 1) σ
set_option maxRecDepth 20000 in
theorem s_X3_readAnds_b50 {l : Launch} {E : kE} (hj : kEj E) (hn : kNorm E) (hl : l.stackTraces = false) (fo lo9 : Nat) {C : kC} {Q : kR → State → Prop} (hk : kOk (C, E, Q) cX3_readAnds RX3 4) (he : kEnd (C, E, Q) (some .boolean) id 0) (hro : kRo C l (fo + 38) (lo9 + 857) 0) (F : Nat) (oB : Int32 → kS → Option kR) (hoB : ∀ (a1 : Int32)  (σ : kS), kMet l E yX3_readBasic cX3_readBasic 4 (some .boolean) fo lo9 0 id [.ref (kad E 2 0), .int a1] σ (oB a1 σ)) (oC : Int32 → kS → Option kR) (hoC : ∀ (a1 : Int32)  (σ : kS), kMet l E yX3_readCondition cX3_readCondition 4 (some .boolean) fo lo9 0 id [.ref (kad E 2 0), .int a1] σ (oC a1 σ)) (rr8 : (Int32 × Int32 × Int32) → kS → Option kR) (hrr8 : ∀ (x1 : Int32) (x2 : Int32) (x3 : Int32)  (σ : kS), Sm (C, E, Q) 4 0 8 [(0, .ref (kad E 2 0)), (1, .int x1), (2, .int x2), (3, .int x3)] [] σ (rr8 (x1, x2, x3) σ)) : ∀ (x1 : Int32) (x3 : Int32) (t0 : Int32)  (σ : kS), Sm (C, E, Q) 4 0 50 [(0, .ref (kad E 2 0)), (1, .int x1), (3, .int x3)] [.int t0] σ (f_X3_readAnds_b50 F oB oC rr8 x1 x3 t0 σ) := by
  intro x1 x3 t0  σ
  unfold f_X3_readAnds_b50
  refine k_istore_n (lv' := [(2, .int t0), (0, .ref (kad E 2 0)), (1, .int x1), (3, .int x3)]) hk dX3_readAnds_50 (by decide) rfl ?_
  refine k_iinc (lv' := [(3, .int (x3 + 1)), (2, .int t0), (0, .ref (kad E 2 0)), (1, .int x1)]) (j := 3) (y := x3 + 1) hk dX3_readAnds_51 rfl rfl (by decide) rfl ?_
  refine k_goto hk dX3_readAnds_54 8 (by decide) ?_
  exact k_sub [2, 3, 1, 0] rfl (hrr8 x1 t0 (x3 + 1)  σ)
def f_X3_readAnds_b49 (F : Nat) (oB : Int32 → kS → Option kR) (oC : Int32 → kS → Option kR) (rr8 : (Int32 × Int32 × Int32) → kS → Option kR) (x1 : Int32) (x3 : Int32) (σ : kS) : Option kR := f_X3_readAnds_b50 F oB oC rr8 x1 x3 0 σ
set_option maxRecDepth 20000 in
theorem s_X3_readAnds_b49 {l : Launch} {E : kE} (hj : kEj E) (hn : kNorm E) (hl : l.stackTraces = false) (fo lo9 : Nat) {C : kC} {Q : kR → State → Prop} (hk : kOk (C, E, Q) cX3_readAnds RX3 4) (he : kEnd (C, E, Q) (some .boolean) id 0) (hro : kRo C l (fo + 38) (lo9 + 857) 0) (F : Nat) (oB : Int32 → kS → Option kR) (hoB : ∀ (a1 : Int32)  (σ : kS), kMet l E yX3_readBasic cX3_readBasic 4 (some .boolean) fo lo9 0 id [.ref (kad E 2 0), .int a1] σ (oB a1 σ)) (oC : Int32 → kS → Option kR) (hoC : ∀ (a1 : Int32)  (σ : kS), kMet l E yX3_readCondition cX3_readCondition 4 (some .boolean) fo lo9 0 id [.ref (kad E 2 0), .int a1] σ (oC a1 σ)) (rr8 : (Int32 × Int32 × Int32) → kS → Option kR) (hrr8 : ∀ (x1 : Int32) (x2 : Int32) (x3 : Int32)  (σ : kS), Sm (C, E, Q) 4 0 8 [(0, .ref (kad E 2 0)), (1, .int x1), (2, .int x2), (3, .int x3)] [] σ (rr8 (x1, x2, x3) σ)) : ∀ (x1 : Int32) (x3 : Int32)  (σ : kS), Sm (C, E, Q) 4 0 49 [(0, .ref (kad E 2 0)), (1, .int x1), (3, .int x3)] [] σ (f_X3_readAnds_b49 F oB oC rr8 x1 x3 σ) := by
  intro x1 x3  σ
  unfold f_X3_readAnds_b49
  refine k_iconst (v := 0) hk dX3_readAnds_49 (by decide) ?_
  exact k_sub [0, 1, 2] rfl (s_X3_readAnds_b50 hj hn hl fo lo9 hk he hro F oB hoB oC hoC rr8 hrr8  x1 x3 0  σ)
def f_X3_readAnds_b8 (F : Nat) (oB : Int32 → kS → Option kR) (oC : Int32 → kS → Option kR) (rr8 : (Int32 × Int32 × Int32) → kS → Option kR) (a : (Int32 × Int32 × Int32)) (σ : kS) : Option kR := match a with
  | (x1, x2, x3) => if 300 ≤ x3 then (f_X3_readAnds_b57 F oB oC x2 σ) else (if x2 = 0 then (f_X3_readAnds_b57 F oB oC x2 σ) else (kBi (f_X3_take F (-9) σ) fun c4 σ3 => if c4 = 0 then (f_X3_readAnds_b57 F oB oC x2 σ3) else (kBi (f_X3_readBasic F oB oC x1 σ3) fun c7 σ6 => if c7 = 0 then (f_X3_readAnds_b49 F oB oC rr8 x1 x3 σ6) else (kBi (f_X3_write F (-9) σ6) fun c10 σ9 => if c10 = 0 then (f_X3_readAnds_b49 F oB oC rr8 x1 x3 σ9) else (f_X3_readAnds_b50 F oB oC rr8 x1 x3 1 σ9)))))
set_option maxRecDepth 20000 in
theorem s_X3_readAnds_b8 {l : Launch} {E : kE} (hj : kEj E) (hn : kNorm E) (hl : l.stackTraces = false) (fo lo9 : Nat) {C : kC} {Q : kR → State → Prop} (hk : kOk (C, E, Q) cX3_readAnds RX3 4) (he : kEnd (C, E, Q) (some .boolean) id 0) (hro : kRo C l (fo + 38) (lo9 + 857) 0) (F : Nat) (oB : Int32 → kS → Option kR) (hoB : ∀ (a1 : Int32)  (σ : kS), kMet l E yX3_readBasic cX3_readBasic 4 (some .boolean) fo lo9 0 id [.ref (kad E 2 0), .int a1] σ (oB a1 σ)) (oC : Int32 → kS → Option kR) (hoC : ∀ (a1 : Int32)  (σ : kS), kMet l E yX3_readCondition cX3_readCondition 4 (some .boolean) fo lo9 0 id [.ref (kad E 2 0), .int a1] σ (oC a1 σ)) : ∀ (N9 : Nat) (x1 : Int32) (x2 : Int32) (x3 : Int32)  (σ : kS), Sm (C, E, Q) 4 0 8 [(0, .ref (kad E 2 0)), (1, .int x1), (2, .int x2), (3, .int x3)] [] σ (kFix (f_X3_readAnds_b8 F oB oC) N9 (x1, x2, x3) σ) := by
  intro N9
  induction N9 with
  | zero => intro x1 x2 x3  σ; exact k_no
  | succ N9 ih =>
    intro x1 x2 x3  σ
    show Sm _ _ _ _ _ _ _ (f_X3_readAnds_b8 F oB oC (kFix (f_X3_readAnds_b8 F oB oC) N9) (x1, x2, x3) σ)
    generalize kFix (f_X3_readAnds_b8 F oB oC) N9 = rr8 at ih
    have hrr8 := ih
    unfold f_X3_readAnds_b8
    dsimp only
    refine k_iload_n hk dX3_readAnds_8 3 rfl ?_
    refine k_sipush (v := 300) hk dX3_readAnds_9 (by decide) ?_
    refine k_icmp_ge hk dX3_readAnds_12 57 (by decide) (fun h1 => ?_) (fun h1 => ?_)
    · exact k_sub [2] rfl (s_X3_readAnds_b57 hj hn hl fo lo9 hk he hro F oB hoB oC hoC  x2  σ)
    · refine k_iload_n hk dX3_readAnds_15 2 rfl ?_
      refine k_if_eq hk dX3_readAnds_16 57 (by decide) (fun h2 => ?_) (fun h2 => ?_)
      · exact k_sub [2] rfl (s_X3_readAnds_b57 hj hn hl fo lo9 hk he hro F oB hoB oC hoC  x2  σ)
      · refine k_aload_n hk dX3_readAnds_19 0 rfl ?_
        refine k_bipush (v := (-9)) hk dX3_readAnds_20 (by decide) ?_
        refine k_callVi (As := [.int (-9)]) (rest := []) hk he hro (c_X3_take hj hn hl F (-9)  σ) dX3_readAnds_22 cw_RX3_170 rfl (by decide) kc3 rfl ⟨by omega, by omega⟩ (by decide) rfl (Nat.le_of_ble_eq_true rfl) (fun c4 σ3 => ?_)
        refine k_if_eq hk dX3_readAnds_25 57 (by decide) (fun h5 => ?_) (fun h5 => ?_)
        · exact k_sub [2] rfl (s_X3_readAnds_b57 hj hn hl fo lo9 hk he hro F oB hoB oC hoC  x2  σ3)
        · refine k_aload_n hk dX3_readAnds_28 0 rfl ?_
          refine k_iload_n hk dX3_readAnds_29 1 rfl ?_
          refine k_callVi (As := [.int x1]) (rest := []) hk he hro (c_X3_readBasic hj hn hl F fo lo9 oB hoB oC hoC x1  σ3) dX3_readAnds_30 cw_RX3_176 rfl (by decide) kc3 rfl ⟨by omega, by omega⟩ (by decide) rfl (Nat.le_of_ble_eq_true rfl) (fun c7 σ6 => ?_)
          refine k_if_eq hk dX3_readAnds_33 49 (by decide) (fun h8 => ?_) (fun h8 => ?_)
          · exact k_sub [0, 1, 3] rfl (s_X3_readAnds_b49 hj hn hl fo lo9 hk he hro F oB hoB oC hoC rr8 hrr8  x1 x3  σ6)
          · refine k_aload_n hk dX3_readAnds_36 0 rfl ?_
            refine k_bipush (v := (-9)) hk dX3_readAnds_37 (by decide) ?_
            refine k_callVi (As := [.int (-9)]) (rest := []) hk he hro (c_X3_write hj hn hl F (-9)  σ6) dX3_readAnds_39 cw_RX3_173 rfl (by decide) kc3 rfl ⟨by omega, by omega⟩ (by decide) rfl (Nat.le_of_ble_eq_true rfl) (fun c10 σ9 => ?_)
            refine k_if_eq hk dX3_readAnds_42 49 (by decide) (fun h11 => ?_) (fun h11 => ?_)
            · exact k_sub [0, 1, 3] rfl (s_X3_readAnds_b49 hj hn hl fo lo9 hk he hro F oB hoB oC hoC rr8 hrr8  x1 x3  σ9)
            · refine k_iconst (v := 1) hk dX3_readAnds_45 (by decide) ?_
              refine k_goto hk dX3_readAnds_46 50 (by decide) ?_
              exact k_sub [0, 1, 3] rfl (s_X3_readAnds_b50 hj hn hl fo lo9 hk he hro F oB hoB oC hoC rr8 hrr8  x1 x3 1  σ9)
def f_X3_readAnds (F : Nat) (oB : Int32 → kS → Option kR) (oC : Int32 → kS → Option kR) (a1 : Int32) (σ : kS) : Option kR := kBi (f_X3_readBasic F oB oC a1 σ) fun c13 σ12 => kFix (f_X3_readAnds_b8 F oB oC) F (a1, c13, 0) σ12
set_option maxRecDepth 20000 in
theorem c_X3_readAnds {l : Launch} {E : kE} (hj : kEj E) (hn : kNorm E) (hl : l.stackTraces = false) (F : Nat) (fo lo9 : Nat) (oB : Int32 → kS → Option kR) (hoB : ∀ (a1 : Int32)  (σ : kS), kMet l E yX3_readBasic cX3_readBasic 4 (some .boolean) fo lo9 0 id [.ref (kad E 2 0), .int a1] σ (oB a1 σ)) (oC : Int32 → kS → Option kR) (hoC : ∀ (a1 : Int32)  (σ : kS), kMet l E yX3_readCondition cX3_readCondition 4 (some .boolean) fo lo9 0 id [.ref (kad E 2 0), .int a1] σ (oC a1 σ)) (a1 : Int32)  (σ : kS) : kMet l E yX3_readAnds cX3_readAnds 4 (some .boolean) (fo + 38) (lo9 + 857) 0 id [.ref (kad E 2 0), .int a1] σ (f_X3_readAnds F oB oC a1 σ) := by
  refine k_met hj hn hl (by decide) (Nat.le_of_ble_eq_true rfl) (fun C Q hk he hro => ?_)
  have hk : kOk (C, E, Q) cX3_readAnds RX3 4 := hk
  show Sm (C, E, Q) 4 0 0 [(0, .ref (kad E 2 0)), (1, .int a1)] [] σ _
  unfold f_X3_readAnds
  refine k_aload_n hk dX3_readAnds_0 0 rfl ?_
  refine k_iload_n hk dX3_readAnds_1 1 rfl ?_
  refine k_callVi (As := [.int a1]) (rest := []) hk he hro (c_X3_readBasic hj hn hl F fo lo9 oB hoB oC hoC a1  σ) dX3_readAnds_2 cw_RX3_176 rfl (by decide) kc3 rfl ⟨by omega, by omega⟩ (by decide) rfl (Nat.le_of_ble_eq_true rfl) (fun c13 σ12 => ?_)
  refine k_istore_n (lv' := [(2, .int c13), (0, .ref (kad E 2 0)), (1, .int a1)]) hk dX3_readAnds_5 (by decide) rfl ?_
  refine k_iconst (v := 0) hk dX3_readAnds_6 (by decide) ?_
  refine k_istore_n (lv' := [(3, .int 0), (2, .int c13), (0, .ref (kad E 2 0)), (1, .int a1)]) hk dX3_readAnds_7 (by decide) rfl ?_
  exact k_sub [2, 3, 1, 0] rfl (s_X3_readAnds_b8 hj hn hl fo lo9 hk he hro F oB hoB oC hoC F a1 c13 0  σ12)
def f_X3_readCondition_b57 (F : Nat) (oB : Int32 → kS → Option kR) (oC : Int32 → kS → Option kR) (x2 : Int32) (σ : kS) : Option kR := kg (narrow .boolean (.int x2) = .int x2) (some (.inl (some (.int x2)), σ))
set_option maxRecDepth 20000 in
theorem s_X3_readCondition_b57 {l : Launch} {E : kE} (hj : kEj E) (hn : kNorm E) (hl : l.stackTraces = false) (fo lo9 : Nat) {C : kC} {Q : kR → State → Prop} (hk : kOk (C, E, Q) cX3_readCondition RX3 4) (he : kEnd (C, E, Q) (some .boolean) id 0) (hro : kRo C l (fo + 39) (lo9 + 880) 0) (F : Nat) (oB : Int32 → kS → Option kR) (hoB : ∀ (a1 : Int32)  (σ : kS), kMet l E yX3_readBasic cX3_readBasic 4 (some .boolean) fo lo9 0 id [.ref (kad E 2 0), .int a1] σ (oB a1 σ)) (oC : Int32 → kS → Option kR) (hoC : ∀ (a1 : Int32)  (σ : kS), kMet l E yX3_readCondition cX3_readCondition 4 (some .boolean) fo lo9 0 id [.ref (kad E 2 0), .int a1] σ (oC a1 σ)) : ∀ (x2 : Int32)  (σ : kS), Sm (C, E, Q) 4 0 57 [(2, .int x2)] [] σ (f_X3_readCondition_b57 F oB oC x2 σ) := by
  intro x2  σ
  unfold f_X3_readCondition_b57
  refine k_iload_n hk dX3_readCondition_57 0 rfl ?_
  exact k_zreturn hk he dX3_readCondition_58 (by decide)
def f_X3_readCondition_b50 (F : Nat) (oB : Int32 → kS → Option kR) (oC : Int32 → kS → Option kR) (rr8 : (Int32 × Int32 × Int32) → kS → Option kR) (x1 : Int32) (x3 : Int32) (t0 : Int32) (σ : kS) : Option kR := rr8 (x1, t0, x3 + 1) σ
set_option maxRecDepth 20000 in
theorem s_X3_readCondition_b50 {l : Launch} {E : kE} (hj : kEj E) (hn : kNorm E) (hl : l.stackTraces = false) (fo lo9 : Nat) {C : kC} {Q : kR → State → Prop} (hk : kOk (C, E, Q) cX3_readCondition RX3 4) (he : kEnd (C, E, Q) (some .boolean) id 0) (hro : kRo C l (fo + 39) (lo9 + 880) 0) (F : Nat) (oB : Int32 → kS → Option kR) (hoB : ∀ (a1 : Int32)  (σ : kS), kMet l E yX3_readBasic cX3_readBasic 4 (some .boolean) fo lo9 0 id [.ref (kad E 2 0), .int a1] σ (oB a1 σ)) (oC : Int32 → kS → Option kR) (hoC : ∀ (a1 : Int32)  (σ : kS), kMet l E yX3_readCondition cX3_readCondition 4 (some .boolean) fo lo9 0 id [.ref (kad E 2 0), .int a1] σ (oC a1 σ)) (rr8 : (Int32 × Int32 × Int32) → kS → Option kR) (hrr8 : ∀ (x1 : Int32) (x2 : Int32) (x3 : Int32)  (σ : kS), Sm (C, E, Q) 4 0 8 [(0, .ref (kad E 2 0)), (1, .int x1), (2, .int x2), (3, .int x3)] [] σ (rr8 (x1, x2, x3) σ)) : ∀ (x1 : Int32) (x3 : Int32) (t0 : Int32)  (σ : kS), Sm (C, E, Q) 4 0 50 [(0, .ref (kad E 2 0)), (1, .int x1), (3, .int x3)] [.int t0] σ (f_X3_readCondition_b50 F oB oC rr8 x1 x3 t0 σ) := by
  intro x1 x3 t0  σ
  unfold f_X3_readCondition_b50
  refine k_istore_n (lv' := [(2, .int t0), (0, .ref (kad E 2 0)), (1, .int x1), (3, .int x3)]) hk dX3_readCondition_50 (by decide) rfl ?_
  refine k_iinc (lv' := [(3, .int (x3 + 1)), (2, .int t0), (0, .ref (kad E 2 0)), (1, .int x1)]) (j := 3) (y := x3 + 1) hk dX3_readCondition_51 rfl rfl (by decide) rfl ?_
  refine k_goto hk dX3_readCondition_54 8 (by decide) ?_
  exact k_sub [2, 3, 1, 0] rfl (hrr8 x1 t0 (x3 + 1)  σ)
def f_X3_readCondition_b49 (F : Nat) (oB : Int32 → kS → Option kR) (oC : Int32 → kS → Option kR) (rr8 : (Int32 × Int32 × Int32) → kS → Option kR) (x1 : Int32) (x3 : Int32) (σ : kS) : Option kR := f_X3_readCondition_b50 F oB oC rr8 x1 x3 0 σ
set_option maxRecDepth 20000 in
theorem s_X3_readCondition_b49 {l : Launch} {E : kE} (hj : kEj E) (hn : kNorm E) (hl : l.stackTraces = false) (fo lo9 : Nat) {C : kC} {Q : kR → State → Prop} (hk : kOk (C, E, Q) cX3_readCondition RX3 4) (he : kEnd (C, E, Q) (some .boolean) id 0) (hro : kRo C l (fo + 39) (lo9 + 880) 0) (F : Nat) (oB : Int32 → kS → Option kR) (hoB : ∀ (a1 : Int32)  (σ : kS), kMet l E yX3_readBasic cX3_readBasic 4 (some .boolean) fo lo9 0 id [.ref (kad E 2 0), .int a1] σ (oB a1 σ)) (oC : Int32 → kS → Option kR) (hoC : ∀ (a1 : Int32)  (σ : kS), kMet l E yX3_readCondition cX3_readCondition 4 (some .boolean) fo lo9 0 id [.ref (kad E 2 0), .int a1] σ (oC a1 σ)) (rr8 : (Int32 × Int32 × Int32) → kS → Option kR) (hrr8 : ∀ (x1 : Int32) (x2 : Int32) (x3 : Int32)  (σ : kS), Sm (C, E, Q) 4 0 8 [(0, .ref (kad E 2 0)), (1, .int x1), (2, .int x2), (3, .int x3)] [] σ (rr8 (x1, x2, x3) σ)) : ∀ (x1 : Int32) (x3 : Int32)  (σ : kS), Sm (C, E, Q) 4 0 49 [(0, .ref (kad E 2 0)), (1, .int x1), (3, .int x3)] [] σ (f_X3_readCondition_b49 F oB oC rr8 x1 x3 σ) := by
  intro x1 x3  σ
  unfold f_X3_readCondition_b49
  refine k_iconst (v := 0) hk dX3_readCondition_49 (by decide) ?_
  exact k_sub [0, 1, 2] rfl (s_X3_readCondition_b50 hj hn hl fo lo9 hk he hro F oB hoB oC hoC rr8 hrr8  x1 x3 0  σ)
def f_X3_readCondition_b8 (F : Nat) (oB : Int32 → kS → Option kR) (oC : Int32 → kS → Option kR) (rr8 : (Int32 × Int32 × Int32) → kS → Option kR) (a : (Int32 × Int32 × Int32)) (σ : kS) : Option kR := match a with
  | (x1, x2, x3) => if 300 ≤ x3 then (f_X3_readCondition_b57 F oB oC x2 σ) else (if x2 = 0 then (f_X3_readCondition_b57 F oB oC x2 σ) else (kBi (f_X3_take F (-10) σ) fun c4 σ3 => if c4 = 0 then (f_X3_readCondition_b57 F oB oC x2 σ3) else (kBi (f_X3_readAnds F oB oC x1 σ3) fun c7 σ6 => if c7 = 0 then (f_X3_readCondition_b49 F oB oC rr8 x1 x3 σ6) else (kBi (f_X3_write F (-10) σ6) fun c10 σ9 => if c10 = 0 then (f_X3_readCondition_b49 F oB oC rr8 x1 x3 σ9) else (f_X3_readCondition_b50 F oB oC rr8 x1 x3 1 σ9)))))
set_option maxRecDepth 20000 in
theorem s_X3_readCondition_b8 {l : Launch} {E : kE} (hj : kEj E) (hn : kNorm E) (hl : l.stackTraces = false) (fo lo9 : Nat) {C : kC} {Q : kR → State → Prop} (hk : kOk (C, E, Q) cX3_readCondition RX3 4) (he : kEnd (C, E, Q) (some .boolean) id 0) (hro : kRo C l (fo + 39) (lo9 + 880) 0) (F : Nat) (oB : Int32 → kS → Option kR) (hoB : ∀ (a1 : Int32)  (σ : kS), kMet l E yX3_readBasic cX3_readBasic 4 (some .boolean) fo lo9 0 id [.ref (kad E 2 0), .int a1] σ (oB a1 σ)) (oC : Int32 → kS → Option kR) (hoC : ∀ (a1 : Int32)  (σ : kS), kMet l E yX3_readCondition cX3_readCondition 4 (some .boolean) fo lo9 0 id [.ref (kad E 2 0), .int a1] σ (oC a1 σ)) : ∀ (N9 : Nat) (x1 : Int32) (x2 : Int32) (x3 : Int32)  (σ : kS), Sm (C, E, Q) 4 0 8 [(0, .ref (kad E 2 0)), (1, .int x1), (2, .int x2), (3, .int x3)] [] σ (kFix (f_X3_readCondition_b8 F oB oC) N9 (x1, x2, x3) σ) := by
  intro N9
  induction N9 with
  | zero => intro x1 x2 x3  σ; exact k_no
  | succ N9 ih =>
    intro x1 x2 x3  σ
    show Sm _ _ _ _ _ _ _ (f_X3_readCondition_b8 F oB oC (kFix (f_X3_readCondition_b8 F oB oC) N9) (x1, x2, x3) σ)
    generalize kFix (f_X3_readCondition_b8 F oB oC) N9 = rr8 at ih
    have hrr8 := ih
    unfold f_X3_readCondition_b8
    dsimp only
    refine k_iload_n hk dX3_readCondition_8 3 rfl ?_
    refine k_sipush (v := 300) hk dX3_readCondition_9 (by decide) ?_
    refine k_icmp_ge hk dX3_readCondition_12 57 (by decide) (fun h1 => ?_) (fun h1 => ?_)
    · exact k_sub [2] rfl (s_X3_readCondition_b57 hj hn hl fo lo9 hk he hro F oB hoB oC hoC  x2  σ)
    · refine k_iload_n hk dX3_readCondition_15 2 rfl ?_
      refine k_if_eq hk dX3_readCondition_16 57 (by decide) (fun h2 => ?_) (fun h2 => ?_)
      · exact k_sub [2] rfl (s_X3_readCondition_b57 hj hn hl fo lo9 hk he hro F oB hoB oC hoC  x2  σ)
      · refine k_aload_n hk dX3_readCondition_19 0 rfl ?_
        refine k_bipush (v := (-10)) hk dX3_readCondition_20 (by decide) ?_
        refine k_callVi (As := [.int (-10)]) (rest := []) hk he hro (c_X3_take hj hn hl F (-10)  σ) dX3_readCondition_22 cw_RX3_170 rfl (by decide) kc3 rfl ⟨by omega, by omega⟩ (by decide) rfl (Nat.le_of_ble_eq_true rfl) (fun c4 σ3 => ?_)
        refine k_if_eq hk dX3_readCondition_25 57 (by decide) (fun h5 => ?_) (fun h5 => ?_)
        · exact k_sub [2] rfl (s_X3_readCondition_b57 hj hn hl fo lo9 hk he hro F oB hoB oC hoC  x2  σ3)
        · refine k_aload_n hk dX3_readCondition_28 0 rfl ?_
          refine k_iload_n hk dX3_readCondition_29 1 rfl ?_
          refine k_callVi (As := [.int x1]) (rest := []) hk he hro (c_X3_readAnds hj hn hl F fo lo9 oB hoB oC hoC x1  σ3) dX3_readCondition_30 cw_RX3_167 rfl (by decide) kc3 rfl ⟨by omega, by omega⟩ (by decide) rfl (Nat.le_of_ble_eq_true rfl) (fun c7 σ6 => ?_)
          refine k_if_eq hk dX3_readCondition_33 49 (by decide) (fun h8 => ?_) (fun h8 => ?_)
          · exact k_sub [0, 1, 3] rfl (s_X3_readCondition_b49 hj hn hl fo lo9 hk he hro F oB hoB oC hoC rr8 hrr8  x1 x3  σ6)
          · refine k_aload_n hk dX3_readCondition_36 0 rfl ?_
            refine k_bipush (v := (-10)) hk dX3_readCondition_37 (by decide) ?_
            refine k_callVi (As := [.int (-10)]) (rest := []) hk he hro (c_X3_write hj hn hl F (-10)  σ6) dX3_readCondition_39 cw_RX3_173 rfl (by decide) kc3 rfl ⟨by omega, by omega⟩ (by decide) rfl (Nat.le_of_ble_eq_true rfl) (fun c10 σ9 => ?_)
            refine k_if_eq hk dX3_readCondition_42 49 (by decide) (fun h11 => ?_) (fun h11 => ?_)
            · exact k_sub [0, 1, 3] rfl (s_X3_readCondition_b49 hj hn hl fo lo9 hk he hro F oB hoB oC hoC rr8 hrr8  x1 x3  σ9)
            · refine k_iconst (v := 1) hk dX3_readCondition_45 (by decide) ?_
              refine k_goto hk dX3_readCondition_46 50 (by decide) ?_
              exact k_sub [0, 1, 3] rfl (s_X3_readCondition_b50 hj hn hl fo lo9 hk he hro F oB hoB oC hoC rr8 hrr8  x1 x3 1  σ9)
def f_X3_readCondition (F : Nat) (oB : Int32 → kS → Option kR) (oC : Int32 → kS → Option kR) (a1 : Int32) (σ : kS) : Option kR := kBi (f_X3_readAnds F oB oC a1 σ) fun c13 σ12 => kFix (f_X3_readCondition_b8 F oB oC) F (a1, c13, 0) σ12
set_option maxRecDepth 20000 in
theorem c_X3_readCondition {l : Launch} {E : kE} (hj : kEj E) (hn : kNorm E) (hl : l.stackTraces = false) (F : Nat) (fo lo9 : Nat) (oB : Int32 → kS → Option kR) (hoB : ∀ (a1 : Int32)  (σ : kS), kMet l E yX3_readBasic cX3_readBasic 4 (some .boolean) fo lo9 0 id [.ref (kad E 2 0), .int a1] σ (oB a1 σ)) (oC : Int32 → kS → Option kR) (hoC : ∀ (a1 : Int32)  (σ : kS), kMet l E yX3_readCondition cX3_readCondition 4 (some .boolean) fo lo9 0 id [.ref (kad E 2 0), .int a1] σ (oC a1 σ)) (a1 : Int32)  (σ : kS) : kMet l E yX3_readCondition cX3_readCondition 4 (some .boolean) (fo + 39) (lo9 + 880) 0 id [.ref (kad E 2 0), .int a1] σ (f_X3_readCondition F oB oC a1 σ) := by
  refine k_met hj hn hl (by decide) (Nat.le_of_ble_eq_true rfl) (fun C Q hk he hro => ?_)
  have hk : kOk (C, E, Q) cX3_readCondition RX3 4 := hk
  show Sm (C, E, Q) 4 0 0 [(0, .ref (kad E 2 0)), (1, .int a1)] [] σ _
  unfold f_X3_readCondition
  refine k_aload_n hk dX3_readCondition_0 0 rfl ?_
  refine k_iload_n hk dX3_readCondition_1 1 rfl ?_
  refine k_callVi (As := [.int a1]) (rest := []) hk he hro (c_X3_readAnds hj hn hl F fo lo9 oB hoB oC hoC a1  σ) dX3_readCondition_2 cw_RX3_167 rfl (by decide) kc3 rfl ⟨by omega, by omega⟩ (by decide) rfl (Nat.le_of_ble_eq_true rfl) (fun c13 σ12 => ?_)
  refine k_istore_n (lv' := [(2, .int c13), (0, .ref (kad E 2 0)), (1, .int a1)]) hk dX3_readCondition_5 (by decide) rfl ?_
  refine k_iconst (v := 0) hk dX3_readCondition_6 (by decide) ?_
  refine k_istore_n (lv' := [(3, .int 0), (2, .int c13), (0, .ref (kad E 2 0)), (1, .int a1)]) hk dX3_readCondition_7 (by decide) rfl ?_
  exact k_sub [2, 3, 1, 0] rfl (s_X3_readCondition_b8 hj hn hl fo lo9 hk he hro F oB hoB oC hoC F a1 c13 0  σ12)
def g_X3_bc (F : Nat) : Nat → (Int32 → kS → Option kR) × (Int32 → kS → Option kR)
  | 0 => (fun _ _ => none, fun _ _ => none)
  | D + 1 => (f_X3_readBasic F (g_X3_bc F D).1 (g_X3_bc F D).2, f_X3_readCondition F (g_X3_bc F D).1 (g_X3_bc F D).2)
theorem e_X3_bc {l : Launch} {E : kE} (hj : kEj E) (hn : kNorm E) (hl : l.stackTraces = false) (F : Nat) : ∀ (D : Nat), (∀ (a1 : Int32) (σ : kS), kMet l E yX3_readBasic cX3_readBasic 4 (some .boolean) (39 * D) (880 * D) 0 id [.ref (kad E 2 0), .int a1] σ ((g_X3_bc F D).1 a1 σ)) ∧ (∀ (a1 : Int32) (σ : kS), kMet l E yX3_readCondition cX3_readCondition 4 (some .boolean) (39 * D) (880 * D) 0 id [.ref (kad E 2 0), .int a1] σ ((g_X3_bc F D).2 a1 σ))
  | 0 => ⟨fun a1 σ u h => (by cases h), fun a1 σ u h => (by cases h)⟩
  | D + 1 => ⟨fun a1 σ => (c_X3_readBasic hj hn hl F (39 * D) (880 * D) (g_X3_bc F D).1 (e_X3_bc hj hn hl F D).1 (g_X3_bc F D).2 (e_X3_bc hj hn hl F D).2 a1 σ).room (by omega) (by omega), fun a1 σ => (c_X3_readCondition hj hn hl F (39 * D) (880 * D) (g_X3_bc F D).1 (e_X3_bc hj hn hl F D).1 (g_X3_bc F D).2 (e_X3_bc hj hn hl F D).2 a1 σ).room (by omega) (by omega)⟩
def f_X3_readConditionD (F : Nat) (a1 : Int32) (σ : kS) : Option kR := (g_X3_bc F 9).2 a1 σ
theorem c_X3_readConditionD {l : Launch} {E : kE} (hj : kEj E) (hn : kNorm E) (hl : l.stackTraces = false) (F : Nat) (a1 : Int32) (σ : kS) : kMet l E yX3_readCondition cX3_readCondition 4 (some .boolean) 351 7920 0 id [.ref (kad E 2 0), .int a1] σ (f_X3_readConditionD F a1 σ) := (e_X3_bc hj hn hl F 9).2 a1 σ
def f_X3_readSpark_b22 (F : Nat)  (σ : kS) : Option kR := some (.inl (some (.int 0)), σ)
set_option maxRecDepth 20000 in
theorem s_X3_readSpark_b22 {l : Launch} {E : kE} (hj : kEj E) (hn : kNorm E) (hl : l.stackTraces = false) {C : kC} {Q : kR → State → Prop} (hk : kOk (C, E, Q) cX3_readSpark RX3 4) (he : kEnd (C, E, Q) (some .boolean) id 0) (hro : kRo C l (352) (7943) 0) (F : Nat) : ∀   (σ : kS), Sm (C, E, Q) 4 0 22 [] [] σ (f_X3_readSpark_b22 F  σ) := by
  intro   σ
  unfold f_X3_readSpark_b22
  refine k_iconst (v := 0) hk dX3_readSpark_22 (by decide) ?_
  exact k_zreturn_c hk he dX3_readSpark_23 (by decide) rfl
def f_X3_readSpark (F : Nat) (a1 : Int32) (σ : kS) : Option kR := kBi (f_X3_number F 0 7 σ) fun c2 σ1 => if c2 = (-1) then (f_X3_readSpark_b22 F  σ1) else (kBi (f_X3_expect F (-21) σ1) fun c5 σ4 => if c5 = 0 then (f_X3_readSpark_b22 F  σ4) else (kg (kin a1 14) (kb (kU σ4 12 0 a1.toNatClampNeg c2) fun σ7 => kg (kin a1 14) (kb (kU σ7 15 0 a1.toNatClampNeg (σ7.1 10 0 8)) fun σ9 => kBi (f_X3_readConditionD F 0 σ9) fun c12 σ11 => kg (kin a1 14) (kb (kU σ11 16 0 a1.toNatClampNeg (σ11.1 10 0 8)) fun σ13 => kg (narrow .boolean (.int c12) = .int c12) (some (.inl (some (.int c12)), σ13)))))))
set_option maxRecDepth 20000 in
theorem c_X3_readSpark {l : Launch} {E : kE} (hj : kEj E) (hn : kNorm E) (hl : l.stackTraces = false) (F : Nat) (a1 : Int32)  (σ : kS) : kMet l E yX3_readSpark cX3_readSpark 4 (some .boolean) (352) (7943) 0 id [.ref (kad E 2 0), .int a1] σ (f_X3_readSpark F a1 σ) := by
  refine k_met hj hn hl (by decide) (Nat.le_of_ble_eq_true rfl) (fun C Q hk he hro => ?_)
  have hk : kOk (C, E, Q) cX3_readSpark RX3 4 := hk
  show Sm (C, E, Q) 4 0 0 [(0, .ref (kad E 2 0)), (1, .int a1)] [] σ _
  unfold f_X3_readSpark
  refine k_aload_n hk dX3_readSpark_0 0 rfl ?_
  refine k_iconst (v := 0) hk dX3_readSpark_1 (by decide) ?_
  refine k_bipush (v := 7) hk dX3_readSpark_2 (by decide) ?_
  refine k_callVi (As := [.int 0, .int 7]) (rest := []) hk he hro (c_X3_number hj hn hl F 0 7  σ) dX3_readSpark_4 cw_RX3_140 rfl (by decide) kc3 rfl ⟨by decide, by decide⟩ (by decide) rfl (Nat.le_of_ble_eq_true rfl) (fun c2 σ1 => ?_)
  refine k_istore_n (lv' := [(2, .int c2), (0, .ref (kad E 2 0)), (1, .int a1)]) hk dX3_readSpark_7 (by decide) rfl ?_
  refine k_iload_n hk dX3_readSpark_8 0 rfl ?_
  refine k_iconst (v := (-1)) hk dX3_readSpark_9 (by decide) ?_
  refine k_icmp_eq hk dX3_readSpark_10 22 (by decide) (fun h3 => ?_) (fun h3 => ?_)
  · exact k_sub [] rfl (s_X3_readSpark_b22 hj hn hl hk he hro F    σ1)
  · refine k_aload_n hk dX3_readSpark_13 1 rfl ?_
    refine k_bipush (v := (-21)) hk dX3_readSpark_14 (by decide) ?_
    refine k_callVi (As := [.int (-21)]) (rest := []) hk he hro (c_X3_expect hj hn hl F (-21)  σ1) dX3_readSpark_16 cw_RX3_137 rfl (by decide) kc3 rfl ⟨by decide, by decide⟩ (by decide) rfl (Nat.le_of_ble_eq_true rfl) (fun c5 σ4 => ?_)
    refine k_if_ne hk dX3_readSpark_19 24 (by decide) (fun h6 => ?_) (fun h6 => ?_)
    · refine k_aload_n hk dX3_readSpark_24 1 rfl ?_
      refine k_getr (k := 0) 10 0 hk dX3_readSpark_25 rfl (by decide) kc3 (by decide) fl_RX3_12 rfl rfl ?_
      refine k_getr (k := 2) 12 0 hk dX3_readSpark_28 rfl (by decide) kc4 (by decide) fl_RX3_143 rfl rfl ?_
      refine k_iload_n hk dX3_readSpark_31 2 rfl ?_
      refine k_iload_n hk dX3_readSpark_32 0 rfl ?_
      refine k_iast hk dX3_readSpark_33 rfl (by decide) (fun h8 σ7 => ?_)
      refine k_aload_n hk dX3_readSpark_34 1 rfl ?_
      refine k_getr (k := 0) 10 0 hk dX3_readSpark_35 rfl (by decide) kc3 (by decide) fl_RX3_12 rfl rfl ?_
      refine k_getr (k := 5) 15 0 hk dX3_readSpark_38 rfl (by decide) kc4 (by decide) fl_RX3_152 rfl rfl ?_
      refine k_iload_n hk dX3_readSpark_41 2 rfl ?_
      refine k_aload_n hk dX3_readSpark_42 1 rfl ?_
      refine k_getr (k := 0) 10 0 hk dX3_readSpark_43 rfl (by decide) kc3 (by decide) fl_RX3_12 rfl rfl ?_
      refine k_getf (k := 8) hk dX3_readSpark_46 rfl (by decide) kc4 (by decide) fl_RX3_44 rfl ?_
      refine k_iast hk dX3_readSpark_49 rfl (by decide) (fun h10 σ9 => ?_)
      refine k_aload_n hk dX3_readSpark_50 1 rfl ?_
      refine k_iconst (v := 0) hk dX3_readSpark_51 (by decide) ?_
      refine k_callVi (As := [.int 0]) (rest := []) hk he hro (c_X3_readConditionD hj hn hl F 0  σ9) dX3_readSpark_52 cw_RX3_155 rfl (by decide) kc3 rfl ⟨by decide, by decide⟩ (by decide) rfl (Nat.le_of_ble_eq_true rfl) (fun c12 σ11 => ?_)
      refine k_istore_n (lv' := [(3, .int c12), (2, .int c2), (0, .ref (kad E 2 0)), (1, .int a1)]) hk dX3_readSpark_55 (by decide) rfl ?_
      refine k_aload_n hk dX3_readSpark_56 2 rfl ?_
      refine k_getr (k := 0) 10 0 hk dX3_readSpark_57 rfl (by decide) kc3 (by decide) fl_RX3_12 rfl rfl ?_
      refine k_getr (k := 6) 16 0 hk dX3_readSpark_60 rfl (by decide) kc4 (by decide) fl_RX3_158 rfl rfl ?_
      refine k_iload_n hk dX3_readSpark_63 3 rfl ?_
      refine k_aload_n hk dX3_readSpark_64 2 rfl ?_
      refine k_getr (k := 0) 10 0 hk dX3_readSpark_65 rfl (by decide) kc3 (by decide) fl_RX3_12 rfl rfl ?_
      refine k_getf (k := 8) hk dX3_readSpark_68 rfl (by decide) kc4 (by decide) fl_RX3_44 rfl ?_
      refine k_iast hk dX3_readSpark_71 rfl (by decide) (fun h14 σ13 => ?_)
      refine k_iload_n hk dX3_readSpark_72 0 rfl ?_
      exact k_zreturn hk he dX3_readSpark_73 (by decide)
    · exact k_sub [] rfl (s_X3_readSpark_b22 hj hn hl hk he hro F    σ4)
def f_X3_readClause_b128 (F : Nat) (t0 : Int32) (σ : kS) : Option kR := kg (narrow .boolean (.int t0) = .int t0) (some (.inl (some (.int t0)), σ))
set_option maxRecDepth 20000 in
theorem s_X3_readClause_b128 {l : Launch} {E : kE} (hj : kEj E) (hn : kNorm E) (hl : l.stackTraces = false) {C : kC} {Q : kR → State → Prop} (hk : kOk (C, E, Q) cX3_readClause RX3 4) (he : kEnd (C, E, Q) (some .boolean) id 0) (hro : kRo C l (353) (7966) 0) (F : Nat) : ∀ (t0 : Int32)  (σ : kS), Sm (C, E, Q) 4 0 128 [] [.int t0] σ (f_X3_readClause_b128 F t0 σ) := by
  intro t0  σ
  unfold f_X3_readClause_b128
  exact k_zreturn hk he dX3_readClause_128 (by decide)
def f_X3_readClause_b127 (F : Nat)  (σ : kS) : Option kR := f_X3_readClause_b128 F 0 σ
set_option maxRecDepth 20000 in
theorem s_X3_readClause_b127 {l : Launch} {E : kE} (hj : kEj E) (hn : kNorm E) (hl : l.stackTraces = false) {C : kC} {Q : kR → State → Prop} (hk : kOk (C, E, Q) cX3_readClause RX3 4) (he : kEnd (C, E, Q) (some .boolean) id 0) (hro : kRo C l (353) (7966) 0) (F : Nat) : ∀   (σ : kS), Sm (C, E, Q) 4 0 127 [] [] σ (f_X3_readClause_b127 F  σ) := by
  intro   σ
  unfold f_X3_readClause_b127
  refine k_iconst (v := 0) hk dX3_readClause_127 (by decide) ?_
  exact k_sub [] rfl (s_X3_readClause_b128 hj hn hl hk he hro F  0  σ)
def f_X3_readClause_b109 (F : Nat) (t0 : Int32) (σ : kS) : Option kR := if t0 = 0 then (f_X3_readClause_b127 F  σ) else (kBi (f_X3_expect F 59 σ) fun c3 σ2 => if c3 = 0 then (f_X3_readClause_b127 F  σ2) else (f_X3_readClause_b128 F 1 σ2))
set_option maxRecDepth 20000 in
theorem s_X3_readClause_b109 {l : Launch} {E : kE} (hj : kEj E) (hn : kNorm E) (hl : l.stackTraces = false) {C : kC} {Q : kR → State → Prop} (hk : kOk (C, E, Q) cX3_readClause RX3 4) (he : kEnd (C, E, Q) (some .boolean) id 0) (hro : kRo C l (353) (7966) 0) (F : Nat) : ∀ (t0 : Int32)  (σ : kS), Sm (C, E, Q) 4 0 109 [(0, .ref (kad E 2 0))] [.int t0] σ (f_X3_readClause_b109 F t0 σ) := by
  intro t0  σ
  unfold f_X3_readClause_b109
  refine k_istore_n (lv' := [(3, .int t0), (0, .ref (kad E 2 0))]) hk dX3_readClause_109 (by decide) rfl ?_
  refine k_iload_n hk dX3_readClause_110 0 rfl ?_
  refine k_if_eq hk dX3_readClause_111 127 (by decide) (fun h1 => ?_) (fun h1 => ?_)
  · exact k_sub [] rfl (s_X3_readClause_b127 hj hn hl hk he hro F    σ)
  · refine k_aload_n hk dX3_readClause_114 1 rfl ?_
    refine k_bipush (v := 59) hk dX3_readClause_115 (by decide) ?_
    refine k_callVi (As := [.int 59]) (rest := []) hk he hro (c_X3_expect hj hn hl F 59  σ) dX3_readClause_117 cw_RX3_137 rfl (by decide) kc3 rfl ⟨by decide, by decide⟩ (by decide) rfl (Nat.le_of_ble_eq_true rfl) (fun c3 σ2 => ?_)
    refine k_if_eq hk dX3_readClause_120 127 (by decide) (fun h4 => ?_) (fun h4 => ?_)
    · exact k_sub [] rfl (s_X3_readClause_b127 hj hn hl hk he hro F    σ2)
    · refine k_iconst (v := 1) hk dX3_readClause_123 (by decide) ?_
      refine k_goto hk dX3_readClause_124 128 (by decide) ?_
      exact k_sub [] rfl (s_X3_readClause_b128 hj hn hl hk he hro F  1  σ2)
def f_X3_readClause_b34 (F : Nat) (x1 : Int32) (x2 : Int32) (σ : kS) : Option kR := if x1 < 14 then (kb (kU σ 2 0 7 ((σ.1 2 0 7) + 1)) fun σ6 => kg (kin x1 14) (kb (kU σ6 11 0 x1.toNatClampNeg x2) fun σ7 => kb (kU σ7 10 0 0 (x1 + 1)) fun σ9 => if x2 = (-17) then (kBi (f_X3_readLeak F x1 σ9) fun c17 σ16 => f_X3_readClause_b109 F c17 σ16) else (if x2 = (-18) then (kBi (f_X3_readSpark F x1 σ9) fun c15 σ14 => f_X3_readClause_b109 F c15 σ14) else (kBi (f_X3_readSet F x1 σ9) fun c13 σ12 => f_X3_readClause_b109 F c13 σ12)))) else (kBi (f_X3_fail F 3 σ) fun c19 σ18 => kg (narrow .boolean (.int c19) = .int c19) (some (.inl (some (.int c19)), σ18)))
set_option maxRecDepth 20000 in
theorem s_X3_readClause_b34 {l : Launch} {E : kE} (hj : kEj E) (hn : kNorm E) (hl : l.stackTraces = false) {C : kC} {Q : kR → State → Prop} (hk : kOk (C, E, Q) cX3_readClause RX3 4) (he : kEnd (C, E, Q) (some .boolean) id 0) (hro : kRo C l (353) (7966) 0) (F : Nat) : ∀ (x1 : Int32) (x2 : Int32)  (σ : kS), Sm (C, E, Q) 4 0 34 [(0, .ref (kad E 2 0)), (1, .int x1), (2, .int x2)] [] σ (f_X3_readClause_b34 F x1 x2 σ) := by
  intro x1 x2  σ
  unfold f_X3_readClause_b34
  refine k_iload_n hk dX3_readClause_34 1 rfl ?_
  refine k_bipush (v := 14) hk dX3_readClause_35 (by decide) ?_
  refine k_icmp_lt hk dX3_readClause_37 46 (by decide) (fun h5 => ?_) (fun h5 => ?_)
  · refine k_aload_n hk dX3_readClause_46 0 rfl ?_
    refine k_dup hk dX3_readClause_47 rfl ?_
    refine k_getf (k := 7) hk dX3_readClause_48 rfl (by decide) kc3 (by decide) fl_RX3_38 rfl ?_
    refine k_iconst (v := 1) hk dX3_readClause_51 (by decide) ?_
    refine k_iadd hk dX3_readClause_52 ?_
    refine k_putf (k := 7) hk dX3_readClause_53 rfl (by decide) kc3 (by decide) fl_RX3_38 rfl rfl rfl rfl (fun σ6 => ?_)
    refine k_aload_n hk dX3_readClause_56 0 rfl ?_
    refine k_getr (k := 0) 10 0 hk dX3_readClause_57 rfl (by decide) kc3 (by decide) fl_RX3_12 rfl rfl ?_
    refine k_getr (k := 1) 11 0 hk dX3_readClause_60 rfl (by decide) kc4 (by decide) fl_RX3_127 rfl rfl ?_
    refine k_iload_n hk dX3_readClause_63 1 rfl ?_
    refine k_iload_n hk dX3_readClause_64 2 rfl ?_
    refine k_iast hk dX3_readClause_65 rfl (by decide) (fun h8 σ7 => ?_)
    refine k_aload_n hk dX3_readClause_66 0 rfl ?_
    refine k_getr (k := 0) 10 0 hk dX3_readClause_67 rfl (by decide) kc3 (by decide) fl_RX3_12 rfl rfl ?_
    refine k_iload_n hk dX3_readClause_70 1 rfl ?_
    refine k_iconst (v := 1) hk dX3_readClause_71 (by decide) ?_
    refine k_iadd hk dX3_readClause_72 ?_
    refine k_putf (k := 0) hk dX3_readClause_73 rfl (by decide) kc4 (by decide) fl_RX3_41 rfl rfl rfl rfl (fun σ9 => ?_)
    refine k_iload_n hk dX3_readClause_76 2 rfl ?_
    refine k_bipush (v := (-17)) hk dX3_readClause_77 (by decide) ?_
    refine k_icmp_ne hk dX3_readClause_79 90 (by decide) (fun h10 => ?_) (fun h10 => ?_)
    · refine k_iload_n hk dX3_readClause_90 2 rfl ?_
      refine k_bipush (v := (-18)) hk dX3_readClause_91 (by decide) ?_
      refine k_icmp_ne hk dX3_readClause_93 104 (by decide) (fun h11 => ?_) (fun h11 => ?_)
      · refine k_aload_n hk dX3_readClause_104 0 rfl ?_
        refine k_iload_n hk dX3_readClause_105 1 rfl ?_
        refine k_callVi (As := [.int x1]) (rest := []) hk he hro (c_X3_readSet hj hn hl F x1  σ9) dX3_readClause_106 cw_RX3_134 rfl (by decide) kc3 rfl ⟨by decide, by decide⟩ (by decide) rfl (Nat.le_of_ble_eq_true rfl) (fun c13 σ12 => ?_)
        exact k_sub [0] rfl (s_X3_readClause_b109 hj hn hl hk he hro F  c13  σ12)
      · refine k_aload_n hk dX3_readClause_96 0 rfl ?_
        refine k_iload_n hk dX3_readClause_97 1 rfl ?_
        refine k_callVi (As := [.int x1]) (rest := []) hk he hro (c_X3_readSpark hj hn hl F x1  σ9) dX3_readClause_98 cw_RX3_131 rfl (by decide) kc3 rfl ⟨by decide, by decide⟩ (by decide) rfl (Nat.le_of_ble_eq_true rfl) (fun c15 σ14 => ?_)
        refine k_goto hk dX3_readClause_101 109 (by decide) ?_
        exact k_sub [0] rfl (s_X3_readClause_b109 hj hn hl hk he hro F  c15  σ14)
    · refine k_aload_n hk dX3_readClause_82 0 rfl ?_
      refine k_iload_n hk dX3_readClause_83 1 rfl ?_
      refine k_callVi (As := [.int x1]) (rest := []) hk he hro (c_X3_readLeak hj hn hl F x1  σ9) dX3_readClause_84 cw_RX3_128 rfl (by decide) kc3 rfl ⟨by decide, by decide⟩ (by decide) rfl (Nat.le_of_ble_eq_true rfl) (fun c17 σ16 => ?_)
      refine k_goto hk dX3_readClause_87 109 (by decide) ?_
      exact k_sub [0] rfl (s_X3_readClause_b109 hj hn hl hk he hro F  c17  σ16)
  · refine k_aload_n hk dX3_readClause_40 0 rfl ?_
    refine k_iconst (v := 3) hk dX3_readClause_41 (by decide) ?_
    refine k_callVi (As := [.int 3]) (rest := []) hk he hro (c_X3_fail hj hn hl F 3  σ) dX3_readClause_42 cw_RX3_124 rfl (by decide) kc3 rfl ⟨by decide, by decide⟩ (by decide) rfl (Nat.le_of_ble_eq_true rfl) (fun c19 σ18 => ?_)
    exact k_zreturn hk he dX3_readClause_45 (by decide)
def f_X3_readClause (F : Nat) (a1 : Int32) (σ : kS) : Option kR := kg (kin (σ.1 2 0 7) 301) (kb (σ.1 18 0 (σ.1 2 0 7).toNatClampNeg) fun y21 => if y21 = (-17) then (f_X3_readClause_b34 F a1 y21 σ) else (if y21 = (-18) then (f_X3_readClause_b34 F a1 y21 σ) else (if y21 = (-19) then (f_X3_readClause_b34 F a1 y21 σ) else (kBi (f_X3_fail F 1 σ) fun c26 σ25 => kg (narrow .boolean (.int c26) = .int c26) (some (.inl (some (.int c26)), σ25))))))
set_option maxRecDepth 20000 in
theorem c_X3_readClause {l : Launch} {E : kE} (hj : kEj E) (hn : kNorm E) (hl : l.stackTraces = false) (F : Nat) (a1 : Int32)  (σ : kS) : kMet l E yX3_readClause cX3_readClause 4 (some .boolean) (353) (7966) 0 id [.ref (kad E 2 0), .int a1] σ (f_X3_readClause F a1 σ) := by
  refine k_met hj hn hl (by decide) (Nat.le_of_ble_eq_true rfl) (fun C Q hk he hro => ?_)
  have hk : kOk (C, E, Q) cX3_readClause RX3 4 := hk
  show Sm (C, E, Q) 4 0 0 [(0, .ref (kad E 2 0)), (1, .int a1)] [] σ _
  unfold f_X3_readClause
  refine k_aload_n hk dX3_readClause_0 0 rfl ?_
  refine k_getr (k := 3) 18 0 hk dX3_readClause_1 rfl (by decide) kc3 (by decide) fl_RX3_25 rfl rfl ?_
  refine k_aload_n hk dX3_readClause_4 0 rfl ?_
  refine k_getf (k := 7) hk dX3_readClause_5 rfl (by decide) kc3 (by decide) fl_RX3_38 rfl ?_
  refine k_iald hk dX3_readClause_8 rfl (by decide) (fun h20 => ?_)
  refine k_nm (fun y21 => ?_)
  refine k_istore_n (lv' := [(2, .int y21), (0, .ref (kad E 2 0)), (1, .int a1)]) hk dX3_readClause_9 (by decide) rfl ?_
  refine k_iload_n hk dX3_readClause_10 0 rfl ?_
  refine k_bipush (v := (-17)) hk dX3_readClause_11 (by decide) ?_
  refine k_icmp_eq hk dX3_readClause_13 34 (by decide) (fun h22 => ?_) (fun h22 => ?_)
  · exact k_sub [1, 2, 0] rfl (s_X3_readClause_b34 hj hn hl hk he hro F  a1 y21  σ)
  · refine k_iload_n hk dX3_readClause_16 0 rfl ?_
    refine k_bipush (v := (-18)) hk dX3_readClause_17 (by decide) ?_
    refine k_icmp_eq hk dX3_readClause_19 34 (by decide) (fun h23 => ?_) (fun h23 => ?_)
    · exact k_sub [1, 2, 0] rfl (s_X3_readClause_b34 hj hn hl hk he hro F  a1 y21  σ)
    · refine k_iload_n hk dX3_readClause_22 0 rfl ?_
      refine k_bipush (v := (-19)) hk dX3_readClause_23 (by decide) ?_
      refine k_icmp_eq hk dX3_readClause_25 34 (by decide) (fun h24 => ?_) (fun h24 => ?_)
      · exact k_sub [1, 2, 0] rfl (s_X3_readClause_b34 hj hn hl hk he hro F  a1 y21  σ)
      · refine k_aload_n hk dX3_readClause_28 1 rfl ?_
        refine k_iconst (v := 1) hk dX3_readClause_29 (by decide) ?_
        refine k_callVi (As := [.int 1]) (rest := []) hk he hro (c_X3_fail hj hn hl F 1  σ) dX3_readClause_30 cw_RX3_124 rfl (by decide) kc3 rfl ⟨by decide, by decide⟩ (by decide) rfl (Nat.le_of_ble_eq_true rfl) (fun c26 σ25 => ?_)
        exact k_zreturn hk he dX3_readClause_33 (by decide)
def f_X3_read_b91 (F : Nat)  (σ : kS) : Option kR := some (.inl (some (.int (σ.1 2 0 2))), σ)
set_option maxRecDepth 20000 in
theorem s_X3_read_b91 {l : Launch} {E : kE} (hj : kEj E) (hn : kNorm E) (hl : l.stackTraces = false) {C : kC} {Q : kR → State → Prop} (hk : kOk (C, E, Q) cX3_read RX3 5) (he : kEnd (C, E, Q) (some .int) id 0) (hro : kRo C l (354) (7989) 0) (F : Nat) : ∀   (σ : kS), Sm (C, E, Q) 5 0 91 [(0, .ref (kad E 2 0))] [] σ (f_X3_read_b91 F  σ) := by
  intro   σ
  unfold f_X3_read_b91
  refine k_aload_n hk dX3_read_91 0 rfl ?_
  refine k_getf (k := 2) hk dX3_read_92 rfl (by decide) kc3 (by decide) fl_RX3_22 rfl ?_
  exact k_ireturn hk he dX3_read_95 (by decide)
def f_X3_read_b53 (F : Nat) (rr53 : (Int32 × Int32) → kS → Option kR) (a : (Int32 × Int32)) (σ : kS) : Option kR := match a with
  | (x3, x4) => if 14 < x4 then (f_X3_read_b91 F  σ) else (if x3 = 0 then (f_X3_read_b91 F  σ) else (kg (kin (σ.1 2 0 7) 301) (if (σ.1 18 0 (σ.1 2 0 7).toNatClampNeg) = (-24) then (f_X3_read_b91 F  σ) else (kBi (f_X3_readClause F x4 σ) fun c6 σ5 => rr53 (c6, x4 + 1) σ5))))
set_option maxRecDepth 20000 in
theorem s_X3_read_b53 {l : Launch} {E : kE} (hj : kEj E) (hn : kNorm E) (hl : l.stackTraces = false) {C : kC} {Q : kR → State → Prop} (hk : kOk (C, E, Q) cX3_read RX3 5) (he : kEnd (C, E, Q) (some .int) id 0) (hro : kRo C l (354) (7989) 0) (F : Nat) : ∀ (N9 : Nat) (x3 : Int32) (x4 : Int32)  (σ : kS), Sm (C, E, Q) 5 0 53 [(0, .ref (kad E 2 0)), (3, .int x3), (4, .int x4)] [] σ (kFix (f_X3_read_b53 F) N9 (x3, x4) σ) := by
  intro N9
  induction N9 with
  | zero => intro x3 x4  σ; exact k_no
  | succ N9 ih =>
    intro x3 x4  σ
    show Sm _ _ _ _ _ _ _ (f_X3_read_b53 F (kFix (f_X3_read_b53 F) N9) (x3, x4) σ)
    generalize kFix (f_X3_read_b53 F) N9 = rr53 at ih
    have hrr53 := ih
    unfold f_X3_read_b53
    dsimp only
    refine k_iload hk dX3_read_53 2 rfl ?_
    refine k_bipush (v := 14) hk dX3_read_55 (by decide) ?_
    refine k_icmp_gt hk dX3_read_57 91 (by decide) (fun h1 => ?_) (fun h1 => ?_)
    · exact k_sub [0] rfl (s_X3_read_b91 hj hn hl hk he hro F    σ)
    · refine k_iload_n hk dX3_read_60 1 rfl ?_
      refine k_if_eq hk dX3_read_61 91 (by decide) (fun h2 => ?_) (fun h2 => ?_)
      · exact k_sub [0] rfl (s_X3_read_b91 hj hn hl hk he hro F    σ)
      · refine k_aload_n hk dX3_read_64 0 rfl ?_
        refine k_getr (k := 3) 18 0 hk dX3_read_65 rfl (by decide) kc3 (by decide) fl_RX3_25 rfl rfl ?_
        refine k_aload_n hk dX3_read_68 0 rfl ?_
        refine k_getf (k := 7) hk dX3_read_69 rfl (by decide) kc3 (by decide) fl_RX3_38 rfl ?_
        refine k_iald hk dX3_read_72 rfl (by decide) (fun h3 => ?_)
        refine k_bipush (v := (-24)) hk dX3_read_73 (by decide) ?_
        refine k_icmp_eq hk dX3_read_75 91 (by decide) (fun h4 => ?_) (fun h4 => ?_)
        · exact k_sub [0] rfl (s_X3_read_b91 hj hn hl hk he hro F    σ)
        · refine k_aload_n hk dX3_read_78 0 rfl ?_
          refine k_iload hk dX3_read_79 2 rfl ?_
          refine k_callVi (As := [.int x4]) (rest := []) hk he hro (c_X3_readClause hj hn hl F x4  σ) dX3_read_81 cw_RX3_57 rfl (by decide) kc3 rfl ⟨by decide, by decide⟩ (by decide) rfl (Nat.le_of_ble_eq_true rfl) (fun c6 σ5 => ?_)
          refine k_istore_n (lv' := [(3, .int c6), (0, .ref (kad E 2 0)), (4, .int x4)]) hk dX3_read_84 (by decide) rfl ?_
          refine k_iinc (lv' := [(4, .int (x4 + 1)), (3, .int c6), (0, .ref (kad E 2 0))]) (j := 2) (y := x4 + 1) hk dX3_read_85 rfl rfl (by decide) rfl ?_
          refine k_goto hk dX3_read_88 53 (by decide) ?_
          exact k_sub [2, 1, 0] rfl (hrr53 c6 (x4 + 1)  σ5)
def f_X3_read (F : Nat) (a2 : Int32) (σ : kS) : Option kR := kb (kU σ 2 0 2 0) fun σ7 => kb (kU σ7 2 0 1 (-1)) fun σ8 => kb (kU σ8 10 0 0 0) fun σ9 => kb (kU σ9 10 0 8 0) fun σ10 => kb (kmin 300 300) fun y11 => kb (kmin a2 y11) fun y12 => kBv (f_X3_scan F y12 σ10) fun σ13 => kb (kU σ13 2 0 7 0) fun σ14 => kFix (f_X3_read_b53 F) F (1, 0) σ14
set_option maxRecDepth 20000 in
theorem c_X3_read {l : Launch} {E : kE} (hj : kEj E) (hn : kNorm E) (hl : l.stackTraces = false) (F : Nat) (a2 : Int32)  (σ : kS) : kMet l E yX3_read cX3_read 5 (some .int) (354) (7989) 0 id [.ref (kad E 2 0), .ref (kad E 1 0), .int a2] σ (f_X3_read F a2 σ) := by
  refine k_met hj hn hl (by decide) (Nat.le_of_ble_eq_true rfl) (fun C Q hk he hro => ?_)
  have hk : kOk (C, E, Q) cX3_read RX3 5 := hk
  show Sm (C, E, Q) 5 0 0 [(0, .ref (kad E 2 0)), (1, .ref (kad E 1 0)), (2, .int a2)] [] σ _
  unfold f_X3_read
  refine k_aload_n hk dX3_read_0 0 rfl ?_
  refine k_iconst (v := 0) hk dX3_read_1 (by decide) ?_
  refine k_putf (k := 2) hk dX3_read_2 rfl (by decide) kc3 (by decide) fl_RX3_22 rfl rfl rfl rfl (fun σ7 => ?_)
  refine k_aload_n hk dX3_read_5 0 rfl ?_
  refine k_iconst (v := (-1)) hk dX3_read_6 (by decide) ?_
  refine k_putf (k := 1) hk dX3_read_7 rfl (by decide) kc3 (by decide) fl_RX3_18 rfl rfl rfl rfl (fun σ8 => ?_)
  refine k_aload_n hk dX3_read_10 0 rfl ?_
  refine k_getr (k := 0) 10 0 hk dX3_read_11 rfl (by decide) kc3 (by decide) fl_RX3_12 rfl rfl ?_
  refine k_iconst (v := 0) hk dX3_read_14 (by decide) ?_
  refine k_putf (k := 0) hk dX3_read_15 rfl (by decide) kc4 (by decide) fl_RX3_41 rfl rfl rfl rfl (fun σ9 => ?_)
  refine k_aload_n hk dX3_read_18 0 rfl ?_
  refine k_getr (k := 0) 10 0 hk dX3_read_19 rfl (by decide) kc3 (by decide) fl_RX3_12 rfl rfl ?_
  refine k_iconst (v := 0) hk dX3_read_22 (by decide) ?_
  refine k_putf (k := 8) hk dX3_read_23 rfl (by decide) kc4 (by decide) fl_RX3_44 rfl rfl rfl rfl (fun σ10 => ?_)
  refine k_aload_n hk dX3_read_26 0 rfl ?_
  refine k_aload_n hk dX3_read_27 1 rfl ?_
  refine k_iload_n hk dX3_read_28 2 rfl ?_
  refine k_aload_n hk dX3_read_29 1 rfl ?_
  refine k_alen (v := 300) hk dX3_read_30 rfl (by decide) (by decide) ?_
  refine k_sipush (v := 300) hk dX3_read_31 (by decide) ?_
  refine k_mmin hk hro dX3_read_34 cw_RX3_47 ⟨by decide, Nat.le_of_ble_eq_true rfl⟩ (by decide) (fun y11 => ?_)
  refine k_mmin hk hro dX3_read_37 cw_RX3_47 ⟨by decide, Nat.le_of_ble_eq_true rfl⟩ (by decide) (fun y12 => ?_)
  refine k_callVv (As := [.ref (kad E 1 0), .int y12]) (rest := []) hk he hro (c_X3_scan hj hn hl F y12  σ10) dX3_read_40 cw_RX3_53 rfl (by decide) kc3 rfl ⟨by decide, by decide⟩ (by decide) rfl (Nat.le_of_ble_eq_true rfl) (fun σ13 => ?_)
  refine k_aload_n hk dX3_read_43 0 rfl ?_
  refine k_iconst (v := 0) hk dX3_read_44 (by decide) ?_
  refine k_putf (k := 7) hk dX3_read_45 rfl (by decide) kc3 (by decide) fl_RX3_38 rfl rfl rfl rfl (fun σ14 => ?_)
  refine k_iconst (v := 1) hk dX3_read_48 (by decide) ?_
  refine k_istore_n (lv' := [(3, .int 1), (0, .ref (kad E 2 0)), (1, .ref (kad E 1 0)), (2, .int a2)]) hk dX3_read_49 (by decide) rfl ?_
  refine k_iconst (v := 0) hk dX3_read_50 (by decide) ?_
  refine k_istore (lv' := [(4, .int 0), (3, .int 1), (0, .ref (kad E 2 0)), (1, .ref (kad E 1 0)), (2, .int a2)]) hk dX3_read_51 (by decide) rfl ?_
  exact k_sub [2, 1, 0] rfl (s_X3_read_b53 hj hn hl hk he hro F F 1 0  σ14)
