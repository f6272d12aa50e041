def f_X1_joined_b84 (F : Nat) (t0 : Int32) (σ : kS) : Option kR := some (.inl (some (.int t0)), σ)
set_option maxRecDepth 20000 in
theorem s_X1_joined_b84 {l : Launch} {E : kE} (hj : kEj E) (hn : kNorm E) (hl : l.stackTraces = false) {C : kC} {Q : kR → State → Prop} (hk : kOk (C, E, Q) cX1_joined RX1 3) (he : kEnd (C, E, Q) (some .int) id 0) (hro : kRo C l (0) (0) 0) (F : Nat) : ∀ (t0 : Int32)  (σ : kS), Sm (C, E, Q) 3 0 84 [] [.int t0] σ (f_X1_joined_b84 F t0 σ) := by
  intro t0  σ
  unfold f_X1_joined_b84
  exact k_ireturn hk he dX1_joined_84 (by decide)
def f_X1_joined_b73 (F : Nat) (t0 : Int32) (σ : kS) : Option kR := some (.inl (some (.int t0)), σ)
set_option maxRecDepth 20000 in
theorem s_X1_joined_b73 {l : Launch} {E : kE} (hj : kEj E) (hn : kNorm E) (hl : l.stackTraces = false) {C : kC} {Q : kR → State → Prop} (hk : kOk (C, E, Q) cX1_joined RX1 3) (he : kEnd (C, E, Q) (some .int) id 0) (hro : kRo C l (0) (0) 0) (F : Nat) : ∀ (t0 : Int32)  (σ : kS), Sm (C, E, Q) 3 0 73 [] [.int t0] σ (f_X1_joined_b73 F t0 σ) := by
  intro t0  σ
  unfold f_X1_joined_b73
  exact k_ireturn hk he dX1_joined_73 (by decide)
def f_X1_joined_b62 (F : Nat) (t0 : Int32) (σ : kS) : Option kR := some (.inl (some (.int t0)), σ)
set_option maxRecDepth 20000 in
theorem s_X1_joined_b62 {l : Launch} {E : kE} (hj : kEj E) (hn : kNorm E) (hl : l.stackTraces = false) {C : kC} {Q : kR → State → Prop} (hk : kOk (C, E, Q) cX1_joined RX1 3) (he : kEnd (C, E, Q) (some .int) id 0) (hro : kRo C l (0) (0) 0) (F : Nat) : ∀ (t0 : Int32)  (σ : kS), Sm (C, E, Q) 3 0 62 [] [.int t0] σ (f_X1_joined_b62 F t0 σ) := by
  intro t0  σ
  unfold f_X1_joined_b62
  exact k_ireturn hk he dX1_joined_62 (by decide)
def f_X1_joined (F : Nat) (a0 : Int32) (a1 : Int32) (a2 : Int32) (σ : kS) : Option kR := if a0 = (-15) then (some (.inl (some (.int (a1 - a2))), σ)) else (if a0 = (-14) then (some (.inl (some (.int (a1 + a2))), σ)) else (if a0 = (-13) then (if a1 = a2 then (f_X1_joined_b84 F 1 σ) else (f_X1_joined_b84 F 0 σ)) else (if a0 = (-12) then (if a1 ≤ a2 then (f_X1_joined_b73 F 0 σ) else (f_X1_joined_b73 F 1 σ)) else (if a0 = (-11) then (if a2 ≤ a1 then (f_X1_joined_b62 F 0 σ) else (f_X1_joined_b62 F 1 σ)) else (if a0 = (-10) then (some (.inl (some (.int (a1 ||| a2))), σ)) else (if a0 = (-9) then (some (.inl (some (.int (a1 &&& a2))), σ)) else (some (.inl (some (.int (a1 * a2))), σ))))))))
set_option maxRecDepth 20000 in
theorem c_X1_joined {l : Launch} {E : kE} (hj : kEj E) (hn : kNorm E) (hl : l.stackTraces = false) (F : Nat) (a0 : Int32) (a1 : Int32) (a2 : Int32)  (σ : kS) : kMet l E yX1_joined cX1_joined 3 (some .int) (0) (0) 0 id [.int a0, .int a1, .int a2] σ (f_X1_joined F a0 a1 a2 σ) := by
  refine k_met hj hn hl (by decide) (Nat.le_of_ble_eq_true rfl) (fun C Q hk he hro => ?_)
  have hk : kOk (C, E, Q) cX1_joined RX1 3 := hk
  show Sm (C, E, Q) 3 0 0 [(0, .int a0), (1, .int a1), (2, .int a2)] [] σ _
  unfold f_X1_joined
  refine k_iload_n hk dX1_joined_0 0 rfl ?_
  refine k_ite (fun h1 => ?_) (fun h1 => ?_)
  · refine k_tin (v := (-15)) hk dX1_joined_1 h1 (by decide) (by decide) rfl 89 (by decide) ?_
    refine k_iload_n hk dX1_joined_89 1 rfl ?_
    refine k_iload_n hk dX1_joined_90 2 rfl ?_
    refine k_isub hk dX1_joined_91 ?_
    exact k_ireturn hk he dX1_joined_92 (by decide)
  · skip
    refine k_ite (fun h2 => ?_) (fun h2 => ?_)
    · refine k_tin (v := (-14)) hk dX1_joined_1 h2 (by decide) (by decide) rfl 85 (by decide) ?_
      refine k_iload_n hk dX1_joined_85 1 rfl ?_
      refine k_iload_n hk dX1_joined_86 2 rfl ?_
      refine k_iadd hk dX1_joined_87 ?_
      exact k_ireturn hk he dX1_joined_88 (by decide)
    · skip
      refine k_ite (fun h3 => ?_) (fun h3 => ?_)
      · refine k_tin (v := (-13)) hk dX1_joined_1 h3 (by decide) (by decide) rfl 74 (by decide) ?_
        refine k_iload_n hk dX1_joined_74 1 rfl ?_
        refine k_iload_n hk dX1_joined_75 2 rfl ?_
        refine k_icmp_ne hk dX1_joined_76 83 (by decide) (fun h4 => ?_) (fun h4 => ?_)
        · refine k_iconst (v := 0) hk dX1_joined_83 (by decide) ?_
          exact k_sub [] rfl (s_X1_joined_b84 hj hn hl hk he hro F  0  σ)
        · refine k_iconst (v := 1) hk dX1_joined_79 (by decide) ?_
          refine k_goto hk dX1_joined_80 84 (by decide) ?_
          exact k_sub [] rfl (s_X1_joined_b84 hj hn hl hk he hro F  1  σ)
      · skip
        refine k_ite (fun h5 => ?_) (fun h5 => ?_)
        · refine k_tin (v := (-12)) hk dX1_joined_1 h5 (by decide) (by decide) rfl 63 (by decide) ?_
          refine k_iload_n hk dX1_joined_63 1 rfl ?_
          refine k_iload_n hk dX1_joined_64 2 rfl ?_
          refine k_icmp_le hk dX1_joined_65 72 (by decide) (fun h6 => ?_) (fun h6 => ?_)
          · refine k_iconst (v := 0) hk dX1_joined_72 (by decide) ?_
            exact k_sub [] rfl (s_X1_joined_b73 hj hn hl hk he hro F  0  σ)
          · refine k_iconst (v := 1) hk dX1_joined_68 (by decide) ?_
            refine k_goto hk dX1_joined_69 73 (by decide) ?_
            exact k_sub [] rfl (s_X1_joined_b73 hj hn hl hk he hro F  1  σ)
        · skip
          refine k_ite (fun h7 => ?_) (fun h7 => ?_)
          · refine k_tin (v := (-11)) hk dX1_joined_1 h7 (by decide) (by decide) rfl 52 (by decide) ?_
            refine k_iload_n hk dX1_joined_52 1 rfl ?_
            refine k_iload_n hk dX1_joined_53 2 rfl ?_
            refine k_icmp_ge hk dX1_joined_54 61 (by decide) (fun h8 => ?_) (fun h8 => ?_)
            · refine k_iconst (v := 0) hk dX1_joined_61 (by decide) ?_
              exact k_sub [] rfl (s_X1_joined_b62 hj hn hl hk he hro F  0  σ)
            · refine k_iconst (v := 1) hk dX1_joined_57 (by decide) ?_
              refine k_goto hk dX1_joined_58 62 (by decide) ?_
              exact k_sub [] rfl (s_X1_joined_b62 hj hn hl hk he hro F  1  σ)
          · skip
            refine k_ite (fun h9 => ?_) (fun h9 => ?_)
            · refine k_tin (v := (-10)) hk dX1_joined_1 h9 (by decide) (by decide) rfl 48 (by decide) ?_
              refine k_iload_n hk dX1_joined_48 1 rfl ?_
              refine k_iload_n hk dX1_joined_49 2 rfl ?_
              refine k_ior hk dX1_joined_50 ?_
              exact k_ireturn hk he dX1_joined_51 (by decide)
            · skip
              refine k_ite (fun h10 => ?_) (fun h10 => ?_)
              · refine k_tin (v := (-9)) hk dX1_joined_1 h10 (by decide) (by decide) rfl 44 (by decide) ?_
                refine k_iload_n hk dX1_joined_44 1 rfl ?_
                refine k_iload_n hk dX1_joined_45 2 rfl ?_
                refine k_iand hk dX1_joined_46 ?_
                exact k_ireturn hk he dX1_joined_47 (by decide)
              · skip
                refine k_tout hk dX1_joined_1 (by have h1q := k_neI h1 (a := (-15)) (by decide); have h2q := k_neI h2 (a := (-14)) (by decide); have h3q := k_neI h3 (a := (-13)) (by decide); have h5q := k_neI h5 (a := (-12)) (by decide); have h7q := k_neI h7 (a := (-11)) (by decide); have h9q := k_neI h9 (a := (-10)) (by decide); have h10q := k_neI h10 (a := (-9)) (by decide); omega) 93 (by decide) ?_
                refine k_iload_n hk dX1_joined_93 1 rfl ?_
                refine k_iload_n hk dX1_joined_94 2 rfl ?_
                refine k_imul hk dX1_joined_95 ?_
                exact k_ireturn hk he dX1_joined_96 (by decide)
def f_X1_seen_b91 (F : Nat) (t0 : Int32) (σ : kS) : Option kR := some (.inl (some (.int t0)), σ)
set_option maxRecDepth 20000 in
theorem s_X1_seen_b91 {l : Launch} {E : kE} (hj : kEj E) (hn : kNorm E) (hl : l.stackTraces = false) {C : kC} {Q : kR → State → Prop} (hk : kOk (C, E, Q) cX1_seen RX1 4) (he : kEnd (C, E, Q) (some .int) id 0) (hro : kRo C l (0) (0) 0) (F : Nat) : ∀ (t0 : Int32)  (σ : kS), Sm (C, E, Q) 4 0 91 [] [.int t0] σ (f_X1_seen_b91 F t0 σ) := by
  intro t0  σ
  unfold f_X1_seen_b91
  exact k_ireturn hk he dX1_seen_91 (by decide)
def f_X1_seen (F : Nat) (a1 : Int32) (a2 : Int32) (a3 : Int32) (σ : kS) : Option kR := if a1 = (-6) then (kg (kin a2 8) (some (.inl (some (.int (σ.1 36 0 a2.toNatClampNeg))), σ))) else (if a1 = (-5) then (kg (kin a2 8) (some (.inl (some (.int (σ.1 37 0 a2.toNatClampNeg))), σ))) else (if a1 = (-4) then (some (.inl (some (.int (σ.1 6 0 9))), σ)) else (if a1 = (-3) then (some (.inl (some (.int (σ.1 6 0 6))), σ)) else (if a1 = (-2) then (some (.inl (some (.int ((σ.1 6 0 7) - (σ.1 6 0 8)))), σ)) else (if a1 = (-1) then (some (.inl (some (.int a3)), σ)) else (kg (kin a2 8) (if (σ.1 38 0 a2.toNatClampNeg) = (-1) then (f_X1_seen_b91 F 0 σ) else (f_X1_seen_b91 F 1 σ))))))))
set_option maxRecDepth 20000 in
theorem c_X1_seen {l : Launch} {E : kE} (hj : kEj E) (hn : kNorm E) (hl : l.stackTraces = false) (F : Nat) (a1 : Int32) (a2 : Int32) (a3 : Int32)  (σ : kS) : kMet l E yX1_seen cX1_seen 4 (some .int) (0) (0) 0 id [.ref (kad E 6 0), .int a1, .int a2, .int a3] σ (f_X1_seen F a1 a2 a3 σ) := by
  refine k_met hj hn hl (by decide) (Nat.le_of_ble_eq_true rfl) (fun C Q hk he hro => ?_)
  have hk : kOk (C, E, Q) cX1_seen RX1 4 := hk
  show Sm (C, E, Q) 4 0 0 [(0, .ref (kad E 6 0)), (1, .int a1), (2, .int a2), (3, .int a3)] [] σ _
  unfold f_X1_seen
  refine k_iload_n hk dX1_seen_0 1 rfl ?_
  refine k_ite (fun h1 => ?_) (fun h1 => ?_)
  · refine k_tin (v := (-6)) hk dX1_seen_1 h1 (by decide) (by decide) rfl 69 (by decide) ?_
    refine k_aload_n hk dX1_seen_69 0 rfl ?_
    refine k_getr (k := 1) 36 0 hk dX1_seen_70 rfl (by decide) kc1 (by decide) fl_RX1_15 rfl rfl ?_
    refine k_iload_n hk dX1_seen_73 2 rfl ?_
    refine k_iald hk dX1_seen_74 rfl (by decide) (fun h2 => ?_)
    exact k_ireturn hk he dX1_seen_75 (by decide)
  · skip
    refine k_ite (fun h3 => ?_) (fun h3 => ?_)
    · refine k_tin (v := (-5)) hk dX1_seen_1 h3 (by decide) (by decide) rfl 62 (by decide) ?_
      refine k_aload_n hk dX1_seen_62 0 rfl ?_
      refine k_getr (k := 2) 37 0 hk dX1_seen_63 rfl (by decide) kc1 (by decide) fl_RX1_18 rfl rfl ?_
      refine k_iload_n hk dX1_seen_66 2 rfl ?_
      refine k_iald hk dX1_seen_67 rfl (by decide) (fun h4 => ?_)
      exact k_ireturn hk he dX1_seen_68 (by decide)
    · skip
      refine k_ite (fun h5 => ?_) (fun h5 => ?_)
      · refine k_tin (v := (-4)) hk dX1_seen_1 h5 (by decide) (by decide) rfl 57 (by decide) ?_
        refine k_aload_n hk dX1_seen_57 0 rfl ?_
        refine k_getf (k := 9) hk dX1_seen_58 rfl (by decide) kc1 (by decide) fl_RX1_44 rfl ?_
        exact k_ireturn hk he dX1_seen_61 (by decide)
      · skip
        refine k_ite (fun h6 => ?_) (fun h6 => ?_)
        · refine k_tin (v := (-3)) hk dX1_seen_1 h6 (by decide) (by decide) rfl 52 (by decide) ?_
          refine k_aload_n hk dX1_seen_52 0 rfl ?_
          refine k_getf (k := 6) hk dX1_seen_53 rfl (by decide) kc1 (by decide) fl_RX1_34 rfl ?_
          exact k_ireturn hk he dX1_seen_56 (by decide)
        · skip
          refine k_ite (fun h7 => ?_) (fun h7 => ?_)
          · refine k_tin (v := (-2)) hk dX1_seen_1 h7 (by decide) (by decide) rfl 42 (by decide) ?_
            refine k_aload_n hk dX1_seen_42 0 rfl ?_
            refine k_getf (k := 7) hk dX1_seen_43 rfl (by decide) kc1 (by decide) fl_RX1_38 rfl ?_
            refine k_aload_n hk dX1_seen_46 0 rfl ?_
            refine k_getf (k := 8) hk dX1_seen_47 rfl (by decide) kc1 (by decide) fl_RX1_41 rfl ?_
            refine k_isub hk dX1_seen_50 ?_
            exact k_ireturn hk he dX1_seen_51 (by decide)
          · skip
            refine k_ite (fun h8 => ?_) (fun h8 => ?_)
            · refine k_tin (v := (-1)) hk dX1_seen_1 h8 (by decide) (by decide) rfl 40 (by decide) ?_
              refine k_iload_n hk dX1_seen_40 3 rfl ?_
              exact k_ireturn hk he dX1_seen_41 (by decide)
            · skip
              refine k_tout hk dX1_seen_1 (by have h1q := k_neI h1 (a := (-6)) (by decide); have h3q := k_neI h3 (a := (-5)) (by decide); have h5q := k_neI h5 (a := (-4)) (by decide); have h6q := k_neI h6 (a := (-3)) (by decide); have h7q := k_neI h7 (a := (-2)) (by decide); have h8q := k_neI h8 (a := (-1)) (by decide); omega) 76 (by decide) ?_
              refine k_aload_n hk dX1_seen_76 0 rfl ?_
              refine k_getr (k := 3) 38 0 hk dX1_seen_77 rfl (by decide) kc1 (by decide) fl_RX1_21 rfl rfl ?_
              refine k_iload_n hk dX1_seen_80 2 rfl ?_
              refine k_iald hk dX1_seen_81 rfl (by decide) (fun h9 => ?_)
              refine k_iconst (v := (-1)) hk dX1_seen_82 (by decide) ?_
              refine k_icmp_eq hk dX1_seen_83 90 (by decide) (fun h10 => ?_) (fun h10 => ?_)
              · refine k_iconst (v := 0) hk dX1_seen_90 (by decide) ?_
                exact k_sub [] rfl (s_X1_seen_b91 hj hn hl hk he hro F  0  σ)
              · refine k_iconst (v := 1) hk dX1_seen_86 (by decide) ?_
                refine k_goto hk dX1_seen_87 91 (by decide) ?_
                exact k_sub [] rfl (s_X1_seen_b91 hj hn hl hk he hro F  1  σ)
def f_X1_holds_b185 (F : Nat) (t0 : Int32) (σ : kS) : Option kR := kg (narrow .boolean (.int t0) = .int t0) (some (.inl (some (.int t0)), σ))
set_option maxRecDepth 20000 in
theorem s_X1_holds_b185 {l : Launch} {E : kE} (hj : kEj E) (hn : kNorm E) (hl : l.stackTraces = false) {C : kC} {Q : kR → State → Prop} (hk : kOk (C, E, Q) cX1_holds RX1 6) (he : kEnd (C, E, Q) (some .boolean) id 0) (hro : kRo C l (1) (23) 0) (F : Nat) : ∀ (t0 : Int32)  (σ : kS), Sm (C, E, Q) 6 0 185 [] [.int t0] σ (f_X1_holds_b185 F t0 σ) := by
  intro t0  σ
  unfold f_X1_holds_b185
  exact k_zreturn hk he dX1_holds_185 (by decide)
def f_X1_holds_b184 (F : Nat)  (σ : kS) : Option kR := f_X1_holds_b185 F 0 σ
set_option maxRecDepth 20000 in
theorem s_X1_holds_b184 {l : Launch} {E : kE} (hj : kEj E) (hn : kNorm E) (hl : l.stackTraces = false) {C : kC} {Q : kR → State → Prop} (hk : kOk (C, E, Q) cX1_holds RX1 6) (he : kEnd (C, E, Q) (some .boolean) id 0) (hro : kRo C l (1) (23) 0) (F : Nat) : ∀   (σ : kS), Sm (C, E, Q) 6 0 184 [] [] σ (f_X1_holds_b184 F  σ) := by
  intro   σ
  unfold f_X1_holds_b184
  refine k_iconst (v := 0) hk dX1_holds_184 (by decide) ?_
  exact k_sub [] rfl (s_X1_holds_b185 hj hn hl hk he hro F  0  σ)
def f_X1_holds_b158 (F : Nat) (rr13 : (Int32 × Int32 × Int32 × Int32) → kS → Option kR) (x1 : Int32) (x2 : Int32) (x3 : Int32) (x4 : Int32) (σ : kS) : Option kR := rr13 (x1, x2, x3, x4 + 1) σ
set_option maxRecDepth 20000 in
theorem s_X1_holds_b158 {l : Launch} {E : kE} (hj : kEj E) (hn : kNorm E) (hl : l.stackTraces = false) {C : kC} {Q : kR → State → Prop} (hk : kOk (C, E, Q) cX1_holds RX1 6) (he : kEnd (C, E, Q) (some .boolean) id 0) (hro : kRo C l (1) (23) 0) (F : Nat) (rr13 : (Int32 × Int32 × Int32 × Int32) → kS → Option kR) (hrr13 : ∀ (x1 : Int32) (x2 : Int32) (x3 : Int32) (x4 : Int32)  (σ : kS), Sm (C, E, Q) 6 0 13 [(0, .ref (kad E 6 0)), (1, .int x1), (2, .int x2), (3, .int x3), (4, .int x4)] [] σ (rr13 (x1, x2, x3, x4) σ)) : ∀ (x1 : Int32) (x2 : Int32) (x3 : Int32) (x4 : Int32)  (σ : kS), Sm (C, E, Q) 6 0 158 [(0, .ref (kad E 6 0)), (1, .int x1), (2, .int x2), (3, .int x3), (4, .int x4)] [] σ (f_X1_holds_b158 F rr13 x1 x2 x3 x4 σ) := by
  intro x1 x2 x3 x4  σ
  unfold f_X1_holds_b158
  refine k_iinc (lv' := [(4, .int (x4 + 1)), (0, .ref (kad E 6 0)), (1, .int x1), (2, .int x2), (3, .int x3)]) (j := 4) (y := x4 + 1) hk dX1_holds_158 rfl rfl (by decide) rfl ?_
  refine k_goto hk dX1_holds_161 13 (by decide) ?_
  exact k_sub [1, 2, 3, 4, 0] rfl (hrr13 x1 x2 x3 (x4 + 1)  σ)
def f_X1_holds_b83 (F : Nat) (rr13 : (Int32 × Int32 × Int32 × Int32) → kS → Option kR) (x1 : Int32) (x2 : Int32) (x3 : Int32) (x4 : Int32) (t1 : Int32) (t2 : Int32) (σ : kS) : Option kR := kg (kin t1 32) (kb (kU σ 39 0 t1.toNatClampNeg t2) fun σ1 => f_X1_holds_b158 F rr13 x1 x2 (x3 + 1) x4 σ1)
set_option maxRecDepth 20000 in
theorem s_X1_holds_b83 {l : Launch} {E : kE} (hj : kEj E) (hn : kNorm E) (hl : l.stackTraces = false) {C : kC} {Q : kR → State → Prop} (hk : kOk (C, E, Q) cX1_holds RX1 6) (he : kEnd (C, E, Q) (some .boolean) id 0) (hro : kRo C l (1) (23) 0) (F : Nat) (rr13 : (Int32 × Int32 × Int32 × Int32) → kS → Option kR) (hrr13 : ∀ (x1 : Int32) (x2 : Int32) (x3 : Int32) (x4 : Int32)  (σ : kS), Sm (C, E, Q) 6 0 13 [(0, .ref (kad E 6 0)), (1, .int x1), (2, .int x2), (3, .int x3), (4, .int x4)] [] σ (rr13 (x1, x2, x3, x4) σ)) : ∀ (x1 : Int32) (x2 : Int32) (x3 : Int32) (x4 : Int32) (t1 : Int32) (t2 : Int32)  (σ : kS), Sm (C, E, Q) 6 0 83 [(0, .ref (kad E 6 0)), (1, .int x1), (2, .int x2), (3, .int x3), (4, .int x4)] [.int t2, .int t1, .ref (kad E 39 0)] σ (f_X1_holds_b83 F rr13 x1 x2 x3 x4 t1 t2 σ) := by
  intro x1 x2 x3 x4 t1 t2  σ
  unfold f_X1_holds_b83
  refine k_iast hk dX1_holds_83 rfl (by decide) (fun h2 σ1 => ?_)
  refine k_iinc (lv' := [(3, .int (x3 + 1)), (0, .ref (kad E 6 0)), (1, .int x1), (2, .int x2), (4, .int x4)]) (j := 3) (y := x3 + 1) hk dX1_holds_84 rfl rfl (by decide) rfl ?_
  refine k_goto hk dX1_holds_87 158 (by decide) ?_
  exact k_sub [1, 2, 3, 0, 4] rfl (s_X1_holds_b158 hj hn hl hk he hro F rr13 hrr13  x1 x2 (x3 + 1) x4  σ1)
def f_X1_holds_b13 (F : Nat) (rr13 : (Int32 × Int32 × Int32 × Int32) → kS → Option kR) (a : (Int32 × Int32 × Int32 × Int32)) (σ : kS) : Option kR := match a with
  | (x1, x2, x3, x4) => kg ((σ.1 6 0 5).toNatClampNeg < kCnt 10) (kb (σ.1 6 0 5).toNatClampNeg fun j3 => kg (kin x1 14) (if (σ.1 16 j3 x1.toNatClampNeg) ≤ x4 then (if x3 ≤ 0 then (f_X1_holds_b184 F  σ) else (kg (kin (x3 - 1) 32) (if (σ.1 39 0 (x3 - 1).toNatClampNeg) = 1 then (f_X1_holds_b185 F 1 σ) else (f_X1_holds_b184 F  σ)))) else (kg ((σ.1 6 0 5).toNatClampNeg < kCnt 10) (kb (σ.1 6 0 5).toNatClampNeg fun j9 => kg (kin x4 300) (kb (σ.1 17 j9 x4.toNatClampNeg) fun y11 => if y11 < (-7) then (if y11 = (-8) then (if x3 < 1 then (f_X1_holds_b158 F rr13 x1 x2 x3 x4 σ) else (kg (kin (x3 - 1) 32) (kg (kin (x3 - 1) 32) (kb (kU σ 39 0 (x3 - 1).toNatClampNeg (1 - (σ.1 39 0 (x3 - 1).toNatClampNeg))) fun σ23 => f_X1_holds_b158 F rr13 x1 x2 x3 x4 σ23)))) else (if x3 < 2 then (f_X1_holds_b158 F rr13 x1 x2 x3 x4 σ) else (kg (kin ((x3 + (-1)) - 1) 32) (kg (kin (x3 + (-1)) 32) (kBi (f_X1_joined F y11 (σ.1 39 0 ((x3 + (-1)) - 1).toNatClampNeg) (σ.1 39 0 (x3 + (-1)).toNatClampNeg) σ) fun c18 σ17 => kg (kin ((x3 + (-1)) - 1) 32) (kb (kU σ17 39 0 ((x3 + (-1)) - 1).toNatClampNeg c18) fun σ19 => f_X1_holds_b158 F rr13 x1 x2 (x3 + (-1)) x4 σ19)))))) else (if 32 ≤ x3 then (f_X1_holds_b158 F rr13 x1 x2 x3 x4 σ) else (if y11 < 0 then (kg ((σ.1 6 0 5).toNatClampNeg < kCnt 10) (kb (σ.1 6 0 5).toNatClampNeg fun j27 => kg (kin x1 14) (kBi (f_X1_seen F y11 (σ.1 12 j27 x1.toNatClampNeg) x2 σ) fun c30 σ29 => f_X1_holds_b83 F rr13 x1 x2 x3 x4 x3 c30 σ29))) else (f_X1_holds_b83 F rr13 x1 x2 x3 x4 x3 y11 σ))))))))
set_option maxRecDepth 20000 in
theorem s_X1_holds_b13 {l : Launch} {E : kE} (hj : kEj E) (hn : kNorm E) (hl : l.stackTraces = false) {C : kC} {Q : kR → State → Prop} (hk : kOk (C, E, Q) cX1_holds RX1 6) (he : kEnd (C, E, Q) (some .boolean) id 0) (hro : kRo C l (1) (23) 0) (F : Nat) : ∀ (N9 : Nat) (x1 : Int32) (x2 : Int32) (x3 : Int32) (x4 : Int32)  (σ : kS), Sm (C, E, Q) 6 0 13 [(0, .ref (kad E 6 0)), (1, .int x1), (2, .int x2), (3, .int x3), (4, .int x4)] [] σ (kFix (f_X1_holds_b13 F) N9 (x1, x2, x3, x4) σ) := by
  intro N9
  induction N9 with
  | zero => intro x1 x2 x3 x4  σ; exact k_no
  | succ N9 ih =>
    intro x1 x2 x3 x4  σ
    show Sm _ _ _ _ _ _ _ (f_X1_holds_b13 F (kFix (f_X1_holds_b13 F) N9) (x1, x2, x3, x4) σ)
    generalize kFix (f_X1_holds_b13 F) N9 = rr13 at ih
    have hrr13 := ih
    unfold f_X1_holds_b13
    dsimp only
    refine k_iload hk dX1_holds_13 4 rfl ?_
    refine k_aload_n hk dX1_holds_15 0 rfl ?_
    refine k_gets (k := 5) hk dX1_holds_16 rfl (by decide) kc1 (by decide) fl_RX1_30 rfl (fun j3 hj3 => ?_)
    refine k_getr (k := 6) 16 j3 hk dX1_holds_19 rfl hj3 kc4 (by decide) fl_RX1_129 rfl rfl ?_
    refine k_iload_n hk dX1_holds_22 1 rfl ?_
    refine k_iald hk dX1_holds_23 rfl hj3 (fun h4 => ?_)
    refine k_icmp_ge hk dX1_holds_24 164 (by decide) (fun h5 => ?_) (fun h5 => ?_)
    · refine k_iload_n hk dX1_holds_164 3 rfl ?_
      refine k_if_le hk dX1_holds_165 184 (by decide) (fun h6 => ?_) (fun h6 => ?_)
      · exact k_sub [] rfl (s_X1_holds_b184 hj hn hl hk he hro F    σ)
      · refine k_aload_n hk dX1_holds_168 0 rfl ?_
        refine k_getr (k := 4) 39 0 hk dX1_holds_169 rfl (by decide) kc1 (by decide) fl_RX1_24 rfl rfl ?_
        refine k_iload_n hk dX1_holds_172 3 rfl ?_
        refine k_iconst (v := 1) hk dX1_holds_173 (by decide) ?_
        refine k_isub hk dX1_holds_174 ?_
        refine k_iald hk dX1_holds_175 rfl (by decide) (fun h7 => ?_)
        refine k_iconst (v := 1) hk dX1_holds_176 (by decide) ?_
        refine k_icmp_ne hk dX1_holds_177 184 (by decide) (fun h8 => ?_) (fun h8 => ?_)
        · exact k_sub [] rfl (s_X1_holds_b184 hj hn hl hk he hro F    σ)
        · refine k_iconst (v := 1) hk dX1_holds_180 (by decide) ?_
          refine k_goto hk dX1_holds_181 185 (by decide) ?_
          exact k_sub [] rfl (s_X1_holds_b185 hj hn hl hk he hro F  1  σ)
    · refine k_aload_n hk dX1_holds_27 0 rfl ?_
      refine k_gets (k := 5) hk dX1_holds_28 rfl (by decide) kc1 (by decide) fl_RX1_30 rfl (fun j9 hj9 => ?_)
      refine k_getr (k := 7) 17 j9 hk dX1_holds_31 rfl hj9 kc4 (by decide) fl_RX1_132 rfl rfl ?_
      refine k_iload hk dX1_holds_34 4 rfl ?_
      refine k_iald hk dX1_holds_36 rfl hj9 (fun h10 => ?_)
      refine k_nm (fun y11 => ?_)
      refine k_istore (lv' := [(5, .int y11), (0, .ref (kad E 6 0)), (1, .int x1), (2, .int x2), (3, .int x3), (4, .int x4)]) hk dX1_holds_37 (by decide) rfl ?_
      refine k_iload hk dX1_holds_39 0 rfl ?_
      refine k_bipush (v := (-7)) hk dX1_holds_41 (by decide) ?_
      refine k_icmp_lt hk dX1_holds_43 90 (by decide) (fun h12 => ?_) (fun h12 => ?_)
      · refine k_iload hk dX1_holds_90 0 rfl ?_
        refine k_bipush (v := (-8)) hk dX1_holds_92 (by decide) ?_
        refine k_icmp_ne hk dX1_holds_94 123 (by decide) (fun h13 => ?_) (fun h13 => ?_)
        · refine k_iload_n hk dX1_holds_123 4 rfl ?_
          refine k_iconst (v := 2) hk dX1_holds_124 (by decide) ?_
          refine k_icmp_lt hk dX1_holds_125 158 (by decide) (fun h14 => ?_) (fun h14 => ?_)
          · exact k_sub [1, 2, 3, 4, 5] rfl (s_X1_holds_b158 hj hn hl hk he hro F rr13 hrr13  x1 x2 x3 x4  σ)
          · refine k_iinc (lv' := [(3, .int (x3 + (-1))), (5, .int y11), (0, .ref (kad E 6 0)), (1, .int x1), (2, .int x2), (4, .int x4)]) (j := 4) (y := x3 + (-1)) hk dX1_holds_128 rfl rfl (by decide) rfl ?_
            refine k_aload_n hk dX1_holds_131 2 rfl ?_
            refine k_getr (k := 4) 39 0 hk dX1_holds_132 rfl (by decide) kc1 (by decide) fl_RX1_24 rfl rfl ?_
            refine k_iload_n hk dX1_holds_135 0 rfl ?_
            refine k_iconst (v := 1) hk dX1_holds_136 (by decide) ?_
            refine k_isub hk dX1_holds_137 ?_
            refine k_iload hk dX1_holds_138 1 rfl ?_
            refine k_aload_n hk dX1_holds_140 2 rfl ?_
            refine k_getr (k := 4) 39 0 hk dX1_holds_141 rfl (by decide) kc1 (by decide) fl_RX1_24 rfl rfl ?_
            refine k_iload_n hk dX1_holds_144 0 rfl ?_
            refine k_iconst (v := 1) hk dX1_holds_145 (by decide) ?_
            refine k_isub hk dX1_holds_146 ?_
            refine k_iald hk dX1_holds_147 rfl (by decide) (fun h15 => ?_)
            refine k_aload_n hk dX1_holds_148 2 rfl ?_
            refine k_getr (k := 4) 39 0 hk dX1_holds_149 rfl (by decide) kc1 (by decide) fl_RX1_24 rfl rfl ?_
            refine k_iload_n hk dX1_holds_152 0 rfl ?_
            refine k_iald hk dX1_holds_153 rfl (by decide) (fun h16 => ?_)
            refine k_callSi (As := [.int y11, .int (σ.1 39 0 ((x3 + (-1)) - 1).toNatClampNeg), .int (σ.1 39 0 (x3 + (-1)).toNatClampNeg)]) (rest := [.int ((x3 + (-1)) - 1), .ref (kad E 39 0)]) hk he hro (c_X1_joined hj hn hl F y11 (σ.1 39 0 ((x3 + (-1)) - 1).toNatClampNeg) (σ.1 39 0 (x3 + (-1)).toNatClampNeg)  σ) dX1_holds_154 cw_RX1_139 ⟨by decide, by decide⟩ (by decide) rfl (Nat.le_of_ble_eq_true rfl) (fun c18 σ17 => ?_)
            refine k_iast hk dX1_holds_157 rfl (by decide) (fun h20 σ19 => ?_)
            exact k_sub [2, 3, 4, 0, 5] rfl (s_X1_holds_b158 hj hn hl hk he hro F rr13 hrr13  x1 x2 (x3 + (-1)) x4  σ19)
        · refine k_iload_n hk dX1_holds_97 4 rfl ?_
          refine k_iconst (v := 1) hk dX1_holds_98 (by decide) ?_
          refine k_icmp_lt hk dX1_holds_99 158 (by decide) (fun h21 => ?_) (fun h21 => ?_)
          · exact k_sub [1, 2, 3, 4, 5] rfl (s_X1_holds_b158 hj hn hl hk he hro F rr13 hrr13  x1 x2 x3 x4  σ)
          · refine k_aload_n hk dX1_holds_102 1 rfl ?_
            refine k_getr (k := 4) 39 0 hk dX1_holds_103 rfl (by decide) kc1 (by decide) fl_RX1_24 rfl rfl ?_
            refine k_iload_n hk dX1_holds_106 4 rfl ?_
            refine k_iconst (v := 1) hk dX1_holds_107 (by decide) ?_
            refine k_isub hk dX1_holds_108 ?_
            refine k_iconst (v := 1) hk dX1_holds_109 (by decide) ?_
            refine k_aload_n hk dX1_holds_110 1 rfl ?_
            refine k_getr (k := 4) 39 0 hk dX1_holds_111 rfl (by decide) kc1 (by decide) fl_RX1_24 rfl rfl ?_
            refine k_iload_n hk dX1_holds_114 4 rfl ?_
            refine k_iconst (v := 1) hk dX1_holds_115 (by decide) ?_
            refine k_isub hk dX1_holds_116 ?_
            refine k_iald hk dX1_holds_117 rfl (by decide) (fun h22 => ?_)
            refine k_isub hk dX1_holds_118 ?_
            refine k_iast hk dX1_holds_119 rfl (by decide) (fun h24 σ23 => ?_)
            refine k_goto hk dX1_holds_120 158 (by decide) ?_
            exact k_sub [1, 2, 3, 4, 5] rfl (s_X1_holds_b158 hj hn hl hk he hro F rr13 hrr13  x1 x2 x3 x4  σ23)
      · refine k_iload_n hk dX1_holds_46 4 rfl ?_
        refine k_bipush (v := 32) hk dX1_holds_47 (by decide) ?_
        refine k_icmp_ge hk dX1_holds_49 158 (by decide) (fun h25 => ?_) (fun h25 => ?_)
        · exact k_sub [1, 2, 3, 4, 5] rfl (s_X1_holds_b158 hj hn hl hk he hro F rr13 hrr13  x1 x2 x3 x4  σ)
        · refine k_aload_n hk dX1_holds_52 1 rfl ?_
          refine k_getr (k := 4) 39 0 hk dX1_holds_53 rfl (by decide) kc1 (by decide) fl_RX1_24 rfl rfl ?_
          refine k_iload_n hk dX1_holds_56 4 rfl ?_
          refine k_iload hk dX1_holds_57 0 rfl ?_
          refine k_if_lt hk dX1_holds_59 67 (by decide) (fun h26 => ?_) (fun h26 => ?_)
          · refine k_aload_n hk dX1_holds_67 1 rfl ?_
            refine k_iload hk dX1_holds_68 0 rfl ?_
            refine k_aload_n hk dX1_holds_70 1 rfl ?_
            refine k_gets (k := 5) hk dX1_holds_71 rfl (by decide) kc1 (by decide) fl_RX1_30 rfl (fun j27 hj27 => ?_)
            refine k_getr (k := 2) 12 j27 hk dX1_holds_74 rfl hj27 kc4 (by decide) fl_RX1_72 rfl rfl ?_
            refine k_iload_n hk dX1_holds_77 2 rfl ?_
            refine k_iald hk dX1_holds_78 rfl hj27 (fun h28 => ?_)
            refine k_iload_n hk dX1_holds_79 3 rfl ?_
            refine k_callVi (As := [.int y11, .int (σ.1 12 j27 x1.toNatClampNeg), .int x2]) (rest := [.int x3, .ref (kad E 39 0)]) hk he hro (c_X1_seen hj hn hl F y11 (σ.1 12 j27 x1.toNatClampNeg) x2  σ) dX1_holds_80 cw_RX1_135 rfl (by decide) kc1 rfl ⟨by decide, by decide⟩ (by decide) rfl (Nat.le_of_ble_eq_true rfl) (fun c30 σ29 => ?_)
            exact k_sub [1, 2, 3, 4, 5] rfl (s_X1_holds_b83 hj hn hl hk he hro F rr13 hrr13  x1 x2 x3 x4 x3 c30  σ29)
          · refine k_iload hk dX1_holds_62 0 rfl ?_
            refine k_goto hk dX1_holds_64 83 (by decide) ?_
            exact k_sub [1, 2, 3, 4, 5] rfl (s_X1_holds_b83 hj hn hl hk he hro F rr13 hrr13  x1 x2 x3 x4 x3 y11  σ)
def f_X1_holds (F : Nat) (a1 : Int32) (a2 : Int32) (σ : kS) : Option kR := kg ((σ.1 6 0 5).toNatClampNeg < kCnt 10) (kb (σ.1 6 0 5).toNatClampNeg fun j31 => kg (kin a1 14) (kb (σ.1 15 j31 a1.toNatClampNeg) fun y33 => kFix (f_X1_holds_b13 F) F (a1, a2, 0, y33) σ))
set_option maxRecDepth 20000 in
theorem c_X1_holds {l : Launch} {E : kE} (hj : kEj E) (hn : kNorm E) (hl : l.stackTraces = false) (F : Nat) (a1 : Int32) (a2 : Int32)  (σ : kS) : kMet l E yX1_holds cX1_holds 6 (some .boolean) (1) (23) 0 id [.ref (kad E 6 0), .int a1, .int a2] σ (f_X1_holds F a1 a2 σ) := by
  refine k_met hj hn hl (by decide) (Nat.le_of_ble_eq_true rfl) (fun C Q hk he hro => ?_)
  have hk : kOk (C, E, Q) cX1_holds RX1 6 := hk
  show Sm (C, E, Q) 6 0 0 [(0, .ref (kad E 6 0)), (1, .int a1), (2, .int a2)] [] σ _
  unfold f_X1_holds
  refine k_iconst (v := 0) hk dX1_holds_0 (by decide) ?_
  refine k_istore_n (lv' := [(3, .int 0), (0, .ref (kad E 6 0)), (1, .int a1), (2, .int a2)]) hk dX1_holds_1 (by decide) rfl ?_
  refine k_aload_n hk dX1_holds_2 1 rfl ?_
  refine k_gets (k := 5) hk dX1_holds_3 rfl (by decide) kc1 (by decide) fl_RX1_30 rfl (fun j31 hj31 => ?_)
  refine k_getr (k := 5) 15 j31 hk dX1_holds_6 rfl hj31 kc4 (by decide) fl_RX1_126 rfl rfl ?_
  refine k_iload_n hk dX1_holds_9 2 rfl ?_
  refine k_iald hk dX1_holds_10 rfl hj31 (fun h32 => ?_)
  refine k_nm (fun y33 => ?_)
  refine k_istore (lv' := [(4, .int y33), (3, .int 0), (0, .ref (kad E 6 0)), (1, .int a1), (2, .int a2)]) hk dX1_holds_11 (by decide) rfl ?_
  exact k_sub [2, 3, 4, 1, 0] rfl (s_X1_holds_b13 hj hn hl hk he hro F F a1 a2 0 y33  σ)
def f_X1_spreads_b42 (F : Nat) (t0 : Int32) (σ : kS) : Option kR := kg (narrow .boolean (.int t0) = .int t0) (some (.inl (some (.int t0)), σ))
set_option maxRecDepth 20000 in
theorem s_X1_spreads_b42 {l : Launch} {E : kE} (hj : kEj E) (hn : kNorm E) (hl : l.stackTraces = false) {C : kC} {Q : kR → State → Prop} (hk : kOk (C, E, Q) cX1_spreads RX1 3) (he : kEnd (C, E, Q) (some .boolean) id 0) (hro : kRo C l (0) (0) 0) (F : Nat) : ∀ (t0 : Int32)  (σ : kS), Sm (C, E, Q) 3 0 42 [] [.int t0] σ (f_X1_spreads_b42 F t0 σ) := by
  intro t0  σ
  unfold f_X1_spreads_b42
  exact k_zreturn hk he dX1_spreads_42 (by decide)
def f_X1_spreads_b41 (F : Nat)  (σ : kS) : Option kR := f_X1_spreads_b42 F 0 σ
set_option maxRecDepth 20000 in
theorem s_X1_spreads_b41 {l : Launch} {E : kE} (hj : kEj E) (hn : kNorm E) (hl : l.stackTraces = false) {C : kC} {Q : kR → State → Prop} (hk : kOk (C, E, Q) cX1_spreads RX1 3) (he : kEnd (C, E, Q) (some .boolean) id 0) (hro : kRo C l (0) (0) 0) (F : Nat) : ∀   (σ : kS), Sm (C, E, Q) 3 0 41 [] [] σ (f_X1_spreads_b41 F  σ) := by
  intro   σ
  unfold f_X1_spreads_b41
  refine k_iconst (v := 0) hk dX1_spreads_41 (by decide) ?_
  exact k_sub [] rfl (s_X1_spreads_b42 hj hn hl hk he hro F  0  σ)
def f_X1_spreads (F : Nat) (a1 : Int32) (a2 : Int32) (σ : kS) : Option kR := if a1 < 0 then (f_X1_spreads_b41 F  σ) else (if 8 ≤ a1 then (f_X1_spreads_b41 F  σ) else (kg (kin a1 8) (if (σ.1 38 0 a1.toNatClampNeg) = (-1) then (f_X1_spreads_b41 F  σ) else (kg (kin a1 8) (if (a2 - (σ.1 38 0 a1.toNatClampNeg)) < (σ.1 35 0 5) then (f_X1_spreads_b41 F  σ) else (f_X1_spreads_b42 F 1 σ))))))
set_option maxRecDepth 20000 in
theorem c_X1_spreads {l : Launch} {E : kE} (hj : kEj E) (hn : kNorm E) (hl : l.stackTraces = false) (F : Nat) (a1 : Int32) (a2 : Int32)  (σ : kS) : kMet l E yX1_spreads cX1_spreads 3 (some .boolean) (0) (0) 0 id [.ref (kad E 6 0), .int a1, .int a2] σ (f_X1_spreads F a1 a2 σ) := by
  refine k_met hj hn hl (by decide) (Nat.le_of_ble_eq_true rfl) (fun C Q hk he hro => ?_)
  have hk : kOk (C, E, Q) cX1_spreads RX1 3 := hk
  show Sm (C, E, Q) 3 0 0 [(0, .ref (kad E 6 0)), (1, .int a1), (2, .int a2)] [] σ _
  unfold f_X1_spreads
  refine k_iload_n hk dX1_spreads_0 1 rfl ?_
  refine k_if_lt hk dX1_spreads_1 41 (by decide) (fun h1 => ?_) (fun h1 => ?_)
  · exact k_sub [] rfl (s_X1_spreads_b41 hj hn hl hk he hro F    σ)
  · refine k_iload_n hk dX1_spreads_4 1 rfl ?_
    refine k_bipush (v := 8) hk dX1_spreads_5 (by decide) ?_
    refine k_icmp_ge hk dX1_spreads_7 41 (by decide) (fun h2 => ?_) (fun h2 => ?_)
    · exact k_sub [] rfl (s_X1_spreads_b41 hj hn hl hk he hro F    σ)
    · refine k_aload_n hk dX1_spreads_10 0 rfl ?_
      refine k_getr (k := 3) 38 0 hk dX1_spreads_11 rfl (by decide) kc1 (by decide) fl_RX1_21 rfl rfl ?_
      refine k_iload_n hk dX1_spreads_14 1 rfl ?_
      refine k_iald hk dX1_spreads_15 rfl (by decide) (fun h3 => ?_)
      refine k_iconst (v := (-1)) hk dX1_spreads_16 (by decide) ?_
      refine k_icmp_eq hk dX1_spreads_17 41 (by decide) (fun h4 => ?_) (fun h4 => ?_)
      · exact k_sub [] rfl (s_X1_spreads_b41 hj hn hl hk he hro F    σ)
      · refine k_iload_n hk dX1_spreads_20 2 rfl ?_
        refine k_aload_n hk dX1_spreads_21 0 rfl ?_
        refine k_getr (k := 3) 38 0 hk dX1_spreads_22 rfl (by decide) kc1 (by decide) fl_RX1_21 rfl rfl ?_
        refine k_iload_n hk dX1_spreads_25 1 rfl ?_
        refine k_iald hk dX1_spreads_26 rfl (by decide) (fun h5 => ?_)
        refine k_isub hk dX1_spreads_27 ?_
        refine k_aload_n hk dX1_spreads_28 0 rfl ?_
        refine k_getr (k := 0) 35 0 hk dX1_spreads_29 rfl (by decide) kc1 (by decide) fl_RX1_9 rfl rfl ?_
        refine k_iconst (v := 5) hk dX1_spreads_32 (by decide) ?_
        refine k_iald_k (kk := 5) hk dX1_spreads_33 rfl (by decide) (by decide) (by decide) ?_
        refine k_icmp_lt hk dX1_spreads_34 41 (by decide) (fun h6 => ?_) (fun h6 => ?_)
        · exact k_sub [] rfl (s_X1_spreads_b41 hj hn hl hk he hro F    σ)
        · refine k_iconst (v := 1) hk dX1_spreads_37 (by decide) ?_
          refine k_goto hk dX1_spreads_38 42 (by decide) ?_
          exact k_sub [] rfl (s_X1_spreads_b42 hj hn hl hk he hro F  1  σ)
def f_X1_spread_b47 (F : Nat) (rr2 : (Int32 × Int32) → kS → Option kR) (x1 : Int32) (x2 : Int32) (σ : kS) : Option kR := rr2 (x1, x2 + 1) σ
set_option maxRecDepth 20000 in
theorem s_X1_spread_b47 {l : Launch} {E : kE} (hj : kEj E) (hn : kNorm E) (hl : l.stackTraces = false) {C : kC} {Q : kR → State → Prop} (hk : kOk (C, E, Q) cX1_spread RX1 3) (he : kEnd (C, E, Q) none id 0) (hro : kRo C l (1) (22) 0) (F : Nat) (rr2 : (Int32 × Int32) → kS → Option kR) (hrr2 : ∀ (x1 : Int32) (x2 : Int32)  (σ : kS), Sm (C, E, Q) 3 0 2 [(0, .ref (kad E 6 0)), (1, .int x1), (2, .int x2)] [] σ (rr2 (x1, x2) σ)) : ∀ (x1 : Int32) (x2 : Int32)  (σ : kS), Sm (C, E, Q) 3 0 47 [(0, .ref (kad E 6 0)), (1, .int x1), (2, .int x2)] [] σ (f_X1_spread_b47 F rr2 x1 x2 σ) := by
  intro x1 x2  σ
  unfold f_X1_spread_b47
  refine k_iinc (lv' := [(2, .int (x2 + 1)), (0, .ref (kad E 6 0)), (1, .int x1)]) (j := 2) (y := x2 + 1) hk dX1_spread_47 rfl rfl (by decide) rfl ?_
  refine k_goto hk dX1_spread_50 2 (by decide) ?_
  exact k_sub [1, 2, 0] rfl (hrr2 x1 (x2 + 1)  σ)
def f_X1_spread_b40 (F : Nat) (rr2 : (Int32 × Int32) → kS → Option kR) (x1 : Int32) (x2 : Int32) (σ : kS) : Option kR := kg (kin x2 8) (kb (kU σ 38 0 x2.toNatClampNeg x1) fun σ1 => f_X1_spread_b47 F rr2 x1 x2 σ1)
set_option maxRecDepth 20000 in
theorem s_X1_spread_b40 {l : Launch} {E : kE} (hj : kEj E) (hn : kNorm E) (hl : l.stackTraces = false) {C : kC} {Q : kR → State → Prop} (hk : kOk (C, E, Q) cX1_spread RX1 3) (he : kEnd (C, E, Q) none id 0) (hro : kRo C l (1) (22) 0) (F : Nat) (rr2 : (Int32 × Int32) → kS → Option kR) (hrr2 : ∀ (x1 : Int32) (x2 : Int32)  (σ : kS), Sm (C, E, Q) 3 0 2 [(0, .ref (kad E 6 0)), (1, .int x1), (2, .int x2)] [] σ (rr2 (x1, x2) σ)) : ∀ (x1 : Int32) (x2 : Int32)  (σ : kS), Sm (C, E, Q) 3 0 40 [(0, .ref (kad E 6 0)), (1, .int x1), (2, .int x2)] [] σ (f_X1_spread_b40 F rr2 x1 x2 σ) := by
  intro x1 x2  σ
  unfold f_X1_spread_b40
  refine k_aload_n hk dX1_spread_40 0 rfl ?_
  refine k_getr (k := 3) 38 0 hk dX1_spread_41 rfl (by decide) kc1 (by decide) fl_RX1_21 rfl rfl ?_
  refine k_iload_n hk dX1_spread_44 2 rfl ?_
  refine k_iload_n hk dX1_spread_45 1 rfl ?_
  refine k_iast hk dX1_spread_46 rfl (by decide) (fun h2 σ1 => ?_)
  exact k_sub [0, 1, 2] rfl (s_X1_spread_b47 hj hn hl hk he hro F rr2 hrr2  x1 x2  σ1)
def f_X1_spread_b2 (F : Nat) (rr2 : (Int32 × Int32) → kS → Option kR) (a : (Int32 × Int32)) (σ : kS) : Option kR := match a with
  | (x1, x2) => if 8 ≤ x2 then (some (.inl none, σ)) else (kg (kin x2 8) (if (σ.1 38 0 x2.toNatClampNeg) = (-1) then (kBi (f_X1_spreads F (x2 - 1) x1 σ) fun c7 σ6 => if c7 = 0 then (kBi (f_X1_spreads F (x2 + 1) x1 σ6) fun c10 σ9 => if c10 = 0 then (f_X1_spread_b47 F rr2 x1 x2 σ9) else (f_X1_spread_b40 F rr2 x1 x2 σ9)) else (f_X1_spread_b40 F rr2 x1 x2 σ6)) else (f_X1_spread_b47 F rr2 x1 x2 σ)))
set_option maxRecDepth 20000 in
theorem s_X1_spread_b2 {l : Launch} {E : kE} (hj : kEj E) (hn : kNorm E) (hl : l.stackTraces = false) {C : kC} {Q : kR → State → Prop} (hk : kOk (C, E, Q) cX1_spread RX1 3) (he : kEnd (C, E, Q) none id 0) (hro : kRo C l (1) (22) 0) (F : Nat) : ∀ (N9 : Nat) (x1 : Int32) (x2 : Int32)  (σ : kS), Sm (C, E, Q) 3 0 2 [(0, .ref (kad E 6 0)), (1, .int x1), (2, .int x2)] [] σ (kFix (f_X1_spread_b2 F) N9 (x1, x2) σ) := by
  intro N9
  induction N9 with
  | zero => intro x1 x2  σ; exact k_no
  | succ N9 ih =>
    intro x1 x2  σ
    show Sm _ _ _ _ _ _ _ (f_X1_spread_b2 F (kFix (f_X1_spread_b2 F) N9) (x1, x2) σ)
    generalize kFix (f_X1_spread_b2 F) N9 = rr2 at ih
    have hrr2 := ih
    unfold f_X1_spread_b2
    dsimp only
    refine k_iload_n hk dX1_spread_2 2 rfl ?_
    refine k_bipush (v := 8) hk dX1_spread_3 (by decide) ?_
    refine k_icmp_ge hk dX1_spread_5 53 (by decide) (fun h3 => ?_) (fun h3 => ?_)
    · exact k_return hk he dX1_spread_53 (by decide)
    · refine k_aload_n hk dX1_spread_8 0 rfl ?_
      refine k_getr (k := 3) 38 0 hk dX1_spread_9 rfl (by decide) kc1 (by decide) fl_RX1_21 rfl rfl ?_
      refine k_iload_n hk dX1_spread_12 2 rfl ?_
      refine k_iald hk dX1_spread_13 rfl (by decide) (fun h4 => ?_)
      refine k_iconst (v := (-1)) hk dX1_spread_14 (by decide) ?_
      refine k_icmp_ne hk dX1_spread_15 47 (by decide) (fun h5 => ?_) (fun h5 => ?_)
      · exact k_sub [0, 1, 2] rfl (s_X1_spread_b47 hj hn hl hk he hro F rr2 hrr2  x1 x2  σ)
      · refine k_aload_n hk dX1_spread_18 0 rfl ?_
        refine k_iload_n hk dX1_spread_19 2 rfl ?_
        refine k_iconst (v := 1) hk dX1_spread_20 (by decide) ?_
        refine k_isub hk dX1_spread_21 ?_
        refine k_iload_n hk dX1_spread_22 1 rfl ?_
        refine k_callVi (As := [.int (x2 - 1), .int x1]) (rest := []) hk he hro (c_X1_spreads hj hn hl F (x2 - 1) x1  σ) dX1_spread_23 cw_RX1_123 rfl (by decide) kc1 rfl ⟨by decide, by decide⟩ (by decide) rfl (Nat.le_of_ble_eq_true rfl) (fun c7 σ6 => ?_)
        refine k_if_ne hk dX1_spread_26 40 (by decide) (fun h8 => ?_) (fun h8 => ?_)
        · exact k_sub [0, 1, 2] rfl (s_X1_spread_b40 hj hn hl hk he hro F rr2 hrr2  x1 x2  σ6)
        · refine k_aload_n hk dX1_spread_29 0 rfl ?_
          refine k_iload_n hk dX1_spread_30 2 rfl ?_
          refine k_iconst (v := 1) hk dX1_spread_31 (by decide) ?_
          refine k_iadd hk dX1_spread_32 ?_
          refine k_iload_n hk dX1_spread_33 1 rfl ?_
          refine k_callVi (As := [.int (x2 + 1), .int x1]) (rest := []) hk he hro (c_X1_spreads hj hn hl F (x2 + 1) x1  σ6) dX1_spread_34 cw_RX1_123 rfl (by decide) kc1 rfl ⟨by decide, by decide⟩ (by decide) rfl (Nat.le_of_ble_eq_true rfl) (fun c10 σ9 => ?_)
          refine k_if_eq hk dX1_spread_37 47 (by decide) (fun h11 => ?_) (fun h11 => ?_)
          · exact k_sub [0, 1, 2] rfl (s_X1_spread_b47 hj hn hl hk he hro F rr2 hrr2  x1 x2  σ9)
          · exact k_sub [0, 1, 2] rfl (s_X1_spread_b40 hj hn hl hk he hro F rr2 hrr2  x1 x2  σ9)
def f_X1_spread (F : Nat) (a1 : Int32) (σ : kS) : Option kR := kFix (f_X1_spread_b2 F) F (a1, 0) σ
set_option maxRecDepth 20000 in
theorem c_X1_spread {l : Launch} {E : kE} (hj : kEj E) (hn : kNorm E) (hl : l.stackTraces = false) (F : Nat) (a1 : Int32)  (σ : kS) : kMet l E yX1_spread cX1_spread 3 none (1) (22) 0 id [.ref (kad E 6 0), .int a1] σ (f_X1_spread F a1 σ) := by
  refine k_met hj hn hl (by decide) (Nat.le_of_ble_eq_true rfl) (fun C Q hk he hro => ?_)
  have hk : kOk (C, E, Q) cX1_spread RX1 3 := hk
  show Sm (C, E, Q) 3 0 0 [(0, .ref (kad E 6 0)), (1, .int a1)] [] σ _
  unfold f_X1_spread
  refine k_iconst (v := 0) hk dX1_spread_0 (by decide) ?_
  refine k_istore_n (lv' := [(2, .int 0), (0, .ref (kad E 6 0)), (1, .int a1)]) hk dX1_spread_1 (by decide) rfl ?_
  exact k_sub [1, 2, 0] rfl (s_X1_spread_b2 hj hn hl hk he hro F F a1 0  σ)
def f_X1_burn_b49 (F : Nat) (rr2 : Int32 → kS → Option kR) (x1 : Int32) (σ : kS) : Option kR := rr2 (x1 + 1) σ
set_option maxRecDepth 20000 in
theorem s_X1_burn_b49 {l : Launch} {E : kE} (hj : kEj E) (hn : kNorm E) (hl : l.stackTraces = false) {C : kC} {Q : kR → State → Prop} (hk : kOk (C, E, Q) cX1_burn RX1 2) (he : kEnd (C, E, Q) none id 0) (hro : kRo C l (1) (24) 0) (F : Nat) (rr2 : Int32 → kS → Option kR) (hrr2 : ∀ (x1 : Int32)  (σ : kS), Sm (C, E, Q) 2 0 2 [(0, .ref (kad E 6 0)), (1, .int x1)] [] σ (rr2 x1 σ)) : ∀ (x1 : Int32)  (σ : kS), Sm (C, E, Q) 2 0 49 [(0, .ref (kad E 6 0)), (1, .int x1)] [] σ (f_X1_burn_b49 F rr2 x1 σ) := by
  intro x1  σ
  unfold f_X1_burn_b49
  refine k_iinc (lv' := [(1, .int (x1 + 1)), (0, .ref (kad E 6 0))]) (j := 1) (y := x1 + 1) hk dX1_burn_49 rfl rfl (by decide) rfl ?_
  refine k_goto hk dX1_burn_52 2 (by decide) ?_
  exact k_sub [1, 0] rfl (hrr2 (x1 + 1)  σ)
def f_X1_burn_b2 (F : Nat) (rr2 : Int32 → kS → Option kR) (a : Int32) (σ : kS) : Option kR := match a with
  | x1 => if 8 ≤ x1 then (some (.inl none, σ)) else (kg (kin x1 8) (if (σ.1 38 0 x1.toNatClampNeg) = (-1) then (f_X1_burn_b49 F rr2 x1 σ) else (kg (kin x1 8) (kb (kmax 0 ((σ.1 36 0 x1.toNatClampNeg) - (σ.1 35 0 6))) fun y5 => kg (kin x1 8) (kb (kU σ 36 0 x1.toNatClampNeg y5) fun σ6 => kg (kin x1 8) (kb (kU σ6 37 0 x1.toNatClampNeg 0) fun σ8 => f_X1_burn_b49 F rr2 x1 σ8))))))
set_option maxRecDepth 20000 in
theorem s_X1_burn_b2 {l : Launch} {E : kE} (hj : kEj E) (hn : kNorm E) (hl : l.stackTraces = false) {C : kC} {Q : kR → State → Prop} (hk : kOk (C, E, Q) cX1_burn RX1 2) (he : kEnd (C, E, Q) none id 0) (hro : kRo C l (1) (24) 0) (F : Nat) : ∀ (N9 : Nat) (x1 : Int32)  (σ : kS), Sm (C, E, Q) 2 0 2 [(0, .ref (kad E 6 0)), (1, .int x1)] [] σ (kFix (f_X1_burn_b2 F) N9 x1 σ) := by
  intro N9
  induction N9 with
  | zero => intro x1  σ; exact k_no
  | succ N9 ih =>
    intro x1  σ
    show Sm _ _ _ _ _ _ _ (f_X1_burn_b2 F (kFix (f_X1_burn_b2 F) N9) x1 σ)
    generalize kFix (f_X1_burn_b2 F) N9 = rr2 at ih
    have hrr2 := ih
    unfold f_X1_burn_b2
    dsimp only
    refine k_iload_n hk dX1_burn_2 1 rfl ?_
    refine k_bipush (v := 8) hk dX1_burn_3 (by decide) ?_
    refine k_icmp_ge hk dX1_burn_5 55 (by decide) (fun h1 => ?_) (fun h1 => ?_)
    · exact k_return hk he dX1_burn_55 (by decide)
    · refine k_aload_n hk dX1_burn_8 0 rfl ?_
      refine k_getr (k := 3) 38 0 hk dX1_burn_9 rfl (by decide) kc1 (by decide) fl_RX1_21 rfl rfl ?_
      refine k_iload_n hk dX1_burn_12 1 rfl ?_
      refine k_iald hk dX1_burn_13 rfl (by decide) (fun h2 => ?_)
      refine k_iconst (v := (-1)) hk dX1_burn_14 (by decide) ?_
      refine k_icmp_eq hk dX1_burn_15 49 (by decide) (fun h3 => ?_) (fun h3 => ?_)
      · exact k_sub [0, 1] rfl (s_X1_burn_b49 hj hn hl hk he hro F rr2 hrr2  x1  σ)
      · refine k_aload_n hk dX1_burn_18 0 rfl ?_
        refine k_getr (k := 1) 36 0 hk dX1_burn_19 rfl (by decide) kc1 (by decide) fl_RX1_15 rfl rfl ?_
        refine k_iload_n hk dX1_burn_22 1 rfl ?_
        refine k_iconst (v := 0) hk dX1_burn_23 (by decide) ?_
        refine k_aload_n hk dX1_burn_24 0 rfl ?_
        refine k_getr (k := 1) 36 0 hk dX1_burn_25 rfl (by decide) kc1 (by decide) fl_RX1_15 rfl rfl ?_
        refine k_iload_n hk dX1_burn_28 1 rfl ?_
        refine k_iald hk dX1_burn_29 rfl (by decide) (fun h4 => ?_)
        refine k_aload_n hk dX1_burn_30 0 rfl ?_
        refine k_getr (k := 0) 35 0 hk dX1_burn_31 rfl (by decide) kc1 (by decide) fl_RX1_9 rfl rfl ?_
        refine k_bipush (v := 6) hk dX1_burn_34 (by decide) ?_
        refine k_iald_k (kk := 6) hk dX1_burn_36 rfl (by decide) (by decide) (by decide) ?_
        refine k_isub hk dX1_burn_37 ?_
        refine k_mmax hk hro dX1_burn_38 cw_RX1_98 ⟨by decide, Nat.le_of_ble_eq_true rfl⟩ (by decide) (fun y5 => ?_)
        refine k_iast hk dX1_burn_41 rfl (by decide) (fun h7 σ6 => ?_)
        refine k_aload_n hk dX1_burn_42 0 rfl ?_
        refine k_getr (k := 2) 37 0 hk dX1_burn_43 rfl (by decide) kc1 (by decide) fl_RX1_18 rfl rfl ?_
        refine k_iload_n hk dX1_burn_46 1 rfl ?_
        refine k_iconst (v := 0) hk dX1_burn_47 (by decide) ?_
        refine k_iast hk dX1_burn_48 rfl (by decide) (fun h9 σ8 => ?_)
        exact k_sub [0, 1] rfl (s_X1_burn_b49 hj hn hl hk he hro F rr2 hrr2  x1  σ8)
def f_X1_burn (F : Nat)  (σ : kS) : Option kR := kFix (f_X1_burn_b2 F) F 0 σ
set_option maxRecDepth 20000 in
theorem c_X1_burn {l : Launch} {E : kE} (hj : kEj E) (hn : kNorm E) (hl : l.stackTraces = false) (F : Nat)   (σ : kS) : kMet l E yX1_burn cX1_burn 2 none (1) (24) 0 id [.ref (kad E 6 0)] σ (f_X1_burn F  σ) := by
  refine k_met hj hn hl (by decide) (Nat.le_of_ble_eq_true rfl) (fun C Q hk he hro => ?_)
  have hk : kOk (C, E, Q) cX1_burn RX1 2 := hk
  show Sm (C, E, Q) 2 0 0 [(0, .ref (kad E 6 0))] [] σ _
  unfold f_X1_burn
  refine k_iconst (v := 0) hk dX1_burn_0 (by decide) ?_
  refine k_istore_n (lv' := [(1, .int 0), (0, .ref (kad E 6 0))]) hk dX1_burn_1 (by decide) rfl ?_
  exact k_sub [1, 0] rfl (s_X1_burn_b2 hj hn hl hk he hro F F 0  σ)
def f_X1_sink_b76 (F : Nat)  (σ : kS) : Option kR := some (.inl none, σ)
set_option maxRecDepth 20000 in
theorem s_X1_sink_b76 {l : Launch} {E : kE} (hj : kEj E) (hn : kNorm E) (hl : l.stackTraces = false) {C : kC} {Q : kR → State → Prop} (hk : kOk (C, E, Q) cX1_sink RX1 4) (he : kEnd (C, E, Q) none id 0) (hro : kRo C l (1) (24) 0) (F : Nat) : ∀   (σ : kS), Sm (C, E, Q) 4 0 76 [] [] σ (f_X1_sink_b76 F  σ) := by
  intro   σ
  unfold f_X1_sink_b76
  exact k_return hk he dX1_sink_76 (by decide)
def f_X1_sink_b4 (F : Nat) (rr4 : (Int32 × Int32 × Int32) → kS → Option kR) (a : (Int32 × Int32 × Int32)) (σ : kS) : Option kR := match a with
  | (x1, x2, x3) => if 8 ≤ x3 then (if (σ.1 35 0 7) ≤ x2 then (f_X1_sink_b76 F  σ) else (kb (kmax 0 ((σ.1 6 0 9) - (σ.1 35 0 8))) fun y3 => kb (kU σ 6 0 9 y3) fun σ4 => if (σ4.1 6 0 9) = 0 then (if (σ4.1 6 0 12) = (-1) then (kb (kU σ4 6 0 12 x1) fun σ7 => f_X1_sink_b76 F  σ7) else (f_X1_sink_b76 F  σ4)) else (f_X1_sink_b76 F  σ4))) else (kg (kin x3 8) (kb (x2 + (σ.1 36 0 x3.toNatClampNeg)) fun y9 => rr4 (x1, y9, x3 + 1) σ))
set_option maxRecDepth 20000 in
theorem s_X1_sink_b4 {l : Launch} {E : kE} (hj : kEj E) (hn : kNorm E) (hl : l.stackTraces = false) {C : kC} {Q : kR → State → Prop} (hk : kOk (C, E, Q) cX1_sink RX1 4) (he : kEnd (C, E, Q) none id 0) (hro : kRo C l (1) (24) 0) (F : Nat) : ∀ (N9 : Nat) (x1 : Int32) (x2 : Int32) (x3 : Int32)  (σ : kS), Sm (C, E, Q) 4 0 4 [(0, .ref (kad E 6 0)), (1, .int x1), (2, .int x2), (3, .int x3)] [] σ (kFix (f_X1_sink_b4 F) N9 (x1, x2, x3) σ) := by
  intro N9
  induction N9 with
  | zero => intro x1 x2 x3  σ; exact k_no
  | succ N9 ih =>
    intro x1 x2 x3  σ
    show Sm _ _ _ _ _ _ _ (f_X1_sink_b4 F (kFix (f_X1_sink_b4 F) N9) (x1, x2, x3) σ)
    generalize kFix (f_X1_sink_b4 F) N9 = rr4 at ih
    have hrr4 := ih
    unfold f_X1_sink_b4
    dsimp only
    refine k_iload_n hk dX1_sink_4 3 rfl ?_
    refine k_bipush (v := 8) hk dX1_sink_5 (by decide) ?_
    refine k_icmp_ge hk dX1_sink_7 25 (by decide) (fun h1 => ?_) (fun h1 => ?_)
    · refine k_iload_n hk dX1_sink_25 2 rfl ?_
      refine k_aload_n hk dX1_sink_26 0 rfl ?_
      refine k_getr (k := 0) 35 0 hk dX1_sink_27 rfl (by decide) kc1 (by decide) fl_RX1_9 rfl rfl ?_
      refine k_bipush (v := 7) hk dX1_sink_30 (by decide) ?_
      refine k_iald_k (kk := 7) hk dX1_sink_32 rfl (by decide) (by decide) (by decide) ?_
      refine k_icmp_ge hk dX1_sink_33 76 (by decide) (fun h2 => ?_) (fun h2 => ?_)
      · exact k_sub [] rfl (s_X1_sink_b76 hj hn hl hk he hro F    σ)
      · refine k_aload_n hk dX1_sink_36 0 rfl ?_
        refine k_iconst (v := 0) hk dX1_sink_37 (by decide) ?_
        refine k_aload_n hk dX1_sink_38 0 rfl ?_
        refine k_getf (k := 9) hk dX1_sink_39 rfl (by decide) kc1 (by decide) fl_RX1_44 rfl ?_
        refine k_aload_n hk dX1_sink_42 0 rfl ?_
        refine k_getr (k := 0) 35 0 hk dX1_sink_43 rfl (by decide) kc1 (by decide) fl_RX1_9 rfl rfl ?_
        refine k_bipush (v := 8) hk dX1_sink_46 (by decide) ?_
        refine k_iald_k (kk := 8) hk dX1_sink_48 rfl (by decide) (by decide) (by decide) ?_
        refine k_isub hk dX1_sink_49 ?_
        refine k_mmax hk hro dX1_sink_50 cw_RX1_98 ⟨by decide, Nat.le_of_ble_eq_true rfl⟩ (by decide) (fun y3 => ?_)
        refine k_putf (k := 9) hk dX1_sink_53 rfl (by decide) kc1 (by decide) fl_RX1_44 rfl rfl rfl rfl (fun σ4 => ?_)
        refine k_aload_n hk dX1_sink_56 0 rfl ?_
        refine k_getf (k := 9) hk dX1_sink_57 rfl (by decide) kc1 (by decide) fl_RX1_44 rfl ?_
        refine k_if_ne hk dX1_sink_60 76 (by decide) (fun h5 => ?_) (fun h5 => ?_)
        · exact k_sub [] rfl (s_X1_sink_b76 hj hn hl hk he hro F    σ4)
        · refine k_aload_n hk dX1_sink_63 0 rfl ?_
          refine k_getf (k := 12) hk dX1_sink_64 rfl (by decide) kc1 (by decide) fl_RX1_53 rfl ?_
          refine k_iconst (v := (-1)) hk dX1_sink_67 (by decide) ?_
          refine k_icmp_ne hk dX1_sink_68 76 (by decide) (fun h6 => ?_) (fun h6 => ?_)
          · exact k_sub [] rfl (s_X1_sink_b76 hj hn hl hk he hro F    σ4)
          · refine k_aload_n hk dX1_sink_71 0 rfl ?_
            refine k_iload_n hk dX1_sink_72 1 rfl ?_
            refine k_putf (k := 12) hk dX1_sink_73 rfl (by decide) kc1 (by decide) fl_RX1_53 rfl rfl rfl rfl (fun σ7 => ?_)
            exact k_sub [] rfl (s_X1_sink_b76 hj hn hl hk he hro F    σ7)
    · refine k_iload_n hk dX1_sink_10 2 rfl ?_
      refine k_aload_n hk dX1_sink_11 0 rfl ?_
      refine k_getr (k := 1) 36 0 hk dX1_sink_12 rfl (by decide) kc1 (by decide) fl_RX1_15 rfl rfl ?_
      refine k_iload_n hk dX1_sink_15 3 rfl ?_
      refine k_iald hk dX1_sink_16 rfl (by decide) (fun h8 => ?_)
      refine k_iadd hk dX1_sink_17 ?_
      refine k_nm (fun y9 => ?_)
      refine k_istore_n (lv' := [(2, .int y9), (0, .ref (kad E 6 0)), (1, .int x1), (3, .int x3)]) hk dX1_sink_18 (by decide) rfl ?_
      refine k_iinc (lv' := [(3, .int (x3 + 1)), (2, .int y9), (0, .ref (kad E 6 0)), (1, .int x1)]) (j := 3) (y := x3 + 1) hk dX1_sink_19 rfl rfl (by decide) rfl ?_
      refine k_goto hk dX1_sink_22 4 (by decide) ?_
      exact k_sub [2, 3, 1, 0] rfl (hrr4 x1 y9 (x3 + 1)  σ)
def f_X1_sink (F : Nat) (a1 : Int32) (σ : kS) : Option kR := kFix (f_X1_sink_b4 F) F (a1, 0, 0) σ
set_option maxRecDepth 20000 in
theorem c_X1_sink {l : Launch} {E : kE} (hj : kEj E) (hn : kNorm E) (hl : l.stackTraces = false) (F : Nat) (a1 : Int32)  (σ : kS) : kMet l E yX1_sink cX1_sink 4 none (1) (24) 0 id [.ref (kad E 6 0), .int a1] σ (f_X1_sink F a1 σ) := by
  refine k_met hj hn hl (by decide) (Nat.le_of_ble_eq_true rfl) (fun C Q hk he hro => ?_)
  have hk : kOk (C, E, Q) cX1_sink RX1 4 := hk
  show Sm (C, E, Q) 4 0 0 [(0, .ref (kad E 6 0)), (1, .int a1)] [] σ _
  unfold f_X1_sink
  refine k_iconst (v := 0) hk dX1_sink_0 (by decide) ?_
  refine k_istore_n (lv' := [(2, .int 0), (0, .ref (kad E 6 0)), (1, .int a1)]) hk dX1_sink_1 (by decide) rfl ?_
  refine k_iconst (v := 0) hk dX1_sink_2 (by decide) ?_
  refine k_istore_n (lv' := [(3, .int 0), (2, .int 0), (0, .ref (kad E 6 0)), (1, .int a1)]) hk dX1_sink_3 (by decide) rfl ?_
  exact k_sub [2, 3, 1, 0] rfl (s_X1_sink_b4 hj hn hl hk he hro F F a1 0 0  σ)
def f_X1_leak_b92 (F : Nat) (rr2 : (Int32 × Int32) → kS → Option kR) (x1 : Int32) (x2 : Int32) (σ : kS) : Option kR := rr2 (x1, x2 + 1) σ
set_option maxRecDepth 20000 in
theorem s_X1_leak_b92 {l : Launch} {E : kE} (hj : kEj E) (hn : kNorm E) (hl : l.stackTraces = false) {C : kC} {Q : kR → State → Prop} (hk : kOk (C, E, Q) cX1_leak RX1 5) (he : kEnd (C, E, Q) none id 0) (hro : kRo C l (1) (24) 0) (F : Nat) (rr2 : (Int32 × Int32) → kS → Option kR) (hrr2 : ∀ (x1 : Int32) (x2 : Int32)  (σ : kS), Sm (C, E, Q) 5 0 2 [(0, .ref (kad E 6 0)), (1, .int x1), (2, .int x2)] [] σ (rr2 (x1, x2) σ)) : ∀ (x1 : Int32) (x2 : Int32)  (σ : kS), Sm (C, E, Q) 5 0 92 [(0, .ref (kad E 6 0)), (1, .int x1), (2, .int x2)] [] σ (f_X1_leak_b92 F rr2 x1 x2 σ) := by
  intro x1 x2  σ
  unfold f_X1_leak_b92
  refine k_iinc (lv' := [(2, .int (x2 + 1)), (0, .ref (kad E 6 0)), (1, .int x1)]) (j := 2) (y := x2 + 1) hk dX1_leak_92 rfl rfl (by decide) rfl ?_
  refine k_goto hk dX1_leak_95 2 (by decide) ?_
  exact k_sub [1, 2, 0] rfl (hrr2 x1 (x2 + 1)  σ)
def f_X1_leak_b2 (F : Nat) (rr2 : (Int32 × Int32) → kS → Option kR) (a : (Int32 × Int32)) (σ : kS) : Option kR := match a with
  | (x1, x2) => kg ((σ.1 6 0 5).toNatClampNeg < kCnt 10) (kb (σ.1 6 0 5).toNatClampNeg fun j1 => if (σ.1 10 j1 0) ≤ x2 then (some (.inl none, σ)) else (kg ((σ.1 6 0 5).toNatClampNeg < kCnt 10) (kb (σ.1 6 0 5).toNatClampNeg fun j3 => kg (kin x2 14) (if (σ.1 11 j3 x2.toNatClampNeg) = (-17) then (kg ((σ.1 6 0 5).toNatClampNeg < kCnt 10) (kb (σ.1 6 0 5).toNatClampNeg fun j6 => kg (kin x2 14) (if x1 < (σ.1 14 j6 x2.toNatClampNeg) then (f_X1_leak_b92 F rr2 x1 x2 σ) else (kg ((σ.1 6 0 5).toNatClampNeg < kCnt 10) (kb (σ.1 6 0 5).toNatClampNeg fun j9 => kg (kin x2 14) (kb (σ.1 12 j9 x2.toNatClampNeg) fun y11 => kg ((σ.1 6 0 5).toNatClampNeg < kCnt 10) (kb (σ.1 6 0 5).toNatClampNeg fun j12 => kg (kin x2 14) (kg (kin y11 8) (kb (kmin (σ.1 13 j12 x2.toNatClampNeg) (σ.1 36 0 y11.toNatClampNeg)) fun y15 => kg (kin y11 8) (kg (kin y11 8) (kb (kU σ 36 0 y11.toNatClampNeg ((σ.1 36 0 y11.toNatClampNeg) - y15)) fun σ17 => kg (kin y11 8) (kg (kin y11 8) (kb (kU σ17 37 0 y11.toNatClampNeg ((σ17.1 37 0 y11.toNatClampNeg) + y15)) fun σ20 => f_X1_leak_b92 F rr2 x1 x2 σ20))))))))))))) else (f_X1_leak_b92 F rr2 x1 x2 σ)))))
set_option maxRecDepth 20000 in
theorem s_X1_leak_b2 {l : Launch} {E : kE} (hj : kEj E) (hn : kNorm E) (hl : l.stackTraces = false) {C : kC} {Q : kR → State → Prop} (hk : kOk (C, E, Q) cX1_leak RX1 5) (he : kEnd (C, E, Q) none id 0) (hro : kRo C l (1) (24) 0) (F : Nat) : ∀ (N9 : Nat) (x1 : Int32) (x2 : Int32)  (σ : kS), Sm (C, E, Q) 5 0 2 [(0, .ref (kad E 6 0)), (1, .int x1), (2, .int x2)] [] σ (kFix (f_X1_leak_b2 F) N9 (x1, x2) σ) := by
  intro N9
  induction N9 with
  | zero => intro x1 x2  σ; exact k_no
  | succ N9 ih =>
    intro x1 x2  σ
    show Sm _ _ _ _ _ _ _ (f_X1_leak_b2 F (kFix (f_X1_leak_b2 F) N9) (x1, x2) σ)
    generalize kFix (f_X1_leak_b2 F) N9 = rr2 at ih
    have hrr2 := ih
    unfold f_X1_leak_b2
    dsimp only
    refine k_iload_n hk dX1_leak_2 2 rfl ?_
    refine k_aload_n hk dX1_leak_3 0 rfl ?_
    refine k_gets (k := 5) hk dX1_leak_4 rfl (by decide) kc1 (by decide) fl_RX1_30 rfl (fun j1 hj1 => ?_)
    refine k_getf (k := 0) hk dX1_leak_7 rfl hj1 kc4 (by decide) fl_RX1_66 rfl ?_
    refine k_icmp_ge hk dX1_leak_10 98 (by decide) (fun h2 => ?_) (fun h2 => ?_)
    · exact k_return hk he dX1_leak_98 (by decide)
    · refine k_aload_n hk dX1_leak_13 0 rfl ?_
      refine k_gets (k := 5) hk dX1_leak_14 rfl (by decide) kc1 (by decide) fl_RX1_30 rfl (fun j3 hj3 => ?_)
      refine k_getr (k := 1) 11 j3 hk dX1_leak_17 rfl hj3 kc4 (by decide) fl_RX1_69 rfl rfl ?_
      refine k_iload_n hk dX1_leak_20 2 rfl ?_
      refine k_iald hk dX1_leak_21 rfl hj3 (fun h4 => ?_)
      refine k_bipush (v := (-17)) hk dX1_leak_22 (by decide) ?_
      refine k_icmp_ne hk dX1_leak_24 92 (by decide) (fun h5 => ?_) (fun h5 => ?_)
      · exact k_sub [0, 1, 2] rfl (s_X1_leak_b92 hj hn hl hk he hro F rr2 hrr2  x1 x2  σ)
      · refine k_iload_n hk dX1_leak_27 1 rfl ?_
        refine k_aload_n hk dX1_leak_28 0 rfl ?_
        refine k_gets (k := 5) hk dX1_leak_29 rfl (by decide) kc1 (by decide) fl_RX1_30 rfl (fun j6 hj6 => ?_)
        refine k_getr (k := 4) 14 j6 hk dX1_leak_32 rfl hj6 kc4 (by decide) fl_RX1_116 rfl rfl ?_
        refine k_iload_n hk dX1_leak_35 2 rfl ?_
        refine k_iald hk dX1_leak_36 rfl hj6 (fun h7 => ?_)
        refine k_icmp_lt hk dX1_leak_37 92 (by decide) (fun h8 => ?_) (fun h8 => ?_)
        · exact k_sub [0, 1, 2] rfl (s_X1_leak_b92 hj hn hl hk he hro F rr2 hrr2  x1 x2  σ)
        · refine k_aload_n hk dX1_leak_40 0 rfl ?_
          refine k_gets (k := 5) hk dX1_leak_41 rfl (by decide) kc1 (by decide) fl_RX1_30 rfl (fun j9 hj9 => ?_)
          refine k_getr (k := 2) 12 j9 hk dX1_leak_44 rfl hj9 kc4 (by decide) fl_RX1_72 rfl rfl ?_
          refine k_iload_n hk dX1_leak_47 2 rfl ?_
          refine k_iald hk dX1_leak_48 rfl hj9 (fun h10 => ?_)
          refine k_nm (fun y11 => ?_)
          refine k_istore_n (lv' := [(3, .int y11), (0, .ref (kad E 6 0)), (1, .int x1), (2, .int x2)]) hk dX1_leak_49 (by decide) rfl ?_
          refine k_aload_n hk dX1_leak_50 1 rfl ?_
          refine k_gets (k := 5) hk dX1_leak_51 rfl (by decide) kc1 (by decide) fl_RX1_30 rfl (fun j12 hj12 => ?_)
          refine k_getr (k := 3) 13 j12 hk dX1_leak_54 rfl hj12 kc4 (by decide) fl_RX1_75 rfl rfl ?_
          refine k_iload_n hk dX1_leak_57 3 rfl ?_
          refine k_iald hk dX1_leak_58 rfl hj12 (fun h13 => ?_)
          refine k_aload_n hk dX1_leak_59 1 rfl ?_
          refine k_getr (k := 1) 36 0 hk dX1_leak_60 rfl (by decide) kc1 (by decide) fl_RX1_15 rfl rfl ?_
          refine k_iload_n hk dX1_leak_63 0 rfl ?_
          refine k_iald hk dX1_leak_64 rfl (by decide) (fun h14 => ?_)
          refine k_mmin hk hro dX1_leak_65 cw_RX1_84 ⟨by decide, Nat.le_of_ble_eq_true rfl⟩ (by decide) (fun y15 => ?_)
          refine k_istore (lv' := [(4, .int y15), (3, .int y11), (0, .ref (kad E 6 0)), (1, .int x1), (2, .int x2)]) hk dX1_leak_68 (by decide) rfl ?_
          refine k_aload_n hk dX1_leak_70 2 rfl ?_
          refine k_getr (k := 1) 36 0 hk dX1_leak_71 rfl (by decide) kc1 (by decide) fl_RX1_15 rfl rfl ?_
          refine k_iload_n hk dX1_leak_74 1 rfl ?_
          refine k_dup2 hk dX1_leak_75 rfl rfl ?_
          refine k_iald hk dX1_leak_76 rfl (by decide) (fun h16 => ?_)
          refine k_iload hk dX1_leak_77 0 rfl ?_
          refine k_isub hk dX1_leak_79 ?_
          refine k_iast hk dX1_leak_80 rfl (by decide) (fun h18 σ17 => ?_)
          refine k_aload_n hk dX1_leak_81 2 rfl ?_
          refine k_getr (k := 2) 37 0 hk dX1_leak_82 rfl (by decide) kc1 (by decide) fl_RX1_18 rfl rfl ?_
          refine k_iload_n hk dX1_leak_85 1 rfl ?_
          refine k_dup2 hk dX1_leak_86 rfl rfl ?_
          refine k_iald hk dX1_leak_87 rfl (by decide) (fun h19 => ?_)
          refine k_iload hk dX1_leak_88 0 rfl ?_
          refine k_iadd hk dX1_leak_90 ?_
          refine k_iast hk dX1_leak_91 rfl (by decide) (fun h21 σ20 => ?_)
          exact k_sub [2, 3, 4] rfl (s_X1_leak_b92 hj hn hl hk he hro F rr2 hrr2  x1 x2  σ20)
def f_X1_leak (F : Nat) (a1 : Int32) (σ : kS) : Option kR := kFix (f_X1_leak_b2 F) F (a1, 0) σ
set_option maxRecDepth 20000 in
theorem c_X1_leak {l : Launch} {E : kE} (hj : kEj E) (hn : kNorm E) (hl : l.stackTraces = false) (F : Nat) (a1 : Int32)  (σ : kS) : kMet l E yX1_leak cX1_leak 5 none (1) (24) 0 id [.ref (kad E 6 0), .int a1] σ (f_X1_leak F a1 σ) := by
  refine k_met hj hn hl (by decide) (Nat.le_of_ble_eq_true rfl) (fun C Q hk he hro => ?_)
  have hk : kOk (C, E, Q) cX1_leak RX1 5 := hk
  show Sm (C, E, Q) 5 0 0 [(0, .ref (kad E 6 0)), (1, .int a1)] [] σ _
  unfold f_X1_leak
  refine k_iconst (v := 0) hk dX1_leak_0 (by decide) ?_
  refine k_istore_n (lv' := [(2, .int 0), (0, .ref (kad E 6 0)), (1, .int a1)]) hk dX1_leak_1 (by decide) rfl ?_
  exact k_sub [1, 2, 0] rfl (s_X1_leak_b2 hj hn hl hk he hro F F a1 0  σ)
def f_X1_spark_b106 (F : Nat) (rr2 : (Int32 × Int32) → kS → Option kR) (x1 : Int32) (x2 : Int32) (σ : kS) : Option kR := rr2 (x1, x2 + 1) σ
set_option maxRecDepth 20000 in
theorem s_X1_spark_b106 {l : Launch} {E : kE} (hj : kEj E) (hn : kNorm E) (hl : l.stackTraces = false) {C : kC} {Q : kR → State → Prop} (hk : kOk (C, E, Q) cX1_spark RX1 4) (he : kEnd (C, E, Q) none id 0) (hro : kRo C l (2) (48) 0) (F : Nat) (rr2 : (Int32 × Int32) → kS → Option kR) (hrr2 : ∀ (x1 : Int32) (x2 : Int32)  (σ : kS), Sm (C, E, Q) 4 0 2 [(0, .ref (kad E 6 0)), (1, .int x1), (2, .int x2)] [] σ (rr2 (x1, x2) σ)) : ∀ (x1 : Int32) (x2 : Int32)  (σ : kS), Sm (C, E, Q) 4 0 106 [(0, .ref (kad E 6 0)), (1, .int x1), (2, .int x2)] [] σ (f_X1_spark_b106 F rr2 x1 x2 σ) := by
  intro x1 x2  σ
  unfold f_X1_spark_b106
  refine k_iinc (lv' := [(2, .int (x2 + 1)), (0, .ref (kad E 6 0)), (1, .int x1)]) (j := 2) (y := x2 + 1) hk dX1_spark_106 rfl rfl (by decide) rfl ?_
  refine k_goto hk dX1_spark_109 2 (by decide) ?_
  exact k_sub [1, 2, 0] rfl (hrr2 x1 (x2 + 1)  σ)
def f_X1_spark_b96 (F : Nat) (rr2 : (Int32 × Int32) → kS → Option kR) (x1 : Int32) (x2 : Int32) (x3 : Int32) (σ : kS) : Option kR := kb (kU σ 6 0 10 x1) fun σ1 => kb (kU σ1 6 0 11 x3) fun σ2 => f_X1_spark_b106 F rr2 x1 x2 σ2
set_option maxRecDepth 20000 in
theorem s_X1_spark_b96 {l : Launch} {E : kE} (hj : kEj E) (hn : kNorm E) (hl : l.stackTraces = false) {C : kC} {Q : kR → State → Prop} (hk : kOk (C, E, Q) cX1_spark RX1 4) (he : kEnd (C, E, Q) none id 0) (hro : kRo C l (2) (48) 0) (F : Nat) (rr2 : (Int32 × Int32) → kS → Option kR) (hrr2 : ∀ (x1 : Int32) (x2 : Int32)  (σ : kS), Sm (C, E, Q) 4 0 2 [(0, .ref (kad E 6 0)), (1, .int x1), (2, .int x2)] [] σ (rr2 (x1, x2) σ)) : ∀ (x1 : Int32) (x2 : Int32) (x3 : Int32)  (σ : kS), Sm (C, E, Q) 4 0 96 [(0, .ref (kad E 6 0)), (1, .int x1), (2, .int x2), (3, .int x3)] [] σ (f_X1_spark_b96 F rr2 x1 x2 x3 σ) := by
  intro x1 x2 x3  σ
  unfold f_X1_spark_b96
  refine k_aload_n hk dX1_spark_96 0 rfl ?_
  refine k_iload_n hk dX1_spark_97 1 rfl ?_
  refine k_putf (k := 10) hk dX1_spark_98 rfl (by decide) kc1 (by decide) fl_RX1_47 rfl rfl rfl rfl (fun σ1 => ?_)
  refine k_aload_n hk dX1_spark_101 0 rfl ?_
  refine k_iload_n hk dX1_spark_102 3 rfl ?_
  refine k_putf (k := 11) hk dX1_spark_103 rfl (by decide) kc1 (by decide) fl_RX1_50 rfl rfl rfl rfl (fun σ2 => ?_)
  exact k_sub [0, 1, 2] rfl (s_X1_spark_b106 hj hn hl hk he hro F rr2 hrr2  x1 x2  σ2)
def f_X1_spark_b2 (F : Nat) (rr2 : (Int32 × Int32) → kS → Option kR) (a : (Int32 × Int32)) (σ : kS) : Option kR := match a with
  | (x1, x2) => kg ((σ.1 6 0 5).toNatClampNeg < kCnt 10) (kb (σ.1 6 0 5).toNatClampNeg fun j3 => if (σ.1 10 j3 0) ≤ x2 then (some (.inl none, σ)) else (kg ((σ.1 6 0 5).toNatClampNeg < kCnt 10) (kb (σ.1 6 0 5).toNatClampNeg fun j5 => kg (kin x2 14) (kb (σ.1 12 j5 x2.toNatClampNeg) fun y7 => kg ((σ.1 6 0 5).toNatClampNeg < kCnt 10) (kb (σ.1 6 0 5).toNatClampNeg fun j8 => kg (kin x2 14) (if (σ.1 11 j8 x2.toNatClampNeg) = (-18) then (kg (kin y7 8) (if (σ.1 38 0 y7.toNatClampNeg) = (-1) then (kg (kin y7 8) (if (σ.1 37 0 y7.toNatClampNeg) ≤ 0 then (f_X1_spark_b106 F rr2 x1 x2 σ) else (kBi (f_X1_holds F x2 x1 σ) fun c16 σ15 => if c16 = 0 then (f_X1_spark_b106 F rr2 x1 x2 σ15) else (kg (kin y7 8) (kb (kU σ15 38 0 y7.toNatClampNeg x1) fun σ18 => if (σ18.1 6 0 10) = (-1) then (f_X1_spark_b96 F rr2 x1 x2 y7 σ18) else (if (σ18.1 6 0 10) = x1 then (if (σ18.1 6 0 11) ≤ y7 then (f_X1_spark_b106 F rr2 x1 x2 σ18) else (f_X1_spark_b96 F rr2 x1 x2 y7 σ18)) else (f_X1_spark_b106 F rr2 x1 x2 σ18))))))) else (f_X1_spark_b106 F rr2 x1 x2 σ))) else (f_X1_spark_b106 F rr2 x1 x2 σ)))))))
set_option maxRecDepth 20000 in
theorem s_X1_spark_b2 {l : Launch} {E : kE} (hj : kEj E) (hn : kNorm E) (hl : l.stackTraces = false) {C : kC} {Q : kR → State → Prop} (hk : kOk (C, E, Q) cX1_spark RX1 4) (he : kEnd (C, E, Q) none id 0) (hro : kRo C l (2) (48) 0) (F : Nat) : ∀ (N9 : Nat) (x1 : Int32) (x2 : Int32)  (σ : kS), Sm (C, E, Q) 4 0 2 [(0, .ref (kad E 6 0)), (1, .int x1), (2, .int x2)] [] σ (kFix (f_X1_spark_b2 F) N9 (x1, x2) σ) := by
  intro N9
  induction N9 with
  | zero => intro x1 x2  σ; exact k_no
  | succ N9 ih =>
    intro x1 x2  σ
    show Sm _ _ _ _ _ _ _ (f_X1_spark_b2 F (kFix (f_X1_spark_b2 F) N9) (x1, x2) σ)
    generalize kFix (f_X1_spark_b2 F) N9 = rr2 at ih
    have hrr2 := ih
    unfold f_X1_spark_b2
    dsimp only
    refine k_iload_n hk dX1_spark_2 2 rfl ?_
    refine k_aload_n hk dX1_spark_3 0 rfl ?_
    refine k_gets (k := 5) hk dX1_spark_4 rfl (by decide) kc1 (by decide) fl_RX1_30 rfl (fun j3 hj3 => ?_)
    refine k_getf (k := 0) hk dX1_spark_7 rfl hj3 kc4 (by decide) fl_RX1_66 rfl ?_
    refine k_icmp_ge hk dX1_spark_10 112 (by decide) (fun h4 => ?_) (fun h4 => ?_)
    · exact k_return hk he dX1_spark_112 (by decide)
    · refine k_aload_n hk dX1_spark_13 0 rfl ?_
      refine k_gets (k := 5) hk dX1_spark_14 rfl (by decide) kc1 (by decide) fl_RX1_30 rfl (fun j5 hj5 => ?_)
      refine k_getr (k := 2) 12 j5 hk dX1_spark_17 rfl hj5 kc4 (by decide) fl_RX1_72 rfl rfl ?_
      refine k_iload_n hk dX1_spark_20 2 rfl ?_
      refine k_iald hk dX1_spark_21 rfl hj5 (fun h6 => ?_)
      refine k_nm (fun y7 => ?_)
      refine k_istore_n (lv' := [(3, .int y7), (0, .ref (kad E 6 0)), (1, .int x1), (2, .int x2)]) hk dX1_spark_22 (by decide) rfl ?_
      refine k_aload_n hk dX1_spark_23 1 rfl ?_
      refine k_gets (k := 5) hk dX1_spark_24 rfl (by decide) kc1 (by decide) fl_RX1_30 rfl (fun j8 hj8 => ?_)
      refine k_getr (k := 1) 11 j8 hk dX1_spark_27 rfl hj8 kc4 (by decide) fl_RX1_69 rfl rfl ?_
      refine k_iload_n hk dX1_spark_30 3 rfl ?_
      refine k_iald hk dX1_spark_31 rfl hj8 (fun h9 => ?_)
      refine k_bipush (v := (-18)) hk dX1_spark_32 (by decide) ?_
      refine k_icmp_ne hk dX1_spark_34 106 (by decide) (fun h10 => ?_) (fun h10 => ?_)
      · exact k_sub [1, 2, 3] rfl (s_X1_spark_b106 hj hn hl hk he hro F rr2 hrr2  x1 x2  σ)
      · refine k_aload_n hk dX1_spark_37 1 rfl ?_
        refine k_getr (k := 3) 38 0 hk dX1_spark_38 rfl (by decide) kc1 (by decide) fl_RX1_21 rfl rfl ?_
        refine k_iload_n hk dX1_spark_41 0 rfl ?_
        refine k_iald hk dX1_spark_42 rfl (by decide) (fun h11 => ?_)
        refine k_iconst (v := (-1)) hk dX1_spark_43 (by decide) ?_
        refine k_icmp_ne hk dX1_spark_44 106 (by decide) (fun h12 => ?_) (fun h12 => ?_)
        · exact k_sub [1, 2, 3] rfl (s_X1_spark_b106 hj hn hl hk he hro F rr2 hrr2  x1 x2  σ)
        · refine k_aload_n hk dX1_spark_47 1 rfl ?_
          refine k_getr (k := 2) 37 0 hk dX1_spark_48 rfl (by decide) kc1 (by decide) fl_RX1_18 rfl rfl ?_
          refine k_iload_n hk dX1_spark_51 0 rfl ?_
          refine k_iald hk dX1_spark_52 rfl (by decide) (fun h13 => ?_)
          refine k_if_le hk dX1_spark_53 106 (by decide) (fun h14 => ?_) (fun h14 => ?_)
          · exact k_sub [1, 2, 3] rfl (s_X1_spark_b106 hj hn hl hk he hro F rr2 hrr2  x1 x2  σ)
          · refine k_aload_n hk dX1_spark_56 1 rfl ?_
            refine k_iload_n hk dX1_spark_57 3 rfl ?_
            refine k_iload_n hk dX1_spark_58 2 rfl ?_
            refine k_callVi (As := [.int x2, .int x1]) (rest := []) hk he hro (c_X1_holds hj hn hl F x2 x1  σ) dX1_spark_59 cw_RX1_119 rfl (by decide) kc1 rfl ⟨by decide, by decide⟩ (by decide) rfl (Nat.le_of_ble_eq_true rfl) (fun c16 σ15 => ?_)
            refine k_if_eq hk dX1_spark_62 106 (by decide) (fun h17 => ?_) (fun h17 => ?_)
            · exact k_sub [1, 2, 3] rfl (s_X1_spark_b106 hj hn hl hk he hro F rr2 hrr2  x1 x2  σ15)
            · refine k_aload_n hk dX1_spark_65 1 rfl ?_
              refine k_getr (k := 3) 38 0 hk dX1_spark_66 rfl (by decide) kc1 (by decide) fl_RX1_21 rfl rfl ?_
              refine k_iload_n hk dX1_spark_69 0 rfl ?_
              refine k_iload_n hk dX1_spark_70 2 rfl ?_
              refine k_iast hk dX1_spark_71 rfl (by decide) (fun h19 σ18 => ?_)
              refine k_aload_n hk dX1_spark_72 1 rfl ?_
              refine k_getf (k := 10) hk dX1_spark_73 rfl (by decide) kc1 (by decide) fl_RX1_47 rfl ?_
              refine k_iconst (v := (-1)) hk dX1_spark_76 (by decide) ?_
              refine k_icmp_eq hk dX1_spark_77 96 (by decide) (fun h20 => ?_) (fun h20 => ?_)
              · exact k_sub [1, 2, 3, 0] rfl (s_X1_spark_b96 hj hn hl hk he hro F rr2 hrr2  x1 x2 y7  σ18)
              · refine k_aload_n hk dX1_spark_80 1 rfl ?_
                refine k_getf (k := 10) hk dX1_spark_81 rfl (by decide) kc1 (by decide) fl_RX1_47 rfl ?_
                refine k_iload_n hk dX1_spark_84 2 rfl ?_
                refine k_icmp_ne hk dX1_spark_85 106 (by decide) (fun h21 => ?_) (fun h21 => ?_)
                · exact k_sub [1, 2, 3] rfl (s_X1_spark_b106 hj hn hl hk he hro F rr2 hrr2  x1 x2  σ18)
                · refine k_iload_n hk dX1_spark_88 0 rfl ?_
                  refine k_aload_n hk dX1_spark_89 1 rfl ?_
                  refine k_getf (k := 11) hk dX1_spark_90 rfl (by decide) kc1 (by decide) fl_RX1_50 rfl ?_
                  refine k_icmp_ge hk dX1_spark_93 106 (by decide) (fun h22 => ?_) (fun h22 => ?_)
                  · exact k_sub [1, 2, 3] rfl (s_X1_spark_b106 hj hn hl hk he hro F rr2 hrr2  x1 x2  σ18)
                  · exact k_sub [1, 2, 3, 0] rfl (s_X1_spark_b96 hj hn hl hk he hro F rr2 hrr2  x1 x2 y7  σ18)
def f_X1_spark (F : Nat) (a1 : Int32) (σ : kS) : Option kR := kFix (f_X1_spark_b2 F) F (a1, 0) σ
set_option maxRecDepth 20000 in
theorem c_X1_spark {l : Launch} {E : kE} (hj : kEj E) (hn : kNorm E) (hl : l.stackTraces = false) (F : Nat) (a1 : Int32)  (σ : kS) : kMet l E yX1_spark cX1_spark 4 none (2) (48) 0 id [.ref (kad E 6 0), .int a1] σ (f_X1_spark F a1 σ) := by
  refine k_met hj hn hl (by decide) (Nat.le_of_ble_eq_true rfl) (fun C Q hk he hro => ?_)
  have hk : kOk (C, E, Q) cX1_spark RX1 4 := hk
  show Sm (C, E, Q) 4 0 0 [(0, .ref (kad E 6 0)), (1, .int a1)] [] σ _
  unfold f_X1_spark
  refine k_iconst (v := 0) hk dX1_spark_0 (by decide) ?_
  refine k_istore_n (lv' := [(2, .int 0), (0, .ref (kad E 6 0)), (1, .int a1)]) hk dX1_spark_1 (by decide) rfl ?_
  exact k_sub [1, 2, 0] rfl (s_X1_spark_b2 hj hn hl hk he hro F F a1 0  σ)
def f_X1_pass_b93 (F : Nat) (x1 : Int32) (σ : kS) : Option kR := kBv (f_X1_sink F x1 σ) fun σ1 => some (.inl none, σ1)
set_option maxRecDepth 20000 in
theorem s_X1_pass_b93 {l : Launch} {E : kE} (hj : kEj E) (hn : kNorm E) (hl : l.stackTraces = false) {C : kC} {Q : kR → State → Prop} (hk : kOk (C, E, Q) cX1_pass RX1 2) (he : kEnd (C, E, Q) none id 0) (hro : kRo C l (3) (71) 0) (F : Nat) : ∀ (x1 : Int32)  (σ : kS), Sm (C, E, Q) 2 0 93 [(0, .ref (kad E 6 0)), (1, .int x1)] [] σ (f_X1_pass_b93 F x1 σ) := by
  intro x1  σ
  unfold f_X1_pass_b93
  refine k_aload_n hk dX1_pass_93 0 rfl ?_
  refine k_iload_n hk dX1_pass_94 1 rfl ?_
  refine k_callVv (As := [.int x1]) (rest := []) hk he hro (c_X1_sink hj hn hl F x1  σ) dX1_pass_95 cw_RX1_113 rfl (by decide) kc1 rfl ⟨by decide, by decide⟩ (by decide) rfl (Nat.le_of_ble_eq_true rfl) (fun σ1 => ?_)
  exact k_return hk he dX1_pass_98 (by decide)
def f_X1_pass_b66 (F : Nat) (x1 : Int32) (σ : kS) : Option kR := kBv (f_X1_leak F x1 σ) fun σ2 => kBv (f_X1_spark F x1 σ2) fun σ3 => if (σ3.1 6 0 10) = (-1) then (f_X1_pass_b93 F x1 σ3) else (kBv (f_X1_spread F x1 σ3) fun σ5 => kBv (f_X1_burn F  σ5) fun σ6 => f_X1_pass_b93 F x1 σ6)
set_option maxRecDepth 20000 in
theorem s_X1_pass_b66 {l : Launch} {E : kE} (hj : kEj E) (hn : kNorm E) (hl : l.stackTraces = false) {C : kC} {Q : kR → State → Prop} (hk : kOk (C, E, Q) cX1_pass RX1 2) (he : kEnd (C, E, Q) none id 0) (hro : kRo C l (3) (71) 0) (F : Nat) : ∀ (x1 : Int32)  (σ : kS), Sm (C, E, Q) 2 0 66 [(0, .ref (kad E 6 0)), (1, .int x1)] [] σ (f_X1_pass_b66 F x1 σ) := by
  intro x1  σ
  unfold f_X1_pass_b66
  refine k_aload_n hk dX1_pass_66 0 rfl ?_
  refine k_iload_n hk dX1_pass_67 1 rfl ?_
  refine k_callVv (As := [.int x1]) (rest := []) hk he hro (c_X1_leak hj hn hl F x1  σ) dX1_pass_68 cw_RX1_101 rfl (by decide) kc1 rfl ⟨by decide, by decide⟩ (by decide) rfl (Nat.le_of_ble_eq_true rfl) (fun σ2 => ?_)
  refine k_aload_n hk dX1_pass_71 0 rfl ?_
  refine k_iload_n hk dX1_pass_72 1 rfl ?_
  refine k_callVv (As := [.int x1]) (rest := []) hk he hro (c_X1_spark hj hn hl F x1  σ2) dX1_pass_73 cw_RX1_104 rfl (by decide) kc1 rfl ⟨by decide, by decide⟩ (by decide) rfl (Nat.le_of_ble_eq_true rfl) (fun σ3 => ?_)
  refine k_aload_n hk dX1_pass_76 0 rfl ?_
  refine k_getf (k := 10) hk dX1_pass_77 rfl (by decide) kc1 (by decide) fl_RX1_47 rfl ?_
  refine k_iconst (v := (-1)) hk dX1_pass_80 (by decide) ?_
  refine k_icmp_eq hk dX1_pass_81 93 (by decide) (fun h4 => ?_) (fun h4 => ?_)
  · exact k_sub [0, 1] rfl (s_X1_pass_b93 hj hn hl hk he hro F  x1  σ3)
  · refine k_aload_n hk dX1_pass_84 0 rfl ?_
    refine k_iload_n hk dX1_pass_85 1 rfl ?_
    refine k_callVv (As := [.int x1]) (rest := []) hk he hro (c_X1_spread hj hn hl F x1  σ3) dX1_pass_86 cw_RX1_107 rfl (by decide) kc1 rfl ⟨by decide, by decide⟩ (by decide) rfl (Nat.le_of_ble_eq_true rfl) (fun σ5 => ?_)
    refine k_aload_n hk dX1_pass_89 0 rfl ?_
    refine k_callVv (As := []) (rest := []) hk he hro (c_X1_burn hj hn hl F   σ5) dX1_pass_90 cw_RX1_110 rfl (by decide) kc1 rfl ⟨by decide, by decide⟩ (by decide) rfl (Nat.le_of_ble_eq_true rfl) (fun σ6 => ?_)
    exact k_sub [0, 1] rfl (s_X1_pass_b93 hj hn hl hk he hro F  x1  σ6)
def f_X1_pass (F : Nat) (a1 : Int32) (σ : kS) : Option kR := kb (kU σ 6 0 6 ((σ.1 6 0 6) + (σ.1 35 0 0))) fun σ7 => if (σ7.1 6 0 6) < (σ7.1 35 0 1) then (f_X1_pass_b66 F a1 σ7) else (kb (kmax 0 ((σ7.1 6 0 8) - (σ7.1 35 0 3))) fun y9 => kb (kU σ7 6 0 8 y9) fun σ10 => kb (kmax 0 ((σ10.1 6 0 7) - (σ10.1 35 0 4))) fun y11 => kb (kU σ10 6 0 7 y11) fun σ12 => f_X1_pass_b66 F a1 σ12)
set_option maxRecDepth 20000 in
theorem c_X1_pass {l : Launch} {E : kE} (hj : kEj E) (hn : kNorm E) (hl : l.stackTraces = false) (F : Nat) (a1 : Int32)  (σ : kS) : kMet l E yX1_pass cX1_pass 2 none (3) (71) 0 id [.ref (kad E 6 0), .int a1] σ (f_X1_pass F a1 σ) := by
  refine k_met hj hn hl (by decide) (Nat.le_of_ble_eq_true rfl) (fun C Q hk he hro => ?_)
  have hk : kOk (C, E, Q) cX1_pass RX1 2 := hk
  show Sm (C, E, Q) 2 0 0 [(0, .ref (kad E 6 0)), (1, .int a1)] [] σ _
  unfold f_X1_pass
  refine k_aload_n hk dX1_pass_0 0 rfl ?_
  refine k_dup hk dX1_pass_1 rfl ?_
  refine k_getf (k := 6) hk dX1_pass_2 rfl (by decide) kc1 (by decide) fl_RX1_34 rfl ?_
  refine k_aload_n hk dX1_pass_5 0 rfl ?_
  refine k_getr (k := 0) 35 0 hk dX1_pass_6 rfl (by decide) kc1 (by decide) fl_RX1_9 rfl rfl ?_
  refine k_iconst (v := 0) hk dX1_pass_9 (by decide) ?_
  refine k_iald_k (kk := 0) hk dX1_pass_10 rfl (by decide) (by decide) (by decide) ?_
  refine k_iadd hk dX1_pass_11 ?_
  refine k_putf (k := 6) hk dX1_pass_12 rfl (by decide) kc1 (by decide) fl_RX1_34 rfl rfl rfl rfl (fun σ7 => ?_)
  refine k_aload_n hk dX1_pass_15 0 rfl ?_
  refine k_getf (k := 6) hk dX1_pass_16 rfl (by decide) kc1 (by decide) fl_RX1_34 rfl ?_
  refine k_aload_n hk dX1_pass_19 0 rfl ?_
  refine k_getr (k := 0) 35 0 hk dX1_pass_20 rfl (by decide) kc1 (by decide) fl_RX1_9 rfl rfl ?_
  refine k_iconst (v := 1) hk dX1_pass_23 (by decide) ?_
  refine k_iald_k (kk := 1) hk dX1_pass_24 rfl (by decide) (by decide) (by decide) ?_
  refine k_icmp_lt hk dX1_pass_25 66 (by decide) (fun h8 => ?_) (fun h8 => ?_)
  · exact k_sub [0, 1] rfl (s_X1_pass_b66 hj hn hl hk he hro F  a1  σ7)
  · refine k_aload_n hk dX1_pass_28 0 rfl ?_
    refine k_iconst (v := 0) hk dX1_pass_29 (by decide) ?_
    refine k_aload_n hk dX1_pass_30 0 rfl ?_
    refine k_getf (k := 8) hk dX1_pass_31 rfl (by decide) kc1 (by decide) fl_RX1_41 rfl ?_
    refine k_aload_n hk dX1_pass_34 0 rfl ?_
    refine k_getr (k := 0) 35 0 hk dX1_pass_35 rfl (by decide) kc1 (by decide) fl_RX1_9 rfl rfl ?_
    refine k_iconst (v := 3) hk dX1_pass_38 (by decide) ?_
    refine k_iald_k (kk := 3) hk dX1_pass_39 rfl (by decide) (by decide) (by decide) ?_
    refine k_isub hk dX1_pass_40 ?_
    refine k_mmax hk hro dX1_pass_41 cw_RX1_98 ⟨by decide, Nat.le_of_ble_eq_true rfl⟩ (by decide) (fun y9 => ?_)
    refine k_putf (k := 8) hk dX1_pass_44 rfl (by decide) kc1 (by decide) fl_RX1_41 rfl rfl rfl rfl (fun σ10 => ?_)
    refine k_aload_n hk dX1_pass_47 0 rfl ?_
    refine k_iconst (v := 0) hk dX1_pass_48 (by decide) ?_
    refine k_aload_n hk dX1_pass_49 0 rfl ?_
    refine k_getf (k := 7) hk dX1_pass_50 rfl (by decide) kc1 (by decide) fl_RX1_38 rfl ?_
    refine k_aload_n hk dX1_pass_53 0 rfl ?_
    refine k_getr (k := 0) 35 0 hk dX1_pass_54 rfl (by decide) kc1 (by decide) fl_RX1_9 rfl rfl ?_
    refine k_iconst (v := 4) hk dX1_pass_57 (by decide) ?_
    refine k_iald_k (kk := 4) hk dX1_pass_58 rfl (by decide) (by decide) (by decide) ?_
    refine k_isub hk dX1_pass_59 ?_
    refine k_mmax hk hro dX1_pass_60 cw_RX1_98 ⟨by decide, Nat.le_of_ble_eq_true rfl⟩ (by decide) (fun y11 => ?_)
    refine k_putf (k := 7) hk dX1_pass_63 rfl (by decide) kc1 (by decide) fl_RX1_38 rfl rfl rfl rfl (fun σ12 => ?_)
    exact k_sub [0, 1] rfl (s_X1_pass_b66 hj hn hl hk he hro F  a1  σ12)
def f_X1_lastedSoFar_b40 (F : Nat) (t0 : Int32) (σ : kS) : Option kR := some (.inl (some (.int t0)), σ)
set_option maxRecDepth 20000 in
theorem s_X1_lastedSoFar_b40 {l : Launch} {E : kE} (hj : kEj E) (hn : kNorm E) (hl : l.stackTraces = false) {C : kC} {Q : kR → State → Prop} (hk : kOk (C, E, Q) cX1_lastedSoFar RX1 1) (he : kEnd (C, E, Q) (some .int) id 0) (hro : kRo C l (0) (0) 0) (F : Nat) : ∀ (t0 : Int32)  (σ : kS), Sm (C, E, Q) 1 0 40 [] [.int t0] σ (f_X1_lastedSoFar_b40 F t0 σ) := by
  intro t0  σ
  unfold f_X1_lastedSoFar_b40
  exact k_ireturn hk he dX1_lastedSoFar_40 (by decide)
def f_X1_lastedSoFar_b27 (F : Nat)  (σ : kS) : Option kR := f_X1_lastedSoFar_b40 F (-1) σ
set_option maxRecDepth 20000 in
theorem s_X1_lastedSoFar_b27 {l : Launch} {E : kE} (hj : kEj E) (hn : kNorm E) (hl : l.stackTraces = false) {C : kC} {Q : kR → State → Prop} (hk : kOk (C, E, Q) cX1_lastedSoFar RX1 1) (he : kEnd (C, E, Q) (some .int) id 0) (hro : kRo C l (0) (0) 0) (F : Nat) : ∀   (σ : kS), Sm (C, E, Q) 1 0 27 [] [] σ (f_X1_lastedSoFar_b27 F  σ) := by
  intro   σ
  unfold f_X1_lastedSoFar_b27
  refine k_iconst (v := (-1)) hk dX1_lastedSoFar_27 (by decide) ?_
  refine k_goto hk dX1_lastedSoFar_28 40 (by decide) ?_
  exact k_sub [] rfl (s_X1_lastedSoFar_b40 hj hn hl hk he hro F  (-1)  σ)
def f_X1_lastedSoFar (F : Nat)  (σ : kS) : Option kR := if (σ.1 6 0 10) = (-1) then (f_X1_lastedSoFar_b27 F  σ) else (if (σ.1 6 0 12) = (-1) then (f_X1_lastedSoFar_b27 F  σ) else (if (σ.1 6 0 10) ≤ (σ.1 6 0 12) then (f_X1_lastedSoFar_b40 F ((σ.1 6 0 12) - (σ.1 6 0 10)) σ) else (f_X1_lastedSoFar_b27 F  σ)))
set_option maxRecDepth 20000 in
theorem c_X1_lastedSoFar {l : Launch} {E : kE} (hj : kEj E) (hn : kNorm E) (hl : l.stackTraces = false) (F : Nat)   (σ : kS) : kMet l E yX1_lastedSoFar cX1_lastedSoFar 1 (some .int) (0) (0) 0 id [.ref (kad E 6 0)] σ (f_X1_lastedSoFar F  σ) := by
  refine k_met hj hn hl (by decide) (Nat.le_of_ble_eq_true rfl) (fun C Q hk he hro => ?_)
  have hk : kOk (C, E, Q) cX1_lastedSoFar RX1 1 := hk
  show Sm (C, E, Q) 1 0 0 [(0, .ref (kad E 6 0))] [] σ _
  unfold f_X1_lastedSoFar
  refine k_aload_n hk dX1_lastedSoFar_0 0 rfl ?_
  refine k_getf (k := 10) hk dX1_lastedSoFar_1 rfl (by decide) kc1 (by decide) fl_RX1_47 rfl ?_
  refine k_iconst (v := (-1)) hk dX1_lastedSoFar_4 (by decide) ?_
  refine k_icmp_eq hk dX1_lastedSoFar_5 27 (by decide) (fun h1 => ?_) (fun h1 => ?_)
  · exact k_sub [] rfl (s_X1_lastedSoFar_b27 hj hn hl hk he hro F    σ)
  · refine k_aload_n hk dX1_lastedSoFar_8 0 rfl ?_
    refine k_getf (k := 12) hk dX1_lastedSoFar_9 rfl (by decide) kc1 (by decide) fl_RX1_53 rfl ?_
    refine k_iconst (v := (-1)) hk dX1_lastedSoFar_12 (by decide) ?_
    refine k_icmp_eq hk dX1_lastedSoFar_13 27 (by decide) (fun h2 => ?_) (fun h2 => ?_)
    · exact k_sub [] rfl (s_X1_lastedSoFar_b27 hj hn hl hk he hro F    σ)
    · refine k_aload_n hk dX1_lastedSoFar_16 0 rfl ?_
      refine k_getf (k := 12) hk dX1_lastedSoFar_17 rfl (by decide) kc1 (by decide) fl_RX1_53 rfl ?_
      refine k_aload_n hk dX1_lastedSoFar_20 0 rfl ?_
      refine k_getf (k := 10) hk dX1_lastedSoFar_21 rfl (by decide) kc1 (by decide) fl_RX1_47 rfl ?_
      refine k_icmp_ge hk dX1_lastedSoFar_24 31 (by decide) (fun h3 => ?_) (fun h3 => ?_)
      · refine k_aload_n hk dX1_lastedSoFar_31 0 rfl ?_
        refine k_getf (k := 12) hk dX1_lastedSoFar_32 rfl (by decide) kc1 (by decide) fl_RX1_53 rfl ?_
        refine k_aload_n hk dX1_lastedSoFar_35 0 rfl ?_
        refine k_getf (k := 10) hk dX1_lastedSoFar_36 rfl (by decide) kc1 (by decide) fl_RX1_47 rfl ?_
        refine k_isub hk dX1_lastedSoFar_39 ?_
        exact k_sub [] rfl (s_X1_lastedSoFar_b40 hj hn hl hk he hro F  ((σ.1 6 0 12) - (σ.1 6 0 10))  σ)
      · exact k_sub [] rfl (s_X1_lastedSoFar_b27 hj hn hl hk he hro F    σ)
def f_X1_lasts_b27 (F : Nat)  (σ : kS) : Option kR := kBi (f_X1_lastedSoFar F  σ) fun c2 σ1 => some (.inl (some (.int c2)), σ1)
set_option maxRecDepth 20000 in
theorem s_X1_lasts_b27 {l : Launch} {E : kE} (hj : kEj E) (hn : kNorm E) (hl : l.stackTraces = false) {C : kC} {Q : kR → State → Prop} (hk : kOk (C, E, Q) cX1_lasts RX1 2) (he : kEnd (C, E, Q) (some .int) id 0) (hro : kRo C l (4) (92) 0) (F : Nat) : ∀   (σ : kS), Sm (C, E, Q) 2 0 27 [(0, .ref (kad E 6 0))] [] σ (f_X1_lasts_b27 F  σ) := by
  intro   σ
  unfold f_X1_lasts_b27
  refine k_aload_n hk dX1_lasts_27 0 rfl ?_
  refine k_callVi (As := []) (rest := []) hk he hro (c_X1_lastedSoFar hj hn hl F   σ) dX1_lasts_28 cw_RX1_94 rfl (by decide) kc1 rfl ⟨by decide, by decide⟩ (by decide) rfl (Nat.le_of_ble_eq_true rfl) (fun c2 σ1 => ?_)
  exact k_ireturn hk he dX1_lasts_31 (by decide)
def f_X1_lasts_b2 (F : Nat) (rr2 : Int32 → kS → Option kR) (a : Int32) (σ : kS) : Option kR := match a with
  | x1 => if 100 ≤ x1 then (f_X1_lasts_b27 F  σ) else (if (σ.1 6 0 12) = (-1) then (kBv (f_X1_pass F x1 σ) fun σ5 => rr2 (x1 + 1) σ5) else (f_X1_lasts_b27 F  σ))
set_option maxRecDepth 20000 in
theorem s_X1_lasts_b2 {l : Launch} {E : kE} (hj : kEj E) (hn : kNorm E) (hl : l.stackTraces = false) {C : kC} {Q : kR → State → Prop} (hk : kOk (C, E, Q) cX1_lasts RX1 2) (he : kEnd (C, E, Q) (some .int) id 0) (hro : kRo C l (4) (92) 0) (F : Nat) : ∀ (N9 : Nat) (x1 : Int32)  (σ : kS), Sm (C, E, Q) 2 0 2 [(0, .ref (kad E 6 0)), (1, .int x1)] [] σ (kFix (f_X1_lasts_b2 F) N9 x1 σ) := by
  intro N9
  induction N9 with
  | zero => intro x1  σ; exact k_no
  | succ N9 ih =>
    intro x1  σ
    show Sm _ _ _ _ _ _ _ (f_X1_lasts_b2 F (kFix (f_X1_lasts_b2 F) N9) x1 σ)
    generalize kFix (f_X1_lasts_b2 F) N9 = rr2 at ih
    have hrr2 := ih
    unfold f_X1_lasts_b2
    dsimp only
    refine k_iload_n hk dX1_lasts_2 1 rfl ?_
    refine k_bipush (v := 100) hk dX1_lasts_3 (by decide) ?_
    refine k_icmp_ge hk dX1_lasts_5 27 (by decide) (fun h3 => ?_) (fun h3 => ?_)
    · exact k_sub [0] rfl (s_X1_lasts_b27 hj hn hl hk he hro F    σ)
    · refine k_aload_n hk dX1_lasts_8 0 rfl ?_
      refine k_getf (k := 12) hk dX1_lasts_9 rfl (by decide) kc1 (by decide) fl_RX1_53 rfl ?_
      refine k_iconst (v := (-1)) hk dX1_lasts_12 (by decide) ?_
      refine k_icmp_ne hk dX1_lasts_13 27 (by decide) (fun h4 => ?_) (fun h4 => ?_)
      · exact k_sub [0] rfl (s_X1_lasts_b27 hj hn hl hk he hro F    σ)
      · refine k_aload_n hk dX1_lasts_16 0 rfl ?_
        refine k_iload_n hk dX1_lasts_17 1 rfl ?_
        refine k_callVv (As := [.int x1]) (rest := []) hk he hro (c_X1_pass hj hn hl F x1  σ) dX1_lasts_18 cw_RX1_90 rfl (by decide) kc1 rfl ⟨by decide, by decide⟩ (by decide) rfl (Nat.le_of_ble_eq_true rfl) (fun σ5 => ?_)
        refine k_iinc (lv' := [(1, .int (x1 + 1)), (0, .ref (kad E 6 0))]) (j := 1) (y := x1 + 1) hk dX1_lasts_21 rfl rfl (by decide) rfl ?_
        refine k_goto hk dX1_lasts_24 2 (by decide) ?_
        exact k_sub [1, 0] rfl (hrr2 (x1 + 1)  σ5)
def f_X1_lasts (F : Nat)  (σ : kS) : Option kR := kFix (f_X1_lasts_b2 F) F 0 σ
set_option maxRecDepth 20000 in
theorem c_X1_lasts {l : Launch} {E : kE} (hj : kEj E) (hn : kNorm E) (hl : l.stackTraces = false) (F : Nat)   (σ : kS) : kMet l E yX1_lasts cX1_lasts 2 (some .int) (4) (92) 0 id [.ref (kad E 6 0)] σ (f_X1_lasts F  σ) := by
  refine k_met hj hn hl (by decide) (Nat.le_of_ble_eq_true rfl) (fun C Q hk he hro => ?_)
  have hk : kOk (C, E, Q) cX1_lasts RX1 2 := hk
  show Sm (C, E, Q) 2 0 0 [(0, .ref (kad E 6 0))] [] σ _
  unfold f_X1_lasts
  refine k_iconst (v := 0) hk dX1_lasts_0 (by decide) ?_
  refine k_istore_n (lv' := [(1, .int 0), (0, .ref (kad E 6 0))]) hk dX1_lasts_1 (by decide) rfl ?_
  exact k_sub [1, 0] rfl (s_X1_lasts_b2 hj hn hl hk he hro F F 0  σ)
def f_X1_burns_b40 (F : Nat) (t0 : Int32) (σ : kS) : Option kR := kg (narrow .boolean (.int t0) = .int t0) (some (.inl (some (.int t0)), σ))
set_option maxRecDepth 20000 in
theorem s_X1_burns_b40 {l : Launch} {E : kE} (hj : kEj E) (hn : kNorm E) (hl : l.stackTraces = false) {C : kC} {Q : kR → State → Prop} (hk : kOk (C, E, Q) cX1_burns RX1 2) (he : kEnd (C, E, Q) (some .boolean) id 0) (hro : kRo C l (4) (92) 0) (F : Nat) : ∀ (t0 : Int32)  (σ : kS), Sm (C, E, Q) 2 0 40 [] [.int t0] σ (f_X1_burns_b40 F t0 σ) := by
  intro t0  σ
  unfold f_X1_burns_b40
  exact k_zreturn hk he dX1_burns_40 (by decide)
def f_X1_burns_b27 (F : Nat)  (σ : kS) : Option kR := if (σ.1 6 0 10) = (-1) then (f_X1_burns_b40 F 0 σ) else (f_X1_burns_b40 F 1 σ)
set_option maxRecDepth 20000 in
theorem s_X1_burns_b27 {l : Launch} {E : kE} (hj : kEj E) (hn : kNorm E) (hl : l.stackTraces = false) {C : kC} {Q : kR → State → Prop} (hk : kOk (C, E, Q) cX1_burns RX1 2) (he : kEnd (C, E, Q) (some .boolean) id 0) (hro : kRo C l (4) (92) 0) (F : Nat) : ∀   (σ : kS), Sm (C, E, Q) 2 0 27 [(0, .ref (kad E 6 0))] [] σ (f_X1_burns_b27 F  σ) := by
  intro   σ
  unfold f_X1_burns_b27
  refine k_aload_n hk dX1_burns_27 0 rfl ?_
  refine k_getf (k := 10) hk dX1_burns_28 rfl (by decide) kc1 (by decide) fl_RX1_47 rfl ?_
  refine k_iconst (v := (-1)) hk dX1_burns_31 (by decide) ?_
  refine k_icmp_eq hk dX1_burns_32 39 (by decide) (fun h1 => ?_) (fun h1 => ?_)
  · refine k_iconst (v := 0) hk dX1_burns_39 (by decide) ?_
    exact k_sub [] rfl (s_X1_burns_b40 hj hn hl hk he hro F  0  σ)
  · refine k_iconst (v := 1) hk dX1_burns_35 (by decide) ?_
    refine k_goto hk dX1_burns_36 40 (by decide) ?_
    exact k_sub [] rfl (s_X1_burns_b40 hj hn hl hk he hro F  1  σ)
def f_X1_burns_b2 (F : Nat) (rr2 : Int32 → kS → Option kR) (a : Int32) (σ : kS) : Option kR := match a with
  | x1 => if 100 ≤ x1 then (f_X1_burns_b27 F  σ) else (if (σ.1 6 0 10) = (-1) then (kBv (f_X1_pass F x1 σ) fun σ4 => rr2 (x1 + 1) σ4) else (f_X1_burns_b27 F  σ))
set_option maxRecDepth 20000 in
theorem s_X1_burns_b2 {l : Launch} {E : kE} (hj : kEj E) (hn : kNorm E) (hl : l.stackTraces = false) {C : kC} {Q : kR → State → Prop} (hk : kOk (C, E, Q) cX1_burns RX1 2) (he : kEnd (C, E, Q) (some .boolean) id 0) (hro : kRo C l (4) (92) 0) (F : Nat) : ∀ (N9 : Nat) (x1 : Int32)  (σ : kS), Sm (C, E, Q) 2 0 2 [(0, .ref (kad E 6 0)), (1, .int x1)] [] σ (kFix (f_X1_burns_b2 F) N9 x1 σ) := by
  intro N9
  induction N9 with
  | zero => intro x1  σ; exact k_no
  | succ N9 ih =>
    intro x1  σ
    show Sm _ _ _ _ _ _ _ (f_X1_burns_b2 F (kFix (f_X1_burns_b2 F) N9) x1 σ)
    generalize kFix (f_X1_burns_b2 F) N9 = rr2 at ih
    have hrr2 := ih
    unfold f_X1_burns_b2
    dsimp only
    refine k_iload_n hk dX1_burns_2 1 rfl ?_
    refine k_bipush (v := 100) hk dX1_burns_3 (by decide) ?_
    refine k_icmp_ge hk dX1_burns_5 27 (by decide) (fun h2 => ?_) (fun h2 => ?_)
    · exact k_sub [0] rfl (s_X1_burns_b27 hj hn hl hk he hro F    σ)
    · refine k_aload_n hk dX1_burns_8 0 rfl ?_
      refine k_getf (k := 10) hk dX1_burns_9 rfl (by decide) kc1 (by decide) fl_RX1_47 rfl ?_
      refine k_iconst (v := (-1)) hk dX1_burns_12 (by decide) ?_
      refine k_icmp_ne hk dX1_burns_13 27 (by decide) (fun h3 => ?_) (fun h3 => ?_)
      · exact k_sub [0] rfl (s_X1_burns_b27 hj hn hl hk he hro F    σ)
      · refine k_aload_n hk dX1_burns_16 0 rfl ?_
        refine k_iload_n hk dX1_burns_17 1 rfl ?_
        refine k_callVv (As := [.int x1]) (rest := []) hk he hro (c_X1_pass hj hn hl F x1  σ) dX1_burns_18 cw_RX1_90 rfl (by decide) kc1 rfl ⟨by decide, by decide⟩ (by decide) rfl (Nat.le_of_ble_eq_true rfl) (fun σ4 => ?_)
        refine k_iinc (lv' := [(1, .int (x1 + 1)), (0, .ref (kad E 6 0))]) (j := 1) (y := x1 + 1) hk dX1_burns_21 rfl rfl (by decide) rfl ?_
        refine k_goto hk dX1_burns_24 2 (by decide) ?_
        exact k_sub [1, 0] rfl (hrr2 (x1 + 1)  σ4)
def f_X1_burns (F : Nat)  (σ : kS) : Option kR := kFix (f_X1_burns_b2 F) F 0 σ
set_option maxRecDepth 20000 in
theorem c_X1_burns {l : Launch} {E : kE} (hj : kEj E) (hn : kNorm E) (hl : l.stackTraces = false) (F : Nat)   (σ : kS) : kMet l E yX1_burns cX1_burns 2 (some .boolean) (4) (92) 0 id [.ref (kad E 6 0)] σ (f_X1_burns F  σ) := by
  refine k_met hj hn hl (by decide) (Nat.le_of_ble_eq_true rfl) (fun C Q hk he hro => ?_)
  have hk : kOk (C, E, Q) cX1_burns RX1 2 := hk
  show Sm (C, E, Q) 2 0 0 [(0, .ref (kad E 6 0))] [] σ _
  unfold f_X1_burns
  refine k_iconst (v := 0) hk dX1_burns_0 (by decide) ?_
  refine k_istore_n (lv' := [(1, .int 0), (0, .ref (kad E 6 0))]) hk dX1_burns_1 (by decide) rfl ?_
  exact k_sub [1, 0] rfl (s_X1_burns_b2 hj hn hl hk he hro F F 0  σ)
def f_X1_leadsFrom_b51 (F : Nat) (t0 : Int32) (σ : kS) : Option kR := some (.inl (some (.int t0)), σ)
set_option maxRecDepth 20000 in
theorem s_X1_leadsFrom_b51 {l : Launch} {E : kE} (hj : kEj E) (hn : kNorm E) (hl : l.stackTraces = false) {C : kC} {Q : kR → State → Prop} (hk : kOk (C, E, Q) cX1_leadsFrom RX1 1) (he : kEnd (C, E, Q) (some .int) id 0) (hro : kRo C l (1) (24) 0) (F : Nat) : ∀ (t0 : Int32)  (σ : kS), Sm (C, E, Q) 1 0 51 [] [.int t0] σ (f_X1_leadsFrom_b51 F t0 σ) := by
  intro t0  σ
  unfold f_X1_leadsFrom_b51
  exact k_ireturn hk he dX1_leadsFrom_51 (by decide)
def f_X1_leadsFrom (F : Nat)  (σ : kS) : Option kR := if (σ.1 35 0 0) < (σ.1 35 0 1) then (if 0 < (σ.1 35 0 0) then (kg (¬ (σ.1 35 0 0) = 0) (kb (kmin 100 (((σ.1 35 0 1) - 1) / (σ.1 35 0 0))) fun y3 => f_X1_leadsFrom_b51 F y3 σ)) else (f_X1_leadsFrom_b51 F 100 σ)) else (some (.inl (some (.int 0)), σ))
set_option maxRecDepth 20000 in
theorem c_X1_leadsFrom {l : Launch} {E : kE} (hj : kEj E) (hn : kNorm E) (hl : l.stackTraces = false) (F : Nat)   (σ : kS) : kMet l E yX1_leadsFrom cX1_leadsFrom 1 (some .int) (1) (24) 0 id [.ref (kad E 6 0)] σ (f_X1_leadsFrom F  σ) := by
  refine k_met hj hn hl (by decide) (Nat.le_of_ble_eq_true rfl) (fun C Q hk he hro => ?_)
  have hk : kOk (C, E, Q) cX1_leadsFrom RX1 1 := hk
  show Sm (C, E, Q) 1 0 0 [(0, .ref (kad E 6 0))] [] σ _
  unfold f_X1_leadsFrom
  refine k_aload_n hk dX1_leadsFrom_0 0 rfl ?_
  refine k_getr (k := 0) 35 0 hk dX1_leadsFrom_1 rfl (by decide) kc1 (by decide) fl_RX1_9 rfl rfl ?_
  refine k_iconst (v := 1) hk dX1_leadsFrom_4 (by decide) ?_
  refine k_iald_k (kk := 1) hk dX1_leadsFrom_5 rfl (by decide) (by decide) (by decide) ?_
  refine k_aload_n hk dX1_leadsFrom_6 0 rfl ?_
  refine k_getr (k := 0) 35 0 hk dX1_leadsFrom_7 rfl (by decide) kc1 (by decide) fl_RX1_9 rfl rfl ?_
  refine k_iconst (v := 0) hk dX1_leadsFrom_10 (by decide) ?_
  refine k_iald_k (kk := 0) hk dX1_leadsFrom_11 rfl (by decide) (by decide) (by decide) ?_
  refine k_icmp_gt hk dX1_leadsFrom_12 17 (by decide) (fun h1 => ?_) (fun h1 => ?_)
  · refine k_aload_n hk dX1_leadsFrom_17 0 rfl ?_
    refine k_getr (k := 0) 35 0 hk dX1_leadsFrom_18 rfl (by decide) kc1 (by decide) fl_RX1_9 rfl rfl ?_
    refine k_iconst (v := 0) hk dX1_leadsFrom_21 (by decide) ?_
    refine k_iald_k (kk := 0) hk dX1_leadsFrom_22 rfl (by decide) (by decide) (by decide) ?_
    refine k_if_gt hk dX1_leadsFrom_23 31 (by decide) (fun h2 => ?_) (fun h2 => ?_)
    · refine k_bipush (v := 100) hk dX1_leadsFrom_31 (by decide) ?_
      refine k_aload_n hk dX1_leadsFrom_33 0 rfl ?_
      refine k_getr (k := 0) 35 0 hk dX1_leadsFrom_34 rfl (by decide) kc1 (by decide) fl_RX1_9 rfl rfl ?_
      refine k_iconst (v := 1) hk dX1_leadsFrom_37 (by decide) ?_
      refine k_iald_k (kk := 1) hk dX1_leadsFrom_38 rfl (by decide) (by decide) (by decide) ?_
      refine k_iconst (v := 1) hk dX1_leadsFrom_39 (by decide) ?_
      refine k_isub hk dX1_leadsFrom_40 ?_
      refine k_aload_n hk dX1_leadsFrom_41 0 rfl ?_
      refine k_getr (k := 0) 35 0 hk dX1_leadsFrom_42 rfl (by decide) kc1 (by decide) fl_RX1_9 rfl rfl ?_
      refine k_iconst (v := 0) hk dX1_leadsFrom_45 (by decide) ?_
      refine k_iald_k (kk := 0) hk dX1_leadsFrom_46 rfl (by decide) (by decide) (by decide) ?_
      refine k_idiv hk dX1_leadsFrom_47 (fun _ => ?_)
      refine k_mmin hk hro dX1_leadsFrom_48 cw_RX1_84 ⟨by decide, Nat.le_of_ble_eq_true rfl⟩ (by decide) (fun y3 => ?_)
      exact k_sub [] rfl (s_X1_leadsFrom_b51 hj hn hl hk he hro F  y3  σ)
    · refine k_bipush (v := 100) hk dX1_leadsFrom_26 (by decide) ?_
      refine k_goto hk dX1_leadsFrom_28 51 (by decide) ?_
      exact k_sub [] rfl (s_X1_leadsFrom_b51 hj hn hl hk he hro F  100  σ)
  · refine k_iconst (v := 0) hk dX1_leadsFrom_15 (by decide) ?_
    exact k_ireturn hk he dX1_leadsFrom_16 (by decide)
def f_X1_load (F : Nat) (a1 : Nat) (σ : kS) : Option kR := kb (kCp σ 21 a1 35 0 0 10) fun σ1 => kb (kCp σ1 22 a1 36 0 0 8) fun σ2 => some (.inl none, σ2)
set_option maxRecDepth 20000 in
theorem c_X1_load {l : Launch} {E : kE} (hj : kEj E) (hn : kNorm E) (hl : l.stackTraces = false) (F : Nat) (a1 : Nat) (ha1 : a1 < kCnt 4) (σ : kS) : kMet l E yX1_load cX1_load 2 none (2) (60) 0 id [.ref (kad E 6 0), .ref (kad E 4 a1)] σ (f_X1_load F a1 σ) := by
  refine k_met hj hn hl (by decide) (Nat.le_of_ble_eq_true rfl) (fun C Q hk he hro => ?_)
  have hk : kOk (C, E, Q) cX1_load RX1 2 := hk
  show Sm (C, E, Q) 2 0 0 [(0, .ref (kad E 6 0)), (1, .ref (kad E 4 a1))] [] σ _
  unfold f_X1_load
  refine k_aload_n hk dX1_load_0 1 rfl ?_
  refine k_getr (k := 0) 21 a1 hk dX1_load_1 rfl ha1 kc2 (by decide) fl_RX1_56 rfl rfl ?_
  refine k_iconst (v := 0) hk dX1_load_4 (by decide) ?_
  refine k_aload_n hk dX1_load_5 0 rfl ?_
  refine k_getr (k := 0) 35 0 hk dX1_load_6 rfl (by decide) kc1 (by decide) fl_RX1_9 rfl rfl ?_
  refine k_iconst (v := 0) hk dX1_load_9 (by decide) ?_
  refine k_bipush (v := 10) hk dX1_load_10 (by decide) ?_
  refine k_copy_c (dpn := 0) (len := 10) hk hro dX1_load_12 ac_RX1_59 rfl rfl ha1 (by decide) (by decide) (by decide) (by decide) (by decide) (by decide) (by decide) ⟨by decide, Nat.le_of_ble_eq_true rfl⟩ (fun σ1 => ?_)
  refine k_aload_n hk dX1_load_15 1 rfl ?_
  refine k_getr (k := 1) 22 a1 hk dX1_load_16 rfl ha1 kc2 (by decide) fl_RX1_65 rfl rfl ?_
  refine k_iconst (v := 0) hk dX1_load_19 (by decide) ?_
  refine k_aload_n hk dX1_load_20 0 rfl ?_
  refine k_getr (k := 1) 36 0 hk dX1_load_21 rfl (by decide) kc1 (by decide) fl_RX1_15 rfl rfl ?_
  refine k_iconst (v := 0) hk dX1_load_24 (by decide) ?_
  refine k_bipush (v := 8) hk dX1_load_25 (by decide) ?_
  refine k_copy_c (dpn := 0) (len := 8) hk hro dX1_load_27 ac_RX1_59 rfl rfl ha1 (by decide) (by decide) (by decide) (by decide) (by decide) (by decide) (by decide) ⟨by decide, Nat.le_of_ble_eq_true rfl⟩ (fun σ2 => ?_)
  exact k_return hk he dX1_load_30 (by decide)
def f_X1_start_b55 (F : Nat) (rr7 : Int32 → kS → Option kR) (x2 : Int32) (σ : kS) : Option kR := rr7 (x2 + 1) σ
set_option maxRecDepth 20000 in
theorem s_X1_start_b55 {l : Launch} {E : kE} (hj : kEj E) (hn : kNorm E) (hl : l.stackTraces = false) {C : kC} {Q : kR → State → Prop} (hk : kOk (C, E, Q) cX1_start RX1 3) (he : kEnd (C, E, Q) none id 0) (hro : kRo C l (1) (23) 0) (F : Nat) (rr7 : Int32 → kS → Option kR) (hrr7 : ∀ (x2 : Int32)  (σ : kS), Sm (C, E, Q) 3 0 7 [(0, .ref (kad E 6 0)), (2, .int x2)] [] σ (rr7 x2 σ)) : ∀ (x2 : Int32)  (σ : kS), Sm (C, E, Q) 3 0 55 [(0, .ref (kad E 6 0)), (2, .int x2)] [] σ (f_X1_start_b55 F rr7 x2 σ) := by
  intro x2  σ
  unfold f_X1_start_b55
  refine k_iinc (lv' := [(2, .int (x2 + 1)), (0, .ref (kad E 6 0))]) (j := 1) (y := x2 + 1) hk dX1_start_55 rfl rfl (by decide) rfl ?_
  refine k_goto hk dX1_start_58 7 (by decide) ?_
  exact k_sub [1, 0] rfl (hrr7 (x2 + 1)  σ)
def f_X1_start_b7 (F : Nat) (rr7 : Int32 → kS → Option kR) (a : Int32) (σ : kS) : Option kR := match a with
  | x2 => kg ((σ.1 6 0 5).toNatClampNeg < kCnt 10) (kb (σ.1 6 0 5).toNatClampNeg fun j1 => if (σ.1 10 j1 0) ≤ x2 then (kb (kU σ 6 0 6 0) fun σ3 => kb (kU σ3 6 0 7 (σ3.1 35 0 2)) fun σ4 => kb (kU σ4 6 0 8 (σ4.1 35 0 2)) fun σ5 => kb (kU σ5 6 0 9 (σ5.1 35 0 9)) fun σ6 => kBv (f_J7_fill_F_mixed F 0 σ6) fun σ7 => kBv (f_J7_fill_F_began F (-1) σ7) fun σ8 => kb (kU σ8 6 0 10 (-1)) fun σ9 => kb (kU σ9 6 0 11 (-1)) fun σ10 => kb (kU σ10 6 0 12 (-1)) fun σ11 => some (.inl none, σ11)) else (kg ((σ.1 6 0 5).toNatClampNeg < kCnt 10) (kb (σ.1 6 0 5).toNatClampNeg fun j12 => kg (kin x2 14) (if (σ.1 11 j12 x2.toNatClampNeg) = (-19) then (kg ((σ.1 6 0 5).toNatClampNeg < kCnt 10) (kb (σ.1 6 0 5).toNatClampNeg fun j15 => kg (kin x2 14) (kg ((σ.1 6 0 5).toNatClampNeg < kCnt 10) (kb (σ.1 6 0 5).toNatClampNeg fun j17 => kg (kin x2 14) (kg (kin (σ.1 12 j15 x2.toNatClampNeg) 10) (kb (kU σ 35 0 (σ.1 12 j15 x2.toNatClampNeg).toNatClampNeg (σ.1 13 j17 x2.toNatClampNeg)) fun σ19 => f_X1_start_b55 F rr7 x2 σ19)))))) else (f_X1_start_b55 F rr7 x2 σ)))))
set_option maxRecDepth 20000 in
theorem s_X1_start_b7 {l : Launch} {E : kE} (hj : kEj E) (hn : kNorm E) (hl : l.stackTraces = false) {C : kC} {Q : kR → State → Prop} (hk : kOk (C, E, Q) cX1_start RX1 3) (he : kEnd (C, E, Q) none id 0) (hro : kRo C l (1) (23) 0) (F : Nat) : ∀ (N9 : Nat) (x2 : Int32)  (σ : kS), Sm (C, E, Q) 3 0 7 [(0, .ref (kad E 6 0)), (2, .int x2)] [] σ (kFix (f_X1_start_b7 F) N9 x2 σ) := by
  intro N9
  induction N9 with
  | zero => intro x2  σ; exact k_no
  | succ N9 ih =>
    intro x2  σ
    show Sm _ _ _ _ _ _ _ (f_X1_start_b7 F (kFix (f_X1_start_b7 F) N9) x2 σ)
    generalize kFix (f_X1_start_b7 F) N9 = rr7 at ih
    have hrr7 := ih
    unfold f_X1_start_b7
    dsimp only
    refine k_iload_n hk dX1_start_7 1 rfl ?_
    refine k_aload_n hk dX1_start_8 0 rfl ?_
    refine k_gets (k := 5) hk dX1_start_9 rfl (by decide) kc1 (by decide) fl_RX1_30 rfl (fun j1 hj1 => ?_)
    refine k_getf (k := 0) hk dX1_start_12 rfl hj1 kc4 (by decide) fl_RX1_66 rfl ?_
    refine k_icmp_ge hk dX1_start_15 61 (by decide) (fun h2 => ?_) (fun h2 => ?_)
    · refine k_aload_n hk dX1_start_61 0 rfl ?_
      refine k_iconst (v := 0) hk dX1_start_62 (by decide) ?_
      refine k_putf (k := 6) hk dX1_start_63 rfl (by decide) kc1 (by decide) fl_RX1_34 rfl rfl rfl rfl (fun σ3 => ?_)
      refine k_aload_n hk dX1_start_66 0 rfl ?_
      refine k_aload_n hk dX1_start_67 0 rfl ?_
      refine k_getr (k := 0) 35 0 hk dX1_start_68 rfl (by decide) kc1 (by decide) fl_RX1_9 rfl rfl ?_
      refine k_iconst (v := 2) hk dX1_start_71 (by decide) ?_
      refine k_iald_k (kk := 2) hk dX1_start_72 rfl (by decide) (by decide) (by decide) ?_
      refine k_putf (k := 7) hk dX1_start_73 rfl (by decide) kc1 (by decide) fl_RX1_38 rfl rfl rfl rfl (fun σ4 => ?_)
      refine k_aload_n hk dX1_start_76 0 rfl ?_
      refine k_aload_n hk dX1_start_77 0 rfl ?_
      refine k_getr (k := 0) 35 0 hk dX1_start_78 rfl (by decide) kc1 (by decide) fl_RX1_9 rfl rfl ?_
      refine k_iconst (v := 2) hk dX1_start_81 (by decide) ?_
      refine k_iald_k (kk := 2) hk dX1_start_82 rfl (by decide) (by decide) (by decide) ?_
      refine k_putf (k := 8) hk dX1_start_83 rfl (by decide) kc1 (by decide) fl_RX1_41 rfl rfl rfl rfl (fun σ5 => ?_)
      refine k_aload_n hk dX1_start_86 0 rfl ?_
      refine k_aload_n hk dX1_start_87 0 rfl ?_
      refine k_getr (k := 0) 35 0 hk dX1_start_88 rfl (by decide) kc1 (by decide) fl_RX1_9 rfl rfl ?_
      refine k_bipush (v := 9) hk dX1_start_91 (by decide) ?_
      refine k_iald_k (kk := 9) hk dX1_start_93 rfl (by decide) (by decide) (by decide) ?_
      refine k_putf (k := 9) hk dX1_start_94 rfl (by decide) kc1 (by decide) fl_RX1_44 rfl rfl rfl rfl (fun σ6 => ?_)
      refine k_aload_n hk dX1_start_97 0 rfl ?_
      refine k_getr (k := 2) 37 0 hk dX1_start_98 rfl (by decide) kc1 (by decide) fl_RX1_18 rfl rfl ?_
      refine k_iconst (v := 0) hk dX1_start_101 (by decide) ?_
      refine k_callSv (As := [.ref (kad E 37 0), .int 0]) (rest := []) hk he hro (c_J7_fill_F_mixed hj hn hl F 0  σ6) dX1_start_102 cw_RX1_78 ⟨by decide, by decide⟩ (by decide) rfl (Nat.le_of_ble_eq_true rfl) (fun σ7 => ?_)
      refine k_aload_n hk dX1_start_105 0 rfl ?_
      refine k_getr (k := 3) 38 0 hk dX1_start_106 rfl (by decide) kc1 (by decide) fl_RX1_21 rfl rfl ?_
      refine k_iconst (v := (-1)) hk dX1_start_109 (by decide) ?_
      refine k_callSv (As := [.ref (kad E 38 0), .int (-1)]) (rest := []) hk he hro (c_J7_fill_F_began hj hn hl F (-1)  σ7) dX1_start_110 cw_RX1_78 ⟨by decide, by decide⟩ (by decide) rfl (Nat.le_of_ble_eq_true rfl) (fun σ8 => ?_)
      refine k_aload_n hk dX1_start_113 0 rfl ?_
      refine k_iconst (v := (-1)) hk dX1_start_114 (by decide) ?_
      refine k_putf (k := 10) hk dX1_start_115 rfl (by decide) kc1 (by decide) fl_RX1_47 rfl rfl rfl rfl (fun σ9 => ?_)
      refine k_aload_n hk dX1_start_118 0 rfl ?_
      refine k_iconst (v := (-1)) hk dX1_start_119 (by decide) ?_
      refine k_putf (k := 11) hk dX1_start_120 rfl (by decide) kc1 (by decide) fl_RX1_50 rfl rfl rfl rfl (fun σ10 => ?_)
      refine k_aload_n hk dX1_start_123 0 rfl ?_
      refine k_iconst (v := (-1)) hk dX1_start_124 (by decide) ?_
      refine k_putf (k := 12) hk dX1_start_125 rfl (by decide) kc1 (by decide) fl_RX1_53 rfl rfl rfl rfl (fun σ11 => ?_)
      exact k_return hk he dX1_start_128 (by decide)
    · refine k_aload_n hk dX1_start_18 0 rfl ?_
      refine k_gets (k := 5) hk dX1_start_19 rfl (by decide) kc1 (by decide) fl_RX1_30 rfl (fun j12 hj12 => ?_)
      refine k_getr (k := 1) 11 j12 hk dX1_start_22 rfl hj12 kc4 (by decide) fl_RX1_69 rfl rfl ?_
      refine k_iload_n hk dX1_start_25 1 rfl ?_
      refine k_iald hk dX1_start_26 rfl hj12 (fun h13 => ?_)
      refine k_bipush (v := (-19)) hk dX1_start_27 (by decide) ?_
      refine k_icmp_ne hk dX1_start_29 55 (by decide) (fun h14 => ?_) (fun h14 => ?_)
      · exact k_sub [0, 1] rfl (s_X1_start_b55 hj hn hl hk he hro F rr7 hrr7  x2  σ)
      · refine k_aload_n hk dX1_start_32 0 rfl ?_
        refine k_getr (k := 0) 35 0 hk dX1_start_33 rfl (by decide) kc1 (by decide) fl_RX1_9 rfl rfl ?_
        refine k_aload_n hk dX1_start_36 0 rfl ?_
        refine k_gets (k := 5) hk dX1_start_37 rfl (by decide) kc1 (by decide) fl_RX1_30 rfl (fun j15 hj15 => ?_)
        refine k_getr (k := 2) 12 j15 hk dX1_start_40 rfl hj15 kc4 (by decide) fl_RX1_72 rfl rfl ?_
        refine k_iload_n hk dX1_start_43 1 rfl ?_
        refine k_iald hk dX1_start_44 rfl hj15 (fun h16 => ?_)
        refine k_aload_n hk dX1_start_45 0 rfl ?_
        refine k_gets (k := 5) hk dX1_start_46 rfl (by decide) kc1 (by decide) fl_RX1_30 rfl (fun j17 hj17 => ?_)
        refine k_getr (k := 3) 13 j17 hk dX1_start_49 rfl hj17 kc4 (by decide) fl_RX1_75 rfl rfl ?_
        refine k_iload_n hk dX1_start_52 1 rfl ?_
        refine k_iald hk dX1_start_53 rfl hj17 (fun h18 => ?_)
        refine k_iast hk dX1_start_54 rfl (by decide) (fun h20 σ19 => ?_)
        exact k_sub [0, 1] rfl (s_X1_start_b55 hj hn hl hk he hro F rr7 hrr7  x2  σ19)
def f_X1_start (F : Nat) (a1 : Nat) (σ : kS) : Option kR := kb (kU σ 6 0 5 (nI a1)) fun σ21 => kFix (f_X1_start_b7 F) F 0 σ21
set_option maxRecDepth 20000 in
theorem c_X1_start {l : Launch} {E : kE} (hj : kEj E) (hn : kNorm E) (hl : l.stackTraces = false) (F : Nat) (a1 : Nat) (ha1 : a1 < kCnt 10) (σ : kS) : kMet l E yX1_start cX1_start 3 none (1) (23) 0 id [.ref (kad E 6 0), .ref (kad E 10 a1)] σ (f_X1_start F a1 σ) := by
  refine k_met hj hn hl (by decide) (Nat.le_of_ble_eq_true rfl) (fun C Q hk he hro => ?_)
  have hk : kOk (C, E, Q) cX1_start RX1 3 := hk
  show Sm (C, E, Q) 3 0 0 [(0, .ref (kad E 6 0)), (1, .ref (kad E 10 a1))] [] σ _
  unfold f_X1_start
  refine k_aload_n hk dX1_start_0 0 rfl ?_
  refine k_aload_n hk dX1_start_1 1 rfl ?_
  refine k_puts (k := 5) hk dX1_start_2 rfl (by decide) kc1 (by decide) fl_RX1_30 rfl (fun _ => rfl) (fun _ => rfl) rfl (Nat.lt_of_lt_of_le ha1 (by decide)) (fun σ21 => ?_)
  refine k_iconst (v := 0) hk dX1_start_5 (by decide) ?_
  refine k_istore_n (lv' := [(2, .int 0), (0, .ref (kad E 6 0)), (1, .ref (kad E 10 a1))]) hk dX1_start_6 (by decide) rfl ?_
  exact k_sub [1, 0] rfl (s_X1_start_b7 hj hn hl hk he hro F F 0  σ21)
def f_X0_keep (F : Nat) (a0 : Nat) (a2 : Int32) (σ : kS) : Option kR := kg (kin a2 100) (kb (kU σ 41 a0 a2.toNatClampNeg (σ.1 6 0 6)) fun σ1 => kg (kin a2 100) (kb (kU σ1 42 a0 a2.toNatClampNeg (σ1.1 6 0 7)) fun σ3 => kg (kin a2 100) (kb (kU σ3 43 a0 a2.toNatClampNeg (σ3.1 6 0 8)) fun σ5 => kg (kin a2 100) (kb (kU σ5 44 a0 a2.toNatClampNeg (σ5.1 6 0 9)) fun σ7 => kg (kin (a2 * 8) (800 + 1 - 8)) (kb (kCp σ7 36 0 45 a0 (a2 * 8).toNatClampNeg 8) fun σ9 => kg (kin (a2 * 8) (800 + 1 - 8)) (kb (kCp σ9 37 0 46 a0 (a2 * 8).toNatClampNeg 8) fun σ10 => some (.inl none, σ10)))))))
set_option maxRecDepth 20000 in
theorem c_X0_keep {l : Launch} {E : kE} (hj : kEj E) (hn : kNorm E) (hl : l.stackTraces = false) (F : Nat) (a0 : Nat) (a2 : Int32) (ha0 : a0 < kCnt 40) (σ : kS) : kMet l E yX0_keep cX0_keep 3 none (2) (60) 0 id [.ref (kad E 40 a0), .ref (kad E 6 0), .int a2] σ (f_X0_keep F a0 a2 σ) := by
  refine k_met hj hn hl (by decide) (Nat.le_of_ble_eq_true rfl) (fun C Q hk he hro => ?_)
  have hk : kOk (C, E, Q) cX0_keep RX0 3 := hk
  show Sm (C, E, Q) 3 0 0 [(0, .ref (kad E 40 a0)), (1, .ref (kad E 6 0)), (2, .int a2)] [] σ _
  unfold f_X0_keep
  refine k_aload_n hk dX0_keep_0 0 rfl ?_
  refine k_getr (k := 1) 41 a0 hk dX0_keep_1 rfl ha0 kc0 (by decide) fl_RX0_15 rfl rfl ?_
  refine k_iload_n hk dX0_keep_4 2 rfl ?_
  refine k_aload_n hk dX0_keep_5 1 rfl ?_
  refine k_getf (k := 6) hk dX0_keep_6 rfl (by decide) kc1 (by decide) fl_RX0_50 rfl ?_
  refine k_iast hk dX0_keep_9 rfl ha0 (fun h2 σ1 => ?_)
  refine k_aload_n hk dX0_keep_10 0 rfl ?_
  refine k_getr (k := 2) 42 a0 hk dX0_keep_11 rfl ha0 kc0 (by decide) fl_RX0_19 rfl rfl ?_
  refine k_iload_n hk dX0_keep_14 2 rfl ?_
  refine k_aload_n hk dX0_keep_15 1 rfl ?_
  refine k_getf (k := 7) hk dX0_keep_16 rfl (by decide) kc1 (by decide) fl_RX0_54 rfl ?_
  refine k_iast hk dX0_keep_19 rfl ha0 (fun h4 σ3 => ?_)
  refine k_aload_n hk dX0_keep_20 0 rfl ?_
  refine k_getr (k := 3) 43 a0 hk dX0_keep_21 rfl ha0 kc0 (by decide) fl_RX0_22 rfl rfl ?_
  refine k_iload_n hk dX0_keep_24 2 rfl ?_
  refine k_aload_n hk dX0_keep_25 1 rfl ?_
  refine k_getf (k := 8) hk dX0_keep_26 rfl (by decide) kc1 (by decide) fl_RX0_56 rfl ?_
  refine k_iast hk dX0_keep_29 rfl ha0 (fun h6 σ5 => ?_)
  refine k_aload_n hk dX0_keep_30 0 rfl ?_
  refine k_getr (k := 4) 44 a0 hk dX0_keep_31 rfl ha0 kc0 (by decide) fl_RX0_25 rfl rfl ?_
  refine k_iload_n hk dX0_keep_34 2 rfl ?_
  refine k_aload_n hk dX0_keep_35 1 rfl ?_
  refine k_getf (k := 9) hk dX0_keep_36 rfl (by decide) kc1 (by decide) fl_RX0_58 rfl ?_
  refine k_iast hk dX0_keep_39 rfl ha0 (fun h8 σ7 => ?_)
  refine k_aload_n hk dX0_keep_40 1 rfl ?_
  refine k_getr (k := 1) 36 0 hk dX0_keep_41 rfl (by decide) kc1 (by decide) fl_RX0_60 rfl rfl ?_
  refine k_iconst (v := 0) hk dX0_keep_44 (by decide) ?_
  refine k_aload_n hk dX0_keep_45 0 rfl ?_
  refine k_getr (k := 5) 45 a0 hk dX0_keep_46 rfl ha0 kc0 (by decide) fl_RX0_28 rfl rfl ?_
  refine k_iload_n hk dX0_keep_49 2 rfl ?_
  refine k_bipush (v := 8) hk dX0_keep_50 (by decide) ?_
  refine k_imul hk dX0_keep_52 ?_
  refine k_bipush (v := 8) hk dX0_keep_53 (by decide) ?_
  refine k_copy (len := 8) hk hro dX0_keep_55 ac_RX0_61 rfl rfl (by decide) ha0 (by decide) (by decide) (by decide) (by decide) ⟨by decide, Nat.le_of_ble_eq_true rfl⟩ (fun σ9 => ?_)
  refine k_aload_n hk dX0_keep_58 1 rfl ?_
  refine k_getr (k := 2) 37 0 hk dX0_keep_59 rfl (by decide) kc1 (by decide) fl_RX0_67 rfl rfl ?_
  refine k_iconst (v := 0) hk dX0_keep_62 (by decide) ?_
  refine k_aload_n hk dX0_keep_63 0 rfl ?_
  refine k_getr (k := 6) 46 a0 hk dX0_keep_64 rfl ha0 kc0 (by decide) fl_RX0_31 rfl rfl ?_
  refine k_iload_n hk dX0_keep_67 2 rfl ?_
  refine k_bipush (v := 8) hk dX0_keep_68 (by decide) ?_
  refine k_imul hk dX0_keep_70 ?_
  refine k_bipush (v := 8) hk dX0_keep_71 (by decide) ?_
  refine k_copy (len := 8) hk hro dX0_keep_73 ac_RX0_61 rfl rfl (by decide) ha0 (by decide) (by decide) (by decide) (by decide) ⟨by decide, Nat.le_of_ble_eq_true rfl⟩ (fun σ10 => ?_)
  exact k_return hk he dX0_keep_76 (by decide)
def f_X0_end (F : Nat) (a0 : Nat) (σ : kS) : Option kR := kb (kCp σ 38 0 47 a0 0 8) fun σ1 => kb (kU σ1 40 a0 8 (σ1.1 6 0 10)) fun σ2 => kb (kU σ2 40 a0 9 (σ2.1 6 0 11)) fun σ3 => kb (kU σ3 40 a0 10 (σ3.1 6 0 12)) fun σ4 => kBi (f_X1_lastedSoFar F  σ4) fun c6 σ5 => kb (kU σ5 40 a0 11 c6) fun σ7 => kb (kU σ7 40 a0 0 1) fun σ8 => some (.inl none, σ8)
set_option maxRecDepth 20000 in
theorem c_X0_end {l : Launch} {E : kE} (hj : kEj E) (hn : kNorm E) (hl : l.stackTraces = false) (F : Nat) (a0 : Nat) (ha0 : a0 < kCnt 40) (σ : kS) : kMet l E yX0_end cX0_end 2 none (2) (60) 0 id [.ref (kad E 40 a0), .ref (kad E 6 0)] σ (f_X0_end F a0 σ) := by
  refine k_met hj hn hl (by decide) (Nat.le_of_ble_eq_true rfl) (fun C Q hk he hro => ?_)
  have hk : kOk (C, E, Q) cX0_end RX0 2 := hk
  show Sm (C, E, Q) 2 0 0 [(0, .ref (kad E 40 a0)), (1, .ref (kad E 6 0))] [] σ _
  unfold f_X0_end
  refine k_aload_n hk dX0_end_0 1 rfl ?_
  refine k_getr (k := 3) 38 0 hk dX0_end_1 rfl (by decide) kc1 (by decide) fl_RX0_68 rfl rfl ?_
  refine k_iconst (v := 0) hk dX0_end_4 (by decide) ?_
  refine k_aload_n hk dX0_end_5 0 rfl ?_
  refine k_getr (k := 7) 47 a0 hk dX0_end_6 rfl ha0 kc0 (by decide) fl_RX0_34 rfl rfl ?_
  refine k_iconst (v := 0) hk dX0_end_9 (by decide) ?_
  refine k_bipush (v := 8) hk dX0_end_10 (by decide) ?_
  refine k_copy_c (dpn := 0) (len := 8) hk hro dX0_end_12 ac_RX0_61 rfl rfl (by decide) ha0 (by decide) (by decide) (by decide) (by decide) (by decide) (by decide) ⟨by decide, Nat.le_of_ble_eq_true rfl⟩ (fun σ1 => ?_)
  refine k_aload_n hk dX0_end_15 0 rfl ?_
  refine k_aload_n hk dX0_end_16 1 rfl ?_
  refine k_getf (k := 10) hk dX0_end_17 rfl (by decide) kc1 (by decide) fl_RX0_69 rfl ?_
  refine k_putf (k := 8) hk dX0_end_20 rfl ha0 kc0 (by decide) fl_RX0_37 rfl rfl rfl rfl (fun σ2 => ?_)
  refine k_aload_n hk dX0_end_23 0 rfl ?_
  refine k_aload_n hk dX0_end_24 1 rfl ?_
  refine k_getf (k := 11) hk dX0_end_25 rfl (by decide) kc1 (by decide) fl_RX0_70 rfl ?_
  refine k_putf (k := 9) hk dX0_end_28 rfl ha0 kc0 (by decide) fl_RX0_41 rfl rfl rfl rfl (fun σ3 => ?_)
  refine k_aload_n hk dX0_end_31 0 rfl ?_
  refine k_aload_n hk dX0_end_32 1 rfl ?_
  refine k_getf (k := 12) hk dX0_end_33 rfl (by decide) kc1 (by decide) fl_RX0_71 rfl ?_
  refine k_putf (k := 10) hk dX0_end_36 rfl ha0 kc0 (by decide) fl_RX0_44 rfl rfl rfl rfl (fun σ4 => ?_)
  refine k_aload_n hk dX0_end_39 0 rfl ?_
  refine k_aload_n hk dX0_end_40 1 rfl ?_
  refine k_callVi (As := []) (rest := [.ref (kad E 40 a0)]) hk he hro (c_X1_lastedSoFar hj hn hl F   σ4) dX0_end_41 cw_RX0_72 rfl (by decide) kc1 rfl ⟨by decide, by decide⟩ (by decide) rfl (Nat.le_of_ble_eq_true rfl) (fun c6 σ5 => ?_)
  refine k_putf (k := 11) hk dX0_end_44 rfl ha0 kc0 (by decide) fl_RX0_47 rfl rfl rfl rfl (fun σ7 => ?_)
  refine k_aload_n hk dX0_end_47 0 rfl ?_
  refine k_iconst (v := 1) hk dX0_end_48 (by decide) ?_
  refine k_putf (k := 0) hk dX0_end_49 rfl ha0 kc0 (by decide) fl_RX0_9 rfl rfl rfl rfl (fun σ8 => ?_)
  exact k_return hk he dX0_end_52 (by decide)
def f_X0_gapAt (F : Nat) (a0 : Nat) (a1 : Int32) (σ : kS) : Option kR := kg (kin a1 100) (kg (kin a1 100) (some (.inl (some (.int ((σ.1 42 a0 a1.toNatClampNeg) - (σ.1 43 a0 a1.toNatClampNeg)))), σ)))
set_option maxRecDepth 20000 in
theorem c_X0_gapAt {l : Launch} {E : kE} (hj : kEj E) (hn : kNorm E) (hl : l.stackTraces = false) (F : Nat) (a0 : Nat) (a1 : Int32) (ha0 : a0 < kCnt 40) (σ : kS) : kMet l E yX0_gapAt cX0_gapAt 2 (some .int) (0) (0) 0 id [.ref (kad E 40 a0), .int a1] σ (f_X0_gapAt F a0 a1 σ) := by
  refine k_met hj hn hl (by decide) (Nat.le_of_ble_eq_true rfl) (fun C Q hk he hro => ?_)
  have hk : kOk (C, E, Q) cX0_gapAt RX0 2 := hk
  show Sm (C, E, Q) 2 0 0 [(0, .ref (kad E 40 a0)), (1, .int a1)] [] σ _
  unfold f_X0_gapAt
  refine k_aload_n hk dX0_gapAt_0 0 rfl ?_
  refine k_getr (k := 2) 42 a0 hk dX0_gapAt_1 rfl ha0 kc0 (by decide) fl_RX0_19 rfl rfl ?_
  refine k_iload_n hk dX0_gapAt_4 1 rfl ?_
  refine k_iald hk dX0_gapAt_5 rfl ha0 (fun h1 => ?_)
  refine k_aload_n hk dX0_gapAt_6 0 rfl ?_
  refine k_getr (k := 3) 43 a0 hk dX0_gapAt_7 rfl ha0 kc0 (by decide) fl_RX0_22 rfl rfl ?_
  refine k_iload_n hk dX0_gapAt_10 1 rfl ?_
  refine k_iald hk dX0_gapAt_11 rfl ha0 (fun h2 => ?_)
  refine k_isub hk dX0_gapAt_12 ?_
  exact k_ireturn hk he dX0_gapAt_13 (by decide)
def f_X0_allGasAt_b4 (F : Nat) (rr4 : (Nat × Int32 × Int32 × Int32) → kS → Option kR) (a : (Nat × Int32 × Int32 × Int32)) (σ : kS) : Option kR := match a with
  | (x0, x1, x2, x3) => if 8 ≤ x3 then (some (.inl (some (.int x2)), σ)) else (kg (kin ((x1 * 8) + x3) 800) (kb (x2 + (σ.1 45 x0 ((x1 * 8) + x3).toNatClampNeg)) fun y3 => rr4 (x0, x1, y3, x3 + 1) σ))
set_option maxRecDepth 20000 in
theorem s_X0_allGasAt_b4 {l : Launch} {E : kE} (hj : kEj E) (hn : kNorm E) (hl : l.stackTraces = false) {C : kC} {Q : kR → State → Prop} (hk : kOk (C, E, Q) cX0_allGasAt RX0 4) (he : kEnd (C, E, Q) (some .int) id 0) (hro : kRo C l (0) (0) 0) (F : Nat) : ∀ (N9 : Nat) (x0 : Nat) (x1 : Int32) (x2 : Int32) (x3 : Int32) (hx0 : x0 < kCnt 40) (σ : kS), Sm (C, E, Q) 4 0 4 [(0, .ref (kad E 40 x0)), (1, .int x1), (2, .int x2), (3, .int x3)] [] σ (kFix (f_X0_allGasAt_b4 F) N9 (x0, x1, x2, x3) σ) := by
  intro N9
  induction N9 with
  | zero => intro x0 x1 x2 x3 hx0 σ; exact k_no
  | succ N9 ih =>
    intro x0 x1 x2 x3 hx0 σ
    show Sm _ _ _ _ _ _ _ (f_X0_allGasAt_b4 F (kFix (f_X0_allGasAt_b4 F) N9) (x0, x1, x2, x3) σ)
    generalize kFix (f_X0_allGasAt_b4 F) N9 = rr4 at ih
    have hrr4 := ih
    unfold f_X0_allGasAt_b4
    dsimp only
    refine k_iload_n hk dX0_allGasAt_4 3 rfl ?_
    refine k_bipush (v := 8) hk dX0_allGasAt_5 (by decide) ?_
    refine k_icmp_ge hk dX0_allGasAt_7 30 (by decide) (fun h1 => ?_) (fun h1 => ?_)
    · refine k_iload_n hk dX0_allGasAt_30 2 rfl ?_
      exact k_ireturn hk he dX0_allGasAt_31 (by decide)
    · refine k_iload_n hk dX0_allGasAt_10 2 rfl ?_
      refine k_aload_n hk dX0_allGasAt_11 0 rfl ?_
      refine k_getr (k := 5) 45 x0 hk dX0_allGasAt_12 rfl hx0 kc0 (by decide) fl_RX0_28 rfl rfl ?_
      refine k_iload_n hk dX0_allGasAt_15 1 rfl ?_
      refine k_bipush (v := 8) hk dX0_allGasAt_16 (by decide) ?_
      refine k_imul hk dX0_allGasAt_18 ?_
      refine k_iload_n hk dX0_allGasAt_19 3 rfl ?_
      refine k_iadd hk dX0_allGasAt_20 ?_
      refine k_iald hk dX0_allGasAt_21 rfl hx0 (fun h2 => ?_)
      refine k_iadd hk dX0_allGasAt_22 ?_
      refine k_nm (fun y3 => ?_)
      refine k_istore_n (lv' := [(2, .int y3), (0, .ref (kad E 40 x0)), (1, .int x1), (3, .int x3)]) hk dX0_allGasAt_23 (by decide) rfl ?_
      refine k_iinc (lv' := [(3, .int (x3 + 1)), (2, .int y3), (0, .ref (kad E 40 x0)), (1, .int x1)]) (j := 3) (y := x3 + 1) hk dX0_allGasAt_24 rfl rfl (by decide) rfl ?_
      refine k_goto hk dX0_allGasAt_27 4 (by decide) ?_
      exact k_sub [2, 3, 1, 0] rfl (hrr4 x0 x1 y3 (x3 + 1) hx0 σ)
def f_X0_allGasAt (F : Nat) (a0 : Nat) (a1 : Int32) (σ : kS) : Option kR := kFix (f_X0_allGasAt_b4 F) F (a0, a1, 0, 0) σ
set_option maxRecDepth 20000 in
theorem c_X0_allGasAt {l : Launch} {E : kE} (hj : kEj E) (hn : kNorm E) (hl : l.stackTraces = false) (F : Nat) (a0 : Nat) (a1 : Int32) (ha0 : a0 < kCnt 40) (σ : kS) : kMet l E yX0_allGasAt cX0_allGasAt 4 (some .int) (0) (0) 0 id [.ref (kad E 40 a0), .int a1] σ (f_X0_allGasAt F a0 a1 σ) := by
  refine k_met hj hn hl (by decide) (Nat.le_of_ble_eq_true rfl) (fun C Q hk he hro => ?_)
  have hk : kOk (C, E, Q) cX0_allGasAt RX0 4 := hk
  show Sm (C, E, Q) 4 0 0 [(0, .ref (kad E 40 a0)), (1, .int a1)] [] σ _
  unfold f_X0_allGasAt
  refine k_iconst (v := 0) hk dX0_allGasAt_0 (by decide) ?_
  refine k_istore_n (lv' := [(2, .int 0), (0, .ref (kad E 40 a0)), (1, .int a1)]) hk dX0_allGasAt_1 (by decide) rfl ?_
  refine k_iconst (v := 0) hk dX0_allGasAt_2 (by decide) ?_
  refine k_istore_n (lv' := [(3, .int 0), (2, .int 0), (0, .ref (kad E 40 a0)), (1, .int a1)]) hk dX0_allGasAt_3 (by decide) rfl ?_
  exact k_sub [2, 3, 1, 0] rfl (s_X0_allGasAt_b4 hj hn hl hk he hro F F a0 a1 0 0 ha0 σ)
def f_X0_heavyAt_b37 (F : Nat) (rr4 : (Nat × Int32 × Int32 × Int32) → kS → Option kR) (x0 : Nat) (x1 : Int32) (x3 : Int32) (t0 : Int32) (t1 : Int32) (σ : kS) : Option kR := kb (t0 + t1) fun y1 => rr4 (x0, x1, y1, x3 + 1) σ
set_option maxRecDepth 20000 in
theorem s_X0_heavyAt_b37 {l : Launch} {E : kE} (hj : kEj E) (hn : kNorm E) (hl : l.stackTraces = false) {C : kC} {Q : kR → State → Prop} (hk : kOk (C, E, Q) cX0_heavyAt RX0 5) (he : kEnd (C, E, Q) (some .int) id 0) (hro : kRo C l (0) (0) 0) (F : Nat) (rr4 : (Nat × Int32 × Int32 × Int32) → kS → Option kR) (hrr4 : ∀ (x0 : Nat) (x1 : Int32) (x2 : Int32) (x3 : Int32) (hx0 : x0 < kCnt 40) (σ : kS), Sm (C, E, Q) 5 0 4 [(0, .ref (kad E 40 x0)), (1, .int x1), (2, .int x2), (3, .int x3)] [] σ (rr4 (x0, x1, x2, x3) σ)) : ∀ (x0 : Nat) (x1 : Int32) (x3 : Int32) (t0 : Int32) (t1 : Int32) (hx0 : x0 < kCnt 40) (σ : kS), Sm (C, E, Q) 5 0 37 [(0, .ref (kad E 40 x0)), (1, .int x1), (3, .int x3)] [.int t1, .int t0] σ (f_X0_heavyAt_b37 F rr4 x0 x1 x3 t0 t1 σ) := by
  intro x0 x1 x3 t0 t1 hx0 σ
  unfold f_X0_heavyAt_b37
  refine k_iadd hk dX0_heavyAt_37 ?_
  refine k_nm (fun y1 => ?_)
  refine k_istore_n (lv' := [(2, .int y1), (0, .ref (kad E 40 x0)), (1, .int x1), (3, .int x3)]) hk dX0_heavyAt_38 (by decide) rfl ?_
  refine k_iinc (lv' := [(3, .int (x3 + 1)), (2, .int y1), (0, .ref (kad E 40 x0)), (1, .int x1)]) (j := 3) (y := x3 + 1) hk dX0_heavyAt_39 rfl rfl (by decide) rfl ?_
  refine k_goto hk dX0_heavyAt_42 4 (by decide) ?_
  exact k_sub [2, 3, 1, 0] rfl (hrr4 x0 x1 y1 (x3 + 1) hx0 σ)
def f_X0_heavyAt_b4 (F : Nat) (rr4 : (Nat × Int32 × Int32 × Int32) → kS → Option kR) (a : (Nat × Int32 × Int32 × Int32)) (σ : kS) : Option kR := match a with
  | (x0, x1, x2, x3) => if 8 ≤ x3 then (some (.inl (some (.int x2)), σ)) else (kg (kin ((x1 * 8) + x3) 800) (kb (σ.1 45 x0 ((x1 * 8) + x3).toNatClampNeg) fun y4 => if 4 ≤ x3 then (f_X0_heavyAt_b37 F rr4 x0 x1 x3 x2 (-y4) σ) else (f_X0_heavyAt_b37 F rr4 x0 x1 x3 x2 y4 σ)))
set_option maxRecDepth 20000 in
theorem s_X0_heavyAt_b4 {l : Launch} {E : kE} (hj : kEj E) (hn : kNorm E) (hl : l.stackTraces = false) {C : kC} {Q : kR → State → Prop} (hk : kOk (C, E, Q) cX0_heavyAt RX0 5) (he : kEnd (C, E, Q) (some .int) id 0) (hro : kRo C l (0) (0) 0) (F : Nat) : ∀ (N9 : Nat) (x0 : Nat) (x1 : Int32) (x2 : Int32) (x3 : Int32) (hx0 : x0 < kCnt 40) (σ : kS), Sm (C, E, Q) 5 0 4 [(0, .ref (kad E 40 x0)), (1, .int x1), (2, .int x2), (3, .int x3)] [] σ (kFix (f_X0_heavyAt_b4 F) N9 (x0, x1, x2, x3) σ) := by
  intro N9
  induction N9 with
  | zero => intro x0 x1 x2 x3 hx0 σ; exact k_no
  | succ N9 ih =>
    intro x0 x1 x2 x3 hx0 σ
    show Sm _ _ _ _ _ _ _ (f_X0_heavyAt_b4 F (kFix (f_X0_heavyAt_b4 F) N9) (x0, x1, x2, x3) σ)
    generalize kFix (f_X0_heavyAt_b4 F) N9 = rr4 at ih
    have hrr4 := ih
    unfold f_X0_heavyAt_b4
    dsimp only
    refine k_iload_n hk dX0_heavyAt_4 3 rfl ?_
    refine k_bipush (v := 8) hk dX0_heavyAt_5 (by decide) ?_
    refine k_icmp_ge hk dX0_heavyAt_7 45 (by decide) (fun h2 => ?_) (fun h2 => ?_)
    · refine k_iload_n hk dX0_heavyAt_45 2 rfl ?_
      exact k_ireturn hk he dX0_heavyAt_46 (by decide)
    · refine k_aload_n hk dX0_heavyAt_10 0 rfl ?_
      refine k_getr (k := 5) 45 x0 hk dX0_heavyAt_11 rfl hx0 kc0 (by decide) fl_RX0_28 rfl rfl ?_
      refine k_iload_n hk dX0_heavyAt_14 1 rfl ?_
      refine k_bipush (v := 8) hk dX0_heavyAt_15 (by decide) ?_
      refine k_imul hk dX0_heavyAt_17 ?_
      refine k_iload_n hk dX0_heavyAt_18 3 rfl ?_
      refine k_iadd hk dX0_heavyAt_19 ?_
      refine k_iald hk dX0_heavyAt_20 rfl hx0 (fun h3 => ?_)
      refine k_nm (fun y4 => ?_)
      refine k_istore (lv' := [(4, .int y4), (0, .ref (kad E 40 x0)), (1, .int x1), (2, .int x2), (3, .int x3)]) hk dX0_heavyAt_21 (by decide) rfl ?_
      refine k_iload_n hk dX0_heavyAt_23 3 rfl ?_
      refine k_iload_n hk dX0_heavyAt_24 4 rfl ?_
      refine k_iconst (v := 4) hk dX0_heavyAt_25 (by decide) ?_
      refine k_icmp_ge hk dX0_heavyAt_26 34 (by decide) (fun h5 => ?_) (fun h5 => ?_)
      · refine k_iload hk dX0_heavyAt_34 0 rfl ?_
        refine k_ineg hk dX0_heavyAt_36 ?_
        exact k_sub [1, 2, 4] rfl (s_X0_heavyAt_b37 hj hn hl hk he hro F rr4 hrr4  x0 x1 x3 x2 (-y4) hx0 σ)
      · refine k_iload hk dX0_heavyAt_29 0 rfl ?_
        refine k_goto hk dX0_heavyAt_31 37 (by decide) ?_
        exact k_sub [1, 2, 4] rfl (s_X0_heavyAt_b37 hj hn hl hk he hro F rr4 hrr4  x0 x1 x3 x2 y4 hx0 σ)
def f_X0_heavyAt (F : Nat) (a0 : Nat) (a1 : Int32) (σ : kS) : Option kR := kFix (f_X0_heavyAt_b4 F) F (a0, a1, 0, 0) σ
set_option maxRecDepth 20000 in
theorem c_X0_heavyAt {l : Launch} {E : kE} (hj : kEj E) (hn : kNorm E) (hl : l.stackTraces = false) (F : Nat) (a0 : Nat) (a1 : Int32) (ha0 : a0 < kCnt 40) (σ : kS) : kMet l E yX0_heavyAt cX0_heavyAt 5 (some .int) (0) (0) 0 id [.ref (kad E 40 a0), .int a1] σ (f_X0_heavyAt F a0 a1 σ) := by
  refine k_met hj hn hl (by decide) (Nat.le_of_ble_eq_true rfl) (fun C Q hk he hro => ?_)
  have hk : kOk (C, E, Q) cX0_heavyAt RX0 5 := hk
  show Sm (C, E, Q) 5 0 0 [(0, .ref (kad E 40 a0)), (1, .int a1)] [] σ _
  unfold f_X0_heavyAt
  refine k_iconst (v := 0) hk dX0_heavyAt_0 (by decide) ?_
  refine k_istore_n (lv' := [(2, .int 0), (0, .ref (kad E 40 a0)), (1, .int a1)]) hk dX0_heavyAt_1 (by decide) rfl ?_
  refine k_iconst (v := 0) hk dX0_heavyAt_2 (by decide) ?_
  refine k_istore_n (lv' := [(3, .int 0), (2, .int 0), (0, .ref (kad E 40 a0)), (1, .int a1)]) hk dX0_heavyAt_3 (by decide) rfl ?_
  exact k_sub [2, 3, 1, 0] rfl (s_X0_heavyAt_b4 hj hn hl hk he hro F F a0 a1 0 0 ha0 σ)
def f_X0_hasFireAt_b25 (F : Nat) (t0 : Int32) (σ : kS) : Option kR := kg (narrow .boolean (.int t0) = .int t0) (some (.inl (some (.int t0)), σ))
set_option maxRecDepth 20000 in
theorem s_X0_hasFireAt_b25 {l : Launch} {E : kE} (hj : kEj E) (hn : kNorm E) (hl : l.stackTraces = false) {C : kC} {Q : kR → State → Prop} (hk : kOk (C, E, Q) cX0_hasFireAt RX0 3) (he : kEnd (C, E, Q) (some .boolean) id 0) (hro : kRo C l (0) (0) 0) (F : Nat) : ∀ (t0 : Int32)  (σ : kS), Sm (C, E, Q) 3 0 25 [] [.int t0] σ (f_X0_hasFireAt_b25 F t0 σ) := by
  intro t0  σ
  unfold f_X0_hasFireAt_b25
  exact k_zreturn hk he dX0_hasFireAt_25 (by decide)
def f_X0_hasFireAt_b24 (F : Nat)  (σ : kS) : Option kR := f_X0_hasFireAt_b25 F 0 σ
set_option maxRecDepth 20000 in
theorem s_X0_hasFireAt_b24 {l : Launch} {E : kE} (hj : kEj E) (hn : kNorm E) (hl : l.stackTraces = false) {C : kC} {Q : kR → State → Prop} (hk : kOk (C, E, Q) cX0_hasFireAt RX0 3) (he : kEnd (C, E, Q) (some .boolean) id 0) (hro : kRo C l (0) (0) 0) (F : Nat) : ∀   (σ : kS), Sm (C, E, Q) 3 0 24 [] [] σ (f_X0_hasFireAt_b24 F  σ) := by
  intro   σ
  unfold f_X0_hasFireAt_b24
  refine k_iconst (v := 0) hk dX0_hasFireAt_24 (by decide) ?_
  exact k_sub [] rfl (s_X0_hasFireAt_b25 hj hn hl hk he hro F  0  σ)
def f_X0_hasFireAt (F : Nat) (a0 : Nat) (a1 : Int32) (a2 : Int32) (σ : kS) : Option kR := kg (kin a1 8) (if (σ.1 47 a0 a1.toNatClampNeg) = (-1) then (f_X0_hasFireAt_b24 F  σ) else (kg (kin a1 8) (if a2 < (σ.1 47 a0 a1.toNatClampNeg) then (f_X0_hasFireAt_b24 F  σ) else (f_X0_hasFireAt_b25 F 1 σ))))
set_option maxRecDepth 20000 in
theorem c_X0_hasFireAt {l : Launch} {E : kE} (hj : kEj E) (hn : kNorm E) (hl : l.stackTraces = false) (F : Nat) (a0 : Nat) (a1 : Int32) (a2 : Int32) (ha0 : a0 < kCnt 40) (σ : kS) : kMet l E yX0_hasFireAt cX0_hasFireAt 3 (some .boolean) (0) (0) 0 id [.ref (kad E 40 a0), .int a1, .int a2] σ (f_X0_hasFireAt F a0 a1 a2 σ) := by
  refine k_met hj hn hl (by decide) (Nat.le_of_ble_eq_true rfl) (fun C Q hk he hro => ?_)
  have hk : kOk (C, E, Q) cX0_hasFireAt RX0 3 := hk
  show Sm (C, E, Q) 3 0 0 [(0, .ref (kad E 40 a0)), (1, .int a1), (2, .int a2)] [] σ _
  unfold f_X0_hasFireAt
  refine k_aload_n hk dX0_hasFireAt_0 0 rfl ?_
  refine k_getr (k := 7) 47 a0 hk dX0_hasFireAt_1 rfl ha0 kc0 (by decide) fl_RX0_34 rfl rfl ?_
  refine k_iload_n hk dX0_hasFireAt_4 1 rfl ?_
  refine k_iald hk dX0_hasFireAt_5 rfl ha0 (fun h1 => ?_)
  refine k_iconst (v := (-1)) hk dX0_hasFireAt_6 (by decide) ?_
  refine k_icmp_eq hk dX0_hasFireAt_7 24 (by decide) (fun h2 => ?_) (fun h2 => ?_)
  · exact k_sub [] rfl (s_X0_hasFireAt_b24 hj hn hl hk he hro F    σ)
  · refine k_aload_n hk dX0_hasFireAt_10 0 rfl ?_
    refine k_getr (k := 7) 47 a0 hk dX0_hasFireAt_11 rfl ha0 kc0 (by decide) fl_RX0_34 rfl rfl ?_
    refine k_iload_n hk dX0_hasFireAt_14 1 rfl ?_
    refine k_iald hk dX0_hasFireAt_15 rfl ha0 (fun h3 => ?_)
    refine k_iload_n hk dX0_hasFireAt_16 2 rfl ?_
    refine k_icmp_gt hk dX0_hasFireAt_17 24 (by decide) (fun h4 => ?_) (fun h4 => ?_)
    · exact k_sub [] rfl (s_X0_hasFireAt_b24 hj hn hl hk he hro F    σ)
    · refine k_iconst (v := 1) hk dX0_hasFireAt_20 (by decide) ?_
      refine k_goto hk dX0_hasFireAt_21 25 (by decide) ?_
      exact k_sub [] rfl (s_X0_hasFireAt_b25 hj hn hl hk he hro F  1  σ)
def f_X0_firesAt_b22 (F : Nat) (rr4 : (Nat × Int32 × Int32 × Int32) → kS → Option kR) (x0 : Nat) (x1 : Int32) (x2 : Int32) (x3 : Int32) (σ : kS) : Option kR := rr4 (x0, x1, x2, x3 + 1) σ
set_option maxRecDepth 20000 in
theorem s_X0_firesAt_b22 {l : Launch} {E : kE} (hj : kEj E) (hn : kNorm E) (hl : l.stackTraces = false) {C : kC} {Q : kR → State → Prop} (hk : kOk (C, E, Q) cX0_firesAt RX0 4) (he : kEnd (C, E, Q) (some .int) id 0) (hro : kRo C l (1) (22) 0) (F : Nat) (rr4 : (Nat × Int32 × Int32 × Int32) → kS → Option kR) (hrr4 : ∀ (x0 : Nat) (x1 : Int32) (x2 : Int32) (x3 : Int32) (hx0 : x0 < kCnt 40) (σ : kS), Sm (C, E, Q) 4 0 4 [(0, .ref (kad E 40 x0)), (1, .int x1), (2, .int x2), (3, .int x3)] [] σ (rr4 (x0, x1, x2, x3) σ)) : ∀ (x0 : Nat) (x1 : Int32) (x2 : Int32) (x3 : Int32) (hx0 : x0 < kCnt 40) (σ : kS), Sm (C, E, Q) 4 0 22 [(0, .ref (kad E 40 x0)), (1, .int x1), (2, .int x2), (3, .int x3)] [] σ (f_X0_firesAt_b22 F rr4 x0 x1 x2 x3 σ) := by
  intro x0 x1 x2 x3 hx0 σ
  unfold f_X0_firesAt_b22
  refine k_iinc (lv' := [(3, .int (x3 + 1)), (0, .ref (kad E 40 x0)), (1, .int x1), (2, .int x2)]) (j := 3) (y := x3 + 1) hk dX0_firesAt_22 rfl rfl (by decide) rfl ?_
  refine k_goto hk dX0_firesAt_25 4 (by decide) ?_
  exact k_sub [1, 2, 3, 0] rfl (hrr4 x0 x1 x2 (x3 + 1) hx0 σ)
def f_X0_firesAt_b4 (F : Nat) (rr4 : (Nat × Int32 × Int32 × Int32) → kS → Option kR) (a : (Nat × Int32 × Int32 × Int32)) (σ : kS) : Option kR := match a with
  | (x0, x1, x2, x3) => if 8 ≤ x3 then (some (.inl (some (.int x2)), σ)) else (kBi (f_X0_hasFireAt F x0 x3 x1 σ) fun c3 σ2 => if c3 = 0 then (f_X0_firesAt_b22 F rr4 x0 x1 x2 x3 σ2) else (f_X0_firesAt_b22 F rr4 x0 x1 (x2 + 1) x3 σ2))
set_option maxRecDepth 20000 in
theorem s_X0_firesAt_b4 {l : Launch} {E : kE} (hj : kEj E) (hn : kNorm E) (hl : l.stackTraces = false) {C : kC} {Q : kR → State → Prop} (hk : kOk (C, E, Q) cX0_firesAt RX0 4) (he : kEnd (C, E, Q) (some .int) id 0) (hro : kRo C l (1) (22) 0) (F : Nat) : ∀ (N9 : Nat) (x0 : Nat) (x1 : Int32) (x2 : Int32) (x3 : Int32) (hx0 : x0 < kCnt 40) (σ : kS), Sm (C, E, Q) 4 0 4 [(0, .ref (kad E 40 x0)), (1, .int x1), (2, .int x2), (3, .int x3)] [] σ (kFix (f_X0_firesAt_b4 F) N9 (x0, x1, x2, x3) σ) := by
  intro N9
  induction N9 with
  | zero => intro x0 x1 x2 x3 hx0 σ; exact k_no
  | succ N9 ih =>
    intro x0 x1 x2 x3 hx0 σ
    show Sm _ _ _ _ _ _ _ (f_X0_firesAt_b4 F (kFix (f_X0_firesAt_b4 F) N9) (x0, x1, x2, x3) σ)
    generalize kFix (f_X0_firesAt_b4 F) N9 = rr4 at ih
    have hrr4 := ih
    unfold f_X0_firesAt_b4
    dsimp only
    refine k_iload_n hk dX0_firesAt_4 3 rfl ?_
    refine k_bipush (v := 8) hk dX0_firesAt_5 (by decide) ?_
    refine k_icmp_ge hk dX0_firesAt_7 28 (by decide) (fun h1 => ?_) (fun h1 => ?_)
    · refine k_iload_n hk dX0_firesAt_28 2 rfl ?_
      exact k_ireturn hk he dX0_firesAt_29 (by decide)
    · refine k_aload_n hk dX0_firesAt_10 0 rfl ?_
      refine k_iload_n hk dX0_firesAt_11 3 rfl ?_
      refine k_iload_n hk dX0_firesAt_12 1 rfl ?_
      refine k_callVi (As := [.int x3, .int x1]) (rest := []) hk he hro (c_X0_hasFireAt hj hn hl F x0 x3 x1 hx0 σ) dX0_firesAt_13 cw_RX0_76 rfl hx0 kc0 rfl ⟨by decide, by decide⟩ (by decide) rfl (Nat.le_of_ble_eq_true rfl) (fun c3 σ2 => ?_)
      refine k_if_eq hk dX0_firesAt_16 22 (by decide) (fun h4 => ?_) (fun h4 => ?_)
      · exact k_sub [0, 1, 2, 3] rfl (s_X0_firesAt_b22 hj hn hl hk he hro F rr4 hrr4  x0 x1 x2 x3 hx0 σ2)
      · refine k_iinc (lv' := [(2, .int (x2 + 1)), (0, .ref (kad E 40 x0)), (1, .int x1), (3, .int x3)]) (j := 2) (y := x2 + 1) hk dX0_firesAt_19 rfl rfl (by decide) rfl ?_
        exact k_sub [1, 2, 0, 3] rfl (s_X0_firesAt_b22 hj hn hl hk he hro F rr4 hrr4  x0 x1 (x2 + 1) x3 hx0 σ2)
def f_X0_firesAt (F : Nat) (a0 : Nat) (a1 : Int32) (σ : kS) : Option kR := kFix (f_X0_firesAt_b4 F) F (a0, a1, 0, 0) σ
set_option maxRecDepth 20000 in
theorem c_X0_firesAt {l : Launch} {E : kE} (hj : kEj E) (hn : kNorm E) (hl : l.stackTraces = false) (F : Nat) (a0 : Nat) (a1 : Int32) (ha0 : a0 < kCnt 40) (σ : kS) : kMet l E yX0_firesAt cX0_firesAt 4 (some .int) (1) (22) 0 id [.ref (kad E 40 a0), .int a1] σ (f_X0_firesAt F a0 a1 σ) := by
  refine k_met hj hn hl (by decide) (Nat.le_of_ble_eq_true rfl) (fun C Q hk he hro => ?_)
  have hk : kOk (C, E, Q) cX0_firesAt RX0 4 := hk
  show Sm (C, E, Q) 4 0 0 [(0, .ref (kad E 40 a0)), (1, .int a1)] [] σ _
  unfold f_X0_firesAt
  refine k_iconst (v := 0) hk dX0_firesAt_0 (by decide) ?_
  refine k_istore_n (lv' := [(2, .int 0), (0, .ref (kad E 40 a0)), (1, .int a1)]) hk dX0_firesAt_1 (by decide) rfl ?_
  refine k_iconst (v := 0) hk dX0_firesAt_2 (by decide) ?_
  refine k_istore_n (lv' := [(3, .int 0), (2, .int 0), (0, .ref (kad E 40 a0)), (1, .int a1)]) hk dX0_firesAt_3 (by decide) rfl ?_
  exact k_sub [2, 3, 1, 0] rfl (s_X0_firesAt_b4 hj hn hl hk he hro F F a0 a1 0 0 ha0 σ)
def f_X0_firesAhead_b70 (F : Nat) (rr4 : (Nat × Int32 × Int32 × Int32) → kS → Option kR) (x0 : Nat) (x1 : Int32) (x2 : Int32) (x3 : Int32) (σ : kS) : Option kR := rr4 (x0, x1, x2, x3 + 1) σ
set_option maxRecDepth 20000 in
theorem s_X0_firesAhead_b70 {l : Launch} {E : kE} (hj : kEj E) (hn : kNorm E) (hl : l.stackTraces = false) {C : kC} {Q : kR → State → Prop} (hk : kOk (C, E, Q) cX0_firesAhead RX0 5) (he : kEnd (C, E, Q) (some .int) id 0) (hro : kRo C l (0) (0) 0) (F : Nat) (rr4 : (Nat × Int32 × Int32 × Int32) → kS → Option kR) (hrr4 : ∀ (x0 : Nat) (x1 : Int32) (x2 : Int32) (x3 : Int32) (hx0 : x0 < kCnt 40) (σ : kS), Sm (C, E, Q) 5 0 4 [(0, .ref (kad E 40 x0)), (1, .int x1), (2, .int x2), (3, .int x3)] [] σ (rr4 (x0, x1, x2, x3) σ)) : ∀ (x0 : Nat) (x1 : Int32) (x2 : Int32) (x3 : Int32) (hx0 : x0 < kCnt 40) (σ : kS), Sm (C, E, Q) 5 0 70 [(0, .ref (kad E 40 x0)), (1, .int x1), (2, .int x2), (3, .int x3)] [] σ (f_X0_firesAhead_b70 F rr4 x0 x1 x2 x3 σ) := by
  intro x0 x1 x2 x3 hx0 σ
  unfold f_X0_firesAhead_b70
  refine k_iinc (lv' := [(3, .int (x3 + 1)), (0, .ref (kad E 40 x0)), (1, .int x1), (2, .int x2)]) (j := 3) (y := x3 + 1) hk dX0_firesAhead_70 rfl rfl (by decide) rfl ?_
  refine k_goto hk dX0_firesAhead_73 4 (by decide) ?_
  exact k_sub [1, 2, 3, 0] rfl (hrr4 x0 x1 x2 (x3 + 1) hx0 σ)
def f_X0_firesAhead_b50 (F : Nat) (rr4 : (Nat × Int32 × Int32 × Int32) → kS → Option kR) (x0 : Nat) (x1 : Int32) (x2 : Int32) (x3 : Int32) (t0 : Int32) (σ : kS) : Option kR := kg (kin x3 8) (if (σ.1 47 x0 x3.toNatClampNeg) = (-1) then (f_X0_firesAhead_b70 F rr4 x0 x1 x2 x3 σ) else (if t0 = 0 then (f_X0_firesAhead_b70 F rr4 x0 x1 x2 x3 σ) else (f_X0_firesAhead_b70 F rr4 x0 x1 (x2 + 1) x3 σ)))
set_option maxRecDepth 20000 in
theorem s_X0_firesAhead_b50 {l : Launch} {E : kE} (hj : kEj E) (hn : kNorm E) (hl : l.stackTraces = false) {C : kC} {Q : kR → State → Prop} (hk : kOk (C, E, Q) cX0_firesAhead RX0 5) (he : kEnd (C, E, Q) (some .int) id 0) (hro : kRo C l (0) (0) 0) (F : Nat) (rr4 : (Nat × Int32 × Int32 × Int32) → kS → Option kR) (hrr4 : ∀ (x0 : Nat) (x1 : Int32) (x2 : Int32) (x3 : Int32) (hx0 : x0 < kCnt 40) (σ : kS), Sm (C, E, Q) 5 0 4 [(0, .ref (kad E 40 x0)), (1, .int x1), (2, .int x2), (3, .int x3)] [] σ (rr4 (x0, x1, x2, x3) σ)) : ∀ (x0 : Nat) (x1 : Int32) (x2 : Int32) (x3 : Int32) (t0 : Int32) (hx0 : x0 < kCnt 40) (σ : kS), Sm (C, E, Q) 5 0 50 [(0, .ref (kad E 40 x0)), (1, .int x1), (2, .int x2), (3, .int x3)] [.int t0] σ (f_X0_firesAhead_b50 F rr4 x0 x1 x2 x3 t0 σ) := by
  intro x0 x1 x2 x3 t0 hx0 σ
  unfold f_X0_firesAhead_b50
  refine k_istore (lv' := [(4, .int t0), (0, .ref (kad E 40 x0)), (1, .int x1), (2, .int x2), (3, .int x3)]) hk dX0_firesAhead_50 (by decide) rfl ?_
  refine k_aload_n hk dX0_firesAhead_52 1 rfl ?_
  refine k_getr (k := 7) 47 x0 hk dX0_firesAhead_53 rfl hx0 kc0 (by decide) fl_RX0_34 rfl rfl ?_
  refine k_iload_n hk dX0_firesAhead_56 4 rfl ?_
  refine k_iald hk dX0_firesAhead_57 rfl hx0 (fun h1 => ?_)
  refine k_iconst (v := (-1)) hk dX0_firesAhead_58 (by decide) ?_
  refine k_icmp_eq hk dX0_firesAhead_59 70 (by decide) (fun h2 => ?_) (fun h2 => ?_)
  · exact k_sub [1, 2, 3, 4] rfl (s_X0_firesAhead_b70 hj hn hl hk he hro F rr4 hrr4  x0 x1 x2 x3 hx0 σ)
  · refine k_iload hk dX0_firesAhead_62 0 rfl ?_
    refine k_if_eq hk dX0_firesAhead_64 70 (by decide) (fun h3 => ?_) (fun h3 => ?_)
    · exact k_sub [1, 2, 3, 4] rfl (s_X0_firesAhead_b70 hj hn hl hk he hro F rr4 hrr4  x0 x1 x2 x3 hx0 σ)
    · refine k_iinc (lv' := [(2, .int (x2 + 1)), (4, .int t0), (0, .ref (kad E 40 x0)), (1, .int x1), (3, .int x3)]) (j := 3) (y := x2 + 1) hk dX0_firesAhead_67 rfl rfl (by decide) rfl ?_
      exact k_sub [2, 3, 0, 4] rfl (s_X0_firesAhead_b70 hj hn hl hk he hro F rr4 hrr4  x0 x1 (x2 + 1) x3 hx0 σ)
def f_X0_firesAhead_b49 (F : Nat) (rr4 : (Nat × Int32 × Int32 × Int32) → kS → Option kR) (x0 : Nat) (x1 : Int32) (x2 : Int32) (x3 : Int32) (σ : kS) : Option kR := f_X0_firesAhead_b50 F rr4 x0 x1 x2 x3 0 σ
set_option maxRecDepth 20000 in
theorem s_X0_firesAhead_b49 {l : Launch} {E : kE} (hj : kEj E) (hn : kNorm E) (hl : l.stackTraces = false) {C : kC} {Q : kR → State → Prop} (hk : kOk (C, E, Q) cX0_firesAhead RX0 5) (he : kEnd (C, E, Q) (some .int) id 0) (hro : kRo C l (0) (0) 0) (F : Nat) (rr4 : (Nat × Int32 × Int32 × Int32) → kS → Option kR) (hrr4 : ∀ (x0 : Nat) (x1 : Int32) (x2 : Int32) (x3 : Int32) (hx0 : x0 < kCnt 40) (σ : kS), Sm (C, E, Q) 5 0 4 [(0, .ref (kad E 40 x0)), (1, .int x1), (2, .int x2), (3, .int x3)] [] σ (rr4 (x0, x1, x2, x3) σ)) : ∀ (x0 : Nat) (x1 : Int32) (x2 : Int32) (x3 : Int32) (hx0 : x0 < kCnt 40) (σ : kS), Sm (C, E, Q) 5 0 49 [(0, .ref (kad E 40 x0)), (1, .int x1), (2, .int x2), (3, .int x3)] [] σ (f_X0_firesAhead_b49 F rr4 x0 x1 x2 x3 σ) := by
  intro x0 x1 x2 x3 hx0 σ
  unfold f_X0_firesAhead_b49
  refine k_iconst (v := 0) hk dX0_firesAhead_49 (by decide) ?_
  exact k_sub [0, 1, 2, 3] rfl (s_X0_firesAhead_b50 hj hn hl hk he hro F rr4 hrr4  x0 x1 x2 x3 0 hx0 σ)
def f_X0_firesAhead_b45 (F : Nat) (rr4 : (Nat × Int32 × Int32 × Int32) → kS → Option kR) (x0 : Nat) (x1 : Int32) (x2 : Int32) (x3 : Int32) (σ : kS) : Option kR := f_X0_firesAhead_b50 F rr4 x0 x1 x2 x3 1 σ
set_option maxRecDepth 20000 in
theorem s_X0_firesAhead_b45 {l : Launch} {E : kE} (hj : kEj E) (hn : kNorm E) (hl : l.stackTraces = false) {C : kC} {Q : kR → State → Prop} (hk : kOk (C, E, Q) cX0_firesAhead RX0 5) (he : kEnd (C, E, Q) (some .int) id 0) (hro : kRo C l (0) (0) 0) (F : Nat) (rr4 : (Nat × Int32 × Int32 × Int32) → kS → Option kR) (hrr4 : ∀ (x0 : Nat) (x1 : Int32) (x2 : Int32) (x3 : Int32) (hx0 : x0 < kCnt 40) (σ : kS), Sm (C, E, Q) 5 0 4 [(0, .ref (kad E 40 x0)), (1, .int x1), (2, .int x2), (3, .int x3)] [] σ (rr4 (x0, x1, x2, x3) σ)) : ∀ (x0 : Nat) (x1 : Int32) (x2 : Int32) (x3 : Int32) (hx0 : x0 < kCnt 40) (σ : kS), Sm (C, E, Q) 5 0 45 [(0, .ref (kad E 40 x0)), (1, .int x1), (2, .int x2), (3, .int x3)] [] σ (f_X0_firesAhead_b45 F rr4 x0 x1 x2 x3 σ) := by
  intro x0 x1 x2 x3 hx0 σ
  unfold f_X0_firesAhead_b45
  refine k_iconst (v := 1) hk dX0_firesAhead_45 (by decide) ?_
  refine k_goto hk dX0_firesAhead_46 50 (by decide) ?_
  exact k_sub [0, 1, 2, 3] rfl (s_X0_firesAhead_b50 hj hn hl hk he hro F rr4 hrr4  x0 x1 x2 x3 1 hx0 σ)
def f_X0_firesAhead_b4 (F : Nat) (rr4 : (Nat × Int32 × Int32 × Int32) → kS → Option kR) (a : (Nat × Int32 × Int32 × Int32)) (σ : kS) : Option kR := match a with
  | (x0, x1, x2, x3) => if 8 ≤ x3 then (some (.inl (some (.int x2)), σ)) else (kg (kin x3 8) (kg (kin x1 8) (if (σ.1 47 x0 x3.toNatClampNeg) < (σ.1 47 x0 x1.toNatClampNeg) then (f_X0_firesAhead_b45 F rr4 x0 x1 x2 x3 σ) else (kg (kin x3 8) (kg (kin x1 8) (if (σ.1 47 x0 x3.toNatClampNeg) = (σ.1 47 x0 x1.toNatClampNeg) then (if x1 ≤ x3 then (f_X0_firesAhead_b49 F rr4 x0 x1 x2 x3 σ) else (f_X0_firesAhead_b45 F rr4 x0 x1 x2 x3 σ)) else (f_X0_firesAhead_b49 F rr4 x0 x1 x2 x3 σ)))))))
set_option maxRecDepth 20000 in
theorem s_X0_firesAhead_b4 {l : Launch} {E : kE} (hj : kEj E) (hn : kNorm E) (hl : l.stackTraces = false) {C : kC} {Q : kR → State → Prop} (hk : kOk (C, E, Q) cX0_firesAhead RX0 5) (he : kEnd (C, E, Q) (some .int) id 0) (hro : kRo C l (0) (0) 0) (F : Nat) : ∀ (N9 : Nat) (x0 : Nat) (x1 : Int32) (x2 : Int32) (x3 : Int32) (hx0 : x0 < kCnt 40) (σ : kS), Sm (C, E, Q) 5 0 4 [(0, .ref (kad E 40 x0)), (1, .int x1), (2, .int x2), (3, .int x3)] [] σ (kFix (f_X0_firesAhead_b4 F) N9 (x0, x1, x2, x3) σ) := by
  intro N9
  induction N9 with
  | zero => intro x0 x1 x2 x3 hx0 σ; exact k_no
  | succ N9 ih =>
    intro x0 x1 x2 x3 hx0 σ
    show Sm _ _ _ _ _ _ _ (f_X0_firesAhead_b4 F (kFix (f_X0_firesAhead_b4 F) N9) (x0, x1, x2, x3) σ)
    generalize kFix (f_X0_firesAhead_b4 F) N9 = rr4 at ih
    have hrr4 := ih
    unfold f_X0_firesAhead_b4
    dsimp only
    refine k_iload_n hk dX0_firesAhead_4 3 rfl ?_
    refine k_bipush (v := 8) hk dX0_firesAhead_5 (by decide) ?_
    refine k_icmp_ge hk dX0_firesAhead_7 76 (by decide) (fun h4 => ?_) (fun h4 => ?_)
    · refine k_iload_n hk dX0_firesAhead_76 2 rfl ?_
      exact k_ireturn hk he dX0_firesAhead_77 (by decide)
    · refine k_aload_n hk dX0_firesAhead_10 0 rfl ?_
      refine k_getr (k := 7) 47 x0 hk dX0_firesAhead_11 rfl hx0 kc0 (by decide) fl_RX0_34 rfl rfl ?_
      refine k_iload_n hk dX0_firesAhead_14 3 rfl ?_
      refine k_iald hk dX0_firesAhead_15 rfl hx0 (fun h5 => ?_)
      refine k_aload_n hk dX0_firesAhead_16 0 rfl ?_
      refine k_getr (k := 7) 47 x0 hk dX0_firesAhead_17 rfl hx0 kc0 (by decide) fl_RX0_34 rfl rfl ?_
      refine k_iload_n hk dX0_firesAhead_20 1 rfl ?_
      refine k_iald hk dX0_firesAhead_21 rfl hx0 (fun h6 => ?_)
      refine k_icmp_lt hk dX0_firesAhead_22 45 (by decide) (fun h7 => ?_) (fun h7 => ?_)
      · exact k_sub [0, 1, 2, 3] rfl (s_X0_firesAhead_b45 hj hn hl hk he hro F rr4 hrr4  x0 x1 x2 x3 hx0 σ)
      · refine k_aload_n hk dX0_firesAhead_25 0 rfl ?_
        refine k_getr (k := 7) 47 x0 hk dX0_firesAhead_26 rfl hx0 kc0 (by decide) fl_RX0_34 rfl rfl ?_
        refine k_iload_n hk dX0_firesAhead_29 3 rfl ?_
        refine k_iald hk dX0_firesAhead_30 rfl hx0 (fun h8 => ?_)
        refine k_aload_n hk dX0_firesAhead_31 0 rfl ?_
        refine k_getr (k := 7) 47 x0 hk dX0_firesAhead_32 rfl hx0 kc0 (by decide) fl_RX0_34 rfl rfl ?_
        refine k_iload_n hk dX0_firesAhead_35 1 rfl ?_
        refine k_iald hk dX0_firesAhead_36 rfl hx0 (fun h9 => ?_)
        refine k_icmp_ne hk dX0_firesAhead_37 49 (by decide) (fun h10 => ?_) (fun h10 => ?_)
        · exact k_sub [0, 1, 2, 3] rfl (s_X0_firesAhead_b49 hj hn hl hk he hro F rr4 hrr4  x0 x1 x2 x3 hx0 σ)
        · refine k_iload_n hk dX0_firesAhead_40 3 rfl ?_
          refine k_iload_n hk dX0_firesAhead_41 1 rfl ?_
          refine k_icmp_ge hk dX0_firesAhead_42 49 (by decide) (fun h11 => ?_) (fun h11 => ?_)
          · exact k_sub [0, 1, 2, 3] rfl (s_X0_firesAhead_b49 hj hn hl hk he hro F rr4 hrr4  x0 x1 x2 x3 hx0 σ)
          · exact k_sub [0, 1, 2, 3] rfl (s_X0_firesAhead_b45 hj hn hl hk he hro F rr4 hrr4  x0 x1 x2 x3 hx0 σ)
def f_X0_firesAhead (F : Nat) (a0 : Nat) (a1 : Int32) (σ : kS) : Option kR := kFix (f_X0_firesAhead_b4 F) F (a0, a1, 0, 0) σ
set_option maxRecDepth 20000 in
theorem c_X0_firesAhead {l : Launch} {E : kE} (hj : kEj E) (hn : kNorm E) (hl : l.stackTraces = false) (F : Nat) (a0 : Nat) (a1 : Int32) (ha0 : a0 < kCnt 40) (σ : kS) : kMet l E yX0_firesAhead cX0_firesAhead 5 (some .int) (0) (0) 0 id [.ref (kad E 40 a0), .int a1] σ (f_X0_firesAhead F a0 a1 σ) := by
  refine k_met hj hn hl (by decide) (Nat.le_of_ble_eq_true rfl) (fun C Q hk he hro => ?_)
  have hk : kOk (C, E, Q) cX0_firesAhead RX0 5 := hk
  show Sm (C, E, Q) 5 0 0 [(0, .ref (kad E 40 a0)), (1, .int a1)] [] σ _
  unfold f_X0_firesAhead
  refine k_iconst (v := 0) hk dX0_firesAhead_0 (by decide) ?_
  refine k_istore_n (lv' := [(2, .int 0), (0, .ref (kad E 40 a0)), (1, .int a1)]) hk dX0_firesAhead_1 (by decide) rfl ?_
  refine k_iconst (v := 0) hk dX0_firesAhead_2 (by decide) ?_
  refine k_istore_n (lv' := [(3, .int 0), (2, .int 0), (0, .ref (kad E 40 a0)), (1, .int a1)]) hk dX0_firesAhead_3 (by decide) rfl ?_
  exact k_sub [2, 3, 1, 0] rfl (s_X0_firesAhead_b4 hj hn hl hk he hro F F a0 a1 0 0 ha0 σ)
