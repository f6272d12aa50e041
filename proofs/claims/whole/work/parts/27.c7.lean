def f_X5_state (F : Nat) (a1 : Int32) (a2 : Int32) (a3 : Int32) (σ : kS) : Option kR := kBv (f_X5_testWhy F a1 σ) fun σ1 => kBv (f_X5_testWithin F a2 0 99 σ1) fun σ2 => kBr (f_X5_filmBy F a1 σ2) fun c4 σ3 => if a3 = 0 then (kg (kin a2 100) (some (.inl (some (.int (σ3.1 41 c4 a2.toNatClampNeg))), σ3))) else (if a3 = 1 then (kg (kin a2 100) (some (.inl (some (.int (σ3.1 42 c4 a2.toNatClampNeg))), σ3))) else (if a3 = 2 then (kg (kin a2 100) (some (.inl (some (.int (σ3.1 43 c4 a2.toNatClampNeg))), σ3))) else (if a3 = 3 then (kBi (f_X0_gapAt F c4 a2 σ3) fun c13 σ12 => some (.inl (some (.int c13)), σ12)) else (if a3 = 4 then (kg (kin a2 100) (some (.inl (some (.int (σ3.1 44 c4 a2.toNatClampNeg))), σ3))) else (if a3 = 5 then (kBi (f_X0_allGasAt F c4 a2 σ3) fun c18 σ17 => some (.inl (some (.int c18)), σ17)) else (if a3 = 6 then (kBi (f_X0_heavyAt F c4 a2 σ3) fun c21 σ20 => some (.inl (some (.int c21)), σ20)) else (if a3 = 7 then (kBi (f_X0_firesAt F c4 a2 σ3) fun c24 σ23 => some (.inl (some (.int c24)), σ23)) else (some (.inr "java/lang/IllegalArgumentException", σ3)))))))))
set_option maxRecDepth 20000 in
theorem c_X5_state {l : Launch} {E : kE} (hj : kEj E) (hn : kNorm E) (hl : l.stackTraces = false) (F : Nat) (a1 : Int32) (a2 : Int32) (a3 : Int32)  (σ : kS) : kMet l E yX5_state cX5_state 5 (some .int) (9) (162) 3 id [.ref (kad E 0 0), .int a1, .int a2, .int a3] σ (f_X5_state F a1 a2 a3 σ) := by
  refine k_met hj hn hl (by decide) (Nat.le_of_ble_eq_true rfl) (fun C Q hk he hro => ?_)
  have hk : kOk (C, E, Q) cX5_state RX5 5 := hk
  show Sm (C, E, Q) 5 0 0 [(0, .ref (kad E 0 0)), (1, .int a1), (2, .int a2), (3, .int a3)] [] σ _
  unfold f_X5_state
  refine k_aload_n hk dX5_state_0 0 rfl ?_
  refine k_iload_n hk dX5_state_1 1 rfl ?_
  refine k_callVv (As := [.int a1]) (rest := []) hk he hro (c_X5_testWhy hj hn hl F a1  σ) dX5_state_2 cw_RX5_93 rfl (by decide) kc5 rfl ⟨by decide, by decide⟩ (by decide) rfl (Nat.le_of_ble_eq_true rfl) (fun σ1 => ?_)
  refine k_iload_n hk dX5_state_5 2 rfl ?_
  refine k_iconst (v := 0) hk dX5_state_6 (by decide) ?_
  refine k_bipush (v := 99) hk dX5_state_7 (by decide) ?_
  refine k_callSv (As := [.int a2, .int 0, .int 99]) (rest := []) hk he hro (c_X5_testWithin hj hn hl F a2 0 99  σ1) dX5_state_9 cw_RX5_97 ⟨by decide, by decide⟩ (by decide) rfl (Nat.le_of_ble_eq_true rfl) (fun σ2 => ?_)
  refine k_aload_n hk dX5_state_12 0 rfl ?_
  refine k_iload_n hk dX5_state_13 1 rfl ?_
  refine k_callVr (As := [.int a1]) (rest := []) hk he hro (c_X5_filmBy hj hn hl F a1  σ2) dX5_state_14 cw_RX5_120 rfl (by decide) kc5 rfl ⟨by decide, by decide⟩ (by decide) rfl (Nat.le_of_ble_eq_true rfl) (fun c4 σ3 hc4 => ?_)
  refine k_astore (lv' := [(4, .ref (kad E 40 c4)), (0, .ref (kad E 0 0)), (1, .int a1), (2, .int a2), (3, .int a3)]) hk dX5_state_17 (by decide) rfl ?_
  refine k_iload_n hk dX5_state_19 4 rfl ?_
  refine k_ite (fun h5 => ?_) (fun h5 => ?_)
  · refine k_tin (v := 0) hk dX5_state_20 h5 (by decide) (by decide) rfl 68 (by decide) ?_
    refine k_aload hk dX5_state_68 0 rfl ?_
    refine k_getr (k := 1) 41 c4 hk dX5_state_70 rfl hc4 kc0 (by decide) fl_RX5_124 rfl rfl ?_
    refine k_iload_n hk dX5_state_73 3 rfl ?_
    refine k_iald hk dX5_state_74 rfl hc4 (fun h6 => ?_)
    exact k_ireturn hk he dX5_state_75 (by decide)
  · skip
    refine k_ite (fun h7 => ?_) (fun h7 => ?_)
    · refine k_tin (v := 1) hk dX5_state_20 h7 (by decide) (by decide) rfl 76 (by decide) ?_
      refine k_aload hk dX5_state_76 0 rfl ?_
      refine k_getr (k := 2) 42 c4 hk dX5_state_78 rfl hc4 kc0 (by decide) fl_RX5_127 rfl rfl ?_
      refine k_iload_n hk dX5_state_81 3 rfl ?_
      refine k_iald hk dX5_state_82 rfl hc4 (fun h8 => ?_)
      exact k_ireturn hk he dX5_state_83 (by decide)
    · skip
      refine k_ite (fun h9 => ?_) (fun h9 => ?_)
      · refine k_tin (v := 2) hk dX5_state_20 h9 (by decide) (by decide) rfl 84 (by decide) ?_
        refine k_aload hk dX5_state_84 0 rfl ?_
        refine k_getr (k := 3) 43 c4 hk dX5_state_86 rfl hc4 kc0 (by decide) fl_RX5_130 rfl rfl ?_
        refine k_iload_n hk dX5_state_89 3 rfl ?_
        refine k_iald hk dX5_state_90 rfl hc4 (fun h10 => ?_)
        exact k_ireturn hk he dX5_state_91 (by decide)
      · skip
        refine k_ite (fun h11 => ?_) (fun h11 => ?_)
        · refine k_tin (v := 3) hk dX5_state_20 h11 (by decide) (by decide) rfl 92 (by decide) ?_
          refine k_aload hk dX5_state_92 0 rfl ?_
          refine k_iload_n hk dX5_state_94 3 rfl ?_
          refine k_callVi (As := [.int a2]) (rest := []) hk he hro (c_X0_gapAt hj hn hl F c4 a2 hc4 σ3) dX5_state_95 cw_RX5_133 rfl hc4 kc0 rfl ⟨by decide, by decide⟩ (by decide) rfl (Nat.le_of_ble_eq_true rfl) (fun c13 σ12 => ?_)
          exact k_ireturn hk he dX5_state_98 (by decide)
        · skip
          refine k_ite (fun h14 => ?_) (fun h14 => ?_)
          · refine k_tin (v := 4) hk dX5_state_20 h14 (by decide) (by decide) rfl 99 (by decide) ?_
            refine k_aload hk dX5_state_99 0 rfl ?_
            refine k_getr (k := 4) 44 c4 hk dX5_state_101 rfl hc4 kc0 (by decide) fl_RX5_137 rfl rfl ?_
            refine k_iload_n hk dX5_state_104 3 rfl ?_
            refine k_iald hk dX5_state_105 rfl hc4 (fun h15 => ?_)
            exact k_ireturn hk he dX5_state_106 (by decide)
          · skip
            refine k_ite (fun h16 => ?_) (fun h16 => ?_)
            · refine k_tin (v := 5) hk dX5_state_20 h16 (by decide) (by decide) rfl 107 (by decide) ?_
              refine k_aload hk dX5_state_107 0 rfl ?_
              refine k_iload_n hk dX5_state_109 3 rfl ?_
              refine k_callVi (As := [.int a2]) (rest := []) hk he hro (c_X0_allGasAt hj hn hl F c4 a2 hc4 σ3) dX5_state_110 cw_RX5_140 rfl hc4 kc0 rfl ⟨by decide, by decide⟩ (by decide) rfl (Nat.le_of_ble_eq_true rfl) (fun c18 σ17 => ?_)
              exact k_ireturn hk he dX5_state_113 (by decide)
            · skip
              refine k_ite (fun h19 => ?_) (fun h19 => ?_)
              · refine k_tin (v := 6) hk dX5_state_20 h19 (by decide) (by decide) rfl 114 (by decide) ?_
                refine k_aload hk dX5_state_114 0 rfl ?_
                refine k_iload_n hk dX5_state_116 3 rfl ?_
                refine k_callVi (As := [.int a2]) (rest := []) hk he hro (c_X0_heavyAt hj hn hl F c4 a2 hc4 σ3) dX5_state_117 cw_RX5_143 rfl hc4 kc0 rfl ⟨by decide, by decide⟩ (by decide) rfl (Nat.le_of_ble_eq_true rfl) (fun c21 σ20 => ?_)
                exact k_ireturn hk he dX5_state_120 (by decide)
              · skip
                refine k_ite (fun h22 => ?_) (fun h22 => ?_)
                · refine k_tin (v := 7) hk dX5_state_20 h22 (by decide) (by decide) rfl 121 (by decide) ?_
                  refine k_aload hk dX5_state_121 0 rfl ?_
                  refine k_iload_n hk dX5_state_123 3 rfl ?_
                  refine k_callVi (As := [.int a2]) (rest := []) hk he hro (c_X0_firesAt hj hn hl F c4 a2 hc4 σ3) dX5_state_124 cw_RX5_146 rfl hc4 kc0 rfl ⟨by decide, by decide⟩ (by decide) rfl (Nat.le_of_ble_eq_true rfl) (fun c24 σ23 => ?_)
                  exact k_ireturn hk he dX5_state_127 (by decide)
                · skip
                  refine k_tout hk dX5_state_20 (by have h5q := k_neI h5 (a := 0) (by decide); have h7q := k_neI h7 (a := 1) (by decide); have h9q := k_neI h9 (a := 2) (by decide); have h11q := k_neI h11 (a := 3) (by decide); have h14q := k_neI h14 (a := 4) (by decide); have h16q := k_neI h16 (a := 5) (by decide); have h19q := k_neI h19 (a := 6) (by decide); have h22q := k_neI h22 (a := 7) (by decide); omega) 128 (by decide) ?_
                  exact k_throw (t := 1) hk he hro dX5_state_128 dX5_state_131 dX5_state_132 dX5_state_134 dX5_state_137 (by decide) rfl rfl th_RX5_73_77 ⟨by decide, Nat.le_of_ble_eq_true rfl⟩ (by decide)
def f_X5_cell_b90 (F : Nat) (t0 : Int32) (σ : kS) : Option kR := some (.inl (some (.int t0)), σ)
set_option maxRecDepth 20000 in
theorem s_X5_cell_b90 {l : Launch} {E : kE} (hj : kEj E) (hn : kNorm E) (hl : l.stackTraces = false) {C : kC} {Q : kR → State → Prop} (hk : kOk (C, E, Q) cX5_cell RX5 7) (he : kEnd (C, E, Q) (some .int) id 4) (hro : kRo C l (9) (162) 4) (F : Nat) : ∀ (t0 : Int32)  (σ : kS), Sm (C, E, Q) 7 4 90 [] [.int t0] σ (f_X5_cell_b90 F t0 σ) := by
  intro t0  σ
  unfold f_X5_cell_b90
  exact k_ireturn hk he dX5_cell_90 (by decide)
def f_X5_cell_b57 (F : Nat) (t0 : Int32) (σ : kS) : Option kR := some (.inl (some (.int t0)), σ)
set_option maxRecDepth 20000 in
theorem s_X5_cell_b57 {l : Launch} {E : kE} (hj : kEj E) (hn : kNorm E) (hl : l.stackTraces = false) {C : kC} {Q : kR → State → Prop} (hk : kOk (C, E, Q) cX5_cell RX5 7) (he : kEnd (C, E, Q) (some .int) id 4) (hro : kRo C l (9) (162) 4) (F : Nat) : ∀ (t0 : Int32)  (σ : kS), Sm (C, E, Q) 7 4 57 [] [.int t0] σ (f_X5_cell_b57 F t0 σ) := by
  intro t0  σ
  unfold f_X5_cell_b57
  exact k_ireturn hk he dX5_cell_57 (by decide)
def f_X5_cell (F : Nat) (a1 : Int32) (a2 : Int32) (a3 : Int32) (a4 : Int32) (σ : kS) : Option kR := kBv (f_X5_testWhy F a1 σ) fun σ1 => kBv (f_X5_testCell F a3 σ1) fun σ2 => kBv (f_X5_testWithin F a2 0 99 σ2) fun σ3 => kBv (f_X5_testWithin F a4 0 2 σ3) fun σ4 => kBr (f_X5_filmBy F a1 σ4) fun c6 σ5 => if a4 = 2 then (kBi (f_X0_hasFireAt F c6 a3 a2 σ5) fun c13 σ12 => if c13 = 0 then (f_X5_cell_b57 F (-1) σ12) else (kg (kin a3 8) (f_X5_cell_b57 F (σ12.1 47 c6 a3.toNatClampNeg) σ12))) else (kb ((a2 * 8) + a3) fun y8 => if a4 = 0 then (kg (kin y8 800) (f_X5_cell_b90 F (σ5.1 45 c6 y8.toNatClampNeg) σ5)) else (kg (kin y8 800) (f_X5_cell_b90 F (σ5.1 46 c6 y8.toNatClampNeg) σ5)))
set_option maxRecDepth 20000 in
theorem c_X5_cell {l : Launch} {E : kE} (hj : kEj E) (hn : kNorm E) (hl : l.stackTraces = false) (F : Nat) (a1 : Int32) (a2 : Int32) (a3 : Int32) (a4 : Int32)  (σ : kS) : kMet l E yX5_cell cX5_cell 7 (some .int) (9) (162) 4 id [.ref (kad E 0 0), .int a1, .int a2, .int a3, .int a4] σ (f_X5_cell F a1 a2 a3 a4 σ) := by
  refine k_met hj hn hl (by decide) (Nat.le_of_ble_eq_true rfl) (fun C Q hk he hro => ?_)
  have hk : kOk (C, E, Q) cX5_cell RX5 7 := hk
  show Sm (C, E, Q) 7 0 0 [(0, .ref (kad E 0 0)), (1, .int a1), (2, .int a2), (3, .int a3), (4, .int a4)] [] σ _
  unfold f_X5_cell
  refine k_aload_n hk dX5_cell_0 0 rfl ?_
  refine k_iload_n hk dX5_cell_1 1 rfl ?_
  refine k_callVv (As := [.int a1]) (rest := []) hk he hro (c_X5_testWhy hj hn hl F a1  σ) dX5_cell_2 cw_RX5_93 rfl (by decide) kc5 rfl ⟨by decide, by decide⟩ (by decide) rfl (Nat.le_of_ble_eq_true rfl) (fun σ1 => ?_)
  refine k_iload_n hk dX5_cell_5 3 rfl ?_
  refine k_callSv (As := [.int a3]) (rest := []) hk he hro (c_X5_testCell hj hn hl F a3  σ1) dX5_cell_6 cw_RX5_114 ⟨by decide, by decide⟩ (by decide) rfl (Nat.le_of_ble_eq_true rfl) (fun σ2 => ?_)
  refine k_iload_n hk dX5_cell_9 2 rfl ?_
  refine k_iconst (v := 0) hk dX5_cell_10 (by decide) ?_
  refine k_bipush (v := 99) hk dX5_cell_11 (by decide) ?_
  refine k_callSv (As := [.int a2, .int 0, .int 99]) (rest := []) hk he hro (c_X5_testWithin hj hn hl F a2 0 99  σ2) dX5_cell_13 cw_RX5_97 ⟨by decide, by decide⟩ (by decide) rfl (Nat.le_of_ble_eq_true rfl) (fun σ3 => ?_)
  refine k_iload hk dX5_cell_16 4 rfl ?_
  refine k_iconst (v := 0) hk dX5_cell_18 (by decide) ?_
  refine k_iconst (v := 2) hk dX5_cell_19 (by decide) ?_
  refine k_callSv (As := [.int a4, .int 0, .int 2]) (rest := []) hk he hro (c_X5_testWithin hj hn hl F a4 0 2  σ3) dX5_cell_20 cw_RX5_97 ⟨by decide, by decide⟩ (by decide) rfl (Nat.le_of_ble_eq_true rfl) (fun σ4 => ?_)
  refine k_aload_n hk dX5_cell_23 0 rfl ?_
  refine k_iload_n hk dX5_cell_24 1 rfl ?_
  refine k_callVr (As := [.int a1]) (rest := []) hk he hro (c_X5_filmBy hj hn hl F a1  σ4) dX5_cell_25 cw_RX5_120 rfl (by decide) kc5 rfl ⟨by decide, by decide⟩ (by decide) rfl (Nat.le_of_ble_eq_true rfl) (fun c6 σ5 hc6 => ?_)
  refine k_astore (lv' := [(5, .ref (kad E 40 c6)), (0, .ref (kad E 0 0)), (1, .int a1), (2, .int a2), (3, .int a3), (4, .int a4)]) hk dX5_cell_28 (by decide) rfl ?_
  refine k_iload hk dX5_cell_30 5 rfl ?_
  refine k_iconst (v := 2) hk dX5_cell_32 (by decide) ?_
  refine k_icmp_ne hk dX5_cell_33 58 (by decide) (fun h7 => ?_) (fun h7 => ?_)
  · refine k_iload_n hk dX5_cell_58 3 rfl ?_
    refine k_bipush (v := 8) hk dX5_cell_59 (by decide) ?_
    refine k_imul hk dX5_cell_61 ?_
    refine k_iload_n hk dX5_cell_62 4 rfl ?_
    refine k_iadd hk dX5_cell_63 ?_
    refine k_nm (fun y8 => ?_)
    refine k_istore (lv' := [(6, .int y8), (5, .ref (kad E 40 c6)), (0, .ref (kad E 0 0)), (1, .int a1), (2, .int a2), (3, .int a3), (4, .int a4)]) hk dX5_cell_64 (by decide) rfl ?_
    refine k_iload hk dX5_cell_66 6 rfl ?_
    refine k_if_ne hk dX5_cell_68 82 (by decide) (fun h9 => ?_) (fun h9 => ?_)
    · refine k_aload hk dX5_cell_82 1 rfl ?_
      refine k_getr (k := 6) 46 c6 hk dX5_cell_84 rfl hc6 kc0 (by decide) fl_RX5_159 rfl rfl ?_
      refine k_iload hk dX5_cell_87 0 rfl ?_
      refine k_iald hk dX5_cell_89 rfl hc6 (fun h10 => ?_)
      exact k_sub [] rfl (s_X5_cell_b90 hj hn hl hk he hro F  (σ5.1 46 c6 y8.toNatClampNeg)  σ5)
    · refine k_aload hk dX5_cell_71 1 rfl ?_
      refine k_getr (k := 5) 45 c6 hk dX5_cell_73 rfl hc6 kc0 (by decide) fl_RX5_158 rfl rfl ?_
      refine k_iload hk dX5_cell_76 0 rfl ?_
      refine k_iald hk dX5_cell_78 rfl hc6 (fun h11 => ?_)
      refine k_goto hk dX5_cell_79 90 (by decide) ?_
      exact k_sub [] rfl (s_X5_cell_b90 hj hn hl hk he hro F  (σ5.1 45 c6 y8.toNatClampNeg)  σ5)
  · refine k_aload hk dX5_cell_36 0 rfl ?_
    refine k_iload_n hk dX5_cell_38 4 rfl ?_
    refine k_iload_n hk dX5_cell_39 3 rfl ?_
    refine k_callVi (As := [.int a3, .int a2]) (rest := []) hk he hro (c_X0_hasFireAt hj hn hl F c6 a3 a2 hc6 σ5) dX5_cell_40 cw_RX5_151 rfl hc6 kc0 rfl ⟨by decide, by decide⟩ (by decide) rfl (Nat.le_of_ble_eq_true rfl) (fun c13 σ12 => ?_)
    refine k_if_eq hk dX5_cell_43 56 (by decide) (fun h14 => ?_) (fun h14 => ?_)
    · refine k_iconst (v := (-1)) hk dX5_cell_56 (by decide) ?_
      exact k_sub [] rfl (s_X5_cell_b57 hj hn hl hk he hro F  (-1)  σ12)
    · refine k_aload hk dX5_cell_46 0 rfl ?_
      refine k_getr (k := 7) 47 c6 hk dX5_cell_48 rfl hc6 kc0 (by decide) fl_RX5_155 rfl rfl ?_
      refine k_iload_n hk dX5_cell_51 4 rfl ?_
      refine k_iald hk dX5_cell_52 rfl hc6 (fun h15 => ?_)
      refine k_goto hk dX5_cell_53 57 (by decide) ?_
      exact k_sub [] rfl (s_X5_cell_b57 hj hn hl hk he hro F  (σ12.1 47 c6 a3.toNatClampNeg)  σ12)
def f_X5_run (F : Nat) (a1 : Int32) (a2 : Int32) (σ : kS) : Option kR := kBv (f_X5_testWhy F a1 σ) fun σ1 => kBr (f_X5_filmBy F a1 σ1) fun c3 σ2 => if a2 = 0 then (some (.inl (some (.int (σ2.1 40 c3 8))), σ2)) else (if a2 = 1 then (some (.inl (some (.int (σ2.1 40 c3 9))), σ2)) else (if a2 = 2 then (some (.inl (some (.int (σ2.1 40 c3 10))), σ2)) else (if a2 = 3 then (some (.inl (some (.int (σ2.1 40 c3 11))), σ2)) else (some (.inr "java/lang/IllegalArgumentException", σ2)))))
set_option maxRecDepth 20000 in
theorem c_X5_run {l : Launch} {E : kE} (hj : kEj E) (hn : kNorm E) (hl : l.stackTraces = false) (F : Nat) (a1 : Int32) (a2 : Int32)  (σ : kS) : kMet l E yX5_run cX5_run 4 (some .int) (9) (161) 2 id [.ref (kad E 0 0), .int a1, .int a2] σ (f_X5_run F a1 a2 σ) := by
  refine k_met hj hn hl (by decide) (Nat.le_of_ble_eq_true rfl) (fun C Q hk he hro => ?_)
  have hk : kOk (C, E, Q) cX5_run RX5 4 := hk
  show Sm (C, E, Q) 4 0 0 [(0, .ref (kad E 0 0)), (1, .int a1), (2, .int a2)] [] σ _
  unfold f_X5_run
  refine k_aload_n hk dX5_run_0 0 rfl ?_
  refine k_iload_n hk dX5_run_1 1 rfl ?_
  refine k_callVv (As := [.int a1]) (rest := []) hk he hro (c_X5_testWhy hj hn hl F a1  σ) dX5_run_2 cw_RX5_93 rfl (by decide) kc5 rfl ⟨by decide, by decide⟩ (by decide) rfl (Nat.le_of_ble_eq_true rfl) (fun σ1 => ?_)
  refine k_aload_n hk dX5_run_5 0 rfl ?_
  refine k_iload_n hk dX5_run_6 1 rfl ?_
  refine k_callVr (As := [.int a1]) (rest := []) hk he hro (c_X5_filmBy hj hn hl F a1  σ1) dX5_run_7 cw_RX5_120 rfl (by decide) kc5 rfl ⟨by decide, by decide⟩ (by decide) rfl (Nat.le_of_ble_eq_true rfl) (fun c3 σ2 hc3 => ?_)
  refine k_astore_n (lv' := [(3, .ref (kad E 40 c3)), (0, .ref (kad E 0 0)), (1, .int a1), (2, .int a2)]) hk dX5_run_10 (by decide) rfl ?_
  refine k_iload_n hk dX5_run_11 3 rfl ?_
  refine k_ite (fun h4 => ?_) (fun h4 => ?_)
  · refine k_tin (v := 0) hk dX5_run_12 h4 (by decide) (by decide) rfl 44 (by decide) ?_
    refine k_aload_n hk dX5_run_44 0 rfl ?_
    refine k_getf (k := 8) hk dX5_run_45 rfl hc3 kc0 (by decide) fl_RX5_162 rfl ?_
    exact k_ireturn hk he dX5_run_48 (by decide)
  · skip
    refine k_ite (fun h5 => ?_) (fun h5 => ?_)
    · refine k_tin (v := 1) hk dX5_run_12 h5 (by decide) (by decide) rfl 49 (by decide) ?_
      refine k_aload_n hk dX5_run_49 0 rfl ?_
      refine k_getf (k := 9) hk dX5_run_50 rfl hc3 kc0 (by decide) fl_RX5_165 rfl ?_
      exact k_ireturn hk he dX5_run_53 (by decide)
    · skip
      refine k_ite (fun h6 => ?_) (fun h6 => ?_)
      · refine k_tin (v := 2) hk dX5_run_12 h6 (by decide) (by decide) rfl 54 (by decide) ?_
        refine k_aload_n hk dX5_run_54 0 rfl ?_
        refine k_getf (k := 10) hk dX5_run_55 rfl hc3 kc0 (by decide) fl_RX5_168 rfl ?_
        exact k_ireturn hk he dX5_run_58 (by decide)
      · skip
        refine k_ite (fun h7 => ?_) (fun h7 => ?_)
        · refine k_tin (v := 3) hk dX5_run_12 h7 (by decide) (by decide) rfl 59 (by decide) ?_
          refine k_aload_n hk dX5_run_59 0 rfl ?_
          refine k_getf (k := 11) hk dX5_run_60 rfl hc3 kc0 (by decide) fl_RX5_171 rfl ?_
          exact k_ireturn hk he dX5_run_63 (by decide)
        · skip
          refine k_tout hk dX5_run_12 (by have h4q := k_neI h4 (a := 0) (by decide); have h5q := k_neI h5 (a := 1) (by decide); have h6q := k_neI h6 (a := 2) (by decide); have h7q := k_neI h7 (a := 3) (by decide); omega) 64 (by decide) ?_
          exact k_throw (t := 1) hk he hro dX5_run_64 dX5_run_67 dX5_run_68 dX5_run_70 dX5_run_73 (by decide) rfl rfl th_RX5_73_77 ⟨by decide, Nat.le_of_ble_eq_true rfl⟩ (by decide)
def f_X5_says (F : Nat) (a1 : Int32) (a2 : Int32) (σ : kS) : Option kR := kBv (f_X5_testWhy F a1 σ) fun σ1 => kBv (f_X5_testRow F a2 σ1) fun σ2 => kBr (f_X5_filmBy F a1 σ2) fun c4 σ3 => kBi (f_X5_isSo F c4 a2 σ3) fun c6 σ5 => kg (narrow .boolean (.int c6) = .int c6) (some (.inl (some (.int c6)), σ5))
set_option maxRecDepth 20000 in
theorem c_X5_says {l : Launch} {E : kE} (hj : kEj E) (hn : kNorm E) (hl : l.stackTraces = false) (F : Nat) (a1 : Int32) (a2 : Int32)  (σ : kS) : kMet l E yX5_says cX5_says 3 (some .boolean) (9) (161) 2 id [.ref (kad E 0 0), .int a1, .int a2] σ (f_X5_says F a1 a2 σ) := by
  refine k_met hj hn hl (by decide) (Nat.le_of_ble_eq_true rfl) (fun C Q hk he hro => ?_)
  have hk : kOk (C, E, Q) cX5_says RX5 3 := hk
  show Sm (C, E, Q) 3 0 0 [(0, .ref (kad E 0 0)), (1, .int a1), (2, .int a2)] [] σ _
  unfold f_X5_says
  refine k_aload_n hk dX5_says_0 0 rfl ?_
  refine k_iload_n hk dX5_says_1 1 rfl ?_
  refine k_callVv (As := [.int a1]) (rest := []) hk he hro (c_X5_testWhy hj hn hl F a1  σ) dX5_says_2 cw_RX5_93 rfl (by decide) kc5 rfl ⟨by decide, by decide⟩ (by decide) rfl (Nat.le_of_ble_eq_true rfl) (fun σ1 => ?_)
  refine k_aload_n hk dX5_says_5 0 rfl ?_
  refine k_iload_n hk dX5_says_6 2 rfl ?_
  refine k_callVv (As := [.int a2]) (rest := []) hk he hro (c_X5_testRow hj hn hl F a2  σ1) dX5_says_7 cw_RX5_198 rfl (by decide) kc5 rfl ⟨by decide, by decide⟩ (by decide) rfl (Nat.le_of_ble_eq_true rfl) (fun σ2 => ?_)
  refine k_aload_n hk dX5_says_10 0 rfl ?_
  refine k_aload_n hk dX5_says_11 0 rfl ?_
  refine k_iload_n hk dX5_says_12 1 rfl ?_
  refine k_callVr (As := [.int a1]) (rest := [.ref (kad E 0 0)]) hk he hro (c_X5_filmBy hj hn hl F a1  σ2) dX5_says_13 cw_RX5_120 rfl (by decide) kc5 rfl ⟨by decide, by decide⟩ (by decide) rfl (Nat.le_of_ble_eq_true rfl) (fun c4 σ3 hc4 => ?_)
  refine k_iload_n hk dX5_says_16 2 rfl ?_
  refine k_callVi (As := [.ref (kad E 40 c4), .int a2]) (rest := []) hk he hro (c_X5_isSo hj hn hl F c4 a2 hc4 σ3) dX5_says_17 cw_RX5_204 rfl (by decide) kc5 rfl ⟨by decide, by decide⟩ (by decide) rfl (Nat.le_of_ble_eq_true rfl) (fun c6 σ5 => ?_)
  exact k_zreturn hk he dX5_says_20 (by decide)
def f_X5_odds (F : Nat) (a1 : Int32) (σ : kS) : Option kR := kBv (f_X5_testWhy F a1 σ) fun σ1 => kBi (f_X5_rowBits F  σ1) fun c3 σ2 => kBl (f_X5_reckon F c3 1 σ2) fun c5 σ4 => kg (kin a1 6) (some (.inl (some (.long (σ4.2 9 0 a1.toNatClampNeg))), σ4))
set_option maxRecDepth 20000 in
theorem c_X5_odds {l : Launch} {E : kE} (hj : kEj E) (hn : kNorm E) (hl : l.stackTraces = false) (F : Nat) (a1 : Int32)  (σ : kS) : kMet l E yX5_odds cX5_odds 2 (some .long) (9) (166) 1 id [.ref (kad E 0 0), .int a1] σ (f_X5_odds F a1 σ) := by
  refine k_met hj hn hl (by decide) (Nat.le_of_ble_eq_true rfl) (fun C Q hk he hro => ?_)
  have hk : kOk (C, E, Q) cX5_odds RX5 2 := hk
  show Sm (C, E, Q) 2 0 0 [(0, .ref (kad E 0 0)), (1, .int a1)] [] σ _
  unfold f_X5_odds
  refine k_aload_n hk dX5_odds_0 0 rfl ?_
  refine k_iload_n hk dX5_odds_1 1 rfl ?_
  refine k_callVv (As := [.int a1]) (rest := []) hk he hro (c_X5_testWhy hj hn hl F a1  σ) dX5_odds_2 cw_RX5_93 rfl (by decide) kc5 rfl ⟨by decide, by decide⟩ (by decide) rfl (Nat.le_of_ble_eq_true rfl) (fun σ1 => ?_)
  refine k_aload_n hk dX5_odds_5 0 rfl ?_
  refine k_aload_n hk dX5_odds_6 0 rfl ?_
  refine k_callVi (As := []) (rest := [.ref (kad E 0 0)]) hk he hro (c_X5_rowBits hj hn hl F   σ1) dX5_odds_7 cw_RX5_208 rfl (by decide) kc5 rfl ⟨by decide, by decide⟩ (by decide) rfl (Nat.le_of_ble_eq_true rfl) (fun c3 σ2 => ?_)
  refine k_iconst (v := 1) hk dX5_odds_10 (by decide) ?_
  refine k_callVl (As := [.int c3, .int 1]) (rest := []) hk he hro (c_X5_reckon hj hn hl F c3 1  σ2) dX5_odds_11 cw_RX5_212 rfl (by decide) kc5 rfl ⟨by decide, by decide⟩ (by decide) rfl (Nat.le_of_ble_eq_true rfl) (fun c5 σ4 => ?_)
  refine k_pop2l hk dX5_odds_14 rfl ?_
  refine k_aload_n hk dX5_odds_15 0 rfl ?_
  refine k_getr (k := 12) 9 0 hk dX5_odds_16 rfl (by decide) kc5 (by decide) fl_RX5_67 rfl rfl ?_
  refine k_iload_n hk dX5_odds_19 1 rfl ?_
  refine k_lald hk dX5_odds_20 rfl (by decide) (fun h6 => ?_)
  exact k_lreturn hk he dX5_odds_21 (by decide)
def f_X5_share (F : Nat) (a1 : Int32) (σ : kS) : Option kR := kBv (f_X5_testWhy F a1 σ) fun σ1 => kBi (f_X5_rowBits F  σ1) fun c3 σ2 => kBl (f_X5_reckon F c3 1 σ2) fun c5 σ4 => kBi (f_X5_perThousand F a1 c5 σ4) fun c7 σ6 => some (.inl (some (.int c7)), σ6)
set_option maxRecDepth 20000 in
theorem c_X5_share {l : Launch} {E : kE} (hj : kEj E) (hn : kNorm E) (hl : l.stackTraces = false) (F : Nat) (a1 : Int32)  (σ : kS) : kMet l E yX5_share cX5_share 2 (some .int) (9) (166) 1 id [.ref (kad E 0 0), .int a1] σ (f_X5_share F a1 σ) := by
  refine k_met hj hn hl (by decide) (Nat.le_of_ble_eq_true rfl) (fun C Q hk he hro => ?_)
  have hk : kOk (C, E, Q) cX5_share RX5 2 := hk
  show Sm (C, E, Q) 2 0 0 [(0, .ref (kad E 0 0)), (1, .int a1)] [] σ _
  unfold f_X5_share
  refine k_aload_n hk dX5_share_0 0 rfl ?_
  refine k_iload_n hk dX5_share_1 1 rfl ?_
  refine k_callVv (As := [.int a1]) (rest := []) hk he hro (c_X5_testWhy hj hn hl F a1  σ) dX5_share_2 cw_RX5_93 rfl (by decide) kc5 rfl ⟨by decide, by decide⟩ (by decide) rfl (Nat.le_of_ble_eq_true rfl) (fun σ1 => ?_)
  refine k_aload_n hk dX5_share_5 0 rfl ?_
  refine k_iload_n hk dX5_share_6 1 rfl ?_
  refine k_aload_n hk dX5_share_7 0 rfl ?_
  refine k_aload_n hk dX5_share_8 0 rfl ?_
  refine k_callVi (As := []) (rest := [.ref (kad E 0 0), .int a1, .ref (kad E 0 0)]) hk he hro (c_X5_rowBits hj hn hl F   σ1) dX5_share_9 cw_RX5_208 rfl (by decide) kc5 rfl ⟨by decide, by decide⟩ (by decide) rfl (Nat.le_of_ble_eq_true rfl) (fun c3 σ2 => ?_)
  refine k_iconst (v := 1) hk dX5_share_12 (by decide) ?_
  refine k_callVl (As := [.int c3, .int 1]) (rest := [.int a1, .ref (kad E 0 0)]) hk he hro (c_X5_reckon hj hn hl F c3 1  σ2) dX5_share_13 cw_RX5_212 rfl (by decide) kc5 rfl ⟨by decide, by decide⟩ (by decide) rfl (Nat.le_of_ble_eq_true rfl) (fun c5 σ4 => ?_)
  refine k_callVi (As := [.int a1, .long c5]) (rest := []) hk he hro (c_X5_perThousand hj hn hl F a1 c5  σ4) dX5_share_16 cw_RX5_216 rfl (by decide) kc5 rfl ⟨by decide, by decide⟩ (by decide) rfl (Nat.le_of_ble_eq_true rfl) (fun c7 σ6 => ?_)
  exact k_ireturn hk he dX5_share_19 (by decide)
def f_X5_best (F : Nat)  (σ : kS) : Option kR := kBi (f_X5_rowBits F  σ) fun c2 σ1 => kBl (f_X5_reckon F c2 1 σ1) fun c4 σ3 => kBi (f_X5_greatestWorth F  σ3) fun c6 σ5 => some (.inl (some (.int c6)), σ5)
set_option maxRecDepth 20000 in
theorem c_X5_best {l : Launch} {E : kE} (hj : kEj E) (hn : kNorm E) (hl : l.stackTraces = false) (F : Nat)   (σ : kS) : kMet l E yX5_best cX5_best 1 (some .int) (7) (166) 0 id [.ref (kad E 0 0)] σ (f_X5_best F  σ) := by
  refine k_met hj hn hl (by decide) (Nat.le_of_ble_eq_true rfl) (fun C Q hk he hro => ?_)
  have hk : kOk (C, E, Q) cX5_best RX5 1 := hk
  show Sm (C, E, Q) 1 0 0 [(0, .ref (kad E 0 0))] [] σ _
  unfold f_X5_best
  refine k_aload_n hk dX5_best_0 0 rfl ?_
  refine k_aload_n hk dX5_best_1 0 rfl ?_
  refine k_callVi (As := []) (rest := [.ref (kad E 0 0)]) hk he hro (c_X5_rowBits hj hn hl F   σ) dX5_best_2 cw_RX5_208 rfl (by decide) kc5 rfl ⟨by decide, by decide⟩ (by decide) rfl (Nat.le_of_ble_eq_true rfl) (fun c2 σ1 => ?_)
  refine k_iconst (v := 1) hk dX5_best_5 (by decide) ?_
  refine k_callVl (As := [.int c2, .int 1]) (rest := []) hk he hro (c_X5_reckon hj hn hl F c2 1  σ1) dX5_best_6 cw_RX5_212 rfl (by decide) kc5 rfl ⟨by decide, by decide⟩ (by decide) rfl (Nat.le_of_ble_eq_true rfl) (fun c4 σ3 => ?_)
  refine k_pop2l hk dX5_best_9 rfl ?_
  refine k_aload_n hk dX5_best_10 0 rfl ?_
  refine k_callVi (As := []) (rest := []) hk he hro (c_X5_greatestWorth hj hn hl F   σ3) dX5_best_11 cw_RX5_220 rfl (by decide) kc5 rfl ⟨by decide, by decide⟩ (by decide) rfl (Nat.le_of_ble_eq_true rfl) (fun c6 σ5 => ?_)
  exact k_ireturn hk he dX5_best_14 (by decide)
def f_X5_moved (F : Nat) (a1 : Int32) (a2 : Int32) (σ : kS) : Option kR := kBv (f_X5_testWhy F a1 σ) fun σ1 => kBv (f_X5_testRow F a2 σ1) fun σ2 => kBi (f_X5_rowBits F  σ2) fun c4 σ3 => kBl (f_X5_reckon F c4 1 σ3) fun c6 σ5 => kBi (f_X5_perThousand F a1 c6 σ5) fun c8 σ7 => kBi (f_X5_rowBits F  σ7) fun c10 σ9 => kBl (f_X5_reckon F (c10 &&& ((1 <<< (a2 &&& 31)) ^^^ (-1))) 1 σ9) fun c12 σ11 => kBi (f_X5_perThousand F a1 c12 σ11) fun c14 σ13 => some (.inl (some (.int (c8 - c14))), σ13)
set_option maxRecDepth 20000 in
theorem c_X5_moved {l : Launch} {E : kE} (hj : kEj E) (hn : kNorm E) (hl : l.stackTraces = false) (F : Nat) (a1 : Int32) (a2 : Int32)  (σ : kS) : kMet l E yX5_moved cX5_moved 5 (some .int) (9) (166) 2 id [.ref (kad E 0 0), .int a1, .int a2] σ (f_X5_moved F a1 a2 σ) := by
  refine k_met hj hn hl (by decide) (Nat.le_of_ble_eq_true rfl) (fun C Q hk he hro => ?_)
  have hk : kOk (C, E, Q) cX5_moved RX5 5 := hk
  show Sm (C, E, Q) 5 0 0 [(0, .ref (kad E 0 0)), (1, .int a1), (2, .int a2)] [] σ _
  unfold f_X5_moved
  refine k_aload_n hk dX5_moved_0 0 rfl ?_
  refine k_iload_n hk dX5_moved_1 1 rfl ?_
  refine k_callVv (As := [.int a1]) (rest := []) hk he hro (c_X5_testWhy hj hn hl F a1  σ) dX5_moved_2 cw_RX5_93 rfl (by decide) kc5 rfl ⟨by decide, by decide⟩ (by decide) rfl (Nat.le_of_ble_eq_true rfl) (fun σ1 => ?_)
  refine k_aload_n hk dX5_moved_5 0 rfl ?_
  refine k_iload_n hk dX5_moved_6 2 rfl ?_
  refine k_callVv (As := [.int a2]) (rest := []) hk he hro (c_X5_testRow hj hn hl F a2  σ1) dX5_moved_7 cw_RX5_198 rfl (by decide) kc5 rfl ⟨by decide, by decide⟩ (by decide) rfl (Nat.le_of_ble_eq_true rfl) (fun σ2 => ?_)
  refine k_aload_n hk dX5_moved_10 0 rfl ?_
  refine k_iload_n hk dX5_moved_11 1 rfl ?_
  refine k_aload_n hk dX5_moved_12 0 rfl ?_
  refine k_aload_n hk dX5_moved_13 0 rfl ?_
  refine k_callVi (As := []) (rest := [.ref (kad E 0 0), .int a1, .ref (kad E 0 0)]) hk he hro (c_X5_rowBits hj hn hl F   σ2) dX5_moved_14 cw_RX5_208 rfl (by decide) kc5 rfl ⟨by decide, by decide⟩ (by decide) rfl (Nat.le_of_ble_eq_true rfl) (fun c4 σ3 => ?_)
  refine k_iconst (v := 1) hk dX5_moved_17 (by decide) ?_
  refine k_callVl (As := [.int c4, .int 1]) (rest := [.int a1, .ref (kad E 0 0)]) hk he hro (c_X5_reckon hj hn hl F c4 1  σ3) dX5_moved_18 cw_RX5_212 rfl (by decide) kc5 rfl ⟨by decide, by decide⟩ (by decide) rfl (Nat.le_of_ble_eq_true rfl) (fun c6 σ5 => ?_)
  refine k_callVi (As := [.int a1, .long c6]) (rest := []) hk he hro (c_X5_perThousand hj hn hl F a1 c6  σ5) dX5_moved_21 cw_RX5_216 rfl (by decide) kc5 rfl ⟨by decide, by decide⟩ (by decide) rfl (Nat.le_of_ble_eq_true rfl) (fun c8 σ7 => ?_)
  refine k_istore_n (lv' := [(3, .int c8), (0, .ref (kad E 0 0)), (1, .int a1), (2, .int a2)]) hk dX5_moved_24 (by decide) rfl ?_
  refine k_aload_n hk dX5_moved_25 1 rfl ?_
  refine k_iload_n hk dX5_moved_26 2 rfl ?_
  refine k_aload_n hk dX5_moved_27 1 rfl ?_
  refine k_aload_n hk dX5_moved_28 1 rfl ?_
  refine k_callVi (As := []) (rest := [.ref (kad E 0 0), .int a1, .ref (kad E 0 0)]) hk he hro (c_X5_rowBits hj hn hl F   σ7) dX5_moved_29 cw_RX5_208 rfl (by decide) kc5 rfl ⟨by decide, by decide⟩ (by decide) rfl (Nat.le_of_ble_eq_true rfl) (fun c10 σ9 => ?_)
  refine k_iconst (v := 1) hk dX5_moved_32 (by decide) ?_
  refine k_iload_n hk dX5_moved_33 3 rfl ?_
  refine k_ishl hk dX5_moved_34 ?_
  refine k_iconst (v := (-1)) hk dX5_moved_35 (by decide) ?_
  refine k_ixor hk dX5_moved_36 ?_
  refine k_iand hk dX5_moved_37 ?_
  refine k_iconst (v := 1) hk dX5_moved_38 (by decide) ?_
  refine k_callVl (As := [.int (c10 &&& ((1 <<< (a2 &&& 31)) ^^^ (-1))), .int 1]) (rest := [.int a1, .ref (kad E 0 0)]) hk he hro (c_X5_reckon hj hn hl F (c10 &&& ((1 <<< (a2 &&& 31)) ^^^ (-1))) 1  σ9) dX5_moved_39 cw_RX5_212 rfl (by decide) kc5 rfl ⟨by decide, by decide⟩ (by decide) rfl (Nat.le_of_ble_eq_true rfl) (fun c12 σ11 => ?_)
  refine k_callVi (As := [.int a1, .long c12]) (rest := []) hk he hro (c_X5_perThousand hj hn hl F a1 c12  σ11) dX5_moved_42 cw_RX5_216 rfl (by decide) kc5 rfl ⟨by decide, by decide⟩ (by decide) rfl (Nat.le_of_ble_eq_true rfl) (fun c14 σ13 => ?_)
  refine k_istore (lv' := [(4, .int c14), (3, .int c8), (0, .ref (kad E 0 0)), (1, .int a1), (2, .int a2)]) hk dX5_moved_45 (by decide) rfl ?_
  refine k_iload_n hk dX5_moved_47 1 rfl ?_
  refine k_iload hk dX5_moved_48 0 rfl ?_
  refine k_isub hk dX5_moved_50 ?_
  exact k_ireturn hk he dX5_moved_51 (by decide)
def f_X5_inquiry_b46 (F : Nat) (t0 : Int32) (σ : kS) : Option kR := some (.inl (some (.int t0)), σ)
set_option maxRecDepth 20000 in
theorem s_X5_inquiry_b46 {l : Launch} {E : kE} (hj : kEj E) (hn : kNorm E) (hl : l.stackTraces = false) {C : kC} {Q : kR → State → Prop} (hk : kOk (C, E, Q) cX5_inquiry RX5 5) (he : kEnd (C, E, Q) (some .int) id 2) (hro : kRo C l (9) (166) 2) (F : Nat) : ∀ (t0 : Int32)  (σ : kS), Sm (C, E, Q) 5 2 46 [] [.int t0] σ (f_X5_inquiry_b46 F t0 σ) := by
  intro t0  σ
  unfold f_X5_inquiry_b46
  exact k_ireturn hk he dX5_inquiry_46 (by decide)
def f_X5_inquiry_b10 (F : Nat) (x1 : Int32) (x2 : Int32) (σ : kS) : Option kR := kBv (f_X5_testBits F x1 (σ.1 4 0 3) σ) fun σ1 => kBl (f_X5_reckon F x1 0 σ1) fun c3 σ2 => if x2 = (-1) then (kBi (f_X5_greatestWorth F  σ2) fun c8 σ7 => f_X5_inquiry_b46 F c8 σ7) else (kBi (f_X5_perThousand F x2 c3 σ2) fun c6 σ5 => f_X5_inquiry_b46 F c6 σ5)
set_option maxRecDepth 20000 in
theorem s_X5_inquiry_b10 {l : Launch} {E : kE} (hj : kEj E) (hn : kNorm E) (hl : l.stackTraces = false) {C : kC} {Q : kR → State → Prop} (hk : kOk (C, E, Q) cX5_inquiry RX5 5) (he : kEnd (C, E, Q) (some .int) id 2) (hro : kRo C l (9) (166) 2) (F : Nat) : ∀ (x1 : Int32) (x2 : Int32)  (σ : kS), Sm (C, E, Q) 5 1 10 [(0, .ref (kad E 0 0)), (1, .int x1), (2, .int x2)] [] σ (f_X5_inquiry_b10 F x1 x2 σ) := by
  intro x1 x2  σ
  unfold f_X5_inquiry_b10
  refine k_iload_n hk dX5_inquiry_10 1 rfl ?_
  refine k_aload_n hk dX5_inquiry_11 0 rfl ?_
  refine k_getr (k := 6) 4 0 hk dX5_inquiry_12 rfl (by decide) kc5 (by decide) fl_RX5_39 rfl rfl ?_
  refine k_getf (k := 3) hk dX5_inquiry_15 rfl (by decide) kc2 (by decide) fl_RX5_177 rfl ?_
  refine k_callSv (As := [.int x1, .int (σ.1 4 0 3)]) (rest := []) hk he hro (c_X5_testBits hj hn hl F x1 (σ.1 4 0 3)  σ) dX5_inquiry_18 cw_RX5_223 ⟨by decide, by decide⟩ (by decide) rfl (Nat.le_of_ble_eq_true rfl) (fun σ1 => ?_)
  refine k_aload_n hk dX5_inquiry_21 0 rfl ?_
  refine k_iload_n hk dX5_inquiry_22 1 rfl ?_
  refine k_iconst (v := 0) hk dX5_inquiry_23 (by decide) ?_
  refine k_callVl (As := [.int x1, .int 0]) (rest := []) hk he hro (c_X5_reckon hj hn hl F x1 0  σ1) dX5_inquiry_24 cw_RX5_212 rfl (by decide) kc5 rfl ⟨by decide, by decide⟩ (by decide) rfl (Nat.le_of_ble_eq_true rfl) (fun c3 σ2 => ?_)
  refine k_lstore_n (lv' := [(3, .long c3), (0, .ref (kad E 0 0)), (1, .int x1), (2, .int x2)]) hk dX5_inquiry_27 (by decide) rfl ?_
  refine k_iload_n hk dX5_inquiry_28 3 rfl ?_
  refine k_iconst (v := (-1)) hk dX5_inquiry_29 (by decide) ?_
  refine k_icmp_ne hk dX5_inquiry_30 40 (by decide) (fun h4 => ?_) (fun h4 => ?_)
  · refine k_aload_n hk dX5_inquiry_40 1 rfl ?_
    refine k_iload_n hk dX5_inquiry_41 3 rfl ?_
    refine k_lload_n hk dX5_inquiry_42 0 rfl ?_
    refine k_callVi (As := [.int x2, .long c3]) (rest := []) hk he hro (c_X5_perThousand hj hn hl F x2 c3  σ2) dX5_inquiry_43 cw_RX5_216 rfl (by decide) kc5 rfl ⟨by decide, by decide⟩ (by decide) rfl (Nat.le_of_ble_eq_true rfl) (fun c6 σ5 => ?_)
    exact k_sub [] rfl (s_X5_inquiry_b46 hj hn hl hk he hro F  c6  σ5)
  · refine k_aload_n hk dX5_inquiry_33 1 rfl ?_
    refine k_callVi (As := []) (rest := []) hk he hro (c_X5_greatestWorth hj hn hl F   σ2) dX5_inquiry_34 cw_RX5_220 rfl (by decide) kc5 rfl ⟨by decide, by decide⟩ (by decide) rfl (Nat.le_of_ble_eq_true rfl) (fun c8 σ7 => ?_)
    refine k_goto hk dX5_inquiry_37 46 (by decide) ?_
    exact k_sub [] rfl (s_X5_inquiry_b46 hj hn hl hk he hro F  c8  σ7)
def f_X5_inquiry (F : Nat) (a1 : Int32) (a2 : Int32) (σ : kS) : Option kR := if a2 = (-1) then (f_X5_inquiry_b10 F a1 a2 σ) else (kBv (f_X5_testWhy F a2 σ) fun σ10 => f_X5_inquiry_b10 F a1 a2 σ10)
set_option maxRecDepth 20000 in
theorem c_X5_inquiry {l : Launch} {E : kE} (hj : kEj E) (hn : kNorm E) (hl : l.stackTraces = false) (F : Nat) (a1 : Int32) (a2 : Int32)  (σ : kS) : kMet l E yX5_inquiry cX5_inquiry 5 (some .int) (9) (166) 2 id [.ref (kad E 0 0), .int a1, .int a2] σ (f_X5_inquiry F a1 a2 σ) := by
  refine k_met hj hn hl (by decide) (Nat.le_of_ble_eq_true rfl) (fun C Q hk he hro => ?_)
  have hk : kOk (C, E, Q) cX5_inquiry RX5 5 := hk
  show Sm (C, E, Q) 5 0 0 [(0, .ref (kad E 0 0)), (1, .int a1), (2, .int a2)] [] σ _
  unfold f_X5_inquiry
  refine k_iload_n hk dX5_inquiry_0 2 rfl ?_
  refine k_iconst (v := (-1)) hk dX5_inquiry_1 (by decide) ?_
  refine k_icmp_eq hk dX5_inquiry_2 10 (by decide) (fun h9 => ?_) (fun h9 => ?_)
  · refine k_wide (n' := 1) (by decide) ?_
    exact k_sub [0, 1, 2] rfl (s_X5_inquiry_b10 hj hn hl hk he hro F  a1 a2  σ)
  · refine k_aload_n hk dX5_inquiry_5 0 rfl ?_
    refine k_iload_n hk dX5_inquiry_6 2 rfl ?_
    refine k_callVv (As := [.int a2]) (rest := []) hk he hro (c_X5_testWhy hj hn hl F a2  σ) dX5_inquiry_7 cw_RX5_93 rfl (by decide) kc5 rfl ⟨by decide, by decide⟩ (by decide) rfl (Nat.le_of_ble_eq_true rfl) (fun σ10 => ?_)
    exact k_sub [0, 1, 2] rfl (s_X5_inquiry_b10 hj hn hl hk he hro F  a1 a2  σ10)
def f_X5_burnt (F : Nat) (a1 : Int32) (σ : kS) : Option kR := kBv (f_X5_testWhy F a1 σ) fun σ1 => kBi (f_X5_burntBy F a1 σ1) fun c3 σ2 => some (.inl (some (.int c3)), σ2)
set_option maxRecDepth 20000 in
theorem c_X5_burnt {l : Launch} {E : kE} (hj : kEj E) (hn : kNorm E) (hl : l.stackTraces = false) (F : Nat) (a1 : Int32)  (σ : kS) : kMet l E yX5_burnt cX5_burnt 2 (some .int) (9) (161) 1 id [.ref (kad E 0 0), .int a1] σ (f_X5_burnt F a1 σ) := by
  refine k_met hj hn hl (by decide) (Nat.le_of_ble_eq_true rfl) (fun C Q hk he hro => ?_)
  have hk : kOk (C, E, Q) cX5_burnt RX5 2 := hk
  show Sm (C, E, Q) 2 0 0 [(0, .ref (kad E 0 0)), (1, .int a1)] [] σ _
  unfold f_X5_burnt
  refine k_aload_n hk dX5_burnt_0 0 rfl ?_
  refine k_iload_n hk dX5_burnt_1 1 rfl ?_
  refine k_callVv (As := [.int a1]) (rest := []) hk he hro (c_X5_testWhy hj hn hl F a1  σ) dX5_burnt_2 cw_RX5_93 rfl (by decide) kc5 rfl ⟨by decide, by decide⟩ (by decide) rfl (Nat.le_of_ble_eq_true rfl) (fun σ1 => ?_)
  refine k_aload_n hk dX5_burnt_5 0 rfl ?_
  refine k_iload_n hk dX5_burnt_6 1 rfl ?_
  refine k_callVi (As := [.int a1]) (rest := []) hk he hro (c_X5_burntBy hj hn hl F a1  σ1) dX5_burnt_7 cw_RX5_238 rfl (by decide) kc5 rfl ⟨by decide, by decide⟩ (by decide) rfl (Nat.le_of_ble_eq_true rfl) (fun c3 σ2 => ?_)
  exact k_ireturn hk he dX5_burnt_10 (by decide)
def f_X5_safe (F : Nat) (a1 : Int32) (a2 : Int32) (a3 : Int32) (σ : kS) : Option kR := kBv (f_X5_testWhy F a1 σ) fun σ1 => kBv (f_X5_testBits F a2 (σ1.1 4 0 13) σ1) fun σ2 => kBv (f_X5_testWithin F a3 0 99 σ2) fun σ3 => kBi (f_X5_areSafe F a1 a1 a2 a3 σ3) fun c5 σ4 => kg (narrow .boolean (.int c5) = .int c5) (some (.inl (some (.int c5)), σ4))
set_option maxRecDepth 20000 in
theorem c_X5_safe {l : Launch} {E : kE} (hj : kEj E) (hn : kNorm E) (hl : l.stackTraces = false) (F : Nat) (a1 : Int32) (a2 : Int32) (a3 : Int32)  (σ : kS) : kMet l E yX5_safe cX5_safe 4 (some .boolean) (9) (162) 3 id [.ref (kad E 0 0), .int a1, .int a2, .int a3] σ (f_X5_safe F a1 a2 a3 σ) := by
  refine k_met hj hn hl (by decide) (Nat.le_of_ble_eq_true rfl) (fun C Q hk he hro => ?_)
  have hk : kOk (C, E, Q) cX5_safe RX5 4 := hk
  show Sm (C, E, Q) 4 0 0 [(0, .ref (kad E 0 0)), (1, .int a1), (2, .int a2), (3, .int a3)] [] σ _
  unfold f_X5_safe
  refine k_aload_n hk dX5_safe_0 0 rfl ?_
  refine k_iload_n hk dX5_safe_1 1 rfl ?_
  refine k_callVv (As := [.int a1]) (rest := []) hk he hro (c_X5_testWhy hj hn hl F a1  σ) dX5_safe_2 cw_RX5_93 rfl (by decide) kc5 rfl ⟨by decide, by decide⟩ (by decide) rfl (Nat.le_of_ble_eq_true rfl) (fun σ1 => ?_)
  refine k_iload_n hk dX5_safe_5 2 rfl ?_
  refine k_aload_n hk dX5_safe_6 0 rfl ?_
  refine k_getr (k := 6) 4 0 hk dX5_safe_7 rfl (by decide) kc5 (by decide) fl_RX5_39 rfl rfl ?_
  refine k_getf (k := 13) hk dX5_safe_10 rfl (by decide) kc2 (by decide) fl_RX5_241 rfl ?_
  refine k_callSv (As := [.int a2, .int (σ1.1 4 0 13)]) (rest := []) hk he hro (c_X5_testBits hj hn hl F a2 (σ1.1 4 0 13)  σ1) dX5_safe_13 cw_RX5_223 ⟨by decide, by decide⟩ (by decide) rfl (Nat.le_of_ble_eq_true rfl) (fun σ2 => ?_)
  refine k_iload_n hk dX5_safe_16 3 rfl ?_
  refine k_iconst (v := 0) hk dX5_safe_17 (by decide) ?_
  refine k_bipush (v := 99) hk dX5_safe_18 (by decide) ?_
  refine k_callSv (As := [.int a3, .int 0, .int 99]) (rest := []) hk he hro (c_X5_testWithin hj hn hl F a3 0 99  σ2) dX5_safe_20 cw_RX5_97 ⟨by decide, by decide⟩ (by decide) rfl (Nat.le_of_ble_eq_true rfl) (fun σ3 => ?_)
  refine k_aload_n hk dX5_safe_23 0 rfl ?_
  refine k_iload_n hk dX5_safe_24 1 rfl ?_
  refine k_iload_n hk dX5_safe_25 1 rfl ?_
  refine k_iload_n hk dX5_safe_26 2 rfl ?_
  refine k_iload_n hk dX5_safe_27 3 rfl ?_
  refine k_callVi (As := [.int a1, .int a1, .int a2, .int a3]) (rest := []) hk he hro (c_X5_areSafe hj hn hl F a1 a1 a2 a3  σ3) dX5_safe_28 cw_RX5_253 rfl (by decide) kc5 rfl ⟨by decide, by decide⟩ (by decide) rfl (Nat.le_of_ble_eq_true rfl) (fun c5 σ4 => ?_)
  exact k_zreturn hk he dX5_safe_31 (by decide)
def f_X5_least (F : Nat) (a1 : Int32) (a2 : Int32) (σ : kS) : Option kR := kBv (f_X5_testWhy F a1 σ) fun σ1 => kBv (f_X5_testWithin F a2 0 99 σ1) fun σ2 => kBi (f_X5_leastFor F a1 a1 a2 σ2) fun c4 σ3 => some (.inl (some (.int c4)), σ3)
set_option maxRecDepth 20000 in
theorem c_X5_least {l : Launch} {E : kE} (hj : kEj E) (hn : kNorm E) (hl : l.stackTraces = false) (F : Nat) (a1 : Int32) (a2 : Int32)  (σ : kS) : kMet l E yX5_least cX5_least 3 (some .int) (9) (166) 2 id [.ref (kad E 0 0), .int a1, .int a2] σ (f_X5_least F a1 a2 σ) := by
  refine k_met hj hn hl (by decide) (Nat.le_of_ble_eq_true rfl) (fun C Q hk he hro => ?_)
  have hk : kOk (C, E, Q) cX5_least RX5 3 := hk
  show Sm (C, E, Q) 3 0 0 [(0, .ref (kad E 0 0)), (1, .int a1), (2, .int a2)] [] σ _
  unfold f_X5_least
  refine k_aload_n hk dX5_least_0 0 rfl ?_
  refine k_iload_n hk dX5_least_1 1 rfl ?_
  refine k_callVv (As := [.int a1]) (rest := []) hk he hro (c_X5_testWhy hj hn hl F a1  σ) dX5_least_2 cw_RX5_93 rfl (by decide) kc5 rfl ⟨by decide, by decide⟩ (by decide) rfl (Nat.le_of_ble_eq_true rfl) (fun σ1 => ?_)
  refine k_iload_n hk dX5_least_5 2 rfl ?_
  refine k_iconst (v := 0) hk dX5_least_6 (by decide) ?_
  refine k_bipush (v := 99) hk dX5_least_7 (by decide) ?_
  refine k_callSv (As := [.int a2, .int 0, .int 99]) (rest := []) hk he hro (c_X5_testWithin hj hn hl F a2 0 99  σ1) dX5_least_9 cw_RX5_97 ⟨by decide, by decide⟩ (by decide) rfl (Nat.le_of_ble_eq_true rfl) (fun σ2 => ?_)
  refine k_aload_n hk dX5_least_12 0 rfl ?_
  refine k_iload_n hk dX5_least_13 1 rfl ?_
  refine k_iload_n hk dX5_least_14 1 rfl ?_
  refine k_iload_n hk dX5_least_15 2 rfl ?_
  refine k_callVi (As := [.int a1, .int a1, .int a2]) (rest := []) hk he hro (c_X5_leastFor hj hn hl F a1 a1 a2  σ2) dX5_least_16 cw_RX5_257 rfl (by decide) kc5 rfl ⟨by decide, by decide⟩ (by decide) rfl (Nat.le_of_ble_eq_true rfl) (fun c4 σ3 => ?_)
  exact k_ireturn hk he dX5_least_19 (by decide)
def f_X5_all (F : Nat) (a1 : Int32) (σ : kS) : Option kR := kBv (f_X5_testWithin F a1 0 99 σ) fun σ1 => kBi (f_X5_leastFor F 0 ((σ1.1 0 0 5) - 1) a1 σ1) fun c3 σ2 => some (.inl (some (.int c3)), σ2)
set_option maxRecDepth 20000 in
theorem c_X5_all {l : Launch} {E : kE} (hj : kEj E) (hn : kNorm E) (hl : l.stackTraces = false) (F : Nat) (a1 : Int32)  (σ : kS) : kMet l E yX5_all cX5_all 2 (some .int) (9) (166) 1 id [.ref (kad E 0 0), .int a1] σ (f_X5_all F a1 σ) := by
  refine k_met hj hn hl (by decide) (Nat.le_of_ble_eq_true rfl) (fun C Q hk he hro => ?_)
  have hk : kOk (C, E, Q) cX5_all RX5 2 := hk
  show Sm (C, E, Q) 2 0 0 [(0, .ref (kad E 0 0)), (1, .int a1)] [] σ _
  unfold f_X5_all
  refine k_iload_n hk dX5_all_0 1 rfl ?_
  refine k_iconst (v := 0) hk dX5_all_1 (by decide) ?_
  refine k_bipush (v := 99) hk dX5_all_2 (by decide) ?_
  refine k_callSv (As := [.int a1, .int 0, .int 99]) (rest := []) hk he hro (c_X5_testWithin hj hn hl F a1 0 99  σ) dX5_all_4 cw_RX5_97 ⟨by decide, by decide⟩ (by decide) rfl (Nat.le_of_ble_eq_true rfl) (fun σ1 => ?_)
  refine k_aload_n hk dX5_all_7 0 rfl ?_
  refine k_iconst (v := 0) hk dX5_all_8 (by decide) ?_
  refine k_aload_n hk dX5_all_9 0 rfl ?_
  refine k_getf (k := 5) hk dX5_all_10 rfl (by decide) kc5 (by decide) fl_RX5_33 rfl ?_
  refine k_iconst (v := 1) hk dX5_all_13 (by decide) ?_
  refine k_isub hk dX5_all_14 ?_
  refine k_iload_n hk dX5_all_15 1 rfl ?_
  refine k_callVi (As := [.int 0, .int ((σ1.1 0 0 5) - 1), .int a1]) (rest := []) hk he hro (c_X5_leastFor hj hn hl F 0 ((σ1.1 0 0 5) - 1) a1  σ1) dX5_all_16 cw_RX5_257 rfl (by decide) kc5 rfl ⟨by decide, by decide⟩ (by decide) rfl (Nat.le_of_ble_eq_true rfl) (fun c3 σ2 => ?_)
  exact k_ireturn hk he dX5_all_19 (by decide)
def f_X5_next_b84 (F : Nat) (rr35 : (Int32 × Int64 × Int32 × Int64 × Int32) → kS → Option kR) (x1 : Int32) (x2 : Int64) (x4 : Int32) (x5 : Int64) (x7 : Int32) (σ : kS) : Option kR := rr35 (x1, x2, x4, x5, x7 + 1) σ
set_option maxRecDepth 20000 in
theorem s_X5_next_b84 {l : Launch} {E : kE} (hj : kEj E) (hn : kNorm E) (hl : l.stackTraces = false) {C : kC} {Q : kR → State → Prop} (hk : kOk (C, E, Q) cX5_next RX5 12) (he : kEnd (C, E, Q) (some .int) id 1) (hro : kRo C l (9) (166) 1) (F : Nat) (rr35 : (Int32 × Int64 × Int32 × Int64 × Int32) → kS → Option kR) (hrr35 : ∀ (x1 : Int32) (x2 : Int64) (x4 : Int32) (x5 : Int64) (x7 : Int32)  (σ : kS), Sm (C, E, Q) 12 1 35 [(0, .ref (kad E 0 0)), (1, .int x1), (2, .long x2), (4, .int x4), (5, .long x5), (7, .int x7)] [] σ (rr35 (x1, x2, x4, x5, x7) σ)) : ∀ (x1 : Int32) (x2 : Int64) (x4 : Int32) (x5 : Int64) (x7 : Int32)  (σ : kS), Sm (C, E, Q) 12 1 84 [(0, .ref (kad E 0 0)), (1, .int x1), (2, .long x2), (4, .int x4), (5, .long x5), (7, .int x7)] [] σ (f_X5_next_b84 F rr35 x1 x2 x4 x5 x7 σ) := by
  intro x1 x2 x4 x5 x7  σ
  unfold f_X5_next_b84
  refine k_iinc (lv' := [(7, .int (x7 + 1)), (0, .ref (kad E 0 0)), (1, .int x1), (2, .long x2), (4, .int x4), (5, .long x5)]) (j := 5) (y := x7 + 1) hk dX5_next_84 rfl rfl (by decide) rfl ?_
  refine k_goto hk dX5_next_87 35 (by decide) ?_
  exact k_sub [1, 2, 3, 4, 5, 0] rfl (hrr35 x1 x2 x4 x5 (x7 + 1)  σ)
def f_X5_next_b76 (F : Nat) (rr35 : (Int32 × Int64 × Int32 × Int64 × Int32) → kS → Option kR) (x1 : Int32) (x2 : Int64) (x7 : Int32) (x10 : Int64) (σ : kS) : Option kR := f_X5_next_b84 F rr35 x1 x2 x7 x10 x7 σ
set_option maxRecDepth 20000 in
theorem s_X5_next_b76 {l : Launch} {E : kE} (hj : kEj E) (hn : kNorm E) (hl : l.stackTraces = false) {C : kC} {Q : kR → State → Prop} (hk : kOk (C, E, Q) cX5_next RX5 12) (he : kEnd (C, E, Q) (some .int) id 1) (hro : kRo C l (9) (166) 1) (F : Nat) (rr35 : (Int32 × Int64 × Int32 × Int64 × Int32) → kS → Option kR) (hrr35 : ∀ (x1 : Int32) (x2 : Int64) (x4 : Int32) (x5 : Int64) (x7 : Int32)  (σ : kS), Sm (C, E, Q) 12 1 35 [(0, .ref (kad E 0 0)), (1, .int x1), (2, .long x2), (4, .int x4), (5, .long x5), (7, .int x7)] [] σ (rr35 (x1, x2, x4, x5, x7) σ)) : ∀ (x1 : Int32) (x2 : Int64) (x7 : Int32) (x10 : Int64)  (σ : kS), Sm (C, E, Q) 12 1 76 [(0, .ref (kad E 0 0)), (1, .int x1), (2, .long x2), (7, .int x7), (10, .long x10)] [] σ (f_X5_next_b76 F rr35 x1 x2 x7 x10 σ) := by
  intro x1 x2 x7 x10  σ
  unfold f_X5_next_b76
  refine k_iload hk dX5_next_76 3 rfl ?_
  refine k_istore (lv' := [(4, .int x7), (0, .ref (kad E 0 0)), (1, .int x1), (2, .long x2), (7, .int x7), (10, .long x10)]) hk dX5_next_78 (by decide) rfl ?_
  refine k_lload hk dX5_next_80 5 rfl ?_
  refine k_lstore (lv' := [(5, .long x10), (4, .int x7), (0, .ref (kad E 0 0)), (1, .int x1), (2, .long x2), (7, .int x7), (10, .long x10)]) hk dX5_next_82 (by decide) rfl ?_
  exact k_sub [2, 3, 4, 1, 0, 5] rfl (s_X5_next_b84 hj hn hl hk he hro F rr35 hrr35  x1 x2 x7 x10 x7  σ)
def f_X5_next_b35 (F : Nat) (rr35 : (Int32 × Int64 × Int32 × Int64 × Int32) → kS → Option kR) (a : (Int32 × Int64 × Int32 × Int64 × Int32)) (σ : kS) : Option kR := match a with
  | (x1, x2, x4, x5, x7) => if 8 ≤ x7 then (some (.inl (some (.int x4)), σ)) else (kBl (f_X5_worthWithFire F x7 x1 σ) fun c3 σ2 => kb (kmaxL c3 (x2 - c3)) fun y4 => if x4 = (-1) then (f_X5_next_b76 F rr35 x1 x2 x7 y4 σ2) else (if 0 ≤ (lg_cmp y4 x5) then (f_X5_next_b84 F rr35 x1 x2 x4 x5 x7 σ2) else (f_X5_next_b76 F rr35 x1 x2 x7 y4 σ2)))
set_option maxRecDepth 20000 in
theorem s_X5_next_b35 {l : Launch} {E : kE} (hj : kEj E) (hn : kNorm E) (hl : l.stackTraces = false) {C : kC} {Q : kR → State → Prop} (hk : kOk (C, E, Q) cX5_next RX5 12) (he : kEnd (C, E, Q) (some .int) id 1) (hro : kRo C l (9) (166) 1) (F : Nat) : ∀ (N9 : Nat) (x1 : Int32) (x2 : Int64) (x4 : Int32) (x5 : Int64) (x7 : Int32)  (σ : kS), Sm (C, E, Q) 12 1 35 [(0, .ref (kad E 0 0)), (1, .int x1), (2, .long x2), (4, .int x4), (5, .long x5), (7, .int x7)] [] σ (kFix (f_X5_next_b35 F) N9 (x1, x2, x4, x5, x7) σ) := by
  intro N9
  induction N9 with
  | zero => intro x1 x2 x4 x5 x7  σ; exact k_no
  | succ N9 ih =>
    intro x1 x2 x4 x5 x7  σ
    show Sm _ _ _ _ _ _ _ (f_X5_next_b35 F (kFix (f_X5_next_b35 F) N9) (x1, x2, x4, x5, x7) σ)
    generalize kFix (f_X5_next_b35 F) N9 = rr35 at ih
    have hrr35 := ih
    unfold f_X5_next_b35
    dsimp only
    refine k_iload hk dX5_next_35 5 rfl ?_
    refine k_bipush (v := 8) hk dX5_next_37 (by decide) ?_
    refine k_icmp_ge hk dX5_next_39 90 (by decide) (fun h1 => ?_) (fun h1 => ?_)
    · refine k_iload hk dX5_next_90 3 rfl ?_
      exact k_ireturn hk he dX5_next_92 (by decide)
    · refine k_aload_n hk dX5_next_42 0 rfl ?_
      refine k_iload hk dX5_next_43 5 rfl ?_
      refine k_iload_n hk dX5_next_45 1 rfl ?_
      refine k_callVl (As := [.int x7, .int x1]) (rest := []) hk he hro (c_X5_worthWithFire hj hn hl F x7 x1  σ) dX5_next_46 cw_RX5_261 rfl (by decide) kc5 rfl ⟨by decide, by decide⟩ (by decide) rfl (Nat.le_of_ble_eq_true rfl) (fun c3 σ2 => ?_)
      refine k_lstore (lv' := [(8, .long c3), (0, .ref (kad E 0 0)), (1, .int x1), (2, .long x2), (4, .int x4), (5, .long x5), (7, .int x7)]) hk dX5_next_49 (by decide) rfl ?_
      refine k_lload hk dX5_next_51 0 rfl ?_
      refine k_lload_n hk dX5_next_53 3 rfl ?_
      refine k_lload hk dX5_next_54 0 rfl ?_
      refine k_lsub hk dX5_next_56 ?_
      refine k_mmaxl hk hro dX5_next_57 cw_RX5_265 ⟨by decide, Nat.le_of_ble_eq_true rfl⟩ (by decide) (fun y4 => ?_)
      refine k_lstore (lv' := [(10, .long y4), (8, .long c3), (0, .ref (kad E 0 0)), (1, .int x1), (2, .long x2), (4, .int x4), (5, .long x5), (7, .int x7)]) hk dX5_next_60 (by decide) rfl ?_
      refine k_iload hk dX5_next_62 5 rfl ?_
      refine k_iconst (v := (-1)) hk dX5_next_64 (by decide) ?_
      refine k_icmp_eq hk dX5_next_65 76 (by decide) (fun h5 => ?_) (fun h5 => ?_)
      · exact k_sub [2, 3, 4, 7, 0] rfl (s_X5_next_b76 hj hn hl hk he hro F rr35 hrr35  x1 x2 x7 y4  σ2)
      · refine k_lload hk dX5_next_68 0 rfl ?_
        refine k_lload hk dX5_next_70 6 rfl ?_
        refine k_lcmp hk dX5_next_72 ?_
        refine k_if_ge hk dX5_next_73 84 (by decide) (fun h6 => ?_) (fun h6 => ?_)
        · exact k_sub [2, 3, 4, 5, 6, 7] rfl (s_X5_next_b84 hj hn hl hk he hro F rr35 hrr35  x1 x2 x4 x5 x7  σ2)
        · exact k_sub [2, 3, 4, 7, 0] rfl (s_X5_next_b76 hj hn hl hk he hro F rr35 hrr35  x1 x2 x7 y4  σ2)
def f_X5_next (F : Nat) (a1 : Int32) (σ : kS) : Option kR := kBv (f_X5_testWithin F a1 0 99 σ) fun σ7 => if (σ7.1 0 0 5) = 0 then (some (.inl (some (.int (-1))), σ7)) else (kBi (f_X5_rowBits F  σ7) fun c10 σ9 => kBl (f_X5_reckon F c10 1 σ9) fun c12 σ11 => kFix (f_X5_next_b35 F) F (a1, c12, (-1), 0, 0) σ11)
set_option maxRecDepth 20000 in
theorem c_X5_next {l : Launch} {E : kE} (hj : kEj E) (hn : kNorm E) (hl : l.stackTraces = false) (F : Nat) (a1 : Int32)  (σ : kS) : kMet l E yX5_next cX5_next 12 (some .int) (9) (166) 1 id [.ref (kad E 0 0), .int a1] σ (f_X5_next F a1 σ) := by
  refine k_met hj hn hl (by decide) (Nat.le_of_ble_eq_true rfl) (fun C Q hk he hro => ?_)
  have hk : kOk (C, E, Q) cX5_next RX5 12 := hk
  show Sm (C, E, Q) 12 0 0 [(0, .ref (kad E 0 0)), (1, .int a1)] [] σ _
  unfold f_X5_next
  refine k_iload_n hk dX5_next_0 1 rfl ?_
  refine k_iconst (v := 0) hk dX5_next_1 (by decide) ?_
  refine k_bipush (v := 99) hk dX5_next_2 (by decide) ?_
  refine k_callSv (As := [.int a1, .int 0, .int 99]) (rest := []) hk he hro (c_X5_testWithin hj hn hl F a1 0 99  σ) dX5_next_4 cw_RX5_97 ⟨by decide, by decide⟩ (by decide) rfl (Nat.le_of_ble_eq_true rfl) (fun σ7 => ?_)
  refine k_aload_n hk dX5_next_7 0 rfl ?_
  refine k_getf (k := 5) hk dX5_next_8 rfl (by decide) kc5 (by decide) fl_RX5_33 rfl ?_
  refine k_if_ne hk dX5_next_11 16 (by decide) (fun h8 => ?_) (fun h8 => ?_)
  · refine k_aload_n hk dX5_next_16 0 rfl ?_
    refine k_aload_n hk dX5_next_17 0 rfl ?_
    refine k_callVi (As := []) (rest := [.ref (kad E 0 0)]) hk he hro (c_X5_rowBits hj hn hl F   σ7) dX5_next_18 cw_RX5_208 rfl (by decide) kc5 rfl ⟨by decide, by decide⟩ (by decide) rfl (Nat.le_of_ble_eq_true rfl) (fun c10 σ9 => ?_)
    refine k_iconst (v := 1) hk dX5_next_21 (by decide) ?_
    refine k_callVl (As := [.int c10, .int 1]) (rest := []) hk he hro (c_X5_reckon hj hn hl F c10 1  σ9) dX5_next_22 cw_RX5_212 rfl (by decide) kc5 rfl ⟨by decide, by decide⟩ (by decide) rfl (Nat.le_of_ble_eq_true rfl) (fun c12 σ11 => ?_)
    refine k_lstore_n (lv' := [(2, .long c12), (0, .ref (kad E 0 0)), (1, .int a1)]) hk dX5_next_25 (by decide) rfl ?_
    refine k_iconst (v := (-1)) hk dX5_next_26 (by decide) ?_
    refine k_istore (lv' := [(4, .int (-1)), (2, .long c12), (0, .ref (kad E 0 0)), (1, .int a1)]) hk dX5_next_27 (by decide) rfl ?_
    refine k_lconst (v := 0) hk dX5_next_29 (by decide) ?_
    refine k_lstore (lv' := [(5, .long 0), (4, .int (-1)), (2, .long c12), (0, .ref (kad E 0 0)), (1, .int a1)]) hk dX5_next_30 (by decide) rfl ?_
    refine k_iconst (v := 0) hk dX5_next_32 (by decide) ?_
    refine k_istore (lv' := [(7, .int 0), (5, .long 0), (4, .int (-1)), (2, .long c12), (0, .ref (kad E 0 0)), (1, .int a1)]) hk dX5_next_33 (by decide) rfl ?_
    exact k_sub [4, 5, 3, 2, 1, 0] rfl (s_X5_next_b35 hj hn hl hk he hro F F a1 c12 (-1) 0 0  σ11)
  · refine k_iconst (v := (-1)) hk dX5_next_14 (by decide) ?_
    exact k_ireturn hk he dX5_next_15 (by decide)
def f_X5_parted_b26 (F : Nat) (rr26 : (Nat × Nat × Int32) → kS → Option kR) (a : (Nat × Nat × Int32)) (σ : kS) : Option kR := match a with
  | (x3, x4, x5) => if 100 ≤ x5 then (some (.inl (some (.int (-1))), σ)) else (kBi (f_X5_areAlike F x3 x4 x5 σ) fun c3 σ2 => if c3 = 0 then (some (.inl (some (.int x5)), σ2)) else (rr26 (x3, x4, x5 + 1) σ2))
set_option maxRecDepth 20000 in
theorem s_X5_parted_b26 {l : Launch} {E : kE} (hj : kEj E) (hn : kNorm E) (hl : l.stackTraces = false) {C : kC} {Q : kR → State → Prop} (hk : kOk (C, E, Q) cX5_parted RX5 6) (he : kEnd (C, E, Q) (some .int) id 2) (hro : kRo C l (9) (161) 2) (F : Nat) : ∀ (N9 : Nat) (x3 : Nat) (x4 : Nat) (x5 : Int32) (hx3 : x3 < kCnt 40) (hx4 : x4 < kCnt 40) (σ : kS), Sm (C, E, Q) 6 2 26 [(3, .ref (kad E 40 x3)), (4, .ref (kad E 40 x4)), (5, .int x5)] [] σ (kFix (f_X5_parted_b26 F) N9 (x3, x4, x5) σ) := by
  intro N9
  induction N9 with
  | zero => intro x3 x4 x5 hx3 hx4 σ; exact k_no
  | succ N9 ih =>
    intro x3 x4 x5 hx3 hx4 σ
    show Sm _ _ _ _ _ _ _ (f_X5_parted_b26 F (kFix (f_X5_parted_b26 F) N9) (x3, x4, x5) σ)
    generalize kFix (f_X5_parted_b26 F) N9 = rr26 at ih
    have hrr26 := ih
    unfold f_X5_parted_b26
    dsimp only
    refine k_iload hk dX5_parted_26 2 rfl ?_
    refine k_bipush (v := 100) hk dX5_parted_28 (by decide) ?_
    refine k_icmp_ge hk dX5_parted_30 53 (by decide) (fun h1 => ?_) (fun h1 => ?_)
    · refine k_iconst (v := (-1)) hk dX5_parted_53 (by decide) ?_
      exact k_ireturn hk he dX5_parted_54 (by decide)
    · refine k_aload_n hk dX5_parted_33 0 rfl ?_
      refine k_aload hk dX5_parted_34 1 rfl ?_
      refine k_iload hk dX5_parted_36 2 rfl ?_
      refine k_callSi (As := [.ref (kad E 40 x3), .ref (kad E 40 x4), .int x5]) (rest := []) hk he hro (c_X5_areAlike hj hn hl F x3 x4 x5 hx3 hx4 σ) dX5_parted_38 cw_RX5_271 ⟨by decide, by decide⟩ (by decide) rfl (Nat.le_of_ble_eq_true rfl) (fun c3 σ2 => ?_)
      refine k_if_ne hk dX5_parted_41 47 (by decide) (fun h4 => ?_) (fun h4 => ?_)
      · refine k_iinc (lv' := [(5, .int (x5 + 1)), (3, .ref (kad E 40 x3)), (4, .ref (kad E 40 x4))]) (j := 2) (y := x5 + 1) hk dX5_parted_47 rfl rfl (by decide) rfl ?_
        refine k_goto hk dX5_parted_50 26 (by decide) ?_
        exact k_sub [1, 2, 0] rfl (hrr26 x3 x4 (x5 + 1) hx3 hx4 σ2)
      · refine k_iload hk dX5_parted_44 2 rfl ?_
        exact k_ireturn hk he dX5_parted_46 (by decide)
def f_X5_parted (F : Nat) (a1 : Int32) (a2 : Int32) (σ : kS) : Option kR := kBv (f_X5_testWhy F a1 σ) fun σ5 => kBv (f_X5_testWhy F a2 σ5) fun σ6 => kBr (f_X5_filmBy F a1 σ6) fun c8 σ7 => kBr (f_X5_filmBy F a2 σ7) fun c10 σ9 => kFix (f_X5_parted_b26 F) F (c8, c10, 0) σ9
set_option maxRecDepth 20000 in
theorem c_X5_parted {l : Launch} {E : kE} (hj : kEj E) (hn : kNorm E) (hl : l.stackTraces = false) (F : Nat) (a1 : Int32) (a2 : Int32)  (σ : kS) : kMet l E yX5_parted cX5_parted 6 (some .int) (9) (161) 2 id [.ref (kad E 0 0), .int a1, .int a2] σ (f_X5_parted F a1 a2 σ) := by
  refine k_met hj hn hl (by decide) (Nat.le_of_ble_eq_true rfl) (fun C Q hk he hro => ?_)
  have hk : kOk (C, E, Q) cX5_parted RX5 6 := hk
  show Sm (C, E, Q) 6 0 0 [(0, .ref (kad E 0 0)), (1, .int a1), (2, .int a2)] [] σ _
  unfold f_X5_parted
  refine k_aload_n hk dX5_parted_0 0 rfl ?_
  refine k_iload_n hk dX5_parted_1 1 rfl ?_
  refine k_callVv (As := [.int a1]) (rest := []) hk he hro (c_X5_testWhy hj hn hl F a1  σ) dX5_parted_2 cw_RX5_93 rfl (by decide) kc5 rfl ⟨by decide, by decide⟩ (by decide) rfl (Nat.le_of_ble_eq_true rfl) (fun σ5 => ?_)
  refine k_aload_n hk dX5_parted_5 0 rfl ?_
  refine k_iload_n hk dX5_parted_6 2 rfl ?_
  refine k_callVv (As := [.int a2]) (rest := []) hk he hro (c_X5_testWhy hj hn hl F a2  σ5) dX5_parted_7 cw_RX5_93 rfl (by decide) kc5 rfl ⟨by decide, by decide⟩ (by decide) rfl (Nat.le_of_ble_eq_true rfl) (fun σ6 => ?_)
  refine k_aload_n hk dX5_parted_10 0 rfl ?_
  refine k_iload_n hk dX5_parted_11 1 rfl ?_
  refine k_callVr (As := [.int a1]) (rest := []) hk he hro (c_X5_filmBy hj hn hl F a1  σ6) dX5_parted_12 cw_RX5_120 rfl (by decide) kc5 rfl ⟨by decide, by decide⟩ (by decide) rfl (Nat.le_of_ble_eq_true rfl) (fun c8 σ7 hc8 => ?_)
  refine k_astore_n (lv' := [(3, .ref (kad E 40 c8)), (0, .ref (kad E 0 0)), (1, .int a1), (2, .int a2)]) hk dX5_parted_15 (by decide) rfl ?_
  refine k_aload_n hk dX5_parted_16 1 rfl ?_
  refine k_iload_n hk dX5_parted_17 3 rfl ?_
  refine k_callVr (As := [.int a2]) (rest := []) hk he hro (c_X5_filmBy hj hn hl F a2  σ7) dX5_parted_18 cw_RX5_120 rfl (by decide) kc5 rfl ⟨by decide, by decide⟩ (by decide) rfl (Nat.le_of_ble_eq_true rfl) (fun c10 σ9 hc10 => ?_)
  refine k_astore (lv' := [(4, .ref (kad E 40 c10)), (3, .ref (kad E 40 c8)), (0, .ref (kad E 0 0)), (1, .int a1), (2, .int a2)]) hk dX5_parted_21 (by decide) rfl ?_
  refine k_iconst (v := 0) hk dX5_parted_23 (by decide) ?_
  refine k_istore (lv' := [(5, .int 0), (4, .ref (kad E 40 c10)), (3, .ref (kad E 40 c8)), (0, .ref (kad E 0 0)), (1, .int a1), (2, .int a2)]) hk dX5_parted_24 (by decide) rfl ?_
  exact k_sub [2, 1, 0] rfl (s_X5_parted_b26 hj hn hl hk he hro F F c8 c10 0 hc8 hc10 σ9)
def f_X5_order_b45 (F : Nat) (rr14 : (Int32 × Nat × Int32) → kS → Option kR) (x2 : Int32) (x3 : Nat) (x4 : Int32) (σ : kS) : Option kR := rr14 (x2, x3, x4 + 1) σ
set_option maxRecDepth 20000 in
theorem s_X5_order_b45 {l : Launch} {E : kE} (hj : kEj E) (hn : kNorm E) (hl : l.stackTraces = false) {C : kC} {Q : kR → State → Prop} (hk : kOk (C, E, Q) cX5_order RX5 5) (he : kEnd (C, E, Q) (some .int) id 1) (hro : kRo C l (9) (161) 1) (F : Nat) (rr14 : (Int32 × Nat × Int32) → kS → Option kR) (hrr14 : ∀ (x2 : Int32) (x3 : Nat) (x4 : Int32) (hx3 : x3 < kCnt 40) (σ : kS), Sm (C, E, Q) 5 1 14 [(2, .int x2), (3, .ref (kad E 40 x3)), (4, .int x4)] [] σ (rr14 (x2, x3, x4) σ)) : ∀ (x2 : Int32) (x3 : Nat) (x4 : Int32) (hx3 : x3 < kCnt 40) (σ : kS), Sm (C, E, Q) 5 1 45 [(2, .int x2), (3, .ref (kad E 40 x3)), (4, .int x4)] [] σ (f_X5_order_b45 F rr14 x2 x3 x4 σ) := by
  intro x2 x3 x4 hx3 σ
  unfold f_X5_order_b45
  refine k_iinc (lv' := [(4, .int (x4 + 1)), (2, .int x2), (3, .ref (kad E 40 x3))]) (j := 2) (y := x4 + 1) hk dX5_order_45 rfl rfl (by decide) rfl ?_
  refine k_goto hk dX5_order_48 14 (by decide) ?_
  exact k_sub [1, 2, 0] rfl (hrr14 x2 x3 (x4 + 1) hx3 σ)
def f_X5_order_b14 (F : Nat) (rr14 : (Int32 × Nat × Int32) → kS → Option kR) (a : (Int32 × Nat × Int32)) (σ : kS) : Option kR := match a with
  | (x2, x3, x4) => if 8 ≤ x4 then (some (.inl (some (.int (-1))), σ)) else (kg (kin x4 8) (if (σ.1 47 x3 x4.toNatClampNeg) = (-1) then (f_X5_order_b45 F rr14 x2 x3 x4 σ) else (kBi (f_X0_firesAhead F x3 x4 σ) fun c5 σ4 => if c5 = x2 then (some (.inl (some (.int x4)), σ4)) else (f_X5_order_b45 F rr14 x2 x3 x4 σ4))))
set_option maxRecDepth 20000 in
theorem s_X5_order_b14 {l : Launch} {E : kE} (hj : kEj E) (hn : kNorm E) (hl : l.stackTraces = false) {C : kC} {Q : kR → State → Prop} (hk : kOk (C, E, Q) cX5_order RX5 5) (he : kEnd (C, E, Q) (some .int) id 1) (hro : kRo C l (9) (161) 1) (F : Nat) : ∀ (N9 : Nat) (x2 : Int32) (x3 : Nat) (x4 : Int32) (hx3 : x3 < kCnt 40) (σ : kS), Sm (C, E, Q) 5 1 14 [(2, .int x2), (3, .ref (kad E 40 x3)), (4, .int x4)] [] σ (kFix (f_X5_order_b14 F) N9 (x2, x3, x4) σ) := by
  intro N9
  induction N9 with
  | zero => intro x2 x3 x4 hx3 σ; exact k_no
  | succ N9 ih =>
    intro x2 x3 x4 hx3 σ
    show Sm _ _ _ _ _ _ _ (f_X5_order_b14 F (kFix (f_X5_order_b14 F) N9) (x2, x3, x4) σ)
    generalize kFix (f_X5_order_b14 F) N9 = rr14 at ih
    have hrr14 := ih
    unfold f_X5_order_b14
    dsimp only
    refine k_iload hk dX5_order_14 2 rfl ?_
    refine k_bipush (v := 8) hk dX5_order_16 (by decide) ?_
    refine k_icmp_ge hk dX5_order_18 51 (by decide) (fun h1 => ?_) (fun h1 => ?_)
    · refine k_iconst (v := (-1)) hk dX5_order_51 (by decide) ?_
      exact k_ireturn hk he dX5_order_52 (by decide)
    · refine k_aload_n hk dX5_order_21 1 rfl ?_
      refine k_getr (k := 7) 47 x3 hk dX5_order_22 rfl hx3 kc0 (by decide) fl_RX5_155 rfl rfl ?_
      refine k_iload hk dX5_order_25 2 rfl ?_
      refine k_iald hk dX5_order_27 rfl hx3 (fun h2 => ?_)
      refine k_iconst (v := (-1)) hk dX5_order_28 (by decide) ?_
      refine k_icmp_eq hk dX5_order_29 45 (by decide) (fun h3 => ?_) (fun h3 => ?_)
      · exact k_sub [0, 1, 2] rfl (s_X5_order_b45 hj hn hl hk he hro F rr14 hrr14  x2 x3 x4 hx3 σ)
      · refine k_aload_n hk dX5_order_32 1 rfl ?_
        refine k_iload hk dX5_order_33 2 rfl ?_
        refine k_callVi (As := [.int x4]) (rest := []) hk he hro (c_X0_firesAhead hj hn hl F x3 x4 hx3 σ) dX5_order_35 cw_RX5_275 rfl hx3 kc0 rfl ⟨by decide, by decide⟩ (by decide) rfl (Nat.le_of_ble_eq_true rfl) (fun c5 σ4 => ?_)
        refine k_iload_n hk dX5_order_38 0 rfl ?_
        refine k_icmp_ne hk dX5_order_39 45 (by decide) (fun h6 => ?_) (fun h6 => ?_)
        · exact k_sub [0, 1, 2] rfl (s_X5_order_b45 hj hn hl hk he hro F rr14 hrr14  x2 x3 x4 hx3 σ4)
        · refine k_iload hk dX5_order_42 2 rfl ?_
          exact k_ireturn hk he dX5_order_44 (by decide)
def f_X5_order (F : Nat) (a1 : Int32) (a2 : Int32) (σ : kS) : Option kR := kBv (f_X5_testWhy F a1 σ) fun σ7 => kBr (f_X5_filmBy F a1 σ7) fun c9 σ8 => kFix (f_X5_order_b14 F) F (a2, c9, 0) σ8
set_option maxRecDepth 20000 in
theorem c_X5_order {l : Launch} {E : kE} (hj : kEj E) (hn : kNorm E) (hl : l.stackTraces = false) (F : Nat) (a1 : Int32) (a2 : Int32)  (σ : kS) : kMet l E yX5_order cX5_order 5 (some .int) (9) (161) 1 id [.ref (kad E 0 0), .int a1, .int a2] σ (f_X5_order F a1 a2 σ) := by
  refine k_met hj hn hl (by decide) (Nat.le_of_ble_eq_true rfl) (fun C Q hk he hro => ?_)
  have hk : kOk (C, E, Q) cX5_order RX5 5 := hk
  show Sm (C, E, Q) 5 0 0 [(0, .ref (kad E 0 0)), (1, .int a1), (2, .int a2)] [] σ _
  unfold f_X5_order
  refine k_aload_n hk dX5_order_0 0 rfl ?_
  refine k_iload_n hk dX5_order_1 1 rfl ?_
  refine k_callVv (As := [.int a1]) (rest := []) hk he hro (c_X5_testWhy hj hn hl F a1  σ) dX5_order_2 cw_RX5_93 rfl (by decide) kc5 rfl ⟨by decide, by decide⟩ (by decide) rfl (Nat.le_of_ble_eq_true rfl) (fun σ7 => ?_)
  refine k_aload_n hk dX5_order_5 0 rfl ?_
  refine k_iload_n hk dX5_order_6 1 rfl ?_
  refine k_callVr (As := [.int a1]) (rest := []) hk he hro (c_X5_filmBy hj hn hl F a1  σ7) dX5_order_7 cw_RX5_120 rfl (by decide) kc5 rfl ⟨by decide, by decide⟩ (by decide) rfl (Nat.le_of_ble_eq_true rfl) (fun c9 σ8 hc9 => ?_)
  refine k_astore_n (lv' := [(3, .ref (kad E 40 c9)), (0, .ref (kad E 0 0)), (1, .int a1), (2, .int a2)]) hk dX5_order_10 (by decide) rfl ?_
  refine k_iconst (v := 0) hk dX5_order_11 (by decide) ?_
  refine k_istore (lv' := [(4, .int 0), (3, .ref (kad E 40 c9)), (0, .ref (kad E 0 0)), (1, .int a1), (2, .int a2)]) hk dX5_order_12 (by decide) rfl ?_
  exact k_sub [4, 1, 0] rfl (s_X5_order_b14 hj hn hl hk he hro F F a2 c9 0 hc9 σ8)
def f_X5_dry_b96 (F : Nat) (rr9 : (Int32 × Int32 × Int32) → kS → Option kR) (x1 : Int32) (x2 : Int32) (x3 : Int32) (σ : kS) : Option kR := rr9 (x1, x2, x3 + 1) σ
set_option maxRecDepth 20000 in
theorem s_X5_dry_b96 {l : Launch} {E : kE} (hj : kEj E) (hn : kNorm E) (hl : l.stackTraces = false) {C : kC} {Q : kR → State → Prop} (hk : kOk (C, E, Q) cX5_dry RX5 5) (he : kEnd (C, E, Q) (some .int) id 1) (hro : kRo C l (9) (161) 1) (F : Nat) (rr9 : (Int32 × Int32 × Int32) → kS → Option kR) (hrr9 : ∀ (x1 : Int32) (x2 : Int32) (x3 : Int32)  (σ : kS), Sm (C, E, Q) 5 1 9 [(0, .ref (kad E 0 0)), (1, .int x1), (2, .int x2), (3, .int x3)] [] σ (rr9 (x1, x2, x3) σ)) : ∀ (x1 : Int32) (x2 : Int32) (x3 : Int32)  (σ : kS), Sm (C, E, Q) 5 1 96 [(0, .ref (kad E 0 0)), (1, .int x1), (2, .int x2), (3, .int x3)] [] σ (f_X5_dry_b96 F rr9 x1 x2 x3 σ) := by
  intro x1 x2 x3  σ
  unfold f_X5_dry_b96
  refine k_iinc (lv' := [(3, .int (x3 + 1)), (0, .ref (kad E 0 0)), (1, .int x1), (2, .int x2)]) (j := 3) (y := x3 + 1) hk dX5_dry_96 rfl rfl (by decide) rfl ?_
  refine k_goto hk dX5_dry_99 9 (by decide) ?_
  exact k_sub [1, 2, 3, 0] rfl (hrr9 x1 x2 (x3 + 1)  σ)
def f_X5_dry_b9 (F : Nat) (rr9 : (Int32 × Int32 × Int32) → kS → Option kR) (a : (Int32 × Int32 × Int32)) (σ : kS) : Option kR := match a with
  | (x1, x2, x3) => if 999 < x3 then (some (.inl (some (.int (-1))), σ)) else (kBv (f_X1_load F 0 σ) fun σ2 => kb (kU σ2 35 0 1 x3) fun σ3 => kg (kin x1 6) (kb (x1.toNatClampNeg + 2) fun j4 => kBv (f_X1_start F j4 σ3) fun σ5 => kBi (f_X1_leadsFrom F  σ5) fun c7 σ6 => if c7 = x2 then (f_X5_dry_b96 F rr9 x1 x2 x3 σ6) else (kBi (f_X1_burns F  σ6) fun c10 σ9 => if c10 = 0 then (some (.inl (some (.int x3)), σ9)) else (if c7 ≤ (σ9.1 6 0 10) then (f_X5_dry_b96 F rr9 x1 c7 x3 σ9) else (some (.inl (some (.int (-1))), σ9))))))
set_option maxRecDepth 20000 in
theorem s_X5_dry_b9 {l : Launch} {E : kE} (hj : kEj E) (hn : kNorm E) (hl : l.stackTraces = false) {C : kC} {Q : kR → State → Prop} (hk : kOk (C, E, Q) cX5_dry RX5 5) (he : kEnd (C, E, Q) (some .int) id 1) (hro : kRo C l (9) (161) 1) (F : Nat) : ∀ (N9 : Nat) (x1 : Int32) (x2 : Int32) (x3 : Int32)  (σ : kS), Sm (C, E, Q) 5 1 9 [(0, .ref (kad E 0 0)), (1, .int x1), (2, .int x2), (3, .int x3)] [] σ (kFix (f_X5_dry_b9 F) N9 (x1, x2, x3) σ) := by
  intro N9
  induction N9 with
  | zero => intro x1 x2 x3  σ; exact k_no
  | succ N9 ih =>
    intro x1 x2 x3  σ
    show Sm _ _ _ _ _ _ _ (f_X5_dry_b9 F (kFix (f_X5_dry_b9 F) N9) (x1, x2, x3) σ)
    generalize kFix (f_X5_dry_b9 F) N9 = rr9 at ih
    have hrr9 := ih
    unfold f_X5_dry_b9
    dsimp only
    refine k_iload_n hk dX5_dry_9 3 rfl ?_
    refine k_tget (t := 2) hk dX5_dry_10 (by decide) gs_RX5_278 ?_
    refine k_iconst (v := 1) hk dX5_dry_13 (by decide) ?_
    refine k_tald_k (kk := 1) (v := 999) hk dX5_dry_14 (by decide) (by decide) (by decide) (by decide) ?_
    refine k_icmp_gt hk dX5_dry_15 102 (by decide) (fun h1 => ?_) (fun h1 => ?_)
    · refine k_iconst (v := (-1)) hk dX5_dry_102 (by decide) ?_
      exact k_ireturn hk he dX5_dry_103 (by decide)
    · refine k_aload_n hk dX5_dry_18 0 rfl ?_
      refine k_getr (k := 9) 6 0 hk dX5_dry_19 rfl (by decide) kc5 (by decide) fl_RX5_53 rfl rfl ?_
      refine k_aload_n hk dX5_dry_22 0 rfl ?_
      refine k_getr (k := 6) 4 0 hk dX5_dry_23 rfl (by decide) kc5 (by decide) fl_RX5_39 rfl rfl ?_
      refine k_callVv (As := [.ref (kad E 4 0)]) (rest := []) hk he hro (c_X1_load hj hn hl F 0 (by decide) σ) dX5_dry_26 cw_RX5_281 rfl (by decide) kc1 rfl ⟨by decide, by decide⟩ (by decide) rfl (Nat.le_of_ble_eq_true rfl) (fun σ2 => ?_)
      refine k_aload_n hk dX5_dry_29 0 rfl ?_
      refine k_getr (k := 9) 6 0 hk dX5_dry_30 rfl (by decide) kc5 (by decide) fl_RX5_53 rfl rfl ?_
      refine k_getr (k := 0) 35 0 hk dX5_dry_33 rfl (by decide) kc1 (by decide) fl_RX5_285 rfl rfl ?_
      refine k_iconst (v := 1) hk dX5_dry_36 (by decide) ?_
      refine k_iload_n hk dX5_dry_37 3 rfl ?_
      refine k_iast_k (kk := 1) hk dX5_dry_38 rfl (by decide) (by decide) (by decide) (fun σ3 => ?_)
      refine k_aload_n hk dX5_dry_39 0 rfl ?_
      refine k_getr (k := 9) 6 0 hk dX5_dry_40 rfl (by decide) kc5 (by decide) fl_RX5_53 rfl rfl ?_
      refine k_aload_n hk dX5_dry_43 0 rfl ?_
      refine k_getr (k := 4) 3 0 hk dX5_dry_44 rfl (by decide) kc5 (by decide) fl_RX5_29 rfl rfl ?_
      refine k_iload_n hk dX5_dry_47 1 rfl ?_
      refine k_aaldj (g' := 10) (fun z => z + 2) hk dX5_dry_48 rfl rfl rfl (by decide) (fun z => rfl) (by decide) (fun j4 hj4 => ?_)
      refine k_callVv (As := [.ref (kad E 10 j4)]) (rest := []) hk he hro (c_X1_start hj hn hl F j4 hj4 σ3) dX5_dry_49 cw_RX5_286 rfl (by decide) kc1 rfl ⟨by decide, by decide⟩ (by decide) rfl (Nat.le_of_ble_eq_true rfl) (fun σ5 => ?_)
      refine k_aload_n hk dX5_dry_52 0 rfl ?_
      refine k_getr (k := 9) 6 0 hk dX5_dry_53 rfl (by decide) kc5 (by decide) fl_RX5_53 rfl rfl ?_
      refine k_callVi (As := []) (rest := []) hk he hro (c_X1_leadsFrom hj hn hl F   σ5) dX5_dry_56 cw_RX5_289 rfl (by decide) kc1 rfl ⟨by decide, by decide⟩ (by decide) rfl (Nat.le_of_ble_eq_true rfl) (fun c7 σ6 => ?_)
      refine k_istore (lv' := [(4, .int c7), (0, .ref (kad E 0 0)), (1, .int x1), (2, .int x2), (3, .int x3)]) hk dX5_dry_59 (by decide) rfl ?_
      refine k_iload hk dX5_dry_61 0 rfl ?_
      refine k_iload_n hk dX5_dry_63 3 rfl ?_
      refine k_icmp_eq hk dX5_dry_64 96 (by decide) (fun h8 => ?_) (fun h8 => ?_)
      · exact k_sub [1, 2, 3, 4] rfl (s_X5_dry_b96 hj hn hl hk he hro F rr9 hrr9  x1 x2 x3  σ6)
      · refine k_iload hk dX5_dry_67 0 rfl ?_
        refine k_istore_n (lv' := [(2, .int c7), (4, .int c7), (0, .ref (kad E 0 0)), (1, .int x1), (3, .int x3)]) hk dX5_dry_69 (by decide) rfl ?_
        refine k_aload_n hk dX5_dry_70 2 rfl ?_
        refine k_getr (k := 9) 6 0 hk dX5_dry_71 rfl (by decide) kc5 (by decide) fl_RX5_53 rfl rfl ?_
        refine k_callVi (As := []) (rest := []) hk he hro (c_X1_burns hj hn hl F   σ6) dX5_dry_74 cw_RX5_292 rfl (by decide) kc1 rfl ⟨by decide, by decide⟩ (by decide) rfl (Nat.le_of_ble_eq_true rfl) (fun c10 σ9 => ?_)
        refine k_if_ne hk dX5_dry_77 82 (by decide) (fun h11 => ?_) (fun h11 => ?_)
        · refine k_aload_n hk dX5_dry_82 2 rfl ?_
          refine k_getr (k := 9) 6 0 hk dX5_dry_83 rfl (by decide) kc5 (by decide) fl_RX5_53 rfl rfl ?_
          refine k_getf (k := 10) hk dX5_dry_86 rfl (by decide) kc1 (by decide) fl_RX5_296 rfl ?_
          refine k_iload hk dX5_dry_89 1 rfl ?_
          refine k_icmp_ge hk dX5_dry_91 96 (by decide) (fun h12 => ?_) (fun h12 => ?_)
          · exact k_sub [2, 3, 0, 4] rfl (s_X5_dry_b96 hj hn hl hk he hro F rr9 hrr9  x1 c7 x3  σ9)
          · refine k_iconst (v := (-1)) hk dX5_dry_94 (by decide) ?_
            exact k_ireturn hk he dX5_dry_95 (by decide)
        · refine k_iload_n hk dX5_dry_80 4 rfl ?_
          exact k_ireturn hk he dX5_dry_81 (by decide)
def f_X5_dry (F : Nat) (a1 : Int32) (σ : kS) : Option kR := kBv (f_X5_testWhy F a1 σ) fun σ13 => kFix (f_X5_dry_b9 F) F (a1, (-1), 0) σ13
set_option maxRecDepth 20000 in
theorem c_X5_dry {l : Launch} {E : kE} (hj : kEj E) (hn : kNorm E) (hl : l.stackTraces = false) (F : Nat) (a1 : Int32)  (σ : kS) : kMet l E yX5_dry cX5_dry 5 (some .int) (9) (161) 1 id [.ref (kad E 0 0), .int a1] σ (f_X5_dry F a1 σ) := by
  refine k_met hj hn hl (by decide) (Nat.le_of_ble_eq_true rfl) (fun C Q hk he hro => ?_)
  have hk : kOk (C, E, Q) cX5_dry RX5 5 := hk
  show Sm (C, E, Q) 5 0 0 [(0, .ref (kad E 0 0)), (1, .int a1)] [] σ _
  unfold f_X5_dry
  refine k_aload_n hk dX5_dry_0 0 rfl ?_
  refine k_iload_n hk dX5_dry_1 1 rfl ?_
  refine k_callVv (As := [.int a1]) (rest := []) hk he hro (c_X5_testWhy hj hn hl F a1  σ) dX5_dry_2 cw_RX5_93 rfl (by decide) kc5 rfl ⟨by decide, by decide⟩ (by decide) rfl (Nat.le_of_ble_eq_true rfl) (fun σ13 => ?_)
  refine k_iconst (v := (-1)) hk dX5_dry_5 (by decide) ?_
  refine k_istore_n (lv' := [(2, .int (-1)), (0, .ref (kad E 0 0)), (1, .int a1)]) hk dX5_dry_6 (by decide) rfl ?_
  refine k_iconst (v := 0) hk dX5_dry_7 (by decide) ?_
  refine k_istore_n (lv' := [(3, .int 0), (2, .int (-1)), (0, .ref (kad E 0 0)), (1, .int a1)]) hk dX5_dry_8 (by decide) rfl ?_
  exact k_sub [2, 3, 1, 0] rfl (s_X5_dry_b9 hj hn hl hk he hro F F a1 (-1) 0  σ13)
