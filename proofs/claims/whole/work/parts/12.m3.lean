def f_X6_state_b96 (F : Nat) (rr72 : (Int32 × Int32 × Int32 × Int32) → kS → Option kR) (x2 : Int32) (x3 : Int32) (x5 : Int32) (t0 : Int32) (t1 : Int32) (σ : kS) : Option kR := kb (t0 + t1) fun y1 => rr72 (x2, x3, y1, x5 + 1) σ
set_option maxRecDepth 20000 in
theorem s_X6_state_b96 {l : Launch} {E : kE} (hj : kEj E) (hn : kNorm E) (hl : l.stackTraces = false) {C : kC} {Q : kR → State → Prop} (hk : kOk (C, E, Q) cX6_state RX6 6) (he : kEnd (C, E, Q) (some .int) id 0) (hro : kRo C l (4) (99) 0) (F : Nat) (rr72 : (Int32 × Int32 × Int32 × Int32) → kS → Option kR) (hrr72 : ∀ (x2 : Int32) (x3 : Int32) (x4 : Int32) (x5 : Int32)  (σ : kS), Sm (C, E, Q) 6 0 72 [(0, .ref (kad E 48 0)), (2, .int x2), (3, .int x3), (4, .int x4), (5, .int x5)] [] σ (rr72 (x2, x3, x4, x5) σ)) : ∀ (x2 : Int32) (x3 : Int32) (x5 : Int32) (t0 : Int32) (t1 : Int32)  (σ : kS), Sm (C, E, Q) 6 0 96 [(0, .ref (kad E 48 0)), (2, .int x2), (3, .int x3), (5, .int x5)] [.int t1, .int t0] σ (f_X6_state_b96 F rr72 x2 x3 x5 t0 t1 σ) := by
  intro x2 x3 x5 t0 t1  σ
  unfold f_X6_state_b96
  refine k_iadd hk dX6_state_96 ?_
  refine k_nm (fun y1 => ?_)
  refine k_istore (lv' := [(4, .int y1), (0, .ref (kad E 48 0)), (2, .int x2), (3, .int x3), (5, .int x5)]) hk dX6_state_97 (by decide) rfl ?_
  refine k_iinc (lv' := [(5, .int (x5 + 1)), (4, .int y1), (0, .ref (kad E 48 0)), (2, .int x2), (3, .int x3)]) (j := 4) (y := x5 + 1) hk dX6_state_99 rfl rfl (by decide) rfl ?_
  refine k_goto hk dX6_state_102 72 (by decide) ?_
  exact k_sub [2, 3, 4, 1, 0] rfl (hrr72 x2 x3 y1 (x5 + 1)  σ)
def f_X6_state_b72 (F : Nat) (rr72 : (Int32 × Int32 × Int32 × Int32) → kS → Option kR) (a : (Int32 × Int32 × Int32 × Int32)) (σ : kS) : Option kR := match a with
  | (x2, x3, x4, x5) => if 8 ≤ x5 then (if x3 = 0 then (kg (kin x2 100) (some (.inl (some (.int (σ.1 75 0 x2.toNatClampNeg))), σ))) else (if x3 = 1 then (kg (kin x2 100) (some (.inl (some (.int (σ.1 76 0 x2.toNatClampNeg))), σ))) else (if x3 = 2 then (kg (kin x2 100) (some (.inl (some (.int (σ.1 77 0 x2.toNatClampNeg))), σ))) else (if x3 = 3 then (kg (kin x2 100) (kg (kin x2 100) (some (.inl (some (.int ((σ.1 76 0 x2.toNatClampNeg) - (σ.1 77 0 x2.toNatClampNeg)))), σ)))) else (if x3 = 4 then (kg (kin x2 100) (some (.inl (some (.int (σ.1 78 0 x2.toNatClampNeg))), σ))) else (if x3 = 5 then (kBi (f_X6_allGas F x2 σ) fun c16 σ15 => some (.inl (some (.int c16)), σ15)) else (if x3 = 6 then (kBi (f_X6_heavy F x2 σ) fun c19 σ18 => some (.inl (some (.int c19)), σ18)) else (some (.inl (some (.int x4)), σ))))))))) else (kBi (f_X6_isLit F x5 x2 σ) fun c21 σ20 => if c21 = 0 then (f_X6_state_b96 F rr72 x2 x3 x5 x4 0 σ20) else (f_X6_state_b96 F rr72 x2 x3 x5 x4 1 σ20))
set_option maxRecDepth 20000 in
theorem s_X6_state_b72 {l : Launch} {E : kE} (hj : kEj E) (hn : kNorm E) (hl : l.stackTraces = false) {C : kC} {Q : kR → State → Prop} (hk : kOk (C, E, Q) cX6_state RX6 6) (he : kEnd (C, E, Q) (some .int) id 0) (hro : kRo C l (4) (99) 0) (F : Nat) : ∀ (N9 : Nat) (x2 : Int32) (x3 : Int32) (x4 : Int32) (x5 : Int32)  (σ : kS), Sm (C, E, Q) 6 0 72 [(0, .ref (kad E 48 0)), (2, .int x2), (3, .int x3), (4, .int x4), (5, .int x5)] [] σ (kFix (f_X6_state_b72 F) N9 (x2, x3, x4, x5) σ) := by
  intro N9
  induction N9 with
  | zero => intro x2 x3 x4 x5  σ; exact k_no
  | succ N9 ih =>
    intro x2 x3 x4 x5  σ
    show Sm _ _ _ _ _ _ _ (f_X6_state_b72 F (kFix (f_X6_state_b72 F) N9) (x2, x3, x4, x5) σ)
    generalize kFix (f_X6_state_b72 F) N9 = rr72 at ih
    have hrr72 := ih
    unfold f_X6_state_b72
    dsimp only
    refine k_iload hk dX6_state_72 4 rfl ?_
    refine k_bipush (v := 8) hk dX6_state_74 (by decide) ?_
    refine k_icmp_ge hk dX6_state_76 105 (by decide) (fun h2 => ?_) (fun h2 => ?_)
    · refine k_iload_n hk dX6_state_105 2 rfl ?_
      refine k_ite (fun h3 => ?_) (fun h3 => ?_)
      · refine k_tin (v := 0) hk dX6_state_106 h3 (by decide) (by decide) rfl 148 (by decide) ?_
        refine k_aload_n hk dX6_state_148 0 rfl ?_
        refine k_getr (k := 30) 75 0 hk dX6_state_149 rfl (by decide) kc6 (by decide) fl_RX6_73 rfl rfl ?_
        refine k_iload_n hk dX6_state_152 1 rfl ?_
        refine k_iald hk dX6_state_153 rfl (by decide) (fun h4 => ?_)
        exact k_ireturn hk he dX6_state_154 (by decide)
      · skip
        refine k_ite (fun h5 => ?_) (fun h5 => ?_)
        · refine k_tin (v := 1) hk dX6_state_106 h5 (by decide) (by decide) rfl 155 (by decide) ?_
          refine k_aload_n hk dX6_state_155 0 rfl ?_
          refine k_getr (k := 31) 76 0 hk dX6_state_156 rfl (by decide) kc6 (by decide) fl_RX6_76 rfl rfl ?_
          refine k_iload_n hk dX6_state_159 1 rfl ?_
          refine k_iald hk dX6_state_160 rfl (by decide) (fun h6 => ?_)
          exact k_ireturn hk he dX6_state_161 (by decide)
        · skip
          refine k_ite (fun h7 => ?_) (fun h7 => ?_)
          · refine k_tin (v := 2) hk dX6_state_106 h7 (by decide) (by decide) rfl 162 (by decide) ?_
            refine k_aload_n hk dX6_state_162 0 rfl ?_
            refine k_getr (k := 32) 77 0 hk dX6_state_163 rfl (by decide) kc6 (by decide) fl_RX6_79 rfl rfl ?_
            refine k_iload_n hk dX6_state_166 1 rfl ?_
            refine k_iald hk dX6_state_167 rfl (by decide) (fun h8 => ?_)
            exact k_ireturn hk he dX6_state_168 (by decide)
          · skip
            refine k_ite (fun h9 => ?_) (fun h9 => ?_)
            · refine k_tin (v := 3) hk dX6_state_106 h9 (by decide) (by decide) rfl 169 (by decide) ?_
              refine k_aload_n hk dX6_state_169 0 rfl ?_
              refine k_getr (k := 31) 76 0 hk dX6_state_170 rfl (by decide) kc6 (by decide) fl_RX6_76 rfl rfl ?_
              refine k_iload_n hk dX6_state_173 1 rfl ?_
              refine k_iald hk dX6_state_174 rfl (by decide) (fun h10 => ?_)
              refine k_aload_n hk dX6_state_175 0 rfl ?_
              refine k_getr (k := 32) 77 0 hk dX6_state_176 rfl (by decide) kc6 (by decide) fl_RX6_79 rfl rfl ?_
              refine k_iload_n hk dX6_state_179 1 rfl ?_
              refine k_iald hk dX6_state_180 rfl (by decide) (fun h11 => ?_)
              refine k_isub hk dX6_state_181 ?_
              exact k_ireturn hk he dX6_state_182 (by decide)
            · skip
              refine k_ite (fun h12 => ?_) (fun h12 => ?_)
              · refine k_tin (v := 4) hk dX6_state_106 h12 (by decide) (by decide) rfl 183 (by decide) ?_
                refine k_aload_n hk dX6_state_183 0 rfl ?_
                refine k_getr (k := 33) 78 0 hk dX6_state_184 rfl (by decide) kc6 (by decide) fl_RX6_82 rfl rfl ?_
                refine k_iload_n hk dX6_state_187 1 rfl ?_
                refine k_iald hk dX6_state_188 rfl (by decide) (fun h13 => ?_)
                exact k_ireturn hk he dX6_state_189 (by decide)
              · skip
                refine k_ite (fun h14 => ?_) (fun h14 => ?_)
                · refine k_tin (v := 5) hk dX6_state_106 h14 (by decide) (by decide) rfl 190 (by decide) ?_
                  refine k_aload_n hk dX6_state_190 0 rfl ?_
                  refine k_iload_n hk dX6_state_191 1 rfl ?_
                  refine k_callVi (As := [.int x2]) (rest := []) hk he hro (c_X6_allGas hj hn hl F x2  σ) dX6_state_192 cw_RX6_285 rfl (by decide) kc6 rfl ⟨by decide, by decide⟩ (by decide) rfl (Nat.le_of_ble_eq_true rfl) (fun c16 σ15 => ?_)
                  exact k_ireturn hk he dX6_state_195 (by decide)
                · skip
                  refine k_ite (fun h17 => ?_) (fun h17 => ?_)
                  · refine k_tin (v := 6) hk dX6_state_106 h17 (by decide) (by decide) rfl 196 (by decide) ?_
                    refine k_aload_n hk dX6_state_196 0 rfl ?_
                    refine k_iload_n hk dX6_state_197 1 rfl ?_
                    refine k_callVi (As := [.int x2]) (rest := []) hk he hro (c_X6_heavy hj hn hl F x2  σ) dX6_state_198 cw_RX6_288 rfl (by decide) kc6 rfl ⟨by decide, by decide⟩ (by decide) rfl (Nat.le_of_ble_eq_true rfl) (fun c19 σ18 => ?_)
                    exact k_ireturn hk he dX6_state_201 (by decide)
                  · skip
                    refine k_tout hk dX6_state_106 (by have h3q := k_neI h3 (a := 0) (by decide); have h5q := k_neI h5 (a := 1) (by decide); have h7q := k_neI h7 (a := 2) (by decide); have h9q := k_neI h9 (a := 3) (by decide); have h12q := k_neI h12 (a := 4) (by decide); have h14q := k_neI h14 (a := 5) (by decide); have h17q := k_neI h17 (a := 6) (by decide); omega) 202 (by decide) ?_
                    refine k_iload hk dX6_state_202 3 rfl ?_
                    exact k_ireturn hk he dX6_state_204 (by decide)
    · refine k_iload hk dX6_state_79 3 rfl ?_
      refine k_aload_n hk dX6_state_81 0 rfl ?_
      refine k_iload hk dX6_state_82 4 rfl ?_
      refine k_iload_n hk dX6_state_84 1 rfl ?_
      refine k_callVi (As := [.int x5, .int x2]) (rest := [.int x4]) hk he hro (c_X6_isLit hj hn hl F x5 x2  σ) dX6_state_85 cw_RX6_282 rfl (by decide) kc6 rfl ⟨by decide, by decide⟩ (by decide) rfl (Nat.le_of_ble_eq_true rfl) (fun c21 σ20 => ?_)
      refine k_if_eq hk dX6_state_88 95 (by decide) (fun h22 => ?_) (fun h22 => ?_)
      · refine k_iconst (v := 0) hk dX6_state_95 (by decide) ?_
        exact k_sub [0, 1, 2, 4] rfl (s_X6_state_b96 hj hn hl hk he hro F rr72 hrr72  x2 x3 x5 x4 0  σ20)
      · refine k_iconst (v := 1) hk dX6_state_91 (by decide) ?_
        refine k_goto hk dX6_state_92 96 (by decide) ?_
        exact k_sub [0, 1, 2, 4] rfl (s_X6_state_b96 hj hn hl hk he hro F rr72 hrr72  x2 x3 x5 x4 1  σ20)
def f_X6_state_b59 (F : Nat)  (σ : kS) : Option kR := some (.inl (some (.int 0)), σ)
set_option maxRecDepth 20000 in
theorem s_X6_state_b59 {l : Launch} {E : kE} (hj : kEj E) (hn : kNorm E) (hl : l.stackTraces = false) {C : kC} {Q : kR → State → Prop} (hk : kOk (C, E, Q) cX6_state RX6 6) (he : kEnd (C, E, Q) (some .int) id 0) (hro : kRo C l (4) (99) 0) (F : Nat) : ∀   (σ : kS), Sm (C, E, Q) 6 0 59 [] [] σ (f_X6_state_b59 F  σ) := by
  intro   σ
  unfold f_X6_state_b59
  refine k_iconst (v := 0) hk dX6_state_59 (by decide) ?_
  exact k_ireturn hk he dX6_state_60 (by decide)
def f_X6_state_b52 (F : Nat) (x1 : Int32) (x2 : Int32) (x3 : Int32) (t1 : Int32) (σ : kS) : Option kR := kBi (f_X6_bad F t1 2 σ) fun c24 σ23 => if c24 = 0 then (kBv (f_X6_runs F x1 σ23) fun σ26 => kFix (f_X6_state_b72 F) F (x2, x3, 0, 0) σ26) else (f_X6_state_b59 F  σ23)
set_option maxRecDepth 20000 in
theorem s_X6_state_b52 {l : Launch} {E : kE} (hj : kEj E) (hn : kNorm E) (hl : l.stackTraces = false) {C : kC} {Q : kR → State → Prop} (hk : kOk (C, E, Q) cX6_state RX6 6) (he : kEnd (C, E, Q) (some .int) id 0) (hro : kRo C l (4) (99) 0) (F : Nat) : ∀ (x1 : Int32) (x2 : Int32) (x3 : Int32) (t1 : Int32)  (σ : kS), Sm (C, E, Q) 6 0 52 [(0, .ref (kad E 48 0)), (1, .int x1), (2, .int x2), (3, .int x3)] [.int t1, .ref (kad E 48 0)] σ (f_X6_state_b52 F x1 x2 x3 t1 σ) := by
  intro x1 x2 x3 t1  σ
  unfold f_X6_state_b52
  refine k_iconst (v := 2) hk dX6_state_52 (by decide) ?_
  refine k_callVi (As := [.int t1, .int 2]) (rest := []) hk he hro (c_X6_bad hj hn hl F t1 2  σ) dX6_state_53 cw_RX6_220 rfl (by decide) kc6 rfl ⟨by decide, by decide⟩ (by decide) rfl (Nat.le_of_ble_eq_true rfl) (fun c24 σ23 => ?_)
  refine k_if_eq hk dX6_state_56 61 (by decide) (fun h25 => ?_) (fun h25 => ?_)
  · refine k_aload_n hk dX6_state_61 0 rfl ?_
    refine k_iload_n hk dX6_state_62 1 rfl ?_
    refine k_callVv (As := [.int x1]) (rest := []) hk he hro (c_X6_runs hj hn hl F x1  σ23) dX6_state_63 cw_RX6_279 rfl (by decide) kc6 rfl ⟨by decide, by decide⟩ (by decide) rfl (Nat.le_of_ble_eq_true rfl) (fun σ26 => ?_)
    refine k_iconst (v := 0) hk dX6_state_66 (by decide) ?_
    refine k_istore (lv' := [(4, .int 0), (0, .ref (kad E 48 0)), (1, .int x1), (2, .int x2), (3, .int x3)]) hk dX6_state_67 (by decide) rfl ?_
    refine k_iconst (v := 0) hk dX6_state_69 (by decide) ?_
    refine k_istore (lv' := [(5, .int 0), (4, .int 0), (0, .ref (kad E 48 0)), (1, .int x1), (2, .int x2), (3, .int x3)]) hk dX6_state_70 (by decide) rfl ?_
    exact k_sub [2, 4, 5, 1, 0] rfl (s_X6_state_b72 hj hn hl hk he hro F F x2 x3 0 0  σ26)
  · exact k_sub [] rfl (s_X6_state_b59 hj hn hl hk he hro F    σ23)
def f_X6_state_b47 (F : Nat) (x1 : Int32) (x2 : Int32) (x3 : Int32) (σ : kS) : Option kR := f_X6_state_b52 F x1 x2 x3 1 σ
set_option maxRecDepth 20000 in
theorem s_X6_state_b47 {l : Launch} {E : kE} (hj : kEj E) (hn : kNorm E) (hl : l.stackTraces = false) {C : kC} {Q : kR → State → Prop} (hk : kOk (C, E, Q) cX6_state RX6 6) (he : kEnd (C, E, Q) (some .int) id 0) (hro : kRo C l (4) (99) 0) (F : Nat) : ∀ (x1 : Int32) (x2 : Int32) (x3 : Int32)  (σ : kS), Sm (C, E, Q) 6 0 47 [(0, .ref (kad E 48 0)), (1, .int x1), (2, .int x2), (3, .int x3)] [.ref (kad E 48 0)] σ (f_X6_state_b47 F x1 x2 x3 σ) := by
  intro x1 x2 x3  σ
  unfold f_X6_state_b47
  refine k_iconst (v := 1) hk dX6_state_47 (by decide) ?_
  refine k_goto hk dX6_state_48 52 (by decide) ?_
  exact k_sub [0, 1, 2, 3] rfl (s_X6_state_b52 hj hn hl hk he hro F  x1 x2 x3 1  σ)
def f_X6_state_b19 (F : Nat) (x1 : Int32) (x2 : Int32) (x3 : Int32) (t1 : Int32) (σ : kS) : Option kR := kBi (f_X6_bad F t1 1 σ) fun c28 σ27 => if c28 = 0 then (kBi (f_X6_in F x2 0 99 σ27) fun c31 σ30 => if c31 = 0 then (f_X6_state_b47 F x1 x2 x3 σ30) else (kBi (f_X6_in F x3 0 7 σ30) fun c34 σ33 => if c34 = 0 then (f_X6_state_b47 F x1 x2 x3 σ33) else (f_X6_state_b52 F x1 x2 x3 0 σ33))) else (f_X6_state_b59 F  σ27)
set_option maxRecDepth 20000 in
theorem s_X6_state_b19 {l : Launch} {E : kE} (hj : kEj E) (hn : kNorm E) (hl : l.stackTraces = false) {C : kC} {Q : kR → State → Prop} (hk : kOk (C, E, Q) cX6_state RX6 6) (he : kEnd (C, E, Q) (some .int) id 0) (hro : kRo C l (4) (99) 0) (F : Nat) : ∀ (x1 : Int32) (x2 : Int32) (x3 : Int32) (t1 : Int32)  (σ : kS), Sm (C, E, Q) 6 0 19 [(0, .ref (kad E 48 0)), (1, .int x1), (2, .int x2), (3, .int x3)] [.int t1, .ref (kad E 48 0)] σ (f_X6_state_b19 F x1 x2 x3 t1 σ) := by
  intro x1 x2 x3 t1  σ
  unfold f_X6_state_b19
  refine k_iconst (v := 1) hk dX6_state_19 (by decide) ?_
  refine k_callVi (As := [.int t1, .int 1]) (rest := []) hk he hro (c_X6_bad hj hn hl F t1 1  σ) dX6_state_20 cw_RX6_220 rfl (by decide) kc6 rfl ⟨by decide, by decide⟩ (by decide) rfl (Nat.le_of_ble_eq_true rfl) (fun c28 σ27 => ?_)
  refine k_if_ne hk dX6_state_23 59 (by decide) (fun h29 => ?_) (fun h29 => ?_)
  · exact k_sub [] rfl (s_X6_state_b59 hj hn hl hk he hro F    σ27)
  · refine k_aload_n hk dX6_state_26 0 rfl ?_
    refine k_iload_n hk dX6_state_27 2 rfl ?_
    refine k_iconst (v := 0) hk dX6_state_28 (by decide) ?_
    refine k_bipush (v := 99) hk dX6_state_29 (by decide) ?_
    refine k_callSi (As := [.int x2, .int 0, .int 99]) (rest := [.ref (kad E 48 0)]) hk he hro (c_X6_in hj hn hl F x2 0 99  σ27) dX6_state_31 cw_RX6_150 ⟨by decide, by decide⟩ (by decide) rfl (Nat.le_of_ble_eq_true rfl) (fun c31 σ30 => ?_)
    refine k_if_eq hk dX6_state_34 47 (by decide) (fun h32 => ?_) (fun h32 => ?_)
    · exact k_sub [0, 1, 2, 3] rfl (s_X6_state_b47 hj hn hl hk he hro F  x1 x2 x3  σ30)
    · refine k_iload_n hk dX6_state_37 3 rfl ?_
      refine k_iconst (v := 0) hk dX6_state_38 (by decide) ?_
      refine k_bipush (v := 7) hk dX6_state_39 (by decide) ?_
      refine k_callSi (As := [.int x3, .int 0, .int 7]) (rest := [.ref (kad E 48 0)]) hk he hro (c_X6_in hj hn hl F x3 0 7  σ30) dX6_state_41 cw_RX6_150 ⟨by decide, by decide⟩ (by decide) rfl (Nat.le_of_ble_eq_true rfl) (fun c34 σ33 => ?_)
      refine k_if_ne hk dX6_state_44 51 (by decide) (fun h35 => ?_) (fun h35 => ?_)
      · refine k_iconst (v := 0) hk dX6_state_51 (by decide) ?_
        exact k_sub [0, 1, 2, 3] rfl (s_X6_state_b52 hj hn hl hk he hro F  x1 x2 x3 0  σ33)
      · exact k_sub [0, 1, 2, 3] rfl (s_X6_state_b47 hj hn hl hk he hro F  x1 x2 x3  σ33)
def f_X6_state (F : Nat) (a1 : Int32) (a2 : Int32) (a3 : Int32) (σ : kS) : Option kR := kb (kU σ 48 0 0 0) fun σ36 => kBi (f_X6_isWhy F a1 σ36) fun c38 σ37 => if c38 = 0 then (f_X6_state_b19 F a1 a2 a3 1 σ37) else (f_X6_state_b19 F a1 a2 a3 0 σ37)
set_option maxRecDepth 20000 in
theorem c_X6_state {l : Launch} {E : kE} (hj : kEj E) (hn : kNorm E) (hl : l.stackTraces = false) (F : Nat) (a1 : Int32) (a2 : Int32) (a3 : Int32)  (σ : kS) : kMet l E yX6_state cX6_state 6 (some .int) (4) (99) 0 id [.ref (kad E 48 0), .int a1, .int a2, .int a3] σ (f_X6_state F a1 a2 a3 σ) := by
  refine k_met hj hn hl (by decide) (Nat.le_of_ble_eq_true rfl) (fun C Q hk he hro => ?_)
  have hk : kOk (C, E, Q) cX6_state RX6 6 := hk
  show Sm (C, E, Q) 6 0 0 [(0, .ref (kad E 48 0)), (1, .int a1), (2, .int a2), (3, .int a3)] [] σ _
  unfold f_X6_state
  refine k_aload_n hk dX6_state_0 0 rfl ?_
  refine k_iconst (v := 0) hk dX6_state_1 (by decide) ?_
  refine k_putf (k := 0) hk dX6_state_2 rfl (by decide) kc6 (by decide) fl_RX6_113 rfl rfl rfl rfl (fun σ36 => ?_)
  refine k_aload_n hk dX6_state_5 0 rfl ?_
  refine k_aload_n hk dX6_state_6 0 rfl ?_
  refine k_iload_n hk dX6_state_7 1 rfl ?_
  refine k_callVi (As := [.int a1]) (rest := [.ref (kad E 48 0)]) hk he hro (c_X6_isWhy hj hn hl F a1  σ36) dX6_state_8 cw_RX6_234 rfl (by decide) kc6 rfl ⟨by decide, by decide⟩ (by decide) rfl (Nat.le_of_ble_eq_true rfl) (fun c38 σ37 => ?_)
  refine k_if_ne hk dX6_state_11 18 (by decide) (fun h39 => ?_) (fun h39 => ?_)
  · refine k_iconst (v := 0) hk dX6_state_18 (by decide) ?_
    exact k_sub [0, 1, 2, 3] rfl (s_X6_state_b19 hj hn hl hk he hro F  a1 a2 a3 0  σ37)
  · refine k_iconst (v := 1) hk dX6_state_14 (by decide) ?_
    refine k_goto hk dX6_state_15 19 (by decide) ?_
    exact k_sub [0, 1, 2, 3] rfl (s_X6_state_b19 hj hn hl hk he hro F  a1 a2 a3 1  σ37)
def f_X6_cell_b141 (F : Nat) (t0 : Int32) (σ : kS) : Option kR := some (.inl (some (.int t0)), σ)
set_option maxRecDepth 20000 in
theorem s_X6_cell_b141 {l : Launch} {E : kE} (hj : kEj E) (hn : kNorm E) (hl : l.stackTraces = false) {C : kC} {Q : kR → State → Prop} (hk : kOk (C, E, Q) cX6_cell RX6 5) (he : kEnd (C, E, Q) (some .int) id 0) (hro : kRo C l (4) (99) 0) (F : Nat) : ∀ (t0 : Int32)  (σ : kS), Sm (C, E, Q) 5 0 141 [] [.int t0] σ (f_X6_cell_b141 F t0 σ) := by
  intro t0  σ
  unfold f_X6_cell_b141
  exact k_ireturn hk he dX6_cell_141 (by decide)
def f_X6_cell_b82 (F : Nat)  (σ : kS) : Option kR := some (.inl (some (.int 0)), σ)
set_option maxRecDepth 20000 in
theorem s_X6_cell_b82 {l : Launch} {E : kE} (hj : kEj E) (hn : kNorm E) (hl : l.stackTraces = false) {C : kC} {Q : kR → State → Prop} (hk : kOk (C, E, Q) cX6_cell RX6 5) (he : kEnd (C, E, Q) (some .int) id 0) (hro : kRo C l (4) (99) 0) (F : Nat) : ∀   (σ : kS), Sm (C, E, Q) 5 0 82 [] [] σ (f_X6_cell_b82 F  σ) := by
  intro   σ
  unfold f_X6_cell_b82
  refine k_iconst (v := 0) hk dX6_cell_82 (by decide) ?_
  exact k_ireturn hk he dX6_cell_83 (by decide)
def f_X6_cell_b75 (F : Nat) (x1 : Int32) (x2 : Int32) (x3 : Int32) (x4 : Int32) (t1 : Int32) (σ : kS) : Option kR := kBi (f_X6_bad F t1 3 σ) fun c2 σ1 => if c2 = 0 then (kBv (f_X6_runs F x1 σ1) fun σ4 => if x4 = 0 then (kg (kin x2 100) (kb (x2.toNatClampNeg) fun j13 => kg (kin x3 8) (f_X6_cell_b141 F (σ4.1 68 j13 x3.toNatClampNeg) σ4))) else (if x4 = 1 then (kg (kin x2 100) (kb (x2.toNatClampNeg) fun j11 => kg (kin x3 8) (f_X6_cell_b141 F (σ4.1 70 j11 x3.toNatClampNeg) σ4))) else (kBi (f_X6_isLit F x3 x2 σ4) fun c8 σ7 => if c8 = 0 then (f_X6_cell_b141 F (-1) σ7) else (kg (kin x3 8) (f_X6_cell_b141 F (σ7.1 66 0 x3.toNatClampNeg) σ7))))) else (f_X6_cell_b82 F  σ1)
set_option maxRecDepth 20000 in
theorem s_X6_cell_b75 {l : Launch} {E : kE} (hj : kEj E) (hn : kNorm E) (hl : l.stackTraces = false) {C : kC} {Q : kR → State → Prop} (hk : kOk (C, E, Q) cX6_cell RX6 5) (he : kEnd (C, E, Q) (some .int) id 0) (hro : kRo C l (4) (99) 0) (F : Nat) : ∀ (x1 : Int32) (x2 : Int32) (x3 : Int32) (x4 : Int32) (t1 : Int32)  (σ : kS), Sm (C, E, Q) 5 0 75 [(0, .ref (kad E 48 0)), (1, .int x1), (2, .int x2), (3, .int x3), (4, .int x4)] [.int t1, .ref (kad E 48 0)] σ (f_X6_cell_b75 F x1 x2 x3 x4 t1 σ) := by
  intro x1 x2 x3 x4 t1  σ
  unfold f_X6_cell_b75
  refine k_iconst (v := 3) hk dX6_cell_75 (by decide) ?_
  refine k_callVi (As := [.int t1, .int 3]) (rest := []) hk he hro (c_X6_bad hj hn hl F t1 3  σ) dX6_cell_76 cw_RX6_220 rfl (by decide) kc6 rfl ⟨by decide, by decide⟩ (by decide) rfl (Nat.le_of_ble_eq_true rfl) (fun c2 σ1 => ?_)
  refine k_if_eq hk dX6_cell_79 84 (by decide) (fun h3 => ?_) (fun h3 => ?_)
  · refine k_aload_n hk dX6_cell_84 0 rfl ?_
    refine k_iload_n hk dX6_cell_85 1 rfl ?_
    refine k_callVv (As := [.int x1]) (rest := []) hk he hro (c_X6_runs hj hn hl F x1  σ1) dX6_cell_86 cw_RX6_279 rfl (by decide) kc6 rfl ⟨by decide, by decide⟩ (by decide) rfl (Nat.le_of_ble_eq_true rfl) (fun σ4 => ?_)
    refine k_iload hk dX6_cell_89 4 rfl ?_
    refine k_if_ne hk dX6_cell_91 105 (by decide) (fun h5 => ?_) (fun h5 => ?_)
    · refine k_iload hk dX6_cell_105 4 rfl ?_
      refine k_iconst (v := 1) hk dX6_cell_107 (by decide) ?_
      refine k_icmp_ne hk dX6_cell_108 122 (by decide) (fun h6 => ?_) (fun h6 => ?_)
      · refine k_aload_n hk dX6_cell_122 0 rfl ?_
        refine k_iload_n hk dX6_cell_123 3 rfl ?_
        refine k_iload_n hk dX6_cell_124 2 rfl ?_
        refine k_callVi (As := [.int x3, .int x2]) (rest := []) hk he hro (c_X6_isLit hj hn hl F x3 x2  σ4) dX6_cell_125 cw_RX6_282 rfl (by decide) kc6 rfl ⟨by decide, by decide⟩ (by decide) rfl (Nat.le_of_ble_eq_true rfl) (fun c8 σ7 => ?_)
        refine k_if_eq hk dX6_cell_128 140 (by decide) (fun h9 => ?_) (fun h9 => ?_)
        · refine k_iconst (v := (-1)) hk dX6_cell_140 (by decide) ?_
          exact k_sub [] rfl (s_X6_cell_b141 hj hn hl hk he hro F  (-1)  σ7)
        · refine k_aload_n hk dX6_cell_131 0 rfl ?_
          refine k_getr (k := 25) 66 0 hk dX6_cell_132 rfl (by decide) kc6 (by decide) fl_RX6_58 rfl rfl ?_
          refine k_iload_n hk dX6_cell_135 3 rfl ?_
          refine k_iald hk dX6_cell_136 rfl (by decide) (fun h10 => ?_)
          refine k_goto hk dX6_cell_137 141 (by decide) ?_
          exact k_sub [] rfl (s_X6_cell_b141 hj hn hl hk he hro F  (σ7.1 66 0 x3.toNatClampNeg)  σ7)
      · refine k_aload_n hk dX6_cell_111 0 rfl ?_
        refine k_getr (k := 27) 69 0 hk dX6_cell_112 rfl (by decide) kc6 (by decide) fl_RX6_64 rfl rfl ?_
        refine k_iload_n hk dX6_cell_115 2 rfl ?_
        refine k_aaldj (g' := 70) (fun z => z) hk dX6_cell_116 rfl rfl rfl (by decide) (fun z => rfl) (by decide) (fun j11 hj11 => ?_)
        refine k_iload_n hk dX6_cell_117 3 rfl ?_
        refine k_iald hk dX6_cell_118 rfl hj11 (fun h12 => ?_)
        refine k_goto hk dX6_cell_119 141 (by decide) ?_
        exact k_sub [] rfl (s_X6_cell_b141 hj hn hl hk he hro F  (σ4.1 70 j11 x3.toNatClampNeg)  σ4)
    · refine k_aload_n hk dX6_cell_94 0 rfl ?_
      refine k_getr (k := 26) 67 0 hk dX6_cell_95 rfl (by decide) kc6 (by decide) fl_RX6_61 rfl rfl ?_
      refine k_iload_n hk dX6_cell_98 2 rfl ?_
      refine k_aaldj (g' := 68) (fun z => z) hk dX6_cell_99 rfl rfl rfl (by decide) (fun z => rfl) (by decide) (fun j13 hj13 => ?_)
      refine k_iload_n hk dX6_cell_100 3 rfl ?_
      refine k_iald hk dX6_cell_101 rfl hj13 (fun h14 => ?_)
      refine k_goto hk dX6_cell_102 141 (by decide) ?_
      exact k_sub [] rfl (s_X6_cell_b141 hj hn hl hk he hro F  (σ4.1 68 j13 x3.toNatClampNeg)  σ4)
  · exact k_sub [] rfl (s_X6_cell_b82 hj hn hl hk he hro F    σ1)
def f_X6_cell_b70 (F : Nat) (x1 : Int32) (x2 : Int32) (x3 : Int32) (x4 : Int32) (σ : kS) : Option kR := f_X6_cell_b75 F x1 x2 x3 x4 1 σ
set_option maxRecDepth 20000 in
theorem s_X6_cell_b70 {l : Launch} {E : kE} (hj : kEj E) (hn : kNorm E) (hl : l.stackTraces = false) {C : kC} {Q : kR → State → Prop} (hk : kOk (C, E, Q) cX6_cell RX6 5) (he : kEnd (C, E, Q) (some .int) id 0) (hro : kRo C l (4) (99) 0) (F : Nat) : ∀ (x1 : Int32) (x2 : Int32) (x3 : Int32) (x4 : Int32)  (σ : kS), Sm (C, E, Q) 5 0 70 [(0, .ref (kad E 48 0)), (1, .int x1), (2, .int x2), (3, .int x3), (4, .int x4)] [.ref (kad E 48 0)] σ (f_X6_cell_b70 F x1 x2 x3 x4 σ) := by
  intro x1 x2 x3 x4  σ
  unfold f_X6_cell_b70
  refine k_iconst (v := 1) hk dX6_cell_70 (by decide) ?_
  refine k_goto hk dX6_cell_71 75 (by decide) ?_
  exact k_sub [0, 1, 2, 3, 4] rfl (s_X6_cell_b75 hj hn hl hk he hro F  x1 x2 x3 x4 1  σ)
def f_X6_cell_b42 (F : Nat) (x1 : Int32) (x2 : Int32) (x3 : Int32) (x4 : Int32) (t1 : Int32) (σ : kS) : Option kR := kBi (f_X6_bad F t1 2 σ) fun c16 σ15 => if c16 = 0 then (kBi (f_X6_in F x2 0 99 σ15) fun c19 σ18 => if c19 = 0 then (f_X6_cell_b70 F x1 x2 x3 x4 σ18) else (kBi (f_X6_in F x4 0 2 σ18) fun c22 σ21 => if c22 = 0 then (f_X6_cell_b70 F x1 x2 x3 x4 σ21) else (f_X6_cell_b75 F x1 x2 x3 x4 0 σ21))) else (f_X6_cell_b82 F  σ15)
set_option maxRecDepth 20000 in
theorem s_X6_cell_b42 {l : Launch} {E : kE} (hj : kEj E) (hn : kNorm E) (hl : l.stackTraces = false) {C : kC} {Q : kR → State → Prop} (hk : kOk (C, E, Q) cX6_cell RX6 5) (he : kEnd (C, E, Q) (some .int) id 0) (hro : kRo C l (4) (99) 0) (F : Nat) : ∀ (x1 : Int32) (x2 : Int32) (x3 : Int32) (x4 : Int32) (t1 : Int32)  (σ : kS), Sm (C, E, Q) 5 0 42 [(0, .ref (kad E 48 0)), (1, .int x1), (2, .int x2), (3, .int x3), (4, .int x4)] [.int t1, .ref (kad E 48 0)] σ (f_X6_cell_b42 F x1 x2 x3 x4 t1 σ) := by
  intro x1 x2 x3 x4 t1  σ
  unfold f_X6_cell_b42
  refine k_iconst (v := 2) hk dX6_cell_42 (by decide) ?_
  refine k_callVi (As := [.int t1, .int 2]) (rest := []) hk he hro (c_X6_bad hj hn hl F t1 2  σ) dX6_cell_43 cw_RX6_220 rfl (by decide) kc6 rfl ⟨by decide, by decide⟩ (by decide) rfl (Nat.le_of_ble_eq_true rfl) (fun c16 σ15 => ?_)
  refine k_if_ne hk dX6_cell_46 82 (by decide) (fun h17 => ?_) (fun h17 => ?_)
  · exact k_sub [] rfl (s_X6_cell_b82 hj hn hl hk he hro F    σ15)
  · refine k_aload_n hk dX6_cell_49 0 rfl ?_
    refine k_iload_n hk dX6_cell_50 2 rfl ?_
    refine k_iconst (v := 0) hk dX6_cell_51 (by decide) ?_
    refine k_bipush (v := 99) hk dX6_cell_52 (by decide) ?_
    refine k_callSi (As := [.int x2, .int 0, .int 99]) (rest := [.ref (kad E 48 0)]) hk he hro (c_X6_in hj hn hl F x2 0 99  σ15) dX6_cell_54 cw_RX6_150 ⟨by decide, by decide⟩ (by decide) rfl (Nat.le_of_ble_eq_true rfl) (fun c19 σ18 => ?_)
    refine k_if_eq hk dX6_cell_57 70 (by decide) (fun h20 => ?_) (fun h20 => ?_)
    · exact k_sub [0, 1, 2, 3, 4] rfl (s_X6_cell_b70 hj hn hl hk he hro F  x1 x2 x3 x4  σ18)
    · refine k_iload hk dX6_cell_60 4 rfl ?_
      refine k_iconst (v := 0) hk dX6_cell_62 (by decide) ?_
      refine k_iconst (v := 2) hk dX6_cell_63 (by decide) ?_
      refine k_callSi (As := [.int x4, .int 0, .int 2]) (rest := [.ref (kad E 48 0)]) hk he hro (c_X6_in hj hn hl F x4 0 2  σ18) dX6_cell_64 cw_RX6_150 ⟨by decide, by decide⟩ (by decide) rfl (Nat.le_of_ble_eq_true rfl) (fun c22 σ21 => ?_)
      refine k_if_ne hk dX6_cell_67 74 (by decide) (fun h23 => ?_) (fun h23 => ?_)
      · refine k_iconst (v := 0) hk dX6_cell_74 (by decide) ?_
        exact k_sub [0, 1, 2, 3, 4] rfl (s_X6_cell_b75 hj hn hl hk he hro F  x1 x2 x3 x4 0  σ21)
      · exact k_sub [0, 1, 2, 3, 4] rfl (s_X6_cell_b70 hj hn hl hk he hro F  x1 x2 x3 x4  σ21)
def f_X6_cell_b19 (F : Nat) (x1 : Int32) (x2 : Int32) (x3 : Int32) (x4 : Int32) (t1 : Int32) (σ : kS) : Option kR := kBi (f_X6_bad F t1 1 σ) fun c25 σ24 => if c25 = 0 then (kBi (f_X6_in F x3 0 7 σ24) fun c28 σ27 => if c28 = 0 then (f_X6_cell_b42 F x1 x2 x3 x4 1 σ27) else (f_X6_cell_b42 F x1 x2 x3 x4 0 σ27)) else (f_X6_cell_b82 F  σ24)
set_option maxRecDepth 20000 in
theorem s_X6_cell_b19 {l : Launch} {E : kE} (hj : kEj E) (hn : kNorm E) (hl : l.stackTraces = false) {C : kC} {Q : kR → State → Prop} (hk : kOk (C, E, Q) cX6_cell RX6 5) (he : kEnd (C, E, Q) (some .int) id 0) (hro : kRo C l (4) (99) 0) (F : Nat) : ∀ (x1 : Int32) (x2 : Int32) (x3 : Int32) (x4 : Int32) (t1 : Int32)  (σ : kS), Sm (C, E, Q) 5 0 19 [(0, .ref (kad E 48 0)), (1, .int x1), (2, .int x2), (3, .int x3), (4, .int x4)] [.int t1, .ref (kad E 48 0)] σ (f_X6_cell_b19 F x1 x2 x3 x4 t1 σ) := by
  intro x1 x2 x3 x4 t1  σ
  unfold f_X6_cell_b19
  refine k_iconst (v := 1) hk dX6_cell_19 (by decide) ?_
  refine k_callVi (As := [.int t1, .int 1]) (rest := []) hk he hro (c_X6_bad hj hn hl F t1 1  σ) dX6_cell_20 cw_RX6_220 rfl (by decide) kc6 rfl ⟨by decide, by decide⟩ (by decide) rfl (Nat.le_of_ble_eq_true rfl) (fun c25 σ24 => ?_)
  refine k_if_ne hk dX6_cell_23 82 (by decide) (fun h26 => ?_) (fun h26 => ?_)
  · exact k_sub [] rfl (s_X6_cell_b82 hj hn hl hk he hro F    σ24)
  · refine k_aload_n hk dX6_cell_26 0 rfl ?_
    refine k_iload_n hk dX6_cell_27 3 rfl ?_
    refine k_iconst (v := 0) hk dX6_cell_28 (by decide) ?_
    refine k_bipush (v := 7) hk dX6_cell_29 (by decide) ?_
    refine k_callSi (As := [.int x3, .int 0, .int 7]) (rest := [.ref (kad E 48 0)]) hk he hro (c_X6_in hj hn hl F x3 0 7  σ24) dX6_cell_31 cw_RX6_150 ⟨by decide, by decide⟩ (by decide) rfl (Nat.le_of_ble_eq_true rfl) (fun c28 σ27 => ?_)
    refine k_if_ne hk dX6_cell_34 41 (by decide) (fun h29 => ?_) (fun h29 => ?_)
    · refine k_iconst (v := 0) hk dX6_cell_41 (by decide) ?_
      exact k_sub [0, 1, 2, 3, 4] rfl (s_X6_cell_b42 hj hn hl hk he hro F  x1 x2 x3 x4 0  σ27)
    · refine k_iconst (v := 1) hk dX6_cell_37 (by decide) ?_
      refine k_goto hk dX6_cell_38 42 (by decide) ?_
      exact k_sub [0, 1, 2, 3, 4] rfl (s_X6_cell_b42 hj hn hl hk he hro F  x1 x2 x3 x4 1  σ27)
def f_X6_cell (F : Nat) (a1 : Int32) (a2 : Int32) (a3 : Int32) (a4 : Int32) (σ : kS) : Option kR := kb (kU σ 48 0 0 0) fun σ30 => kBi (f_X6_isWhy F a1 σ30) fun c32 σ31 => if c32 = 0 then (f_X6_cell_b19 F a1 a2 a3 a4 1 σ31) else (f_X6_cell_b19 F a1 a2 a3 a4 0 σ31)
set_option maxRecDepth 20000 in
theorem c_X6_cell {l : Launch} {E : kE} (hj : kEj E) (hn : kNorm E) (hl : l.stackTraces = false) (F : Nat) (a1 : Int32) (a2 : Int32) (a3 : Int32) (a4 : Int32)  (σ : kS) : kMet l E yX6_cell cX6_cell 5 (some .int) (4) (99) 0 id [.ref (kad E 48 0), .int a1, .int a2, .int a3, .int a4] σ (f_X6_cell F a1 a2 a3 a4 σ) := by
  refine k_met hj hn hl (by decide) (Nat.le_of_ble_eq_true rfl) (fun C Q hk he hro => ?_)
  have hk : kOk (C, E, Q) cX6_cell RX6 5 := hk
  show Sm (C, E, Q) 5 0 0 [(0, .ref (kad E 48 0)), (1, .int a1), (2, .int a2), (3, .int a3), (4, .int a4)] [] σ _
  unfold f_X6_cell
  refine k_aload_n hk dX6_cell_0 0 rfl ?_
  refine k_iconst (v := 0) hk dX6_cell_1 (by decide) ?_
  refine k_putf (k := 0) hk dX6_cell_2 rfl (by decide) kc6 (by decide) fl_RX6_113 rfl rfl rfl rfl (fun σ30 => ?_)
  refine k_aload_n hk dX6_cell_5 0 rfl ?_
  refine k_aload_n hk dX6_cell_6 0 rfl ?_
  refine k_iload_n hk dX6_cell_7 1 rfl ?_
  refine k_callVi (As := [.int a1]) (rest := [.ref (kad E 48 0)]) hk he hro (c_X6_isWhy hj hn hl F a1  σ30) dX6_cell_8 cw_RX6_234 rfl (by decide) kc6 rfl ⟨by decide, by decide⟩ (by decide) rfl (Nat.le_of_ble_eq_true rfl) (fun c32 σ31 => ?_)
  refine k_if_ne hk dX6_cell_11 18 (by decide) (fun h33 => ?_) (fun h33 => ?_)
  · refine k_iconst (v := 0) hk dX6_cell_18 (by decide) ?_
    exact k_sub [0, 1, 2, 3, 4] rfl (s_X6_cell_b19 hj hn hl hk he hro F  a1 a2 a3 a4 0  σ31)
  · refine k_iconst (v := 1) hk dX6_cell_14 (by decide) ?_
    refine k_goto hk dX6_cell_15 19 (by decide) ?_
    exact k_sub [0, 1, 2, 3, 4] rfl (s_X6_cell_b19 hj hn hl hk he hro F  a1 a2 a3 a4 1  σ31)
def f_X6_run_b94 (F : Nat) (t0 : Int32) (σ : kS) : Option kR := some (.inl (some (.int t0)), σ)
set_option maxRecDepth 20000 in
theorem s_X6_run_b94 {l : Launch} {E : kE} (hj : kEj E) (hn : kNorm E) (hl : l.stackTraces = false) {C : kC} {Q : kR → State → Prop} (hk : kOk (C, E, Q) cX6_run RX6 3) (he : kEnd (C, E, Q) (some .int) id 0) (hro : kRo C l (4) (99) 0) (F : Nat) : ∀ (t0 : Int32)  (σ : kS), Sm (C, E, Q) 3 0 94 [] [.int t0] σ (f_X6_run_b94 F t0 σ) := by
  intro t0  σ
  unfold f_X6_run_b94
  exact k_ireturn hk he dX6_run_94 (by decide)
def f_X6_run_b48 (F : Nat)  (σ : kS) : Option kR := some (.inl (some (.int 0)), σ)
set_option maxRecDepth 20000 in
theorem s_X6_run_b48 {l : Launch} {E : kE} (hj : kEj E) (hn : kNorm E) (hl : l.stackTraces = false) {C : kC} {Q : kR → State → Prop} (hk : kOk (C, E, Q) cX6_run RX6 3) (he : kEnd (C, E, Q) (some .int) id 0) (hro : kRo C l (4) (99) 0) (F : Nat) : ∀   (σ : kS), Sm (C, E, Q) 3 0 48 [] [] σ (f_X6_run_b48 F  σ) := by
  intro   σ
  unfold f_X6_run_b48
  refine k_iconst (v := 0) hk dX6_run_48 (by decide) ?_
  exact k_ireturn hk he dX6_run_49 (by decide)
def f_X6_run_b41 (F : Nat) (x1 : Int32) (x2 : Int32) (t1 : Int32) (σ : kS) : Option kR := kBi (f_X6_bad F t1 2 σ) fun c2 σ1 => if c2 = 0 then (kBv (f_X6_runs F x1 σ1) fun σ4 => if x2 = 0 then (f_X6_run_b94 F (σ4.1 48 0 37) σ4) else (if x2 = 1 then (f_X6_run_b94 F (σ4.1 48 0 38) σ4) else (if x2 = 2 then (f_X6_run_b94 F (σ4.1 48 0 36) σ4) else (kBi (f_X6_lasted F  σ4) fun c9 σ8 => f_X6_run_b94 F c9 σ8)))) else (f_X6_run_b48 F  σ1)
set_option maxRecDepth 20000 in
theorem s_X6_run_b41 {l : Launch} {E : kE} (hj : kEj E) (hn : kNorm E) (hl : l.stackTraces = false) {C : kC} {Q : kR → State → Prop} (hk : kOk (C, E, Q) cX6_run RX6 3) (he : kEnd (C, E, Q) (some .int) id 0) (hro : kRo C l (4) (99) 0) (F : Nat) : ∀ (x1 : Int32) (x2 : Int32) (t1 : Int32)  (σ : kS), Sm (C, E, Q) 3 0 41 [(0, .ref (kad E 48 0)), (1, .int x1), (2, .int x2)] [.int t1, .ref (kad E 48 0)] σ (f_X6_run_b41 F x1 x2 t1 σ) := by
  intro x1 x2 t1  σ
  unfold f_X6_run_b41
  refine k_iconst (v := 2) hk dX6_run_41 (by decide) ?_
  refine k_callVi (As := [.int t1, .int 2]) (rest := []) hk he hro (c_X6_bad hj hn hl F t1 2  σ) dX6_run_42 cw_RX6_220 rfl (by decide) kc6 rfl ⟨by decide, by decide⟩ (by decide) rfl (Nat.le_of_ble_eq_true rfl) (fun c2 σ1 => ?_)
  refine k_if_eq hk dX6_run_45 50 (by decide) (fun h3 => ?_) (fun h3 => ?_)
  · refine k_aload_n hk dX6_run_50 0 rfl ?_
    refine k_iload_n hk dX6_run_51 1 rfl ?_
    refine k_callVv (As := [.int x1]) (rest := []) hk he hro (c_X6_runs hj hn hl F x1  σ1) dX6_run_52 cw_RX6_279 rfl (by decide) kc6 rfl ⟨by decide, by decide⟩ (by decide) rfl (Nat.le_of_ble_eq_true rfl) (fun σ4 => ?_)
    refine k_iload_n hk dX6_run_55 2 rfl ?_
    refine k_if_ne hk dX6_run_56 66 (by decide) (fun h5 => ?_) (fun h5 => ?_)
    · refine k_iload_n hk dX6_run_66 2 rfl ?_
      refine k_iconst (v := 1) hk dX6_run_67 (by decide) ?_
      refine k_icmp_ne hk dX6_run_68 78 (by decide) (fun h6 => ?_) (fun h6 => ?_)
      · refine k_iload_n hk dX6_run_78 2 rfl ?_
        refine k_iconst (v := 2) hk dX6_run_79 (by decide) ?_
        refine k_icmp_ne hk dX6_run_80 90 (by decide) (fun h7 => ?_) (fun h7 => ?_)
        · refine k_aload_n hk dX6_run_90 0 rfl ?_
          refine k_callVi (As := []) (rest := []) hk he hro (c_X6_lasted hj hn hl F   σ4) dX6_run_91 cw_RX6_291 rfl (by decide) kc6 rfl ⟨by decide, by decide⟩ (by decide) rfl (Nat.le_of_ble_eq_true rfl) (fun c9 σ8 => ?_)
          exact k_sub [] rfl (s_X6_run_b94 hj hn hl hk he hro F  c9  σ8)
        · refine k_aload_n hk dX6_run_83 0 rfl ?_
          refine k_getf (k := 36) hk dX6_run_84 rfl (by decide) kc6 (by decide) fl_RX6_246 rfl ?_
          refine k_goto hk dX6_run_87 94 (by decide) ?_
          exact k_sub [] rfl (s_X6_run_b94 hj hn hl hk he hro F  (σ4.1 48 0 36)  σ4)
      · refine k_aload_n hk dX6_run_71 0 rfl ?_
        refine k_getf (k := 38) hk dX6_run_72 rfl (by decide) kc6 (by decide) fl_RX6_252 rfl ?_
        refine k_goto hk dX6_run_75 94 (by decide) ?_
        exact k_sub [] rfl (s_X6_run_b94 hj hn hl hk he hro F  (σ4.1 48 0 38)  σ4)
    · refine k_aload_n hk dX6_run_59 0 rfl ?_
      refine k_getf (k := 37) hk dX6_run_60 rfl (by decide) kc6 (by decide) fl_RX6_249 rfl ?_
      refine k_goto hk dX6_run_63 94 (by decide) ?_
      exact k_sub [] rfl (s_X6_run_b94 hj hn hl hk he hro F  (σ4.1 48 0 37)  σ4)
  · exact k_sub [] rfl (s_X6_run_b48 hj hn hl hk he hro F    σ1)
def f_X6_run_b19 (F : Nat) (x1 : Int32) (x2 : Int32) (t1 : Int32) (σ : kS) : Option kR := kBi (f_X6_bad F t1 1 σ) fun c11 σ10 => if c11 = 0 then (kBi (f_X6_in F x2 0 3 σ10) fun c14 σ13 => if c14 = 0 then (f_X6_run_b41 F x1 x2 1 σ13) else (f_X6_run_b41 F x1 x2 0 σ13)) else (f_X6_run_b48 F  σ10)
set_option maxRecDepth 20000 in
theorem s_X6_run_b19 {l : Launch} {E : kE} (hj : kEj E) (hn : kNorm E) (hl : l.stackTraces = false) {C : kC} {Q : kR → State → Prop} (hk : kOk (C, E, Q) cX6_run RX6 3) (he : kEnd (C, E, Q) (some .int) id 0) (hro : kRo C l (4) (99) 0) (F : Nat) : ∀ (x1 : Int32) (x2 : Int32) (t1 : Int32)  (σ : kS), Sm (C, E, Q) 3 0 19 [(0, .ref (kad E 48 0)), (1, .int x1), (2, .int x2)] [.int t1, .ref (kad E 48 0)] σ (f_X6_run_b19 F x1 x2 t1 σ) := by
  intro x1 x2 t1  σ
  unfold f_X6_run_b19
  refine k_iconst (v := 1) hk dX6_run_19 (by decide) ?_
  refine k_callVi (As := [.int t1, .int 1]) (rest := []) hk he hro (c_X6_bad hj hn hl F t1 1  σ) dX6_run_20 cw_RX6_220 rfl (by decide) kc6 rfl ⟨by decide, by decide⟩ (by decide) rfl (Nat.le_of_ble_eq_true rfl) (fun c11 σ10 => ?_)
  refine k_if_ne hk dX6_run_23 48 (by decide) (fun h12 => ?_) (fun h12 => ?_)
  · exact k_sub [] rfl (s_X6_run_b48 hj hn hl hk he hro F    σ10)
  · refine k_aload_n hk dX6_run_26 0 rfl ?_
    refine k_iload_n hk dX6_run_27 2 rfl ?_
    refine k_iconst (v := 0) hk dX6_run_28 (by decide) ?_
    refine k_iconst (v := 3) hk dX6_run_29 (by decide) ?_
    refine k_callSi (As := [.int x2, .int 0, .int 3]) (rest := [.ref (kad E 48 0)]) hk he hro (c_X6_in hj hn hl F x2 0 3  σ10) dX6_run_30 cw_RX6_150 ⟨by decide, by decide⟩ (by decide) rfl (Nat.le_of_ble_eq_true rfl) (fun c14 σ13 => ?_)
    refine k_if_ne hk dX6_run_33 40 (by decide) (fun h15 => ?_) (fun h15 => ?_)
    · refine k_iconst (v := 0) hk dX6_run_40 (by decide) ?_
      exact k_sub [0, 1, 2] rfl (s_X6_run_b41 hj hn hl hk he hro F  x1 x2 0  σ13)
    · refine k_iconst (v := 1) hk dX6_run_36 (by decide) ?_
      refine k_goto hk dX6_run_37 41 (by decide) ?_
      exact k_sub [0, 1, 2] rfl (s_X6_run_b41 hj hn hl hk he hro F  x1 x2 1  σ13)
def f_X6_run (F : Nat) (a1 : Int32) (a2 : Int32) (σ : kS) : Option kR := kb (kU σ 48 0 0 0) fun σ16 => kBi (f_X6_isWhy F a1 σ16) fun c18 σ17 => if c18 = 0 then (f_X6_run_b19 F a1 a2 1 σ17) else (f_X6_run_b19 F a1 a2 0 σ17)
set_option maxRecDepth 20000 in
theorem c_X6_run {l : Launch} {E : kE} (hj : kEj E) (hn : kNorm E) (hl : l.stackTraces = false) (F : Nat) (a1 : Int32) (a2 : Int32)  (σ : kS) : kMet l E yX6_run cX6_run 3 (some .int) (4) (99) 0 id [.ref (kad E 48 0), .int a1, .int a2] σ (f_X6_run F a1 a2 σ) := by
  refine k_met hj hn hl (by decide) (Nat.le_of_ble_eq_true rfl) (fun C Q hk he hro => ?_)
  have hk : kOk (C, E, Q) cX6_run RX6 3 := hk
  show Sm (C, E, Q) 3 0 0 [(0, .ref (kad E 48 0)), (1, .int a1), (2, .int a2)] [] σ _
  unfold f_X6_run
  refine k_aload_n hk dX6_run_0 0 rfl ?_
  refine k_iconst (v := 0) hk dX6_run_1 (by decide) ?_
  refine k_putf (k := 0) hk dX6_run_2 rfl (by decide) kc6 (by decide) fl_RX6_113 rfl rfl rfl rfl (fun σ16 => ?_)
  refine k_aload_n hk dX6_run_5 0 rfl ?_
  refine k_aload_n hk dX6_run_6 0 rfl ?_
  refine k_iload_n hk dX6_run_7 1 rfl ?_
  refine k_callVi (As := [.int a1]) (rest := [.ref (kad E 48 0)]) hk he hro (c_X6_isWhy hj hn hl F a1  σ16) dX6_run_8 cw_RX6_234 rfl (by decide) kc6 rfl ⟨by decide, by decide⟩ (by decide) rfl (Nat.le_of_ble_eq_true rfl) (fun c18 σ17 => ?_)
  refine k_if_ne hk dX6_run_11 18 (by decide) (fun h19 => ?_) (fun h19 => ?_)
  · refine k_iconst (v := 0) hk dX6_run_18 (by decide) ?_
    exact k_sub [0, 1, 2] rfl (s_X6_run_b19 hj hn hl hk he hro F  a1 a2 0  σ17)
  · refine k_iconst (v := 1) hk dX6_run_14 (by decide) ?_
    refine k_goto hk dX6_run_15 19 (by decide) ?_
    exact k_sub [0, 1, 2] rfl (s_X6_run_b19 hj hn hl hk he hro F  a1 a2 1  σ17)
def f_X6_row_b120 (F : Nat) (x1 : Int32) (x2 : Int32) (x3 : Int32) (x4 : Int32) (x5 : Int32) (t1 : Int32) (σ : kS) : Option kR := kBi (f_X6_bad F t1 1 σ) fun c2 σ1 => if c2 = 0 then (if (σ1.1 48 0 43) = 10 then (some (.inl (some (.int (-1))), σ1)) else (kg (kin (σ1.1 48 0 43) 10) (kb ((σ1.1 48 0 43).toNatClampNeg) fun j5 => kb (kU σ1 82 j5 0 x1) fun σ6 => kg (kin (σ6.1 48 0 43) 10) (kb ((σ6.1 48 0 43).toNatClampNeg) fun j7 => kb (kU σ6 82 j7 1 x2) fun σ8 => kg (kin (σ8.1 48 0 43) 10) (kb ((σ8.1 48 0 43).toNatClampNeg) fun j9 => kb (kU σ8 82 j9 2 x3) fun σ10 => kg (kin (σ10.1 48 0 43) 10) (kb ((σ10.1 48 0 43).toNatClampNeg) fun j11 => kb (kU σ10 82 j11 3 x4) fun σ12 => kg (kin (σ12.1 48 0 43) 10) (kb ((σ12.1 48 0 43).toNatClampNeg) fun j13 => kb (kU σ12 82 j13 4 x5) fun σ14 => kg (kin (σ14.1 48 0 43) 10) (kb ((σ14.1 48 0 43).toNatClampNeg) fun j15 => kb (kU σ14 82 j15 5 0) fun σ16 => kb (kU σ16 48 0 43 ((σ16.1 48 0 43) + 1)) fun σ17 => some (.inl (some (.int ((σ17.1 48 0 43) - 1))), σ17))))))))) else (some (.inl (some (.int 0)), σ1))
set_option maxRecDepth 20000 in
theorem s_X6_row_b120 {l : Launch} {E : kE} (hj : kEj E) (hn : kNorm E) (hl : l.stackTraces = false) {C : kC} {Q : kR → State → Prop} (hk : kOk (C, E, Q) cX6_row RX6 8) (he : kEnd (C, E, Q) (some .int) id 0) (hro : kRo C l (1) (22) 0) (F : Nat) : ∀ (x1 : Int32) (x2 : Int32) (x3 : Int32) (x4 : Int32) (x5 : Int32) (t1 : Int32)  (σ : kS), Sm (C, E, Q) 8 0 120 [(0, .ref (kad E 48 0)), (1, .int x1), (2, .int x2), (3, .int x3), (4, .int x4), (5, .int x5)] [.int t1, .ref (kad E 48 0)] σ (f_X6_row_b120 F x1 x2 x3 x4 x5 t1 σ) := by
  intro x1 x2 x3 x4 x5 t1  σ
  unfold f_X6_row_b120
  refine k_iconst (v := 1) hk dX6_row_120 (by decide) ?_
  refine k_callVi (As := [.int t1, .int 1]) (rest := []) hk he hro (c_X6_bad hj hn hl F t1 1  σ) dX6_row_121 cw_RX6_220 rfl (by decide) kc6 rfl ⟨by decide, by decide⟩ (by decide) rfl (Nat.le_of_ble_eq_true rfl) (fun c2 σ1 => ?_)
  refine k_if_eq hk dX6_row_124 129 (by decide) (fun h3 => ?_) (fun h3 => ?_)
  · refine k_aload_n hk dX6_row_129 0 rfl ?_
    refine k_getf (k := 43) hk dX6_row_130 rfl (by decide) kc6 (by decide) fl_RX6_294 rfl ?_
    refine k_bipush (v := 10) hk dX6_row_133 (by decide) ?_
    refine k_icmp_ne hk dX6_row_135 140 (by decide) (fun h4 => ?_) (fun h4 => ?_)
    · refine k_aload_n hk dX6_row_140 0 rfl ?_
      refine k_getr (k := 47) 81 0 hk dX6_row_141 rfl (by decide) kc6 (by decide) fl_RX6_97 rfl rfl ?_
      refine k_aload_n hk dX6_row_144 0 rfl ?_
      refine k_getf (k := 43) hk dX6_row_145 rfl (by decide) kc6 (by decide) fl_RX6_294 rfl ?_
      refine k_aaldj (g' := 82) (fun z => z) hk dX6_row_148 rfl rfl rfl (by decide) (fun z => rfl) (by decide) (fun j5 hj5 => ?_)
      refine k_iconst (v := 0) hk dX6_row_149 (by decide) ?_
      refine k_iload_n hk dX6_row_150 1 rfl ?_
      refine k_iast_k (kk := 0) hk dX6_row_151 rfl hj5 (by decide) (by decide) (fun σ6 => ?_)
      refine k_aload_n hk dX6_row_152 0 rfl ?_
      refine k_getr (k := 47) 81 0 hk dX6_row_153 rfl (by decide) kc6 (by decide) fl_RX6_97 rfl rfl ?_
      refine k_aload_n hk dX6_row_156 0 rfl ?_
      refine k_getf (k := 43) hk dX6_row_157 rfl (by decide) kc6 (by decide) fl_RX6_294 rfl ?_
      refine k_aaldj (g' := 82) (fun z => z) hk dX6_row_160 rfl rfl rfl (by decide) (fun z => rfl) (by decide) (fun j7 hj7 => ?_)
      refine k_iconst (v := 1) hk dX6_row_161 (by decide) ?_
      refine k_iload_n hk dX6_row_162 2 rfl ?_
      refine k_iast_k (kk := 1) hk dX6_row_163 rfl hj7 (by decide) (by decide) (fun σ8 => ?_)
      refine k_aload_n hk dX6_row_164 0 rfl ?_
      refine k_getr (k := 47) 81 0 hk dX6_row_165 rfl (by decide) kc6 (by decide) fl_RX6_97 rfl rfl ?_
      refine k_aload_n hk dX6_row_168 0 rfl ?_
      refine k_getf (k := 43) hk dX6_row_169 rfl (by decide) kc6 (by decide) fl_RX6_294 rfl ?_
      refine k_aaldj (g' := 82) (fun z => z) hk dX6_row_172 rfl rfl rfl (by decide) (fun z => rfl) (by decide) (fun j9 hj9 => ?_)
      refine k_iconst (v := 2) hk dX6_row_173 (by decide) ?_
      refine k_iload_n hk dX6_row_174 3 rfl ?_
      refine k_iast_k (kk := 2) hk dX6_row_175 rfl hj9 (by decide) (by decide) (fun σ10 => ?_)
      refine k_aload_n hk dX6_row_176 0 rfl ?_
      refine k_getr (k := 47) 81 0 hk dX6_row_177 rfl (by decide) kc6 (by decide) fl_RX6_97 rfl rfl ?_
      refine k_aload_n hk dX6_row_180 0 rfl ?_
      refine k_getf (k := 43) hk dX6_row_181 rfl (by decide) kc6 (by decide) fl_RX6_294 rfl ?_
      refine k_aaldj (g' := 82) (fun z => z) hk dX6_row_184 rfl rfl rfl (by decide) (fun z => rfl) (by decide) (fun j11 hj11 => ?_)
      refine k_iconst (v := 3) hk dX6_row_185 (by decide) ?_
      refine k_iload hk dX6_row_186 4 rfl ?_
      refine k_iast_k (kk := 3) hk dX6_row_188 rfl hj11 (by decide) (by decide) (fun σ12 => ?_)
      refine k_aload_n hk dX6_row_189 0 rfl ?_
      refine k_getr (k := 47) 81 0 hk dX6_row_190 rfl (by decide) kc6 (by decide) fl_RX6_97 rfl rfl ?_
      refine k_aload_n hk dX6_row_193 0 rfl ?_
      refine k_getf (k := 43) hk dX6_row_194 rfl (by decide) kc6 (by decide) fl_RX6_294 rfl ?_
      refine k_aaldj (g' := 82) (fun z => z) hk dX6_row_197 rfl rfl rfl (by decide) (fun z => rfl) (by decide) (fun j13 hj13 => ?_)
      refine k_iconst (v := 4) hk dX6_row_198 (by decide) ?_
      refine k_iload hk dX6_row_199 5 rfl ?_
      refine k_iast_k (kk := 4) hk dX6_row_201 rfl hj13 (by decide) (by decide) (fun σ14 => ?_)
      refine k_aload_n hk dX6_row_202 0 rfl ?_
      refine k_getr (k := 47) 81 0 hk dX6_row_203 rfl (by decide) kc6 (by decide) fl_RX6_97 rfl rfl ?_
      refine k_aload_n hk dX6_row_206 0 rfl ?_
      refine k_getf (k := 43) hk dX6_row_207 rfl (by decide) kc6 (by decide) fl_RX6_294 rfl ?_
      refine k_aaldj (g' := 82) (fun z => z) hk dX6_row_210 rfl rfl rfl (by decide) (fun z => rfl) (by decide) (fun j15 hj15 => ?_)
      refine k_iconst (v := 5) hk dX6_row_211 (by decide) ?_
      refine k_iconst (v := 0) hk dX6_row_212 (by decide) ?_
      refine k_iast_k (kk := 5) hk dX6_row_213 rfl hj15 (by decide) (by decide) (fun σ16 => ?_)
      refine k_aload_n hk dX6_row_214 0 rfl ?_
      refine k_dup hk dX6_row_215 rfl ?_
      refine k_getf (k := 43) hk dX6_row_216 rfl (by decide) kc6 (by decide) fl_RX6_294 rfl ?_
      refine k_iconst (v := 1) hk dX6_row_219 (by decide) ?_
      refine k_iadd hk dX6_row_220 ?_
      refine k_putf (k := 43) hk dX6_row_221 rfl (by decide) kc6 (by decide) fl_RX6_294 rfl rfl rfl rfl (fun σ17 => ?_)
      refine k_aload_n hk dX6_row_224 0 rfl ?_
      refine k_getf (k := 43) hk dX6_row_225 rfl (by decide) kc6 (by decide) fl_RX6_294 rfl ?_
      refine k_iconst (v := 1) hk dX6_row_228 (by decide) ?_
      refine k_isub hk dX6_row_229 ?_
      exact k_ireturn hk he dX6_row_230 (by decide)
    · refine k_iconst (v := (-1)) hk dX6_row_138 (by decide) ?_
      exact k_ireturn hk he dX6_row_139 (by decide)
  · refine k_iconst (v := 0) hk dX6_row_127 (by decide) ?_
    exact k_ireturn hk he dX6_row_128 (by decide)
def f_X6_row_b115 (F : Nat) (x1 : Int32) (x2 : Int32) (x3 : Int32) (x4 : Int32) (x5 : Int32) (σ : kS) : Option kR := f_X6_row_b120 F x1 x2 x3 x4 x5 1 σ
set_option maxRecDepth 20000 in
theorem s_X6_row_b115 {l : Launch} {E : kE} (hj : kEj E) (hn : kNorm E) (hl : l.stackTraces = false) {C : kC} {Q : kR → State → Prop} (hk : kOk (C, E, Q) cX6_row RX6 8) (he : kEnd (C, E, Q) (some .int) id 0) (hro : kRo C l (1) (22) 0) (F : Nat) : ∀ (x1 : Int32) (x2 : Int32) (x3 : Int32) (x4 : Int32) (x5 : Int32)  (σ : kS), Sm (C, E, Q) 8 0 115 [(0, .ref (kad E 48 0)), (1, .int x1), (2, .int x2), (3, .int x3), (4, .int x4), (5, .int x5)] [.ref (kad E 48 0)] σ (f_X6_row_b115 F x1 x2 x3 x4 x5 σ) := by
  intro x1 x2 x3 x4 x5  σ
  unfold f_X6_row_b115
  refine k_iconst (v := 1) hk dX6_row_115 (by decide) ?_
  refine k_goto hk dX6_row_116 120 (by decide) ?_
  exact k_sub [0, 1, 2, 3, 4, 5] rfl (s_X6_row_b120 hj hn hl hk he hro F  x1 x2 x3 x4 x5 1  σ)
def f_X6_row_b60 (F : Nat) (x1 : Int32) (x2 : Int32) (x3 : Int32) (x4 : Int32) (x5 : Int32) (x6 : Int32) (t0 : Int32) (σ : kS) : Option kR := kBi (f_X6_in F x1 0 5 σ) fun c19 σ18 => if c19 = 0 then (f_X6_row_b115 F x1 x2 x3 x4 x5 σ18) else (kBi (f_X6_in F x2 0 99 σ18) fun c22 σ21 => if c22 = 0 then (f_X6_row_b115 F x1 x2 x3 x4 x5 σ21) else (kBi (f_X6_in F x3 0 7 σ21) fun c25 σ24 => if c25 = 0 then (f_X6_row_b115 F x1 x2 x3 x4 x5 σ24) else (kBi (f_X6_in F x4 x6 t0 σ24) fun c28 σ27 => if c28 = 0 then (f_X6_row_b115 F x1 x2 x3 x4 x5 σ27) else (kBi (f_X6_in F x5 0 8 σ27) fun c31 σ30 => if c31 = 0 then (f_X6_row_b115 F x1 x2 x3 x4 x5 σ30) else (f_X6_row_b120 F x1 x2 x3 x4 x5 0 σ30)))))
set_option maxRecDepth 20000 in
theorem s_X6_row_b60 {l : Launch} {E : kE} (hj : kEj E) (hn : kNorm E) (hl : l.stackTraces = false) {C : kC} {Q : kR → State → Prop} (hk : kOk (C, E, Q) cX6_row RX6 8) (he : kEnd (C, E, Q) (some .int) id 0) (hro : kRo C l (1) (22) 0) (F : Nat) : ∀ (x1 : Int32) (x2 : Int32) (x3 : Int32) (x4 : Int32) (x5 : Int32) (x6 : Int32) (t0 : Int32)  (σ : kS), Sm (C, E, Q) 8 0 60 [(0, .ref (kad E 48 0)), (1, .int x1), (2, .int x2), (3, .int x3), (4, .int x4), (5, .int x5), (6, .int x6)] [.int t0] σ (f_X6_row_b60 F x1 x2 x3 x4 x5 x6 t0 σ) := by
  intro x1 x2 x3 x4 x5 x6 t0  σ
  unfold f_X6_row_b60
  refine k_istore (lv' := [(7, .int t0), (0, .ref (kad E 48 0)), (1, .int x1), (2, .int x2), (3, .int x3), (4, .int x4), (5, .int x5), (6, .int x6)]) hk dX6_row_60 (by decide) rfl ?_
  refine k_aload_n hk dX6_row_62 1 rfl ?_
  refine k_iload_n hk dX6_row_63 2 rfl ?_
  refine k_iconst (v := 0) hk dX6_row_64 (by decide) ?_
  refine k_iconst (v := 5) hk dX6_row_65 (by decide) ?_
  refine k_callSi (As := [.int x1, .int 0, .int 5]) (rest := [.ref (kad E 48 0)]) hk he hro (c_X6_in hj hn hl F x1 0 5  σ) dX6_row_66 cw_RX6_150 ⟨by decide, by decide⟩ (by decide) rfl (Nat.le_of_ble_eq_true rfl) (fun c19 σ18 => ?_)
  refine k_if_eq hk dX6_row_69 115 (by decide) (fun h20 => ?_) (fun h20 => ?_)
  · exact k_sub [1, 2, 3, 4, 5, 6] rfl (s_X6_row_b115 hj hn hl hk he hro F  x1 x2 x3 x4 x5  σ18)
  · refine k_iload_n hk dX6_row_72 3 rfl ?_
    refine k_iconst (v := 0) hk dX6_row_73 (by decide) ?_
    refine k_bipush (v := 99) hk dX6_row_74 (by decide) ?_
    refine k_callSi (As := [.int x2, .int 0, .int 99]) (rest := [.ref (kad E 48 0)]) hk he hro (c_X6_in hj hn hl F x2 0 99  σ18) dX6_row_76 cw_RX6_150 ⟨by decide, by decide⟩ (by decide) rfl (Nat.le_of_ble_eq_true rfl) (fun c22 σ21 => ?_)
    refine k_if_eq hk dX6_row_79 115 (by decide) (fun h23 => ?_) (fun h23 => ?_)
    · exact k_sub [1, 2, 3, 4, 5, 6] rfl (s_X6_row_b115 hj hn hl hk he hro F  x1 x2 x3 x4 x5  σ21)
    · refine k_iload_n hk dX6_row_82 4 rfl ?_
      refine k_iconst (v := 0) hk dX6_row_83 (by decide) ?_
      refine k_bipush (v := 7) hk dX6_row_84 (by decide) ?_
      refine k_callSi (As := [.int x3, .int 0, .int 7]) (rest := [.ref (kad E 48 0)]) hk he hro (c_X6_in hj hn hl F x3 0 7  σ21) dX6_row_86 cw_RX6_150 ⟨by decide, by decide⟩ (by decide) rfl (Nat.le_of_ble_eq_true rfl) (fun c25 σ24 => ?_)
      refine k_if_eq hk dX6_row_89 115 (by decide) (fun h26 => ?_) (fun h26 => ?_)
      · exact k_sub [1, 2, 3, 4, 5, 6] rfl (s_X6_row_b115 hj hn hl hk he hro F  x1 x2 x3 x4 x5  σ24)
      · refine k_iload hk dX6_row_92 5 rfl ?_
        refine k_iload hk dX6_row_94 7 rfl ?_
        refine k_iload hk dX6_row_96 0 rfl ?_
        refine k_callSi (As := [.int x4, .int x6, .int t0]) (rest := [.ref (kad E 48 0)]) hk he hro (c_X6_in hj hn hl F x4 x6 t0  σ24) dX6_row_98 cw_RX6_150 ⟨by decide, by decide⟩ (by decide) rfl (Nat.le_of_ble_eq_true rfl) (fun c28 σ27 => ?_)
        refine k_if_eq hk dX6_row_101 115 (by decide) (fun h29 => ?_) (fun h29 => ?_)
        · exact k_sub [1, 2, 3, 4, 5, 6] rfl (s_X6_row_b115 hj hn hl hk he hro F  x1 x2 x3 x4 x5  σ27)
        · refine k_iload hk dX6_row_104 6 rfl ?_
          refine k_iconst (v := 0) hk dX6_row_106 (by decide) ?_
          refine k_bipush (v := 8) hk dX6_row_107 (by decide) ?_
          refine k_callSi (As := [.int x5, .int 0, .int 8]) (rest := [.ref (kad E 48 0)]) hk he hro (c_X6_in hj hn hl F x5 0 8  σ27) dX6_row_109 cw_RX6_150 ⟨by decide, by decide⟩ (by decide) rfl (Nat.le_of_ble_eq_true rfl) (fun c31 σ30 => ?_)
          refine k_if_ne hk dX6_row_112 119 (by decide) (fun h32 => ?_) (fun h32 => ?_)
          · refine k_iconst (v := 0) hk dX6_row_119 (by decide) ?_
            exact k_sub [1, 2, 3, 4, 5, 6] rfl (s_X6_row_b120 hj hn hl hk he hro F  x1 x2 x3 x4 x5 0  σ30)
          · exact k_sub [1, 2, 3, 4, 5, 6] rfl (s_X6_row_b115 hj hn hl hk he hro F  x1 x2 x3 x4 x5  σ30)
def f_X6_row_b52 (F : Nat) (x1 : Int32) (x2 : Int32) (x3 : Int32) (x4 : Int32) (x5 : Int32) (x6 : Int32) (σ : kS) : Option kR := f_X6_row_b60 F x1 x2 x3 x4 x5 x6 99 σ
set_option maxRecDepth 20000 in
theorem s_X6_row_b52 {l : Launch} {E : kE} (hj : kEj E) (hn : kNorm E) (hl : l.stackTraces = false) {C : kC} {Q : kR → State → Prop} (hk : kOk (C, E, Q) cX6_row RX6 8) (he : kEnd (C, E, Q) (some .int) id 0) (hro : kRo C l (1) (22) 0) (F : Nat) : ∀ (x1 : Int32) (x2 : Int32) (x3 : Int32) (x4 : Int32) (x5 : Int32) (x6 : Int32)  (σ : kS), Sm (C, E, Q) 8 0 52 [(0, .ref (kad E 48 0)), (1, .int x1), (2, .int x2), (3, .int x3), (4, .int x4), (5, .int x5), (6, .int x6)] [] σ (f_X6_row_b52 F x1 x2 x3 x4 x5 x6 σ) := by
  intro x1 x2 x3 x4 x5 x6  σ
  unfold f_X6_row_b52
  refine k_bipush (v := 99) hk dX6_row_52 (by decide) ?_
  refine k_goto hk dX6_row_54 60 (by decide) ?_
  exact k_sub [0, 1, 2, 3, 4, 5, 6] rfl (s_X6_row_b60 hj hn hl hk he hro F  x1 x2 x3 x4 x5 x6 99  σ)
def f_X6_row_b22 (F : Nat) (x1 : Int32) (x2 : Int32) (x3 : Int32) (x4 : Int32) (x5 : Int32) (t0 : Int32) (σ : kS) : Option kR := if x1 = 0 then (f_X6_row_b60 F x1 x2 x3 x4 x5 t0 1 σ) else (if x1 = 1 then (f_X6_row_b60 F x1 x2 x3 x4 x5 t0 7 σ) else (if x1 = 2 then (f_X6_row_b52 F x1 x2 x3 x4 x5 t0 σ) else (if x1 = 4 then (f_X6_row_b52 F x1 x2 x3 x4 x5 t0 σ) else (f_X6_row_b60 F x1 x2 x3 x4 x5 t0 9999 σ))))
set_option maxRecDepth 20000 in
theorem s_X6_row_b22 {l : Launch} {E : kE} (hj : kEj E) (hn : kNorm E) (hl : l.stackTraces = false) {C : kC} {Q : kR → State → Prop} (hk : kOk (C, E, Q) cX6_row RX6 8) (he : kEnd (C, E, Q) (some .int) id 0) (hro : kRo C l (1) (22) 0) (F : Nat) : ∀ (x1 : Int32) (x2 : Int32) (x3 : Int32) (x4 : Int32) (x5 : Int32) (t0 : Int32)  (σ : kS), Sm (C, E, Q) 8 0 22 [(0, .ref (kad E 48 0)), (1, .int x1), (2, .int x2), (3, .int x3), (4, .int x4), (5, .int x5)] [.int t0] σ (f_X6_row_b22 F x1 x2 x3 x4 x5 t0 σ) := by
  intro x1 x2 x3 x4 x5 t0  σ
  unfold f_X6_row_b22
  refine k_istore (lv' := [(6, .int t0), (0, .ref (kad E 48 0)), (1, .int x1), (2, .int x2), (3, .int x3), (4, .int x4), (5, .int x5)]) hk dX6_row_22 (by decide) rfl ?_
  refine k_iload_n hk dX6_row_24 2 rfl ?_
  refine k_if_ne hk dX6_row_25 32 (by decide) (fun h33 => ?_) (fun h33 => ?_)
  · refine k_iload_n hk dX6_row_32 2 rfl ?_
    refine k_iconst (v := 1) hk dX6_row_33 (by decide) ?_
    refine k_icmp_ne hk dX6_row_34 42 (by decide) (fun h34 => ?_) (fun h34 => ?_)
    · refine k_iload_n hk dX6_row_42 2 rfl ?_
      refine k_iconst (v := 2) hk dX6_row_43 (by decide) ?_
      refine k_icmp_eq hk dX6_row_44 52 (by decide) (fun h35 => ?_) (fun h35 => ?_)
      · exact k_sub [1, 2, 3, 4, 5, 6, 0] rfl (s_X6_row_b52 hj hn hl hk he hro F  x1 x2 x3 x4 x5 t0  σ)
      · refine k_iload_n hk dX6_row_47 2 rfl ?_
        refine k_iconst (v := 4) hk dX6_row_48 (by decide) ?_
        refine k_icmp_ne hk dX6_row_49 57 (by decide) (fun h36 => ?_) (fun h36 => ?_)
        · refine k_sipush (v := 9999) hk dX6_row_57 (by decide) ?_
          exact k_sub [1, 2, 3, 4, 5, 6, 0] rfl (s_X6_row_b60 hj hn hl hk he hro F  x1 x2 x3 x4 x5 t0 9999  σ)
        · exact k_sub [1, 2, 3, 4, 5, 6, 0] rfl (s_X6_row_b52 hj hn hl hk he hro F  x1 x2 x3 x4 x5 t0  σ)
    · refine k_bipush (v := 7) hk dX6_row_37 (by decide) ?_
      refine k_goto hk dX6_row_39 60 (by decide) ?_
      exact k_sub [1, 2, 3, 4, 5, 6, 0] rfl (s_X6_row_b60 hj hn hl hk he hro F  x1 x2 x3 x4 x5 t0 7  σ)
  · refine k_iconst (v := 1) hk dX6_row_28 (by decide) ?_
    refine k_goto hk dX6_row_29 60 (by decide) ?_
    exact k_sub [1, 2, 3, 4, 5, 6, 0] rfl (s_X6_row_b60 hj hn hl hk he hro F  x1 x2 x3 x4 x5 t0 1  σ)
def f_X6_row_b15 (F : Nat) (x1 : Int32) (x2 : Int32) (x3 : Int32) (x4 : Int32) (x5 : Int32) (σ : kS) : Option kR := f_X6_row_b22 F x1 x2 x3 x4 x5 (-9999) σ
set_option maxRecDepth 20000 in
theorem s_X6_row_b15 {l : Launch} {E : kE} (hj : kEj E) (hn : kNorm E) (hl : l.stackTraces = false) {C : kC} {Q : kR → State → Prop} (hk : kOk (C, E, Q) cX6_row RX6 8) (he : kEnd (C, E, Q) (some .int) id 0) (hro : kRo C l (1) (22) 0) (F : Nat) : ∀ (x1 : Int32) (x2 : Int32) (x3 : Int32) (x4 : Int32) (x5 : Int32)  (σ : kS), Sm (C, E, Q) 8 0 15 [(0, .ref (kad E 48 0)), (1, .int x1), (2, .int x2), (3, .int x3), (4, .int x4), (5, .int x5)] [] σ (f_X6_row_b15 F x1 x2 x3 x4 x5 σ) := by
  intro x1 x2 x3 x4 x5  σ
  unfold f_X6_row_b15
  refine k_sipush (v := (-9999)) hk dX6_row_15 (by decide) ?_
  refine k_goto hk dX6_row_18 22 (by decide) ?_
  exact k_sub [0, 1, 2, 3, 4, 5] rfl (s_X6_row_b22 hj hn hl hk he hro F  x1 x2 x3 x4 x5 (-9999)  σ)
def f_X6_row (F : Nat) (a1 : Int32) (a2 : Int32) (a3 : Int32) (a4 : Int32) (a5 : Int32) (σ : kS) : Option kR := kb (kU σ 48 0 0 0) fun σ37 => if a1 = 3 then (f_X6_row_b15 F a1 a2 a3 a4 a5 σ37) else (if a1 = 5 then (f_X6_row_b15 F a1 a2 a3 a4 a5 σ37) else (f_X6_row_b22 F a1 a2 a3 a4 a5 0 σ37))
set_option maxRecDepth 20000 in
theorem c_X6_row {l : Launch} {E : kE} (hj : kEj E) (hn : kNorm E) (hl : l.stackTraces = false) (F : Nat) (a1 : Int32) (a2 : Int32) (a3 : Int32) (a4 : Int32) (a5 : Int32)  (σ : kS) : kMet l E yX6_row cX6_row 8 (some .int) (1) (22) 0 id [.ref (kad E 48 0), .int a1, .int a2, .int a3, .int a4, .int a5] σ (f_X6_row F a1 a2 a3 a4 a5 σ) := by
  refine k_met hj hn hl (by decide) (Nat.le_of_ble_eq_true rfl) (fun C Q hk he hro => ?_)
  have hk : kOk (C, E, Q) cX6_row RX6 8 := hk
  show Sm (C, E, Q) 8 0 0 [(0, .ref (kad E 48 0)), (1, .int a1), (2, .int a2), (3, .int a3), (4, .int a4), (5, .int a5)] [] σ _
  unfold f_X6_row
  refine k_aload_n hk dX6_row_0 0 rfl ?_
  refine k_iconst (v := 0) hk dX6_row_1 (by decide) ?_
  refine k_putf (k := 0) hk dX6_row_2 rfl (by decide) kc6 (by decide) fl_RX6_113 rfl rfl rfl rfl (fun σ37 => ?_)
  refine k_iload_n hk dX6_row_5 1 rfl ?_
  refine k_iconst (v := 3) hk dX6_row_6 (by decide) ?_
  refine k_icmp_eq hk dX6_row_7 15 (by decide) (fun h38 => ?_) (fun h38 => ?_)
  · exact k_sub [0, 1, 2, 3, 4, 5] rfl (s_X6_row_b15 hj hn hl hk he hro F  a1 a2 a3 a4 a5  σ37)
  · refine k_iload_n hk dX6_row_10 1 rfl ?_
    refine k_iconst (v := 5) hk dX6_row_11 (by decide) ?_
    refine k_icmp_ne hk dX6_row_12 21 (by decide) (fun h39 => ?_) (fun h39 => ?_)
    · refine k_iconst (v := 0) hk dX6_row_21 (by decide) ?_
      exact k_sub [0, 1, 2, 3, 4, 5] rfl (s_X6_row_b22 hj hn hl hk he hro F  a1 a2 a3 a4 a5 0  σ37)
    · exact k_sub [0, 1, 2, 3, 4, 5] rfl (s_X6_row_b15 hj hn hl hk he hro F  a1 a2 a3 a4 a5  σ37)
def f_X6_wrongOf (F : Nat) (a1 : Int32) (σ : kS) : Option kR := kg (kin a1 10) (kb (a1.toNatClampNeg) fun j1 => kg (kin a1 10) (kb (a1.toNatClampNeg) fun j2 => kBi (f_X6_less F 8 ((σ.1 82 j1 4) + ((σ.1 82 j2 5) / 10)) σ) fun c4 σ3 => some (.inl (some (.int c4)), σ3)))
set_option maxRecDepth 20000 in
theorem c_X6_wrongOf {l : Launch} {E : kE} (hj : kEj E) (hn : kNorm E) (hl : l.stackTraces = false) (F : Nat) (a1 : Int32)  (σ : kS) : kMet l E yX6_wrongOf cX6_wrongOf 2 (some .int) (1) (21) 0 id [.ref (kad E 48 0), .int a1] σ (f_X6_wrongOf F a1 σ) := by
  refine k_met hj hn hl (by decide) (Nat.le_of_ble_eq_true rfl) (fun C Q hk he hro => ?_)
  have hk : kOk (C, E, Q) cX6_wrongOf RX6 2 := hk
  show Sm (C, E, Q) 2 0 0 [(0, .ref (kad E 48 0)), (1, .int a1)] [] σ _
  unfold f_X6_wrongOf
  refine k_bipush (v := 8) hk dX6_wrongOf_0 (by decide) ?_
  refine k_aload_n hk dX6_wrongOf_2 0 rfl ?_
  refine k_getr (k := 47) 81 0 hk dX6_wrongOf_3 rfl (by decide) kc6 (by decide) fl_RX6_97 rfl rfl ?_
  refine k_iload_n hk dX6_wrongOf_6 1 rfl ?_
  refine k_aaldj (g' := 82) (fun z => z) hk dX6_wrongOf_7 rfl rfl rfl (by decide) (fun z => rfl) (by decide) (fun j1 hj1 => ?_)
  refine k_iconst (v := 4) hk dX6_wrongOf_8 (by decide) ?_
  refine k_iald_k (kk := 4) hk dX6_wrongOf_9 rfl hj1 (by decide) (by decide) ?_
  refine k_aload_n hk dX6_wrongOf_10 0 rfl ?_
  refine k_getr (k := 47) 81 0 hk dX6_wrongOf_11 rfl (by decide) kc6 (by decide) fl_RX6_97 rfl rfl ?_
  refine k_iload_n hk dX6_wrongOf_14 1 rfl ?_
  refine k_aaldj (g' := 82) (fun z => z) hk dX6_wrongOf_15 rfl rfl rfl (by decide) (fun z => rfl) (by decide) (fun j2 hj2 => ?_)
  refine k_iconst (v := 5) hk dX6_wrongOf_16 (by decide) ?_
  refine k_iald_k (kk := 5) hk dX6_wrongOf_17 rfl hj2 (by decide) (by decide) ?_
  refine k_bipush (v := 10) hk dX6_wrongOf_18 (by decide) ?_
  refine k_idiv_c hk dX6_wrongOf_20 (by decide) ?_
  refine k_iadd hk dX6_wrongOf_21 ?_
  refine k_callSi (As := [.int 8, .int ((σ.1 82 j1 4) + ((σ.1 82 j2 5) / 10))]) (rest := []) hk he hro (c_X6_less hj hn hl F 8 ((σ.1 82 j1 4) + ((σ.1 82 j2 5) / 10))  σ) dX6_wrongOf_22 cw_RX6_258 ⟨by decide, by decide⟩ (by decide) rfl (Nat.le_of_ble_eq_true rfl) (fun c4 σ3 => ?_)
  exact k_ireturn hk he dX6_wrongOf_25 (by decide)
def f_X6_asked_b55 (F : Nat)  (σ : kS) : Option kR := some (.inl (some (.int 0)), σ)
set_option maxRecDepth 20000 in
theorem s_X6_asked_b55 {l : Launch} {E : kE} (hj : kEj E) (hn : kNorm E) (hl : l.stackTraces = false) {C : kC} {Q : kR → State → Prop} (hk : kOk (C, E, Q) cX6_asked RX6 3) (he : kEnd (C, E, Q) (some .int) id 0) (hro : kRo C l (2) (42) 0) (F : Nat) : ∀   (σ : kS), Sm (C, E, Q) 3 0 55 [] [] σ (f_X6_asked_b55 F  σ) := by
  intro   σ
  unfold f_X6_asked_b55
  refine k_iconst (v := 0) hk dX6_asked_55 (by decide) ?_
  exact k_ireturn hk he dX6_asked_56 (by decide)
def f_X6_asked_b48 (F : Nat) (x1 : Int32) (x2 : Int32) (t1 : Int32) (σ : kS) : Option kR := kBi (f_X6_bad F t1 2 σ) fun c2 σ1 => if c2 = 0 then (kg (kin x1 10) (kb (x1.toNatClampNeg) fun j4 => kb (kU σ1 82 j4 5 x2) fun σ5 => kBi (f_X6_wrongOf F x1 σ5) fun c7 σ6 => some (.inl (some (.int c7)), σ6))) else (f_X6_asked_b55 F  σ1)
set_option maxRecDepth 20000 in
theorem s_X6_asked_b48 {l : Launch} {E : kE} (hj : kEj E) (hn : kNorm E) (hl : l.stackTraces = false) {C : kC} {Q : kR → State → Prop} (hk : kOk (C, E, Q) cX6_asked RX6 3) (he : kEnd (C, E, Q) (some .int) id 0) (hro : kRo C l (2) (42) 0) (F : Nat) : ∀ (x1 : Int32) (x2 : Int32) (t1 : Int32)  (σ : kS), Sm (C, E, Q) 3 0 48 [(0, .ref (kad E 48 0)), (1, .int x1), (2, .int x2)] [.int t1, .ref (kad E 48 0)] σ (f_X6_asked_b48 F x1 x2 t1 σ) := by
  intro x1 x2 t1  σ
  unfold f_X6_asked_b48
  refine k_iconst (v := 2) hk dX6_asked_48 (by decide) ?_
  refine k_callVi (As := [.int t1, .int 2]) (rest := []) hk he hro (c_X6_bad hj hn hl F t1 2  σ) dX6_asked_49 cw_RX6_220 rfl (by decide) kc6 rfl ⟨by decide, by decide⟩ (by decide) rfl (Nat.le_of_ble_eq_true rfl) (fun c2 σ1 => ?_)
  refine k_if_eq hk dX6_asked_52 57 (by decide) (fun h3 => ?_) (fun h3 => ?_)
  · refine k_aload_n hk dX6_asked_57 0 rfl ?_
    refine k_getr (k := 47) 81 0 hk dX6_asked_58 rfl (by decide) kc6 (by decide) fl_RX6_97 rfl rfl ?_
    refine k_iload_n hk dX6_asked_61 1 rfl ?_
    refine k_aaldj (g' := 82) (fun z => z) hk dX6_asked_62 rfl rfl rfl (by decide) (fun z => rfl) (by decide) (fun j4 hj4 => ?_)
    refine k_iconst (v := 5) hk dX6_asked_63 (by decide) ?_
    refine k_iload_n hk dX6_asked_64 2 rfl ?_
    refine k_iast_k (kk := 5) hk dX6_asked_65 rfl hj4 (by decide) (by decide) (fun σ5 => ?_)
    refine k_aload_n hk dX6_asked_66 0 rfl ?_
    refine k_iload_n hk dX6_asked_67 1 rfl ?_
    refine k_callVi (As := [.int x1]) (rest := []) hk he hro (c_X6_wrongOf hj hn hl F x1  σ5) dX6_asked_68 cw_RX6_297 rfl (by decide) kc6 rfl ⟨by decide, by decide⟩ (by decide) rfl (Nat.le_of_ble_eq_true rfl) (fun c7 σ6 => ?_)
    exact k_ireturn hk he dX6_asked_71 (by decide)
  · exact k_sub [] rfl (s_X6_asked_b55 hj hn hl hk he hro F    σ1)
def f_X6_asked_b25 (F : Nat) (x1 : Int32) (x2 : Int32) (t1 : Int32) (σ : kS) : Option kR := kBi (f_X6_bad F t1 1 σ) fun c9 σ8 => if c9 = 0 then (kBi (f_X6_in F x2 0 99 σ8) fun c12 σ11 => if c12 = 0 then (f_X6_asked_b48 F x1 x2 1 σ11) else (f_X6_asked_b48 F x1 x2 0 σ11)) else (f_X6_asked_b55 F  σ8)
set_option maxRecDepth 20000 in
theorem s_X6_asked_b25 {l : Launch} {E : kE} (hj : kEj E) (hn : kNorm E) (hl : l.stackTraces = false) {C : kC} {Q : kR → State → Prop} (hk : kOk (C, E, Q) cX6_asked RX6 3) (he : kEnd (C, E, Q) (some .int) id 0) (hro : kRo C l (2) (42) 0) (F : Nat) : ∀ (x1 : Int32) (x2 : Int32) (t1 : Int32)  (σ : kS), Sm (C, E, Q) 3 0 25 [(0, .ref (kad E 48 0)), (1, .int x1), (2, .int x2)] [.int t1, .ref (kad E 48 0)] σ (f_X6_asked_b25 F x1 x2 t1 σ) := by
  intro x1 x2 t1  σ
  unfold f_X6_asked_b25
  refine k_iconst (v := 1) hk dX6_asked_25 (by decide) ?_
  refine k_callVi (As := [.int t1, .int 1]) (rest := []) hk he hro (c_X6_bad hj hn hl F t1 1  σ) dX6_asked_26 cw_RX6_220 rfl (by decide) kc6 rfl ⟨by decide, by decide⟩ (by decide) rfl (Nat.le_of_ble_eq_true rfl) (fun c9 σ8 => ?_)
  refine k_if_ne hk dX6_asked_29 55 (by decide) (fun h10 => ?_) (fun h10 => ?_)
  · exact k_sub [] rfl (s_X6_asked_b55 hj hn hl hk he hro F    σ8)
  · refine k_aload_n hk dX6_asked_32 0 rfl ?_
    refine k_iload_n hk dX6_asked_33 2 rfl ?_
    refine k_iconst (v := 0) hk dX6_asked_34 (by decide) ?_
    refine k_bipush (v := 99) hk dX6_asked_35 (by decide) ?_
    refine k_callSi (As := [.int x2, .int 0, .int 99]) (rest := [.ref (kad E 48 0)]) hk he hro (c_X6_in hj hn hl F x2 0 99  σ8) dX6_asked_37 cw_RX6_150 ⟨by decide, by decide⟩ (by decide) rfl (Nat.le_of_ble_eq_true rfl) (fun c12 σ11 => ?_)
    refine k_if_ne hk dX6_asked_40 47 (by decide) (fun h13 => ?_) (fun h13 => ?_)
    · refine k_iconst (v := 0) hk dX6_asked_47 (by decide) ?_
      exact k_sub [0, 1, 2] rfl (s_X6_asked_b48 hj hn hl hk he hro F  x1 x2 0  σ11)
    · refine k_iconst (v := 1) hk dX6_asked_43 (by decide) ?_
      refine k_goto hk dX6_asked_44 48 (by decide) ?_
      exact k_sub [0, 1, 2] rfl (s_X6_asked_b48 hj hn hl hk he hro F  x1 x2 1  σ11)
def f_X6_asked (F : Nat) (a1 : Int32) (a2 : Int32) (σ : kS) : Option kR := kb (kU σ 48 0 0 0) fun σ14 => kBi (f_X6_in F a1 0 ((σ14.1 48 0 43) - 1) σ14) fun c16 σ15 => if c16 = 0 then (f_X6_asked_b25 F a1 a2 1 σ15) else (f_X6_asked_b25 F a1 a2 0 σ15)
set_option maxRecDepth 20000 in
theorem c_X6_asked {l : Launch} {E : kE} (hj : kEj E) (hn : kNorm E) (hl : l.stackTraces = false) (F : Nat) (a1 : Int32) (a2 : Int32)  (σ : kS) : kMet l E yX6_asked cX6_asked 3 (some .int) (2) (42) 0 id [.ref (kad E 48 0), .int a1, .int a2] σ (f_X6_asked F a1 a2 σ) := by
  refine k_met hj hn hl (by decide) (Nat.le_of_ble_eq_true rfl) (fun C Q hk he hro => ?_)
  have hk : kOk (C, E, Q) cX6_asked RX6 3 := hk
  show Sm (C, E, Q) 3 0 0 [(0, .ref (kad E 48 0)), (1, .int a1), (2, .int a2)] [] σ _
  unfold f_X6_asked
  refine k_aload_n hk dX6_asked_0 0 rfl ?_
  refine k_iconst (v := 0) hk dX6_asked_1 (by decide) ?_
  refine k_putf (k := 0) hk dX6_asked_2 rfl (by decide) kc6 (by decide) fl_RX6_113 rfl rfl rfl rfl (fun σ14 => ?_)
  refine k_aload_n hk dX6_asked_5 0 rfl ?_
  refine k_iload_n hk dX6_asked_6 1 rfl ?_
  refine k_iconst (v := 0) hk dX6_asked_7 (by decide) ?_
  refine k_aload_n hk dX6_asked_8 0 rfl ?_
  refine k_getf (k := 43) hk dX6_asked_9 rfl (by decide) kc6 (by decide) fl_RX6_294 rfl ?_
  refine k_iconst (v := 1) hk dX6_asked_12 (by decide) ?_
  refine k_isub hk dX6_asked_13 ?_
  refine k_callSi (As := [.int a1, .int 0, .int ((σ14.1 48 0 43) - 1)]) (rest := [.ref (kad E 48 0)]) hk he hro (c_X6_in hj hn hl F a1 0 ((σ14.1 48 0 43) - 1)  σ14) dX6_asked_14 cw_RX6_150 ⟨by decide, by decide⟩ (by decide) rfl (Nat.le_of_ble_eq_true rfl) (fun c16 σ15 => ?_)
  refine k_if_ne hk dX6_asked_17 24 (by decide) (fun h17 => ?_) (fun h17 => ?_)
  · refine k_iconst (v := 0) hk dX6_asked_24 (by decide) ?_
    exact k_sub [0, 1, 2] rfl (s_X6_asked_b25 hj hn hl hk he hro F  a1 a2 0  σ15)
  · refine k_iconst (v := 1) hk dX6_asked_20 (by decide) ?_
    refine k_goto hk dX6_asked_21 25 (by decide) ?_
    exact k_sub [0, 1, 2] rfl (s_X6_asked_b25 hj hn hl hk he hro F  a1 a2 1  σ15)
def f_X6_isSo_b161 (F : Nat) (t0 : Int32) (σ : kS) : Option kR := kg (narrow .boolean (.int t0) = .int t0) (some (.inl (some (.int t0)), σ))
set_option maxRecDepth 20000 in
theorem s_X6_isSo_b161 {l : Launch} {E : kE} (hj : kEj E) (hn : kNorm E) (hl : l.stackTraces = false) {C : kC} {Q : kR → State → Prop} (hk : kOk (C, E, Q) cX6_isSo RX6 4) (he : kEnd (C, E, Q) (some .boolean) id 0) (hro : kRo C l (2) (43) 0) (F : Nat) : ∀ (t0 : Int32)  (σ : kS), Sm (C, E, Q) 4 0 161 [] [.int t0] σ (f_X6_isSo_b161 F t0 σ) := by
  intro t0  σ
  unfold f_X6_isSo_b161
  exact k_zreturn hk he dX6_isSo_161 (by decide)
def f_X6_isSo_b129 (F : Nat) (t0 : Int32) (σ : kS) : Option kR := kg (narrow .boolean (.int t0) = .int t0) (some (.inl (some (.int t0)), σ))
set_option maxRecDepth 20000 in
theorem s_X6_isSo_b129 {l : Launch} {E : kE} (hj : kEj E) (hn : kNorm E) (hl : l.stackTraces = false) {C : kC} {Q : kR → State → Prop} (hk : kOk (C, E, Q) cX6_isSo RX6 4) (he : kEnd (C, E, Q) (some .boolean) id 0) (hro : kRo C l (2) (43) 0) (F : Nat) : ∀ (t0 : Int32)  (σ : kS), Sm (C, E, Q) 4 0 129 [] [.int t0] σ (f_X6_isSo_b129 F t0 σ) := by
  intro t0  σ
  unfold f_X6_isSo_b129
  exact k_zreturn hk he dX6_isSo_129 (by decide)
def f_X6_isSo_b105 (F : Nat) (t0 : Int32) (σ : kS) : Option kR := kg (narrow .boolean (.int t0) = .int t0) (some (.inl (some (.int t0)), σ))
set_option maxRecDepth 20000 in
theorem s_X6_isSo_b105 {l : Launch} {E : kE} (hj : kEj E) (hn : kNorm E) (hl : l.stackTraces = false) {C : kC} {Q : kR → State → Prop} (hk : kOk (C, E, Q) cX6_isSo RX6 4) (he : kEnd (C, E, Q) (some .boolean) id 0) (hro : kRo C l (2) (43) 0) (F : Nat) : ∀ (t0 : Int32)  (σ : kS), Sm (C, E, Q) 4 0 105 [] [.int t0] σ (f_X6_isSo_b105 F t0 σ) := by
  intro t0  σ
  unfold f_X6_isSo_b105
  exact k_zreturn hk he dX6_isSo_105 (by decide)
def f_X6_isSo_b91 (F : Nat) (t0 : Int32) (σ : kS) : Option kR := kg (narrow .boolean (.int t0) = .int t0) (some (.inl (some (.int t0)), σ))
set_option maxRecDepth 20000 in
theorem s_X6_isSo_b91 {l : Launch} {E : kE} (hj : kEj E) (hn : kNorm E) (hl : l.stackTraces = false) {C : kC} {Q : kR → State → Prop} (hk : kOk (C, E, Q) cX6_isSo RX6 4) (he : kEnd (C, E, Q) (some .boolean) id 0) (hro : kRo C l (2) (43) 0) (F : Nat) : ∀ (t0 : Int32)  (σ : kS), Sm (C, E, Q) 4 0 91 [] [.int t0] σ (f_X6_isSo_b91 F t0 σ) := by
  intro t0  σ
  unfold f_X6_isSo_b91
  exact k_zreturn hk he dX6_isSo_91 (by decide)
def f_X6_isSo_b83 (F : Nat) (t0 : Int32) (t1 : Int32) (σ : kS) : Option kR := if t0 = t1 then (f_X6_isSo_b91 F 1 σ) else (f_X6_isSo_b91 F 0 σ)
set_option maxRecDepth 20000 in
theorem s_X6_isSo_b83 {l : Launch} {E : kE} (hj : kEj E) (hn : kNorm E) (hl : l.stackTraces = false) {C : kC} {Q : kR → State → Prop} (hk : kOk (C, E, Q) cX6_isSo RX6 4) (he : kEnd (C, E, Q) (some .boolean) id 0) (hro : kRo C l (2) (43) 0) (F : Nat) : ∀ (t0 : Int32) (t1 : Int32)  (σ : kS), Sm (C, E, Q) 4 0 83 [] [.int t1, .int t0] σ (f_X6_isSo_b83 F t0 t1 σ) := by
  intro t0 t1  σ
  unfold f_X6_isSo_b83
  refine k_icmp_ne hk dX6_isSo_83 90 (by decide) (fun h1 => ?_) (fun h1 => ?_)
  · refine k_iconst (v := 0) hk dX6_isSo_90 (by decide) ?_
    exact k_sub [] rfl (s_X6_isSo_b91 hj hn hl hk he hro F  0  σ)
  · refine k_iconst (v := 1) hk dX6_isSo_86 (by decide) ?_
    refine k_goto hk dX6_isSo_87 91 (by decide) ?_
    exact k_sub [] rfl (s_X6_isSo_b91 hj hn hl hk he hro F  1  σ)
def f_X6_isSo (F : Nat) (a1 : Int32) (σ : kS) : Option kR := kg (kin a1 10) (kb (a1.toNatClampNeg) fun j2 => kb (σ.1 82 j2 1) fun y3 => kg (kin a1 10) (kb (a1.toNatClampNeg) fun j4 => kb (σ.1 82 j4 3) fun y5 => kg (kin a1 10) (kb (a1.toNatClampNeg) fun j6 => kb (σ.1 82 j6 0) fun y7 => if y7 = 0 then (kg (kin a1 10) (kb (a1.toNatClampNeg) fun j9 => kBi (f_X6_isLit F (σ.1 82 j9 2) y3 σ) fun c11 σ10 => if y5 = 1 then (f_X6_isSo_b83 F c11 1 σ10) else (f_X6_isSo_b83 F c11 0 σ10))) else (if y7 = 1 then (if (σ.1 48 0 38) = y5 then (f_X6_isSo_b105 F 1 σ) else (f_X6_isSo_b105 F 0 σ)) else (if y7 = 2 then (kBi (f_X6_isNear F (σ.1 48 0 36) y5 σ) fun c17 σ16 => kg (narrow .boolean (.int c17) = .int c17) (some (.inl (some (.int c17)), σ16))) else (if y7 = 3 then (kBi (f_X6_heavy F y3 σ) fun c20 σ19 => if c20 < y5 then (f_X6_isSo_b129 F 0 σ19) else (f_X6_isSo_b129 F 1 σ19)) else (if y7 = 4 then (kBi (f_X6_lasted F  σ) fun c24 σ23 => kBi (f_X6_isNear F c24 y5 σ23) fun c26 σ25 => kg (narrow .boolean (.int c26) = .int c26) (some (.inl (some (.int c26)), σ25))) else (kg (kin y3 100) (kg (kin y3 100) (if ((σ.1 76 0 y3.toNatClampNeg) - (σ.1 77 0 y3.toNatClampNeg)) < y5 then (f_X6_isSo_b161 F 0 σ) else (f_X6_isSo_b161 F 1 σ)))))))))))
set_option maxRecDepth 20000 in
theorem c_X6_isSo {l : Launch} {E : kE} (hj : kEj E) (hn : kNorm E) (hl : l.stackTraces = false) (F : Nat) (a1 : Int32)  (σ : kS) : kMet l E yX6_isSo cX6_isSo 4 (some .boolean) (2) (43) 0 id [.ref (kad E 48 0), .int a1] σ (f_X6_isSo F a1 σ) := by
  refine k_met hj hn hl (by decide) (Nat.le_of_ble_eq_true rfl) (fun C Q hk he hro => ?_)
  have hk : kOk (C, E, Q) cX6_isSo RX6 4 := hk
  show Sm (C, E, Q) 4 0 0 [(0, .ref (kad E 48 0)), (1, .int a1)] [] σ _
  unfold f_X6_isSo
  refine k_aload_n hk dX6_isSo_0 0 rfl ?_
  refine k_getr (k := 47) 81 0 hk dX6_isSo_1 rfl (by decide) kc6 (by decide) fl_RX6_97 rfl rfl ?_
  refine k_iload_n hk dX6_isSo_4 1 rfl ?_
  refine k_aaldj (g' := 82) (fun z => z) hk dX6_isSo_5 rfl rfl rfl (by decide) (fun z => rfl) (by decide) (fun j2 hj2 => ?_)
  refine k_iconst (v := 1) hk dX6_isSo_6 (by decide) ?_
  refine k_iald_k (kk := 1) hk dX6_isSo_7 rfl hj2 (by decide) (by decide) ?_
  refine k_nm (fun y3 => ?_)
  refine k_istore_n (lv' := [(2, .int y3), (0, .ref (kad E 48 0)), (1, .int a1)]) hk dX6_isSo_8 (by decide) rfl ?_
  refine k_aload_n hk dX6_isSo_9 1 rfl ?_
  refine k_getr (k := 47) 81 0 hk dX6_isSo_10 rfl (by decide) kc6 (by decide) fl_RX6_97 rfl rfl ?_
  refine k_iload_n hk dX6_isSo_13 2 rfl ?_
  refine k_aaldj (g' := 82) (fun z => z) hk dX6_isSo_14 rfl rfl rfl (by decide) (fun z => rfl) (by decide) (fun j4 hj4 => ?_)
  refine k_iconst (v := 3) hk dX6_isSo_15 (by decide) ?_
  refine k_iald_k (kk := 3) hk dX6_isSo_16 rfl hj4 (by decide) (by decide) ?_
  refine k_nm (fun y5 => ?_)
  refine k_istore_n (lv' := [(3, .int y5), (2, .int y3), (0, .ref (kad E 48 0)), (1, .int a1)]) hk dX6_isSo_17 (by decide) rfl ?_
  refine k_aload_n hk dX6_isSo_18 2 rfl ?_
  refine k_getr (k := 47) 81 0 hk dX6_isSo_19 rfl (by decide) kc6 (by decide) fl_RX6_97 rfl rfl ?_
  refine k_iload_n hk dX6_isSo_22 3 rfl ?_
  refine k_aaldj (g' := 82) (fun z => z) hk dX6_isSo_23 rfl rfl rfl (by decide) (fun z => rfl) (by decide) (fun j6 hj6 => ?_)
  refine k_iconst (v := 0) hk dX6_isSo_24 (by decide) ?_
  refine k_iald_k (kk := 0) hk dX6_isSo_25 rfl hj6 (by decide) (by decide) ?_
  refine k_nm (fun y7 => ?_)
  refine k_ite (fun h8 => ?_) (fun h8 => ?_)
  · refine k_tin (v := 0) hk dX6_isSo_26 h8 (by decide) (by decide) rfl 60 (by decide) ?_
    refine k_aload_n hk dX6_isSo_60 2 rfl ?_
    refine k_aload_n hk dX6_isSo_61 2 rfl ?_
    refine k_getr (k := 47) 81 0 hk dX6_isSo_62 rfl (by decide) kc6 (by decide) fl_RX6_97 rfl rfl ?_
    refine k_iload_n hk dX6_isSo_65 3 rfl ?_
    refine k_aaldj (g' := 82) (fun z => z) hk dX6_isSo_66 rfl rfl rfl (by decide) (fun z => rfl) (by decide) (fun j9 hj9 => ?_)
    refine k_iconst (v := 2) hk dX6_isSo_67 (by decide) ?_
    refine k_iald_k (kk := 2) hk dX6_isSo_68 rfl hj9 (by decide) (by decide) ?_
    refine k_iload_n hk dX6_isSo_69 1 rfl ?_
    refine k_callVi (As := [.int (σ.1 82 j9 2), .int y3]) (rest := []) hk he hro (c_X6_isLit hj hn hl F (σ.1 82 j9 2) y3  σ) dX6_isSo_70 cw_RX6_282 rfl (by decide) kc6 rfl ⟨by decide, by decide⟩ (by decide) rfl (Nat.le_of_ble_eq_true rfl) (fun c11 σ10 => ?_)
    refine k_iload_n hk dX6_isSo_73 0 rfl ?_
    refine k_iconst (v := 1) hk dX6_isSo_74 (by decide) ?_
    refine k_icmp_ne hk dX6_isSo_75 82 (by decide) (fun h12 => ?_) (fun h12 => ?_)
    · refine k_iconst (v := 0) hk dX6_isSo_82 (by decide) ?_
      exact k_sub [] rfl (s_X6_isSo_b83 hj hn hl hk he hro F  c11 0  σ10)
    · refine k_iconst (v := 1) hk dX6_isSo_78 (by decide) ?_
      refine k_goto hk dX6_isSo_79 83 (by decide) ?_
      exact k_sub [] rfl (s_X6_isSo_b83 hj hn hl hk he hro F  c11 1  σ10)
  · skip
    refine k_ite (fun h13 => ?_) (fun h13 => ?_)
    · refine k_tin (v := 1) hk dX6_isSo_26 h13 (by decide) (by decide) rfl 92 (by decide) ?_
      refine k_aload_n hk dX6_isSo_92 2 rfl ?_
      refine k_getf (k := 38) hk dX6_isSo_93 rfl (by decide) kc6 (by decide) fl_RX6_252 rfl ?_
      refine k_iload_n hk dX6_isSo_96 0 rfl ?_
      refine k_icmp_ne hk dX6_isSo_97 104 (by decide) (fun h14 => ?_) (fun h14 => ?_)
      · refine k_iconst (v := 0) hk dX6_isSo_104 (by decide) ?_
        exact k_sub [] rfl (s_X6_isSo_b105 hj hn hl hk he hro F  0  σ)
      · refine k_iconst (v := 1) hk dX6_isSo_100 (by decide) ?_
        refine k_goto hk dX6_isSo_101 105 (by decide) ?_
        exact k_sub [] rfl (s_X6_isSo_b105 hj hn hl hk he hro F  1  σ)
    · skip
      refine k_ite (fun h15 => ?_) (fun h15 => ?_)
      · refine k_tin (v := 2) hk dX6_isSo_26 h15 (by decide) (by decide) rfl 106 (by decide) ?_
        refine k_aload_n hk dX6_isSo_106 2 rfl ?_
        refine k_getf (k := 36) hk dX6_isSo_107 rfl (by decide) kc6 (by decide) fl_RX6_246 rfl ?_
        refine k_iload_n hk dX6_isSo_110 0 rfl ?_
        refine k_callSi (As := [.int (σ.1 48 0 36), .int y5]) (rest := []) hk he hro (c_X6_isNear hj hn hl F (σ.1 48 0 36) y5  σ) dX6_isSo_111 cw_RX6_300 ⟨by decide, by decide⟩ (by decide) rfl (Nat.le_of_ble_eq_true rfl) (fun c17 σ16 => ?_)
        exact k_zreturn hk he dX6_isSo_114 (by decide)
      · skip
        refine k_ite (fun h18 => ?_) (fun h18 => ?_)
        · refine k_tin (v := 3) hk dX6_isSo_26 h18 (by decide) (by decide) rfl 115 (by decide) ?_
          refine k_aload_n hk dX6_isSo_115 2 rfl ?_
          refine k_iload_n hk dX6_isSo_116 1 rfl ?_
          refine k_callVi (As := [.int y3]) (rest := []) hk he hro (c_X6_heavy hj hn hl F y3  σ) dX6_isSo_117 cw_RX6_288 rfl (by decide) kc6 rfl ⟨by decide, by decide⟩ (by decide) rfl (Nat.le_of_ble_eq_true rfl) (fun c20 σ19 => ?_)
          refine k_iload_n hk dX6_isSo_120 0 rfl ?_
          refine k_icmp_lt hk dX6_isSo_121 128 (by decide) (fun h21 => ?_) (fun h21 => ?_)
          · refine k_iconst (v := 0) hk dX6_isSo_128 (by decide) ?_
            exact k_sub [] rfl (s_X6_isSo_b129 hj hn hl hk he hro F  0  σ19)
          · refine k_iconst (v := 1) hk dX6_isSo_124 (by decide) ?_
            refine k_goto hk dX6_isSo_125 129 (by decide) ?_
            exact k_sub [] rfl (s_X6_isSo_b129 hj hn hl hk he hro F  1  σ19)
        · skip
          refine k_ite (fun h22 => ?_) (fun h22 => ?_)
          · refine k_tin (v := 4) hk dX6_isSo_26 h22 (by decide) (by decide) rfl 130 (by decide) ?_
            refine k_aload_n hk dX6_isSo_130 2 rfl ?_
            refine k_callVi (As := []) (rest := []) hk he hro (c_X6_lasted hj hn hl F   σ) dX6_isSo_131 cw_RX6_291 rfl (by decide) kc6 rfl ⟨by decide, by decide⟩ (by decide) rfl (Nat.le_of_ble_eq_true rfl) (fun c24 σ23 => ?_)
            refine k_iload_n hk dX6_isSo_134 0 rfl ?_
            refine k_callSi (As := [.int c24, .int y5]) (rest := []) hk he hro (c_X6_isNear hj hn hl F c24 y5  σ23) dX6_isSo_135 cw_RX6_300 ⟨by decide, by decide⟩ (by decide) rfl (Nat.le_of_ble_eq_true rfl) (fun c26 σ25 => ?_)
            exact k_zreturn hk he dX6_isSo_138 (by decide)
          · skip
            refine k_tout hk dX6_isSo_26 (by have h8q := k_neI h8 (a := 0) (by decide); have h13q := k_neI h13 (a := 1) (by decide); have h15q := k_neI h15 (a := 2) (by decide); have h18q := k_neI h18 (a := 3) (by decide); have h22q := k_neI h22 (a := 4) (by decide); omega) 139 (by decide) ?_
            refine k_aload_n hk dX6_isSo_139 2 rfl ?_
            refine k_getr (k := 31) 76 0 hk dX6_isSo_140 rfl (by decide) kc6 (by decide) fl_RX6_76 rfl rfl ?_
            refine k_iload_n hk dX6_isSo_143 1 rfl ?_
            refine k_iald hk dX6_isSo_144 rfl (by decide) (fun h27 => ?_)
            refine k_aload_n hk dX6_isSo_145 2 rfl ?_
            refine k_getr (k := 32) 77 0 hk dX6_isSo_146 rfl (by decide) kc6 (by decide) fl_RX6_79 rfl rfl ?_
            refine k_iload_n hk dX6_isSo_149 1 rfl ?_
            refine k_iald hk dX6_isSo_150 rfl (by decide) (fun h28 => ?_)
            refine k_isub hk dX6_isSo_151 ?_
            refine k_iload_n hk dX6_isSo_152 0 rfl ?_
            refine k_icmp_lt hk dX6_isSo_153 160 (by decide) (fun h29 => ?_) (fun h29 => ?_)
            · refine k_iconst (v := 0) hk dX6_isSo_160 (by decide) ?_
              exact k_sub [] rfl (s_X6_isSo_b161 hj hn hl hk he hro F  0  σ)
            · refine k_iconst (v := 1) hk dX6_isSo_156 (by decide) ?_
              refine k_goto hk dX6_isSo_157 161 (by decide) ?_
              exact k_sub [] rfl (s_X6_isSo_b161 hj hn hl hk he hro F  1  σ)
def f_X6_says_b53 (F : Nat)  (σ : kS) : Option kR := some (.inl (some (.int 0)), σ)
set_option maxRecDepth 20000 in
theorem s_X6_says_b53 {l : Launch} {E : kE} (hj : kEj E) (hn : kNorm E) (hl : l.stackTraces = false) {C : kC} {Q : kR → State → Prop} (hk : kOk (C, E, Q) cX6_says RX6 3) (he : kEnd (C, E, Q) (some .boolean) id 0) (hro : kRo C l (4) (99) 0) (F : Nat) : ∀   (σ : kS), Sm (C, E, Q) 3 0 53 [] [] σ (f_X6_says_b53 F  σ) := by
  intro   σ
  unfold f_X6_says_b53
  refine k_iconst (v := 0) hk dX6_says_53 (by decide) ?_
  exact k_zreturn_c hk he dX6_says_54 (by decide) rfl
def f_X6_says_b46 (F : Nat) (x1 : Int32) (x2 : Int32) (t1 : Int32) (σ : kS) : Option kR := kBi (f_X6_bad F t1 2 σ) fun c2 σ1 => if c2 = 0 then (kBv (f_X6_runs F x1 σ1) fun σ4 => kBi (f_X6_isSo F x2 σ4) fun c6 σ5 => kg (narrow .boolean (.int c6) = .int c6) (some (.inl (some (.int c6)), σ5))) else (f_X6_says_b53 F  σ1)
set_option maxRecDepth 20000 in
theorem s_X6_says_b46 {l : Launch} {E : kE} (hj : kEj E) (hn : kNorm E) (hl : l.stackTraces = false) {C : kC} {Q : kR → State → Prop} (hk : kOk (C, E, Q) cX6_says RX6 3) (he : kEnd (C, E, Q) (some .boolean) id 0) (hro : kRo C l (4) (99) 0) (F : Nat) : ∀ (x1 : Int32) (x2 : Int32) (t1 : Int32)  (σ : kS), Sm (C, E, Q) 3 0 46 [(0, .ref (kad E 48 0)), (1, .int x1), (2, .int x2)] [.int t1, .ref (kad E 48 0)] σ (f_X6_says_b46 F x1 x2 t1 σ) := by
  intro x1 x2 t1  σ
  unfold f_X6_says_b46
  refine k_iconst (v := 2) hk dX6_says_46 (by decide) ?_
  refine k_callVi (As := [.int t1, .int 2]) (rest := []) hk he hro (c_X6_bad hj hn hl F t1 2  σ) dX6_says_47 cw_RX6_220 rfl (by decide) kc6 rfl ⟨by decide, by decide⟩ (by decide) rfl (Nat.le_of_ble_eq_true rfl) (fun c2 σ1 => ?_)
  refine k_if_eq hk dX6_says_50 55 (by decide) (fun h3 => ?_) (fun h3 => ?_)
  · refine k_aload_n hk dX6_says_55 0 rfl ?_
    refine k_iload_n hk dX6_says_56 1 rfl ?_
    refine k_callVv (As := [.int x1]) (rest := []) hk he hro (c_X6_runs hj hn hl F x1  σ1) dX6_says_57 cw_RX6_279 rfl (by decide) kc6 rfl ⟨by decide, by decide⟩ (by decide) rfl (Nat.le_of_ble_eq_true rfl) (fun σ4 => ?_)
    refine k_aload_n hk dX6_says_60 0 rfl ?_
    refine k_iload_n hk dX6_says_61 2 rfl ?_
    refine k_callVi (As := [.int x2]) (rest := []) hk he hro (c_X6_isSo hj hn hl F x2  σ4) dX6_says_62 cw_RX6_303 rfl (by decide) kc6 rfl ⟨by decide, by decide⟩ (by decide) rfl (Nat.le_of_ble_eq_true rfl) (fun c6 σ5 => ?_)
    exact k_zreturn hk he dX6_says_65 (by decide)
  · exact k_sub [] rfl (s_X6_says_b53 hj hn hl hk he hro F    σ1)
def f_X6_says_b19 (F : Nat) (x1 : Int32) (x2 : Int32) (t1 : Int32) (σ : kS) : Option kR := kBi (f_X6_bad F t1 1 σ) fun c8 σ7 => if c8 = 0 then (kBi (f_X6_in F x2 0 ((σ7.1 48 0 43) - 1) σ7) fun c11 σ10 => if c11 = 0 then (f_X6_says_b46 F x1 x2 1 σ10) else (f_X6_says_b46 F x1 x2 0 σ10)) else (f_X6_says_b53 F  σ7)
set_option maxRecDepth 20000 in
theorem s_X6_says_b19 {l : Launch} {E : kE} (hj : kEj E) (hn : kNorm E) (hl : l.stackTraces = false) {C : kC} {Q : kR → State → Prop} (hk : kOk (C, E, Q) cX6_says RX6 3) (he : kEnd (C, E, Q) (some .boolean) id 0) (hro : kRo C l (4) (99) 0) (F : Nat) : ∀ (x1 : Int32) (x2 : Int32) (t1 : Int32)  (σ : kS), Sm (C, E, Q) 3 0 19 [(0, .ref (kad E 48 0)), (1, .int x1), (2, .int x2)] [.int t1, .ref (kad E 48 0)] σ (f_X6_says_b19 F x1 x2 t1 σ) := by
  intro x1 x2 t1  σ
  unfold f_X6_says_b19
  refine k_iconst (v := 1) hk dX6_says_19 (by decide) ?_
  refine k_callVi (As := [.int t1, .int 1]) (rest := []) hk he hro (c_X6_bad hj hn hl F t1 1  σ) dX6_says_20 cw_RX6_220 rfl (by decide) kc6 rfl ⟨by decide, by decide⟩ (by decide) rfl (Nat.le_of_ble_eq_true rfl) (fun c8 σ7 => ?_)
  refine k_if_ne hk dX6_says_23 53 (by decide) (fun h9 => ?_) (fun h9 => ?_)
  · exact k_sub [] rfl (s_X6_says_b53 hj hn hl hk he hro F    σ7)
  · refine k_aload_n hk dX6_says_26 0 rfl ?_
    refine k_iload_n hk dX6_says_27 2 rfl ?_
    refine k_iconst (v := 0) hk dX6_says_28 (by decide) ?_
    refine k_aload_n hk dX6_says_29 0 rfl ?_
    refine k_getf (k := 43) hk dX6_says_30 rfl (by decide) kc6 (by decide) fl_RX6_294 rfl ?_
    refine k_iconst (v := 1) hk dX6_says_33 (by decide) ?_
    refine k_isub hk dX6_says_34 ?_
    refine k_callSi (As := [.int x2, .int 0, .int ((σ7.1 48 0 43) - 1)]) (rest := [.ref (kad E 48 0)]) hk he hro (c_X6_in hj hn hl F x2 0 ((σ7.1 48 0 43) - 1)  σ7) dX6_says_35 cw_RX6_150 ⟨by decide, by decide⟩ (by decide) rfl (Nat.le_of_ble_eq_true rfl) (fun c11 σ10 => ?_)
    refine k_if_ne hk dX6_says_38 45 (by decide) (fun h12 => ?_) (fun h12 => ?_)
    · refine k_iconst (v := 0) hk dX6_says_45 (by decide) ?_
      exact k_sub [0, 1, 2] rfl (s_X6_says_b46 hj hn hl hk he hro F  x1 x2 0  σ10)
    · refine k_iconst (v := 1) hk dX6_says_41 (by decide) ?_
      refine k_goto hk dX6_says_42 46 (by decide) ?_
      exact k_sub [0, 1, 2] rfl (s_X6_says_b46 hj hn hl hk he hro F  x1 x2 1  σ10)
def f_X6_says (F : Nat) (a1 : Int32) (a2 : Int32) (σ : kS) : Option kR := kb (kU σ 48 0 0 0) fun σ13 => kBi (f_X6_isWhy F a1 σ13) fun c15 σ14 => if c15 = 0 then (f_X6_says_b19 F a1 a2 1 σ14) else (f_X6_says_b19 F a1 a2 0 σ14)
set_option maxRecDepth 20000 in
theorem c_X6_says {l : Launch} {E : kE} (hj : kEj E) (hn : kNorm E) (hl : l.stackTraces = false) (F : Nat) (a1 : Int32) (a2 : Int32)  (σ : kS) : kMet l E yX6_says cX6_says 3 (some .boolean) (4) (99) 0 id [.ref (kad E 48 0), .int a1, .int a2] σ (f_X6_says F a1 a2 σ) := by
  refine k_met hj hn hl (by decide) (Nat.le_of_ble_eq_true rfl) (fun C Q hk he hro => ?_)
  have hk : kOk (C, E, Q) cX6_says RX6 3 := hk
  show Sm (C, E, Q) 3 0 0 [(0, .ref (kad E 48 0)), (1, .int a1), (2, .int a2)] [] σ _
  unfold f_X6_says
  refine k_aload_n hk dX6_says_0 0 rfl ?_
  refine k_iconst (v := 0) hk dX6_says_1 (by decide) ?_
  refine k_putf (k := 0) hk dX6_says_2 rfl (by decide) kc6 (by decide) fl_RX6_113 rfl rfl rfl rfl (fun σ13 => ?_)
  refine k_aload_n hk dX6_says_5 0 rfl ?_
  refine k_aload_n hk dX6_says_6 0 rfl ?_
  refine k_iload_n hk dX6_says_7 1 rfl ?_
  refine k_callVi (As := [.int a1]) (rest := [.ref (kad E 48 0)]) hk he hro (c_X6_isWhy hj hn hl F a1  σ13) dX6_says_8 cw_RX6_234 rfl (by decide) kc6 rfl ⟨by decide, by decide⟩ (by decide) rfl (Nat.le_of_ble_eq_true rfl) (fun c15 σ14 => ?_)
  refine k_if_ne hk dX6_says_11 18 (by decide) (fun h16 => ?_) (fun h16 => ?_)
  · refine k_iconst (v := 0) hk dX6_says_18 (by decide) ?_
    exact k_sub [0, 1, 2] rfl (s_X6_says_b19 hj hn hl hk he hro F  a1 a2 0  σ14)
  · refine k_iconst (v := 1) hk dX6_says_14 (by decide) ?_
    refine k_goto hk dX6_says_15 19 (by decide) ?_
    exact k_sub [0, 1, 2] rfl (s_X6_says_b19 hj hn hl hk he hro F  a1 a2 1  σ14)
def f_X6_burntOf_b55 (F : Nat) (rr4 : (Int32 × Int32 × Int32) → kS → Option kR) (x1 : Int32) (x3 : Int32) (t0 : Int32) (t1 : Int32) (σ : kS) : Option kR := kb (t0 + t1) fun y1 => rr4 (x1, y1, x3 + 1) σ
set_option maxRecDepth 20000 in
theorem s_X6_burntOf_b55 {l : Launch} {E : kE} (hj : kEj E) (hn : kNorm E) (hl : l.stackTraces = false) {C : kC} {Q : kR → State → Prop} (hk : kOk (C, E, Q) cX6_burntOf RX6 4) (he : kEnd (C, E, Q) (some .int) id 0) (hro : kRo C l (4) (99) 0) (F : Nat) (rr4 : (Int32 × Int32 × Int32) → kS → Option kR) (hrr4 : ∀ (x1 : Int32) (x2 : Int32) (x3 : Int32)  (σ : kS), Sm (C, E, Q) 4 0 4 [(0, .ref (kad E 48 0)), (1, .int x1), (2, .int x2), (3, .int x3)] [] σ (rr4 (x1, x2, x3) σ)) : ∀ (x1 : Int32) (x3 : Int32) (t0 : Int32) (t1 : Int32)  (σ : kS), Sm (C, E, Q) 4 0 55 [(0, .ref (kad E 48 0)), (1, .int x1), (3, .int x3)] [.int t1, .int t0] σ (f_X6_burntOf_b55 F rr4 x1 x3 t0 t1 σ) := by
  intro x1 x3 t0 t1  σ
  unfold f_X6_burntOf_b55
  refine k_iadd hk dX6_burntOf_55 ?_
  refine k_nm (fun y1 => ?_)
  refine k_istore_n (lv' := [(2, .int y1), (0, .ref (kad E 48 0)), (1, .int x1), (3, .int x3)]) hk dX6_burntOf_56 (by decide) rfl ?_
  refine k_iinc (lv' := [(3, .int (x3 + 1)), (2, .int y1), (0, .ref (kad E 48 0)), (1, .int x1)]) (j := 3) (y := x3 + 1) hk dX6_burntOf_57 rfl rfl (by decide) rfl ?_
  refine k_goto hk dX6_burntOf_60 4 (by decide) ?_
  exact k_sub [2, 3, 1, 0] rfl (hrr4 x1 y1 (x3 + 1)  σ)
def f_X6_burntOf_b4 (F : Nat) (rr4 : (Int32 × Int32 × Int32) → kS → Option kR) (a : (Int32 × Int32 × Int32)) (σ : kS) : Option kR := match a with
  | (x1, x2, x3) => if (σ.1 48 0 44) ≤ x3 then (kb (kU σ 48 0 39 (-1)) fun σ3 => some (.inl (some (.int x2)), σ3)) else (kg (kin x3 10) (kb (x3.toNatClampNeg) fun j4 => kb (kU σ 48 0 39 (σ.1 84 j4 0)) fun σ5 => kg (kin x3 10) (kb (x3.toNatClampNeg) fun j6 => kb (kU σ5 48 0 40 (σ5.1 84 j6 1)) fun σ7 => kBv (f_X6_runs F x1 σ7) fun σ8 => if (σ8.1 48 0 37) = (-1) then (f_X6_burntOf_b55 F rr4 x1 x3 x2 0 σ8) else (f_X6_burntOf_b55 F rr4 x1 x3 x2 1 σ8))))
set_option maxRecDepth 20000 in
theorem s_X6_burntOf_b4 {l : Launch} {E : kE} (hj : kEj E) (hn : kNorm E) (hl : l.stackTraces = false) {C : kC} {Q : kR → State → Prop} (hk : kOk (C, E, Q) cX6_burntOf RX6 4) (he : kEnd (C, E, Q) (some .int) id 0) (hro : kRo C l (4) (99) 0) (F : Nat) : ∀ (N9 : Nat) (x1 : Int32) (x2 : Int32) (x3 : Int32)  (σ : kS), Sm (C, E, Q) 4 0 4 [(0, .ref (kad E 48 0)), (1, .int x1), (2, .int x2), (3, .int x3)] [] σ (kFix (f_X6_burntOf_b4 F) N9 (x1, x2, x3) σ) := by
  intro N9
  induction N9 with
  | zero => intro x1 x2 x3  σ; exact k_no
  | succ N9 ih =>
    intro x1 x2 x3  σ
    show Sm _ _ _ _ _ _ _ (f_X6_burntOf_b4 F (kFix (f_X6_burntOf_b4 F) N9) (x1, x2, x3) σ)
    generalize kFix (f_X6_burntOf_b4 F) N9 = rr4 at ih
    have hrr4 := ih
    unfold f_X6_burntOf_b4
    dsimp only
    refine k_iload_n hk dX6_burntOf_4 3 rfl ?_
    refine k_aload_n hk dX6_burntOf_5 0 rfl ?_
    refine k_getf (k := 44) hk dX6_burntOf_6 rfl (by decide) kc6 (by decide) fl_RX6_306 rfl ?_
    refine k_icmp_ge hk dX6_burntOf_9 63 (by decide) (fun h2 => ?_) (fun h2 => ?_)
    · refine k_aload_n hk dX6_burntOf_63 0 rfl ?_
      refine k_iconst (v := (-1)) hk dX6_burntOf_64 (by decide) ?_
      refine k_putf (k := 39) hk dX6_burntOf_65 rfl (by decide) kc6 (by decide) fl_RX6_91 rfl rfl rfl rfl (fun σ3 => ?_)
      refine k_iload_n hk dX6_burntOf_68 2 rfl ?_
      exact k_ireturn hk he dX6_burntOf_69 (by decide)
    · refine k_aload_n hk dX6_burntOf_12 0 rfl ?_
      refine k_aload_n hk dX6_burntOf_13 0 rfl ?_
      refine k_getr (k := 48) 83 0 hk dX6_burntOf_14 rfl (by decide) kc6 (by decide) fl_RX6_100 rfl rfl ?_
      refine k_iload_n hk dX6_burntOf_17 3 rfl ?_
      refine k_aaldj (g' := 84) (fun z => z) hk dX6_burntOf_18 rfl rfl rfl (by decide) (fun z => rfl) (by decide) (fun j4 hj4 => ?_)
      refine k_iconst (v := 0) hk dX6_burntOf_19 (by decide) ?_
      refine k_iald_k (kk := 0) hk dX6_burntOf_20 rfl hj4 (by decide) (by decide) ?_
      refine k_putf (k := 39) hk dX6_burntOf_21 rfl (by decide) kc6 (by decide) fl_RX6_91 rfl rfl rfl rfl (fun σ5 => ?_)
      refine k_aload_n hk dX6_burntOf_24 0 rfl ?_
      refine k_aload_n hk dX6_burntOf_25 0 rfl ?_
      refine k_getr (k := 48) 83 0 hk dX6_burntOf_26 rfl (by decide) kc6 (by decide) fl_RX6_100 rfl rfl ?_
      refine k_iload_n hk dX6_burntOf_29 3 rfl ?_
      refine k_aaldj (g' := 84) (fun z => z) hk dX6_burntOf_30 rfl rfl rfl (by decide) (fun z => rfl) (by decide) (fun j6 hj6 => ?_)
      refine k_iconst (v := 1) hk dX6_burntOf_31 (by decide) ?_
      refine k_iald_k (kk := 1) hk dX6_burntOf_32 rfl hj6 (by decide) (by decide) ?_
      refine k_putf (k := 40) hk dX6_burntOf_33 rfl (by decide) kc6 (by decide) fl_RX6_243 rfl rfl rfl rfl (fun σ7 => ?_)
      refine k_aload_n hk dX6_burntOf_36 0 rfl ?_
      refine k_iload_n hk dX6_burntOf_37 1 rfl ?_
      refine k_callVv (As := [.int x1]) (rest := []) hk he hro (c_X6_runs hj hn hl F x1  σ7) dX6_burntOf_38 cw_RX6_279 rfl (by decide) kc6 rfl ⟨by decide, by decide⟩ (by decide) rfl (Nat.le_of_ble_eq_true rfl) (fun σ8 => ?_)
      refine k_iload_n hk dX6_burntOf_41 2 rfl ?_
      refine k_aload_n hk dX6_burntOf_42 0 rfl ?_
      refine k_getf (k := 37) hk dX6_burntOf_43 rfl (by decide) kc6 (by decide) fl_RX6_249 rfl ?_
      refine k_iconst (v := (-1)) hk dX6_burntOf_46 (by decide) ?_
      refine k_icmp_ne hk dX6_burntOf_47 54 (by decide) (fun h9 => ?_) (fun h9 => ?_)
      · refine k_iconst (v := 1) hk dX6_burntOf_54 (by decide) ?_
        exact k_sub [0, 1, 3] rfl (s_X6_burntOf_b55 hj hn hl hk he hro F rr4 hrr4  x1 x3 x2 1  σ8)
      · refine k_iconst (v := 0) hk dX6_burntOf_50 (by decide) ?_
        refine k_goto hk dX6_burntOf_51 55 (by decide) ?_
        exact k_sub [0, 1, 3] rfl (s_X6_burntOf_b55 hj hn hl hk he hro F rr4 hrr4  x1 x3 x2 0  σ8)
def f_X6_burntOf (F : Nat) (a1 : Int32) (σ : kS) : Option kR := kFix (f_X6_burntOf_b4 F) F (a1, 0, 0) σ
set_option maxRecDepth 20000 in
theorem c_X6_burntOf {l : Launch} {E : kE} (hj : kEj E) (hn : kNorm E) (hl : l.stackTraces = false) (F : Nat) (a1 : Int32)  (σ : kS) : kMet l E yX6_burntOf cX6_burntOf 4 (some .int) (4) (99) 0 id [.ref (kad E 48 0), .int a1] σ (f_X6_burntOf F a1 σ) := by
  refine k_met hj hn hl (by decide) (Nat.le_of_ble_eq_true rfl) (fun C Q hk he hro => ?_)
  have hk : kOk (C, E, Q) cX6_burntOf RX6 4 := hk
  show Sm (C, E, Q) 4 0 0 [(0, .ref (kad E 48 0)), (1, .int a1)] [] σ _
  unfold f_X6_burntOf
  refine k_iconst (v := 0) hk dX6_burntOf_0 (by decide) ?_
  refine k_istore_n (lv' := [(2, .int 0), (0, .ref (kad E 48 0)), (1, .int a1)]) hk dX6_burntOf_1 (by decide) rfl ?_
  refine k_iconst (v := 0) hk dX6_burntOf_2 (by decide) ?_
  refine k_istore_n (lv' := [(3, .int 0), (2, .int 0), (0, .ref (kad E 48 0)), (1, .int a1)]) hk dX6_burntOf_3 (by decide) rfl ?_
  exact k_sub [2, 3, 1, 0] rfl (s_X6_burntOf_b4 hj hn hl hk he hro F F a1 0 0  σ)
def f_X6_oddsOf_b94 (F : Nat) (rr94 : (Int32 × Int64 × Int32) → kS → Option kR) (a : (Int32 × Int64 × Int32)) (σ : kS) : Option kR := match a with
  | (x4, x5, x7) => if x4 ≤ x7 then (some (.inl (some (.long x5)), σ)) else (kb (x5 / 2) fun y2 => rr94 (x4, y2, x7 + 1) σ)
set_option maxRecDepth 20000 in
theorem s_X6_oddsOf_b94 {l : Launch} {E : kE} (hj : kEj E) (hn : kNorm E) (hl : l.stackTraces = false) {C : kC} {Q : kR → State → Prop} (hk : kOk (C, E, Q) cX6_oddsOf RX6 8) (he : kEnd (C, E, Q) (some .long) id 0) (hro : kRo C l (5) (122) 0) (F : Nat) : ∀ (N9 : Nat) (x4 : Int32) (x5 : Int64) (x7 : Int32)  (σ : kS), Sm (C, E, Q) 8 0 94 [(4, .int x4), (5, .long x5), (7, .int x7)] [] σ (kFix (f_X6_oddsOf_b94 F) N9 (x4, x5, x7) σ) := by
  intro N9
  induction N9 with
  | zero => intro x4 x5 x7  σ; exact k_no
  | succ N9 ih =>
    intro x4 x5 x7  σ
    show Sm _ _ _ _ _ _ _ (f_X6_oddsOf_b94 F (kFix (f_X6_oddsOf_b94 F) N9) (x4, x5, x7) σ)
    generalize kFix (f_X6_oddsOf_b94 F) N9 = rr94 at ih
    have hrr94 := ih
    unfold f_X6_oddsOf_b94
    dsimp only
    refine k_iload hk dX6_oddsOf_94 2 rfl ?_
    refine k_iload hk dX6_oddsOf_96 0 rfl ?_
    refine k_icmp_ge hk dX6_oddsOf_98 115 (by decide) (fun h1 => ?_) (fun h1 => ?_)
    · refine k_lload hk dX6_oddsOf_115 1 rfl ?_
      exact k_lreturn hk he dX6_oddsOf_117 (by decide)
    · refine k_lload hk dX6_oddsOf_101 1 rfl ?_
      refine k_ldc2 (v := 2) hk dX6_oddsOf_103 (kTB_mk (by decide +kernel) rfl) ?_
      refine k_ldiv_c hk dX6_oddsOf_106 (by decide) ?_
      refine k_nml (fun y2 => ?_)
      refine k_lstore (lv' := [(5, .long y2), (4, .int x4), (7, .int x7)]) hk dX6_oddsOf_107 (by decide) rfl ?_
      refine k_iinc (lv' := [(7, .int (x7 + 1)), (5, .long y2), (4, .int x4)]) (j := 2) (y := x7 + 1) hk dX6_oddsOf_109 rfl rfl (by decide) rfl ?_
      refine k_goto hk dX6_oddsOf_112 94 (by decide) ?_
      exact k_sub [2, 1, 0] rfl (hrr94 x4 y2 (x7 + 1)  σ)
def f_X6_oddsOf_b85 (F : Nat) (rr32 : (Int32 × Int32 × Int64 × Int32) → kS → Option kR) (x2 : Int32) (x4 : Int32) (x5 : Int64) (x7 : Int32) (σ : kS) : Option kR := rr32 (x2, x4, x5, x7 + 1) σ
set_option maxRecDepth 20000 in
theorem s_X6_oddsOf_b85 {l : Launch} {E : kE} (hj : kEj E) (hn : kNorm E) (hl : l.stackTraces = false) {C : kC} {Q : kR → State → Prop} (hk : kOk (C, E, Q) cX6_oddsOf RX6 8) (he : kEnd (C, E, Q) (some .long) id 0) (hro : kRo C l (5) (122) 0) (F : Nat) (rr32 : (Int32 × Int32 × Int64 × Int32) → kS → Option kR) (hrr32 : ∀ (x2 : Int32) (x4 : Int32) (x5 : Int64) (x7 : Int32)  (σ : kS), Sm (C, E, Q) 8 0 32 [(0, .ref (kad E 48 0)), (2, .int x2), (4, .int x4), (5, .long x5), (7, .int x7)] [] σ (rr32 (x2, x4, x5, x7) σ)) : ∀ (x2 : Int32) (x4 : Int32) (x5 : Int64) (x7 : Int32)  (σ : kS), Sm (C, E, Q) 8 0 85 [(0, .ref (kad E 48 0)), (2, .int x2), (4, .int x4), (5, .long x5), (7, .int x7)] [] σ (f_X6_oddsOf_b85 F rr32 x2 x4 x5 x7 σ) := by
  intro x2 x4 x5 x7  σ
  unfold f_X6_oddsOf_b85
  refine k_iinc (lv' := [(7, .int (x7 + 1)), (0, .ref (kad E 48 0)), (2, .int x2), (4, .int x4), (5, .long x5)]) (j := 4) (y := x7 + 1) hk dX6_oddsOf_85 rfl rfl (by decide) rfl ?_
  refine k_goto hk dX6_oddsOf_88 32 (by decide) ?_
  exact k_sub [1, 2, 3, 4, 0] rfl (hrr32 x2 x4 x5 (x7 + 1)  σ)
def f_X6_oddsOf_b82 (F : Nat) (rr32 : (Int32 × Int32 × Int64 × Int32) → kS → Option kR) (x2 : Int32) (x4 : Int32) (x7 : Int32) (t0 : Int64) (t1 : Int64) (σ : kS) : Option kR := kb (t0 * t1) fun y3 => f_X6_oddsOf_b85 F rr32 x2 x4 y3 x7 σ
set_option maxRecDepth 20000 in
theorem s_X6_oddsOf_b82 {l : Launch} {E : kE} (hj : kEj E) (hn : kNorm E) (hl : l.stackTraces = false) {C : kC} {Q : kR → State → Prop} (hk : kOk (C, E, Q) cX6_oddsOf RX6 8) (he : kEnd (C, E, Q) (some .long) id 0) (hro : kRo C l (5) (122) 0) (F : Nat) (rr32 : (Int32 × Int32 × Int64 × Int32) → kS → Option kR) (hrr32 : ∀ (x2 : Int32) (x4 : Int32) (x5 : Int64) (x7 : Int32)  (σ : kS), Sm (C, E, Q) 8 0 32 [(0, .ref (kad E 48 0)), (2, .int x2), (4, .int x4), (5, .long x5), (7, .int x7)] [] σ (rr32 (x2, x4, x5, x7) σ)) : ∀ (x2 : Int32) (x4 : Int32) (x7 : Int32) (t0 : Int64) (t1 : Int64)  (σ : kS), Sm (C, E, Q) 8 0 82 [(0, .ref (kad E 48 0)), (2, .int x2), (4, .int x4), (7, .int x7)] [.long t1, .long t0] σ (f_X6_oddsOf_b82 F rr32 x2 x4 x7 t0 t1 σ) := by
  intro x2 x4 x7 t0 t1  σ
  unfold f_X6_oddsOf_b82
  refine k_lmul hk dX6_oddsOf_82 ?_
  refine k_nml (fun y3 => ?_)
  refine k_lstore (lv' := [(5, .long y3), (0, .ref (kad E 48 0)), (2, .int x2), (4, .int x4), (7, .int x7)]) hk dX6_oddsOf_83 (by decide) rfl ?_
  exact k_sub [1, 2, 3, 0, 4] rfl (s_X6_oddsOf_b85 hj hn hl hk he hro F rr32 hrr32  x2 x4 y3 x7  σ)
def f_X6_oddsOf_b32 (F : Nat) (rr32 : (Int32 × Int32 × Int64 × Int32) → kS → Option kR) (a : (Int32 × Int32 × Int64 × Int32)) (σ : kS) : Option kR := match a with
  | (x2, x4, x5, x7) => if (σ.1 48 0 43) ≤ x7 then (kFix (f_X6_oddsOf_b94 F) F (x4, x5, 0) σ) else (if ((x2 >>> (x7 &&& 31)) &&& 1) = 1 then (kBi (f_X6_isSo F x7 σ) fun c7 σ6 => if c7 = 0 then (kBi (f_X6_wrongOf F x7 σ6) fun c10 σ9 => f_X6_oddsOf_b82 F rr32 x2 x4 x7 x5 (c10.toInt64) σ9) else (kBi (f_X6_wrongOf F x7 σ6) fun c12 σ11 => f_X6_oddsOf_b82 F rr32 x2 x4 x7 x5 ((16 - c12).toInt64) σ11)) else (f_X6_oddsOf_b85 F rr32 x2 x4 x5 x7 σ))
set_option maxRecDepth 20000 in
theorem s_X6_oddsOf_b32 {l : Launch} {E : kE} (hj : kEj E) (hn : kNorm E) (hl : l.stackTraces = false) {C : kC} {Q : kR → State → Prop} (hk : kOk (C, E, Q) cX6_oddsOf RX6 8) (he : kEnd (C, E, Q) (some .long) id 0) (hro : kRo C l (5) (122) 0) (F : Nat) : ∀ (N9 : Nat) (x2 : Int32) (x4 : Int32) (x5 : Int64) (x7 : Int32)  (σ : kS), Sm (C, E, Q) 8 0 32 [(0, .ref (kad E 48 0)), (2, .int x2), (4, .int x4), (5, .long x5), (7, .int x7)] [] σ (kFix (f_X6_oddsOf_b32 F) N9 (x2, x4, x5, x7) σ) := by
  intro N9
  induction N9 with
  | zero => intro x2 x4 x5 x7  σ; exact k_no
  | succ N9 ih =>
    intro x2 x4 x5 x7  σ
    show Sm _ _ _ _ _ _ _ (f_X6_oddsOf_b32 F (kFix (f_X6_oddsOf_b32 F) N9) (x2, x4, x5, x7) σ)
    generalize kFix (f_X6_oddsOf_b32 F) N9 = rr32 at ih
    have hrr32 := ih
    unfold f_X6_oddsOf_b32
    dsimp only
    refine k_iload hk dX6_oddsOf_32 4 rfl ?_
    refine k_aload_n hk dX6_oddsOf_34 0 rfl ?_
    refine k_getf (k := 43) hk dX6_oddsOf_35 rfl (by decide) kc6 (by decide) fl_RX6_294 rfl ?_
    refine k_icmp_ge hk dX6_oddsOf_38 91 (by decide) (fun h4 => ?_) (fun h4 => ?_)
    · refine k_iconst (v := 0) hk dX6_oddsOf_91 (by decide) ?_
      refine k_istore (lv' := [(7, .int 0), (0, .ref (kad E 48 0)), (2, .int x2), (4, .int x4), (5, .long x5)]) hk dX6_oddsOf_92 (by decide) rfl ?_
      exact k_sub [3, 4, 0] rfl (s_X6_oddsOf_b94 hj hn hl hk he hro F F x4 x5 0  σ)
    · refine k_iload_n hk dX6_oddsOf_41 1 rfl ?_
      refine k_iload hk dX6_oddsOf_42 4 rfl ?_
      refine k_ishr hk dX6_oddsOf_44 ?_
      refine k_iconst (v := 1) hk dX6_oddsOf_45 (by decide) ?_
      refine k_iand hk dX6_oddsOf_46 ?_
      refine k_iconst (v := 1) hk dX6_oddsOf_47 (by decide) ?_
      refine k_icmp_ne hk dX6_oddsOf_48 85 (by decide) (fun h5 => ?_) (fun h5 => ?_)
      · exact k_sub [0, 1, 2, 3, 4] rfl (s_X6_oddsOf_b85 hj hn hl hk he hro F rr32 hrr32  x2 x4 x5 x7  σ)
      · refine k_lload hk dX6_oddsOf_51 3 rfl ?_
        refine k_aload_n hk dX6_oddsOf_53 0 rfl ?_
        refine k_iload hk dX6_oddsOf_54 4 rfl ?_
        refine k_callVi (As := [.int x7]) (rest := [.long x5]) hk he hro (c_X6_isSo hj hn hl F x7  σ) dX6_oddsOf_56 cw_RX6_303 rfl (by decide) kc6 rfl ⟨by decide, by decide⟩ (by decide) rfl (Nat.le_of_ble_eq_true rfl) (fun c7 σ6 => ?_)
        refine k_if_eq hk dX6_oddsOf_59 75 (by decide) (fun h8 => ?_) (fun h8 => ?_)
        · refine k_aload_n hk dX6_oddsOf_75 0 rfl ?_
          refine k_iload hk dX6_oddsOf_76 4 rfl ?_
          refine k_callVi (As := [.int x7]) (rest := [.long x5]) hk he hro (c_X6_wrongOf hj hn hl F x7  σ6) dX6_oddsOf_78 cw_RX6_297 rfl (by decide) kc6 rfl ⟨by decide, by decide⟩ (by decide) rfl (Nat.le_of_ble_eq_true rfl) (fun c10 σ9 => ?_)
          refine k_i2l hk dX6_oddsOf_81 ?_
          exact k_sub [0, 1, 2, 4] rfl (s_X6_oddsOf_b82 hj hn hl hk he hro F rr32 hrr32  x2 x4 x7 x5 (c10.toInt64)  σ9)
        · refine k_bipush (v := 16) hk dX6_oddsOf_62 (by decide) ?_
          refine k_aload_n hk dX6_oddsOf_64 0 rfl ?_
          refine k_iload hk dX6_oddsOf_65 4 rfl ?_
          refine k_callVi (As := [.int x7]) (rest := [.int 16, .long x5]) hk he hro (c_X6_wrongOf hj hn hl F x7  σ6) dX6_oddsOf_67 cw_RX6_297 rfl (by decide) kc6 rfl ⟨by decide, by decide⟩ (by decide) rfl (Nat.le_of_ble_eq_true rfl) (fun c12 σ11 => ?_)
          refine k_isub hk dX6_oddsOf_70 ?_
          refine k_i2l hk dX6_oddsOf_71 ?_
          refine k_goto hk dX6_oddsOf_72 82 (by decide) ?_
          exact k_sub [0, 1, 2, 4] rfl (s_X6_oddsOf_b82 hj hn hl hk he hro F rr32 hrr32  x2 x4 x7 x5 ((16 - c12).toInt64)  σ11)
def f_X6_oddsOf_b13 (F : Nat) (x1 : Int32) (x2 : Int32) (t0 : Int32) (σ : kS) : Option kR := kBv (f_X6_runs F x1 σ) fun σ13 => kg (kin x1 6) (kb ((σ13.1 58 0 x1.toNatClampNeg).toInt64) fun y15 => kFix (f_X6_oddsOf_b32 F) F (x2, t0, y15, 0) σ13)
set_option maxRecDepth 20000 in
theorem s_X6_oddsOf_b13 {l : Launch} {E : kE} (hj : kEj E) (hn : kNorm E) (hl : l.stackTraces = false) {C : kC} {Q : kR → State → Prop} (hk : kOk (C, E, Q) cX6_oddsOf RX6 8) (he : kEnd (C, E, Q) (some .long) id 0) (hro : kRo C l (5) (122) 0) (F : Nat) : ∀ (x1 : Int32) (x2 : Int32) (t0 : Int32)  (σ : kS), Sm (C, E, Q) 8 0 13 [(0, .ref (kad E 48 0)), (1, .int x1), (2, .int x2)] [.int t0] σ (f_X6_oddsOf_b13 F x1 x2 t0 σ) := by
  intro x1 x2 t0  σ
  unfold f_X6_oddsOf_b13
  refine k_istore (lv' := [(4, .int t0), (0, .ref (kad E 48 0)), (1, .int x1), (2, .int x2)]) hk dX6_oddsOf_13 (by decide) rfl ?_
  refine k_aload_n hk dX6_oddsOf_15 1 rfl ?_
  refine k_iload_n hk dX6_oddsOf_16 2 rfl ?_
  refine k_callVv (As := [.int x1]) (rest := []) hk he hro (c_X6_runs hj hn hl F x1  σ) dX6_oddsOf_17 cw_RX6_279 rfl (by decide) kc6 rfl ⟨by decide, by decide⟩ (by decide) rfl (Nat.le_of_ble_eq_true rfl) (fun σ13 => ?_)
  refine k_aload_n hk dX6_oddsOf_20 1 rfl ?_
  refine k_getr (k := 17) 58 0 hk dX6_oddsOf_21 rfl (by decide) kc6 (by decide) fl_RX6_34 rfl rfl ?_
  refine k_iload_n hk dX6_oddsOf_24 2 rfl ?_
  refine k_iald hk dX6_oddsOf_25 rfl (by decide) (fun h14 => ?_)
  refine k_i2l hk dX6_oddsOf_26 ?_
  refine k_nml (fun y15 => ?_)
  refine k_lstore (lv' := [(5, .long y15), (4, .int t0), (0, .ref (kad E 48 0)), (1, .int x1), (2, .int x2)]) hk dX6_oddsOf_27 (by decide) rfl ?_
  refine k_iconst (v := 0) hk dX6_oddsOf_29 (by decide) ?_
  refine k_istore (lv' := [(7, .int 0), (5, .long y15), (4, .int t0), (0, .ref (kad E 48 0)), (1, .int x1), (2, .int x2)]) hk dX6_oddsOf_30 (by decide) rfl ?_
  exact k_sub [3, 5, 2, 1, 0] rfl (s_X6_oddsOf_b32 hj hn hl hk he hro F F x2 t0 y15 0  σ13)
def f_X6_oddsOf (F : Nat) (a1 : Int32) (a2 : Int32) (a3 : Int32) (σ : kS) : Option kR := if a3 = 0 then (f_X6_oddsOf_b13 F a1 a2 0 σ) else (kBi (f_X6_burntOf F a1 σ) fun c18 σ17 => f_X6_oddsOf_b13 F a1 a2 c18 σ17)
set_option maxRecDepth 20000 in
theorem c_X6_oddsOf {l : Launch} {E : kE} (hj : kEj E) (hn : kNorm E) (hl : l.stackTraces = false) (F : Nat) (a1 : Int32) (a2 : Int32) (a3 : Int32)  (σ : kS) : kMet l E yX6_oddsOf cX6_oddsOf 8 (some .long) (5) (122) 0 id [.ref (kad E 48 0), .int a1, .int a2, .int a3] σ (f_X6_oddsOf F a1 a2 a3 σ) := by
  refine k_met hj hn hl (by decide) (Nat.le_of_ble_eq_true rfl) (fun C Q hk he hro => ?_)
  have hk : kOk (C, E, Q) cX6_oddsOf RX6 8 := hk
  show Sm (C, E, Q) 8 0 0 [(0, .ref (kad E 48 0)), (1, .int a1), (2, .int a2), (3, .int a3)] [] σ _
  unfold f_X6_oddsOf
  refine k_iload_n hk dX6_oddsOf_0 3 rfl ?_
  refine k_if_eq hk dX6_oddsOf_1 12 (by decide) (fun h16 => ?_) (fun h16 => ?_)
  · refine k_iconst (v := 0) hk dX6_oddsOf_12 (by decide) ?_
    exact k_sub [0, 1, 2] rfl (s_X6_oddsOf_b13 hj hn hl hk he hro F  a1 a2 0  σ)
  · refine k_aload_n hk dX6_oddsOf_4 0 rfl ?_
    refine k_iload_n hk dX6_oddsOf_5 1 rfl ?_
    refine k_callVi (As := [.int a1]) (rest := []) hk he hro (c_X6_burntOf hj hn hl F a1  σ) dX6_oddsOf_6 cw_RX6_309 rfl (by decide) kc6 rfl ⟨by decide, by decide⟩ (by decide) rfl (Nat.le_of_ble_eq_true rfl) (fun c18 σ17 => ?_)
    refine k_goto hk dX6_oddsOf_9 13 (by decide) ?_
    exact k_sub [0, 1, 2] rfl (s_X6_oddsOf_b13 hj hn hl hk he hro F  a1 a2 c18  σ17)
def f_X6_findOdds_b2 (F : Nat) (rr2 : (Int32 × Int32 × Int32) → kS → Option kR) (a : (Int32 × Int32 × Int32)) (σ : kS) : Option kR := match a with
  | (x1, x2, x3) => if (σ.1 48 0 13) ≤ x3 then (some (.inl none, σ)) else (kBl (f_X6_oddsOf F x3 x1 x2 σ) fun c3 σ2 => kg (kin x3 6) (kb (kUL σ2 89 0 x3.toNatClampNeg c3) fun σ4 => rr2 (x1, x2, x3 + 1) σ4))
set_option maxRecDepth 20000 in
theorem s_X6_findOdds_b2 {l : Launch} {E : kE} (hj : kEj E) (hn : kNorm E) (hl : l.stackTraces = false) {C : kC} {Q : kR → State → Prop} (hk : kOk (C, E, Q) cX6_findOdds RX6 4) (he : kEnd (C, E, Q) none id 0) (hro : kRo C l (6) (149) 0) (F : Nat) : ∀ (N9 : Nat) (x1 : Int32) (x2 : Int32) (x3 : Int32)  (σ : kS), Sm (C, E, Q) 4 0 2 [(0, .ref (kad E 48 0)), (1, .int x1), (2, .int x2), (3, .int x3)] [] σ (kFix (f_X6_findOdds_b2 F) N9 (x1, x2, x3) σ) := by
  intro N9
  induction N9 with
  | zero => intro x1 x2 x3  σ; exact k_no
  | succ N9 ih =>
    intro x1 x2 x3  σ
    show Sm _ _ _ _ _ _ _ (f_X6_findOdds_b2 F (kFix (f_X6_findOdds_b2 F) N9) (x1, x2, x3) σ)
    generalize kFix (f_X6_findOdds_b2 F) N9 = rr2 at ih
    have hrr2 := ih
    unfold f_X6_findOdds_b2
    dsimp only
    refine k_iload_n hk dX6_findOdds_2 3 rfl ?_
    refine k_aload_n hk dX6_findOdds_3 0 rfl ?_
    refine k_getf (k := 13) hk dX6_findOdds_4 rfl (by decide) kc6 (by decide) fl_RX6_224 rfl ?_
    refine k_icmp_ge hk dX6_findOdds_7 29 (by decide) (fun h1 => ?_) (fun h1 => ?_)
    · exact k_return hk he dX6_findOdds_29 (by decide)
    · refine k_aload_n hk dX6_findOdds_10 0 rfl ?_
      refine k_getr (k := 52) 89 0 hk dX6_findOdds_11 rfl (by decide) kc6 (by decide) fl_RX6_109 rfl rfl ?_
      refine k_iload_n hk dX6_findOdds_14 3 rfl ?_
      refine k_aload_n hk dX6_findOdds_15 0 rfl ?_
      refine k_iload_n hk dX6_findOdds_16 3 rfl ?_
      refine k_iload_n hk dX6_findOdds_17 1 rfl ?_
      refine k_iload_n hk dX6_findOdds_18 2 rfl ?_
      refine k_callVl (As := [.int x3, .int x1, .int x2]) (rest := [.int x3, .ref (kad E 89 0)]) hk he hro (c_X6_oddsOf hj hn hl F x3 x1 x2  σ) dX6_findOdds_19 cw_RX6_314 rfl (by decide) kc6 rfl ⟨by decide, by decide⟩ (by decide) rfl (Nat.le_of_ble_eq_true rfl) (fun c3 σ2 => ?_)
      refine k_last hk dX6_findOdds_22 rfl (by decide) (fun h5 σ4 => ?_)
      refine k_iinc (lv' := [(3, .int (x3 + 1)), (0, .ref (kad E 48 0)), (1, .int x1), (2, .int x2)]) (j := 3) (y := x3 + 1) hk dX6_findOdds_23 rfl rfl (by decide) rfl ?_
      refine k_goto hk dX6_findOdds_26 2 (by decide) ?_
      exact k_sub [1, 2, 3, 0] rfl (hrr2 x1 x2 (x3 + 1)  σ4)
def f_X6_findOdds (F : Nat) (a1 : Int32) (a2 : Int32) (σ : kS) : Option kR := kFix (f_X6_findOdds_b2 F) F (a1, a2, 0) σ
set_option maxRecDepth 20000 in
theorem c_X6_findOdds {l : Launch} {E : kE} (hj : kEj E) (hn : kNorm E) (hl : l.stackTraces = false) (F : Nat) (a1 : Int32) (a2 : Int32)  (σ : kS) : kMet l E yX6_findOdds cX6_findOdds 4 none (6) (149) 0 id [.ref (kad E 48 0), .int a1, .int a2] σ (f_X6_findOdds F a1 a2 σ) := by
  refine k_met hj hn hl (by decide) (Nat.le_of_ble_eq_true rfl) (fun C Q hk he hro => ?_)
  have hk : kOk (C, E, Q) cX6_findOdds RX6 4 := hk
  show Sm (C, E, Q) 4 0 0 [(0, .ref (kad E 48 0)), (1, .int a1), (2, .int a2)] [] σ _
  unfold f_X6_findOdds
  refine k_iconst (v := 0) hk dX6_findOdds_0 (by decide) ?_
  refine k_istore_n (lv' := [(3, .int 0), (0, .ref (kad E 48 0)), (1, .int a1), (2, .int a2)]) hk dX6_findOdds_1 (by decide) rfl ?_
  exact k_sub [1, 2, 3, 0] rfl (s_X6_findOdds_b2 hj hn hl hk he hro F F a1 a2 0  σ)
def f_X6_shareNow_b53 (F : Nat) (t0 : Int32) (σ : kS) : Option kR := some (.inl (some (.int t0)), σ)
set_option maxRecDepth 20000 in
theorem s_X6_shareNow_b53 {l : Launch} {E : kE} (hj : kEj E) (hn : kNorm E) (hl : l.stackTraces = false) {C : kC} {Q : kR → State → Prop} (hk : kOk (C, E, Q) cX6_shareNow RX6 5) (he : kEnd (C, E, Q) (some .int) id 0) (hro : kRo C l (0) (0) 0) (F : Nat) : ∀ (t0 : Int32)  (σ : kS), Sm (C, E, Q) 5 0 53 [] [.int t0] σ (f_X6_shareNow_b53 F t0 σ) := by
  intro t0  σ
  unfold f_X6_shareNow_b53
  exact k_ireturn hk he dX6_shareNow_53 (by decide)
def f_X6_shareNow_b5 (F : Nat) (rr5 : (Int32 × Int64 × Int32) → kS → Option kR) (a : (Int32 × Int64 × Int32)) (σ : kS) : Option kR := match a with
  | (x1, x2, x4) => if (σ.1 48 0 13) ≤ x4 then (if (lg_cmp x2 0) = 0 then (f_X6_shareNow_b53 F 0 σ) else (kg (kin x1 6) (kg (¬ x2 = 0) (f_X6_shareNow_b53 F (((1000 * (σ.2 89 0 x1.toNatClampNeg)) / x2).toInt32) σ)))) else (kg (kin x4 6) (kb (x2 + (σ.2 89 0 x4.toNatClampNeg)) fun y5 => rr5 (x1, y5, x4 + 1) σ))
set_option maxRecDepth 20000 in
theorem s_X6_shareNow_b5 {l : Launch} {E : kE} (hj : kEj E) (hn : kNorm E) (hl : l.stackTraces = false) {C : kC} {Q : kR → State → Prop} (hk : kOk (C, E, Q) cX6_shareNow RX6 5) (he : kEnd (C, E, Q) (some .int) id 0) (hro : kRo C l (0) (0) 0) (F : Nat) : ∀ (N9 : Nat) (x1 : Int32) (x2 : Int64) (x4 : Int32)  (σ : kS), Sm (C, E, Q) 5 0 5 [(0, .ref (kad E 48 0)), (1, .int x1), (2, .long x2), (4, .int x4)] [] σ (kFix (f_X6_shareNow_b5 F) N9 (x1, x2, x4) σ) := by
  intro N9
  induction N9 with
  | zero => intro x1 x2 x4  σ; exact k_no
  | succ N9 ih =>
    intro x1 x2 x4  σ
    show Sm _ _ _ _ _ _ _ (f_X6_shareNow_b5 F (kFix (f_X6_shareNow_b5 F) N9) (x1, x2, x4) σ)
    generalize kFix (f_X6_shareNow_b5 F) N9 = rr5 at ih
    have hrr5 := ih
    unfold f_X6_shareNow_b5
    dsimp only
    refine k_iload hk dX6_shareNow_5 3 rfl ?_
    refine k_aload_n hk dX6_shareNow_7 0 rfl ?_
    refine k_getf (k := 13) hk dX6_shareNow_8 rfl (by decide) kc6 (by decide) fl_RX6_224 rfl ?_
    refine k_icmp_ge hk dX6_shareNow_11 30 (by decide) (fun h1 => ?_) (fun h1 => ?_)
    · refine k_lload_n hk dX6_shareNow_30 2 rfl ?_
      refine k_lconst (v := 0) hk dX6_shareNow_31 (by decide) ?_
      refine k_lcmp hk dX6_shareNow_32 ?_
      refine k_if_ne hk dX6_shareNow_33 40 (by decide) (fun h2 => ?_) (fun h2 => ?_)
      · refine k_ldc2 (v := 1000) hk dX6_shareNow_40 (kTB_mk (by decide +kernel) rfl) ?_
        refine k_aload_n hk dX6_shareNow_43 0 rfl ?_
        refine k_getr (k := 52) 89 0 hk dX6_shareNow_44 rfl (by decide) kc6 (by decide) fl_RX6_109 rfl rfl ?_
        refine k_iload_n hk dX6_shareNow_47 1 rfl ?_
        refine k_lald hk dX6_shareNow_48 rfl (by decide) (fun h3 => ?_)
        refine k_lmul hk dX6_shareNow_49 ?_
        refine k_lload_n hk dX6_shareNow_50 2 rfl ?_
        refine k_ldiv hk dX6_shareNow_51 (fun _ => ?_)
        refine k_l2i hk dX6_shareNow_52 ?_
        exact k_sub [] rfl (s_X6_shareNow_b53 hj hn hl hk he hro F  (((1000 * (σ.2 89 0 x1.toNatClampNeg)) / x2).toInt32)  σ)
      · refine k_iconst (v := 0) hk dX6_shareNow_36 (by decide) ?_
        refine k_goto hk dX6_shareNow_37 53 (by decide) ?_
        exact k_sub [] rfl (s_X6_shareNow_b53 hj hn hl hk he hro F  0  σ)
    · refine k_lload_n hk dX6_shareNow_14 2 rfl ?_
      refine k_aload_n hk dX6_shareNow_15 0 rfl ?_
      refine k_getr (k := 52) 89 0 hk dX6_shareNow_16 rfl (by decide) kc6 (by decide) fl_RX6_109 rfl rfl ?_
      refine k_iload hk dX6_shareNow_19 3 rfl ?_
      refine k_lald hk dX6_shareNow_21 rfl (by decide) (fun h4 => ?_)
      refine k_ladd hk dX6_shareNow_22 ?_
      refine k_nml (fun y5 => ?_)
      refine k_lstore_n (lv' := [(2, .long y5), (0, .ref (kad E 48 0)), (1, .int x1), (4, .int x4)]) hk dX6_shareNow_23 (by decide) rfl ?_
      refine k_iinc (lv' := [(4, .int (x4 + 1)), (2, .long y5), (0, .ref (kad E 48 0)), (1, .int x1)]) (j := 3) (y := x4 + 1) hk dX6_shareNow_24 rfl rfl (by decide) rfl ?_
      refine k_goto hk dX6_shareNow_27 5 (by decide) ?_
      exact k_sub [2, 3, 1, 0] rfl (hrr5 x1 y5 (x4 + 1)  σ)
def f_X6_shareNow (F : Nat) (a1 : Int32) (σ : kS) : Option kR := kFix (f_X6_shareNow_b5 F) F (a1, 0, 0) σ
set_option maxRecDepth 20000 in
theorem c_X6_shareNow {l : Launch} {E : kE} (hj : kEj E) (hn : kNorm E) (hl : l.stackTraces = false) (F : Nat) (a1 : Int32)  (σ : kS) : kMet l E yX6_shareNow cX6_shareNow 5 (some .int) (0) (0) 0 id [.ref (kad E 48 0), .int a1] σ (f_X6_shareNow F a1 σ) := by
  refine k_met hj hn hl (by decide) (Nat.le_of_ble_eq_true rfl) (fun C Q hk he hro => ?_)
  have hk : kOk (C, E, Q) cX6_shareNow RX6 5 := hk
  show Sm (C, E, Q) 5 0 0 [(0, .ref (kad E 48 0)), (1, .int a1)] [] σ _
  unfold f_X6_shareNow
  refine k_lconst (v := 0) hk dX6_shareNow_0 (by decide) ?_
  refine k_lstore_n (lv' := [(2, .long 0), (0, .ref (kad E 48 0)), (1, .int a1)]) hk dX6_shareNow_1 (by decide) rfl ?_
  refine k_iconst (v := 0) hk dX6_shareNow_2 (by decide) ?_
  refine k_istore (lv' := [(4, .int 0), (2, .long 0), (0, .ref (kad E 48 0)), (1, .int a1)]) hk dX6_shareNow_3 (by decide) rfl ?_
  exact k_sub [2, 3, 1, 0] rfl (s_X6_shareNow_b5 hj hn hl hk he hro F F a1 0 0  σ)
def f_X6_bestNow_b38 (F : Nat) (rr4 : (Int32 × Int32) → kS → Option kR) (x2 : Int32) (t0 : Int32) (σ : kS) : Option kR := rr4 (t0, x2 + 1) σ
set_option maxRecDepth 20000 in
theorem s_X6_bestNow_b38 {l : Launch} {E : kE} (hj : kEj E) (hn : kNorm E) (hl : l.stackTraces = false) {C : kC} {Q : kR → State → Prop} (hk : kOk (C, E, Q) cX6_bestNow RX6 3) (he : kEnd (C, E, Q) (some .int) id 0) (hro : kRo C l (0) (0) 0) (F : Nat) (rr4 : (Int32 × Int32) → kS → Option kR) (hrr4 : ∀ (x1 : Int32) (x2 : Int32)  (σ : kS), Sm (C, E, Q) 3 0 4 [(0, .ref (kad E 48 0)), (1, .int x1), (2, .int x2)] [] σ (rr4 (x1, x2) σ)) : ∀ (x2 : Int32) (t0 : Int32)  (σ : kS), Sm (C, E, Q) 3 0 38 [(0, .ref (kad E 48 0)), (2, .int x2)] [.int t0] σ (f_X6_bestNow_b38 F rr4 x2 t0 σ) := by
  intro x2 t0  σ
  unfold f_X6_bestNow_b38
  refine k_istore_n (lv' := [(1, .int t0), (0, .ref (kad E 48 0)), (2, .int x2)]) hk dX6_bestNow_38 (by decide) rfl ?_
  refine k_iinc (lv' := [(2, .int (x2 + 1)), (1, .int t0), (0, .ref (kad E 48 0))]) (j := 2) (y := x2 + 1) hk dX6_bestNow_39 rfl rfl (by decide) rfl ?_
  refine k_goto hk dX6_bestNow_42 4 (by decide) ?_
  exact k_sub [2, 1, 0] rfl (hrr4 t0 (x2 + 1)  σ)
def f_X6_bestNow_b33 (F : Nat) (rr4 : (Int32 × Int32) → kS → Option kR) (x2 : Int32) (σ : kS) : Option kR := f_X6_bestNow_b38 F rr4 x2 x2 σ
set_option maxRecDepth 20000 in
theorem s_X6_bestNow_b33 {l : Launch} {E : kE} (hj : kEj E) (hn : kNorm E) (hl : l.stackTraces = false) {C : kC} {Q : kR → State → Prop} (hk : kOk (C, E, Q) cX6_bestNow RX6 3) (he : kEnd (C, E, Q) (some .int) id 0) (hro : kRo C l (0) (0) 0) (F : Nat) (rr4 : (Int32 × Int32) → kS → Option kR) (hrr4 : ∀ (x1 : Int32) (x2 : Int32)  (σ : kS), Sm (C, E, Q) 3 0 4 [(0, .ref (kad E 48 0)), (1, .int x1), (2, .int x2)] [] σ (rr4 (x1, x2) σ)) : ∀ (x2 : Int32)  (σ : kS), Sm (C, E, Q) 3 0 33 [(0, .ref (kad E 48 0)), (2, .int x2)] [] σ (f_X6_bestNow_b33 F rr4 x2 σ) := by
  intro x2  σ
  unfold f_X6_bestNow_b33
  refine k_iload_n hk dX6_bestNow_33 1 rfl ?_
  refine k_goto hk dX6_bestNow_34 38 (by decide) ?_
  exact k_sub [0, 1] rfl (s_X6_bestNow_b38 hj hn hl hk he hro F rr4 hrr4  x2 x2  σ)
def f_X6_bestNow_b4 (F : Nat) (rr4 : (Int32 × Int32) → kS → Option kR) (a : (Int32 × Int32)) (σ : kS) : Option kR := match a with
  | (x1, x2) => if (σ.1 48 0 13) ≤ x2 then (some (.inl (some (.int x1)), σ)) else (if x1 = (-1) then (f_X6_bestNow_b33 F rr4 x2 σ) else (kg (kin x2 6) (kg (kin x1 6) (if (lg_cmp (σ.2 89 0 x2.toNatClampNeg) (σ.2 89 0 x1.toNatClampNeg)) ≤ 0 then (f_X6_bestNow_b38 F rr4 x2 x1 σ) else (f_X6_bestNow_b33 F rr4 x2 σ)))))
set_option maxRecDepth 20000 in
theorem s_X6_bestNow_b4 {l : Launch} {E : kE} (hj : kEj E) (hn : kNorm E) (hl : l.stackTraces = false) {C : kC} {Q : kR → State → Prop} (hk : kOk (C, E, Q) cX6_bestNow RX6 3) (he : kEnd (C, E, Q) (some .int) id 0) (hro : kRo C l (0) (0) 0) (F : Nat) : ∀ (N9 : Nat) (x1 : Int32) (x2 : Int32)  (σ : kS), Sm (C, E, Q) 3 0 4 [(0, .ref (kad E 48 0)), (1, .int x1), (2, .int x2)] [] σ (kFix (f_X6_bestNow_b4 F) N9 (x1, x2) σ) := by
  intro N9
  induction N9 with
  | zero => intro x1 x2  σ; exact k_no
  | succ N9 ih =>
    intro x1 x2  σ
    show Sm _ _ _ _ _ _ _ (f_X6_bestNow_b4 F (kFix (f_X6_bestNow_b4 F) N9) (x1, x2) σ)
    generalize kFix (f_X6_bestNow_b4 F) N9 = rr4 at ih
    have hrr4 := ih
    unfold f_X6_bestNow_b4
    dsimp only
    refine k_iload_n hk dX6_bestNow_4 2 rfl ?_
    refine k_aload_n hk dX6_bestNow_5 0 rfl ?_
    refine k_getf (k := 13) hk dX6_bestNow_6 rfl (by decide) kc6 (by decide) fl_RX6_224 rfl ?_
    refine k_icmp_ge hk dX6_bestNow_9 45 (by decide) (fun h1 => ?_) (fun h1 => ?_)
    · refine k_iload_n hk dX6_bestNow_45 1 rfl ?_
      exact k_ireturn hk he dX6_bestNow_46 (by decide)
    · refine k_iload_n hk dX6_bestNow_12 1 rfl ?_
      refine k_iconst (v := (-1)) hk dX6_bestNow_13 (by decide) ?_
      refine k_icmp_eq hk dX6_bestNow_14 33 (by decide) (fun h2 => ?_) (fun h2 => ?_)
      · exact k_sub [0, 2] rfl (s_X6_bestNow_b33 hj hn hl hk he hro F rr4 hrr4  x2  σ)
      · refine k_aload_n hk dX6_bestNow_17 0 rfl ?_
        refine k_getr (k := 52) 89 0 hk dX6_bestNow_18 rfl (by decide) kc6 (by decide) fl_RX6_109 rfl rfl ?_
        refine k_iload_n hk dX6_bestNow_21 2 rfl ?_
        refine k_lald hk dX6_bestNow_22 rfl (by decide) (fun h3 => ?_)
        refine k_aload_n hk dX6_bestNow_23 0 rfl ?_
        refine k_getr (k := 52) 89 0 hk dX6_bestNow_24 rfl (by decide) kc6 (by decide) fl_RX6_109 rfl rfl ?_
        refine k_iload_n hk dX6_bestNow_27 1 rfl ?_
        refine k_lald hk dX6_bestNow_28 rfl (by decide) (fun h4 => ?_)
        refine k_lcmp hk dX6_bestNow_29 ?_
        refine k_if_le hk dX6_bestNow_30 37 (by decide) (fun h5 => ?_) (fun h5 => ?_)
        · refine k_iload_n hk dX6_bestNow_37 1 rfl ?_
          exact k_sub [0, 2] rfl (s_X6_bestNow_b38 hj hn hl hk he hro F rr4 hrr4  x2 x1  σ)
        · exact k_sub [0, 2] rfl (s_X6_bestNow_b33 hj hn hl hk he hro F rr4 hrr4  x2  σ)
def f_X6_bestNow (F : Nat)  (σ : kS) : Option kR := kFix (f_X6_bestNow_b4 F) F ((-1), 0) σ
set_option maxRecDepth 20000 in
theorem c_X6_bestNow {l : Launch} {E : kE} (hj : kEj E) (hn : kNorm E) (hl : l.stackTraces = false) (F : Nat)   (σ : kS) : kMet l E yX6_bestNow cX6_bestNow 3 (some .int) (0) (0) 0 id [.ref (kad E 48 0)] σ (f_X6_bestNow F  σ) := by
  refine k_met hj hn hl (by decide) (Nat.le_of_ble_eq_true rfl) (fun C Q hk he hro => ?_)
  have hk : kOk (C, E, Q) cX6_bestNow RX6 3 := hk
  show Sm (C, E, Q) 3 0 0 [(0, .ref (kad E 48 0))] [] σ _
  unfold f_X6_bestNow
  refine k_iconst (v := (-1)) hk dX6_bestNow_0 (by decide) ?_
  refine k_istore_n (lv' := [(1, .int (-1)), (0, .ref (kad E 48 0))]) hk dX6_bestNow_1 (by decide) rfl ?_
  refine k_iconst (v := 0) hk dX6_bestNow_2 (by decide) ?_
  refine k_istore_n (lv' := [(2, .int 0), (1, .int (-1)), (0, .ref (kad E 48 0))]) hk dX6_bestNow_3 (by decide) rfl ?_
  exact k_sub [2, 1, 0] rfl (s_X6_bestNow_b4 hj hn hl hk he hro F F (-1) 0  σ)
def f_X6_allRows (F : Nat)  (σ : kS) : Option kR := some (.inl (some (.int ((1 <<< ((σ.1 48 0 43) &&& 31)) - 1))), σ)
set_option maxRecDepth 20000 in
theorem c_X6_allRows {l : Launch} {E : kE} (hj : kEj E) (hn : kNorm E) (hl : l.stackTraces = false) (F : Nat)   (σ : kS) : kMet l E yX6_allRows cX6_allRows 1 (some .int) (0) (0) 0 id [.ref (kad E 48 0)] σ (f_X6_allRows F  σ) := by
  refine k_met hj hn hl (by decide) (Nat.le_of_ble_eq_true rfl) (fun C Q hk he hro => ?_)
  have hk : kOk (C, E, Q) cX6_allRows RX6 1 := hk
  show Sm (C, E, Q) 1 0 0 [(0, .ref (kad E 48 0))] [] σ _
  unfold f_X6_allRows
  refine k_iconst (v := 1) hk dX6_allRows_0 (by decide) ?_
  refine k_aload_n hk dX6_allRows_1 0 rfl ?_
  refine k_getf (k := 43) hk dX6_allRows_2 rfl (by decide) kc6 (by decide) fl_RX6_294 rfl ?_
  refine k_ishl hk dX6_allRows_5 ?_
  refine k_iconst (v := 1) hk dX6_allRows_6 (by decide) ?_
  refine k_isub hk dX6_allRows_7 ?_
  exact k_ireturn hk he dX6_allRows_8 (by decide)
def f_X6_odds_b19 (F : Nat) (x1 : Int32) (t1 : Int32) (σ : kS) : Option kR := kBi (f_X6_bad F t1 1 σ) fun c2 σ1 => if c2 = 0 then (kBi (f_X6_allRows F  σ1) fun c5 σ4 => kBl (f_X6_oddsOf F x1 c5 1 σ4) fun c7 σ6 => some (.inl (some (.long c7)), σ6)) else (some (.inl (some (.long 0)), σ1))
set_option maxRecDepth 20000 in
theorem s_X6_odds_b19 {l : Launch} {E : kE} (hj : kEj E) (hn : kNorm E) (hl : l.stackTraces = false) {C : kC} {Q : kR → State → Prop} (hk : kOk (C, E, Q) cX6_odds RX6 2) (he : kEnd (C, E, Q) (some .long) id 0) (hro : kRo C l (6) (149) 0) (F : Nat) : ∀ (x1 : Int32) (t1 : Int32)  (σ : kS), Sm (C, E, Q) 2 0 19 [(0, .ref (kad E 48 0)), (1, .int x1)] [.int t1, .ref (kad E 48 0)] σ (f_X6_odds_b19 F x1 t1 σ) := by
  intro x1 t1  σ
  unfold f_X6_odds_b19
  refine k_iconst (v := 1) hk dX6_odds_19 (by decide) ?_
  refine k_callVi (As := [.int t1, .int 1]) (rest := []) hk he hro (c_X6_bad hj hn hl F t1 1  σ) dX6_odds_20 cw_RX6_220 rfl (by decide) kc6 rfl ⟨by decide, by decide⟩ (by decide) rfl (Nat.le_of_ble_eq_true rfl) (fun c2 σ1 => ?_)
  refine k_if_eq hk dX6_odds_23 28 (by decide) (fun h3 => ?_) (fun h3 => ?_)
  · refine k_aload_n hk dX6_odds_28 0 rfl ?_
    refine k_iload_n hk dX6_odds_29 1 rfl ?_
    refine k_aload_n hk dX6_odds_30 0 rfl ?_
    refine k_callVi (As := []) (rest := [.int x1, .ref (kad E 48 0)]) hk he hro (c_X6_allRows hj hn hl F   σ1) dX6_odds_31 cw_RX6_320 rfl (by decide) kc6 rfl ⟨by decide, by decide⟩ (by decide) rfl (Nat.le_of_ble_eq_true rfl) (fun c5 σ4 => ?_)
    refine k_iconst (v := 1) hk dX6_odds_34 (by decide) ?_
    refine k_callVl (As := [.int x1, .int c5, .int 1]) (rest := []) hk he hro (c_X6_oddsOf hj hn hl F x1 c5 1  σ4) dX6_odds_35 cw_RX6_314 rfl (by decide) kc6 rfl ⟨by decide, by decide⟩ (by decide) rfl (Nat.le_of_ble_eq_true rfl) (fun c7 σ6 => ?_)
    exact k_lreturn hk he dX6_odds_38 (by decide)
  · refine k_lconst (v := 0) hk dX6_odds_26 (by decide) ?_
    exact k_lreturn hk he dX6_odds_27 (by decide)
def f_X6_odds (F : Nat) (a1 : Int32) (σ : kS) : Option kR := kb (kU σ 48 0 0 0) fun σ8 => kBi (f_X6_isWhy F a1 σ8) fun c10 σ9 => if c10 = 0 then (f_X6_odds_b19 F a1 1 σ9) else (f_X6_odds_b19 F a1 0 σ9)
set_option maxRecDepth 20000 in
theorem c_X6_odds {l : Launch} {E : kE} (hj : kEj E) (hn : kNorm E) (hl : l.stackTraces = false) (F : Nat) (a1 : Int32)  (σ : kS) : kMet l E yX6_odds cX6_odds 2 (some .long) (6) (149) 0 id [.ref (kad E 48 0), .int a1] σ (f_X6_odds F a1 σ) := by
  refine k_met hj hn hl (by decide) (Nat.le_of_ble_eq_true rfl) (fun C Q hk he hro => ?_)
  have hk : kOk (C, E, Q) cX6_odds RX6 2 := hk
  show Sm (C, E, Q) 2 0 0 [(0, .ref (kad E 48 0)), (1, .int a1)] [] σ _
  unfold f_X6_odds
  refine k_aload_n hk dX6_odds_0 0 rfl ?_
  refine k_iconst (v := 0) hk dX6_odds_1 (by decide) ?_
  refine k_putf (k := 0) hk dX6_odds_2 rfl (by decide) kc6 (by decide) fl_RX6_113 rfl rfl rfl rfl (fun σ8 => ?_)
  refine k_aload_n hk dX6_odds_5 0 rfl ?_
  refine k_aload_n hk dX6_odds_6 0 rfl ?_
  refine k_iload_n hk dX6_odds_7 1 rfl ?_
  refine k_callVi (As := [.int a1]) (rest := [.ref (kad E 48 0)]) hk he hro (c_X6_isWhy hj hn hl F a1  σ8) dX6_odds_8 cw_RX6_234 rfl (by decide) kc6 rfl ⟨by decide, by decide⟩ (by decide) rfl (Nat.le_of_ble_eq_true rfl) (fun c10 σ9 => ?_)
  refine k_if_ne hk dX6_odds_11 18 (by decide) (fun h11 => ?_) (fun h11 => ?_)
  · refine k_iconst (v := 0) hk dX6_odds_18 (by decide) ?_
    exact k_sub [0, 1] rfl (s_X6_odds_b19 hj hn hl hk he hro F  a1 0  σ9)
  · refine k_iconst (v := 1) hk dX6_odds_14 (by decide) ?_
    refine k_goto hk dX6_odds_15 19 (by decide) ?_
    exact k_sub [0, 1] rfl (s_X6_odds_b19 hj hn hl hk he hro F  a1 1  σ9)
def f_X6_share_b19 (F : Nat) (x1 : Int32) (t1 : Int32) (σ : kS) : Option kR := kBi (f_X6_bad F t1 1 σ) fun c2 σ1 => if c2 = 0 then (kBi (f_X6_allRows F  σ1) fun c5 σ4 => kBv (f_X6_findOdds F c5 1 σ4) fun σ6 => kBi (f_X6_shareNow F x1 σ6) fun c8 σ7 => some (.inl (some (.int c8)), σ7)) else (some (.inl (some (.int 0)), σ1))
set_option maxRecDepth 20000 in
theorem s_X6_share_b19 {l : Launch} {E : kE} (hj : kEj E) (hn : kNorm E) (hl : l.stackTraces = false) {C : kC} {Q : kR → State → Prop} (hk : kOk (C, E, Q) cX6_share RX6 2) (he : kEnd (C, E, Q) (some .int) id 0) (hro : kRo C l (7) (172) 0) (F : Nat) : ∀ (x1 : Int32) (t1 : Int32)  (σ : kS), Sm (C, E, Q) 2 0 19 [(0, .ref (kad E 48 0)), (1, .int x1)] [.int t1, .ref (kad E 48 0)] σ (f_X6_share_b19 F x1 t1 σ) := by
  intro x1 t1  σ
  unfold f_X6_share_b19
  refine k_iconst (v := 1) hk dX6_share_19 (by decide) ?_
  refine k_callVi (As := [.int t1, .int 1]) (rest := []) hk he hro (c_X6_bad hj hn hl F t1 1  σ) dX6_share_20 cw_RX6_220 rfl (by decide) kc6 rfl ⟨by decide, by decide⟩ (by decide) rfl (Nat.le_of_ble_eq_true rfl) (fun c2 σ1 => ?_)
  refine k_if_eq hk dX6_share_23 28 (by decide) (fun h3 => ?_) (fun h3 => ?_)
  · refine k_aload_n hk dX6_share_28 0 rfl ?_
    refine k_aload_n hk dX6_share_29 0 rfl ?_
    refine k_callVi (As := []) (rest := [.ref (kad E 48 0)]) hk he hro (c_X6_allRows hj hn hl F   σ1) dX6_share_30 cw_RX6_320 rfl (by decide) kc6 rfl ⟨by decide, by decide⟩ (by decide) rfl (Nat.le_of_ble_eq_true rfl) (fun c5 σ4 => ?_)
    refine k_iconst (v := 1) hk dX6_share_33 (by decide) ?_
    refine k_callVv (As := [.int c5, .int 1]) (rest := []) hk he hro (c_X6_findOdds hj hn hl F c5 1  σ4) dX6_share_34 cw_RX6_323 rfl (by decide) kc6 rfl ⟨by decide, by decide⟩ (by decide) rfl (Nat.le_of_ble_eq_true rfl) (fun σ6 => ?_)
    refine k_aload_n hk dX6_share_37 0 rfl ?_
    refine k_iload_n hk dX6_share_38 1 rfl ?_
    refine k_callVi (As := [.int x1]) (rest := []) hk he hro (c_X6_shareNow hj hn hl F x1  σ6) dX6_share_39 cw_RX6_327 rfl (by decide) kc6 rfl ⟨by decide, by decide⟩ (by decide) rfl (Nat.le_of_ble_eq_true rfl) (fun c8 σ7 => ?_)
    exact k_ireturn hk he dX6_share_42 (by decide)
  · refine k_iconst (v := 0) hk dX6_share_26 (by decide) ?_
    exact k_ireturn hk he dX6_share_27 (by decide)
def f_X6_share (F : Nat) (a1 : Int32) (σ : kS) : Option kR := kb (kU σ 48 0 0 0) fun σ9 => kBi (f_X6_isWhy F a1 σ9) fun c11 σ10 => if c11 = 0 then (f_X6_share_b19 F a1 1 σ10) else (f_X6_share_b19 F a1 0 σ10)
set_option maxRecDepth 20000 in
theorem c_X6_share {l : Launch} {E : kE} (hj : kEj E) (hn : kNorm E) (hl : l.stackTraces = false) (F : Nat) (a1 : Int32)  (σ : kS) : kMet l E yX6_share cX6_share 2 (some .int) (7) (172) 0 id [.ref (kad E 48 0), .int a1] σ (f_X6_share F a1 σ) := by
  refine k_met hj hn hl (by decide) (Nat.le_of_ble_eq_true rfl) (fun C Q hk he hro => ?_)
  have hk : kOk (C, E, Q) cX6_share RX6 2 := hk
  show Sm (C, E, Q) 2 0 0 [(0, .ref (kad E 48 0)), (1, .int a1)] [] σ _
  unfold f_X6_share
  refine k_aload_n hk dX6_share_0 0 rfl ?_
  refine k_iconst (v := 0) hk dX6_share_1 (by decide) ?_
  refine k_putf (k := 0) hk dX6_share_2 rfl (by decide) kc6 (by decide) fl_RX6_113 rfl rfl rfl rfl (fun σ9 => ?_)
  refine k_aload_n hk dX6_share_5 0 rfl ?_
  refine k_aload_n hk dX6_share_6 0 rfl ?_
  refine k_iload_n hk dX6_share_7 1 rfl ?_
  refine k_callVi (As := [.int a1]) (rest := [.ref (kad E 48 0)]) hk he hro (c_X6_isWhy hj hn hl F a1  σ9) dX6_share_8 cw_RX6_234 rfl (by decide) kc6 rfl ⟨by decide, by decide⟩ (by decide) rfl (Nat.le_of_ble_eq_true rfl) (fun c11 σ10 => ?_)
  refine k_if_ne hk dX6_share_11 18 (by decide) (fun h12 => ?_) (fun h12 => ?_)
  · refine k_iconst (v := 0) hk dX6_share_18 (by decide) ?_
    exact k_sub [0, 1] rfl (s_X6_share_b19 hj hn hl hk he hro F  a1 0  σ10)
  · refine k_iconst (v := 1) hk dX6_share_14 (by decide) ?_
    refine k_goto hk dX6_share_15 19 (by decide) ?_
    exact k_sub [0, 1] rfl (s_X6_share_b19 hj hn hl hk he hro F  a1 1  σ10)
def f_X6_best (F : Nat)  (σ : kS) : Option kR := kb (kU σ 48 0 0 0) fun σ1 => kBi (f_X6_allRows F  σ1) fun c3 σ2 => kBv (f_X6_findOdds F c3 1 σ2) fun σ4 => kBi (f_X6_bestNow F  σ4) fun c6 σ5 => some (.inl (some (.int c6)), σ5)
set_option maxRecDepth 20000 in
theorem c_X6_best {l : Launch} {E : kE} (hj : kEj E) (hn : kNorm E) (hl : l.stackTraces = false) (F : Nat)   (σ : kS) : kMet l E yX6_best cX6_best 1 (some .int) (7) (172) 0 id [.ref (kad E 48 0)] σ (f_X6_best F  σ) := by
  refine k_met hj hn hl (by decide) (Nat.le_of_ble_eq_true rfl) (fun C Q hk he hro => ?_)
  have hk : kOk (C, E, Q) cX6_best RX6 1 := hk
  show Sm (C, E, Q) 1 0 0 [(0, .ref (kad E 48 0))] [] σ _
  unfold f_X6_best
  refine k_aload_n hk dX6_best_0 0 rfl ?_
  refine k_iconst (v := 0) hk dX6_best_1 (by decide) ?_
  refine k_putf (k := 0) hk dX6_best_2 rfl (by decide) kc6 (by decide) fl_RX6_113 rfl rfl rfl rfl (fun σ1 => ?_)
  refine k_aload_n hk dX6_best_5 0 rfl ?_
  refine k_aload_n hk dX6_best_6 0 rfl ?_
  refine k_callVi (As := []) (rest := [.ref (kad E 48 0)]) hk he hro (c_X6_allRows hj hn hl F   σ1) dX6_best_7 cw_RX6_320 rfl (by decide) kc6 rfl ⟨by decide, by decide⟩ (by decide) rfl (Nat.le_of_ble_eq_true rfl) (fun c3 σ2 => ?_)
  refine k_iconst (v := 1) hk dX6_best_10 (by decide) ?_
  refine k_callVv (As := [.int c3, .int 1]) (rest := []) hk he hro (c_X6_findOdds hj hn hl F c3 1  σ2) dX6_best_11 cw_RX6_323 rfl (by decide) kc6 rfl ⟨by decide, by decide⟩ (by decide) rfl (Nat.le_of_ble_eq_true rfl) (fun σ4 => ?_)
  refine k_aload_n hk dX6_best_14 0 rfl ?_
  refine k_callVi (As := []) (rest := []) hk he hro (c_X6_bestNow hj hn hl F   σ4) dX6_best_15 cw_RX6_330 rfl (by decide) kc6 rfl ⟨by decide, by decide⟩ (by decide) rfl (Nat.le_of_ble_eq_true rfl) (fun c6 σ5 => ?_)
  exact k_ireturn hk he dX6_best_18 (by decide)
def f_X6_moved_b53 (F : Nat)  (σ : kS) : Option kR := some (.inl (some (.int 0)), σ)
set_option maxRecDepth 20000 in
theorem s_X6_moved_b53 {l : Launch} {E : kE} (hj : kEj E) (hn : kNorm E) (hl : l.stackTraces = false) {C : kC} {Q : kR → State → Prop} (hk : kOk (C, E, Q) cX6_moved RX6 4) (he : kEnd (C, E, Q) (some .int) id 0) (hro : kRo C l (7) (172) 0) (F : Nat) : ∀   (σ : kS), Sm (C, E, Q) 4 0 53 [] [] σ (f_X6_moved_b53 F  σ) := by
  intro   σ
  unfold f_X6_moved_b53
  refine k_iconst (v := 0) hk dX6_moved_53 (by decide) ?_
  exact k_ireturn hk he dX6_moved_54 (by decide)
def f_X6_moved_b46 (F : Nat) (x1 : Int32) (x2 : Int32) (t1 : Int32) (σ : kS) : Option kR := kBi (f_X6_bad F t1 2 σ) fun c2 σ1 => if c2 = 0 then (kBi (f_X6_allRows F  σ1) fun c5 σ4 => kBv (f_X6_findOdds F c5 1 σ4) fun σ6 => kBi (f_X6_shareNow F x1 σ6) fun c8 σ7 => kBi (f_X6_allRows F  σ7) fun c10 σ9 => kBv (f_X6_findOdds F (c10 &&& ((1 <<< (x2 &&& 31)) ^^^ (-1))) 1 σ9) fun σ11 => kBi (f_X6_shareNow F x1 σ11) fun c13 σ12 => some (.inl (some (.int (c8 - c13))), σ12)) else (f_X6_moved_b53 F  σ1)
set_option maxRecDepth 20000 in
theorem s_X6_moved_b46 {l : Launch} {E : kE} (hj : kEj E) (hn : kNorm E) (hl : l.stackTraces = false) {C : kC} {Q : kR → State → Prop} (hk : kOk (C, E, Q) cX6_moved RX6 4) (he : kEnd (C, E, Q) (some .int) id 0) (hro : kRo C l (7) (172) 0) (F : Nat) : ∀ (x1 : Int32) (x2 : Int32) (t1 : Int32)  (σ : kS), Sm (C, E, Q) 4 0 46 [(0, .ref (kad E 48 0)), (1, .int x1), (2, .int x2)] [.int t1, .ref (kad E 48 0)] σ (f_X6_moved_b46 F x1 x2 t1 σ) := by
  intro x1 x2 t1  σ
  unfold f_X6_moved_b46
  refine k_iconst (v := 2) hk dX6_moved_46 (by decide) ?_
  refine k_callVi (As := [.int t1, .int 2]) (rest := []) hk he hro (c_X6_bad hj hn hl F t1 2  σ) dX6_moved_47 cw_RX6_220 rfl (by decide) kc6 rfl ⟨by decide, by decide⟩ (by decide) rfl (Nat.le_of_ble_eq_true rfl) (fun c2 σ1 => ?_)
  refine k_if_eq hk dX6_moved_50 55 (by decide) (fun h3 => ?_) (fun h3 => ?_)
  · refine k_aload_n hk dX6_moved_55 0 rfl ?_
    refine k_aload_n hk dX6_moved_56 0 rfl ?_
    refine k_callVi (As := []) (rest := [.ref (kad E 48 0)]) hk he hro (c_X6_allRows hj hn hl F   σ1) dX6_moved_57 cw_RX6_320 rfl (by decide) kc6 rfl ⟨by decide, by decide⟩ (by decide) rfl (Nat.le_of_ble_eq_true rfl) (fun c5 σ4 => ?_)
    refine k_iconst (v := 1) hk dX6_moved_60 (by decide) ?_
    refine k_callVv (As := [.int c5, .int 1]) (rest := []) hk he hro (c_X6_findOdds hj hn hl F c5 1  σ4) dX6_moved_61 cw_RX6_323 rfl (by decide) kc6 rfl ⟨by decide, by decide⟩ (by decide) rfl (Nat.le_of_ble_eq_true rfl) (fun σ6 => ?_)
    refine k_aload_n hk dX6_moved_64 0 rfl ?_
    refine k_iload_n hk dX6_moved_65 1 rfl ?_
    refine k_callVi (As := [.int x1]) (rest := []) hk he hro (c_X6_shareNow hj hn hl F x1  σ6) dX6_moved_66 cw_RX6_327 rfl (by decide) kc6 rfl ⟨by decide, by decide⟩ (by decide) rfl (Nat.le_of_ble_eq_true rfl) (fun c8 σ7 => ?_)
    refine k_istore_n (lv' := [(3, .int c8), (0, .ref (kad E 48 0)), (1, .int x1), (2, .int x2)]) hk dX6_moved_69 (by decide) rfl ?_
    refine k_aload_n hk dX6_moved_70 1 rfl ?_
    refine k_aload_n hk dX6_moved_71 1 rfl ?_
    refine k_callVi (As := []) (rest := [.ref (kad E 48 0)]) hk he hro (c_X6_allRows hj hn hl F   σ7) dX6_moved_72 cw_RX6_320 rfl (by decide) kc6 rfl ⟨by decide, by decide⟩ (by decide) rfl (Nat.le_of_ble_eq_true rfl) (fun c10 σ9 => ?_)
    refine k_iconst (v := 1) hk dX6_moved_75 (by decide) ?_
    refine k_iload_n hk dX6_moved_76 3 rfl ?_
    refine k_ishl hk dX6_moved_77 ?_
    refine k_iconst (v := (-1)) hk dX6_moved_78 (by decide) ?_
    refine k_ixor hk dX6_moved_79 ?_
    refine k_iand hk dX6_moved_80 ?_
    refine k_iconst (v := 1) hk dX6_moved_81 (by decide) ?_
    refine k_callVv (As := [.int (c10 &&& ((1 <<< (x2 &&& 31)) ^^^ (-1))), .int 1]) (rest := []) hk he hro (c_X6_findOdds hj hn hl F (c10 &&& ((1 <<< (x2 &&& 31)) ^^^ (-1))) 1  σ9) dX6_moved_82 cw_RX6_323 rfl (by decide) kc6 rfl ⟨by decide, by decide⟩ (by decide) rfl (Nat.le_of_ble_eq_true rfl) (fun σ11 => ?_)
    refine k_iload_n hk dX6_moved_85 0 rfl ?_
    refine k_aload_n hk dX6_moved_86 1 rfl ?_
    refine k_iload_n hk dX6_moved_87 2 rfl ?_
    refine k_callVi (As := [.int x1]) (rest := [.int c8]) hk he hro (c_X6_shareNow hj hn hl F x1  σ11) dX6_moved_88 cw_RX6_327 rfl (by decide) kc6 rfl ⟨by decide, by decide⟩ (by decide) rfl (Nat.le_of_ble_eq_true rfl) (fun c13 σ12 => ?_)
    refine k_isub hk dX6_moved_91 ?_
    exact k_ireturn hk he dX6_moved_92 (by decide)
  · exact k_sub [] rfl (s_X6_moved_b53 hj hn hl hk he hro F    σ1)
def f_X6_moved_b19 (F : Nat) (x1 : Int32) (x2 : Int32) (t1 : Int32) (σ : kS) : Option kR := kBi (f_X6_bad F t1 1 σ) fun c15 σ14 => if c15 = 0 then (kBi (f_X6_in F x2 0 ((σ14.1 48 0 43) - 1) σ14) fun c18 σ17 => if c18 = 0 then (f_X6_moved_b46 F x1 x2 1 σ17) else (f_X6_moved_b46 F x1 x2 0 σ17)) else (f_X6_moved_b53 F  σ14)
set_option maxRecDepth 20000 in
theorem s_X6_moved_b19 {l : Launch} {E : kE} (hj : kEj E) (hn : kNorm E) (hl : l.stackTraces = false) {C : kC} {Q : kR → State → Prop} (hk : kOk (C, E, Q) cX6_moved RX6 4) (he : kEnd (C, E, Q) (some .int) id 0) (hro : kRo C l (7) (172) 0) (F : Nat) : ∀ (x1 : Int32) (x2 : Int32) (t1 : Int32)  (σ : kS), Sm (C, E, Q) 4 0 19 [(0, .ref (kad E 48 0)), (1, .int x1), (2, .int x2)] [.int t1, .ref (kad E 48 0)] σ (f_X6_moved_b19 F x1 x2 t1 σ) := by
  intro x1 x2 t1  σ
  unfold f_X6_moved_b19
  refine k_iconst (v := 1) hk dX6_moved_19 (by decide) ?_
  refine k_callVi (As := [.int t1, .int 1]) (rest := []) hk he hro (c_X6_bad hj hn hl F t1 1  σ) dX6_moved_20 cw_RX6_220 rfl (by decide) kc6 rfl ⟨by decide, by decide⟩ (by decide) rfl (Nat.le_of_ble_eq_true rfl) (fun c15 σ14 => ?_)
  refine k_if_ne hk dX6_moved_23 53 (by decide) (fun h16 => ?_) (fun h16 => ?_)
  · exact k_sub [] rfl (s_X6_moved_b53 hj hn hl hk he hro F    σ14)
  · refine k_aload_n hk dX6_moved_26 0 rfl ?_
    refine k_iload_n hk dX6_moved_27 2 rfl ?_
    refine k_iconst (v := 0) hk dX6_moved_28 (by decide) ?_
    refine k_aload_n hk dX6_moved_29 0 rfl ?_
    refine k_getf (k := 43) hk dX6_moved_30 rfl (by decide) kc6 (by decide) fl_RX6_294 rfl ?_
    refine k_iconst (v := 1) hk dX6_moved_33 (by decide) ?_
    refine k_isub hk dX6_moved_34 ?_
    refine k_callSi (As := [.int x2, .int 0, .int ((σ14.1 48 0 43) - 1)]) (rest := [.ref (kad E 48 0)]) hk he hro (c_X6_in hj hn hl F x2 0 ((σ14.1 48 0 43) - 1)  σ14) dX6_moved_35 cw_RX6_150 ⟨by decide, by decide⟩ (by decide) rfl (Nat.le_of_ble_eq_true rfl) (fun c18 σ17 => ?_)
    refine k_if_ne hk dX6_moved_38 45 (by decide) (fun h19 => ?_) (fun h19 => ?_)
    · refine k_iconst (v := 0) hk dX6_moved_45 (by decide) ?_
      exact k_sub [0, 1, 2] rfl (s_X6_moved_b46 hj hn hl hk he hro F  x1 x2 0  σ17)
    · refine k_iconst (v := 1) hk dX6_moved_41 (by decide) ?_
      refine k_goto hk dX6_moved_42 46 (by decide) ?_
      exact k_sub [0, 1, 2] rfl (s_X6_moved_b46 hj hn hl hk he hro F  x1 x2 1  σ17)
def f_X6_moved (F : Nat) (a1 : Int32) (a2 : Int32) (σ : kS) : Option kR := kb (kU σ 48 0 0 0) fun σ20 => kBi (f_X6_isWhy F a1 σ20) fun c22 σ21 => if c22 = 0 then (f_X6_moved_b19 F a1 a2 1 σ21) else (f_X6_moved_b19 F a1 a2 0 σ21)
set_option maxRecDepth 20000 in
theorem c_X6_moved {l : Launch} {E : kE} (hj : kEj E) (hn : kNorm E) (hl : l.stackTraces = false) (F : Nat) (a1 : Int32) (a2 : Int32)  (σ : kS) : kMet l E yX6_moved cX6_moved 4 (some .int) (7) (172) 0 id [.ref (kad E 48 0), .int a1, .int a2] σ (f_X6_moved F a1 a2 σ) := by
  refine k_met hj hn hl (by decide) (Nat.le_of_ble_eq_true rfl) (fun C Q hk he hro => ?_)
  have hk : kOk (C, E, Q) cX6_moved RX6 4 := hk
  show Sm (C, E, Q) 4 0 0 [(0, .ref (kad E 48 0)), (1, .int a1), (2, .int a2)] [] σ _
  unfold f_X6_moved
  refine k_aload_n hk dX6_moved_0 0 rfl ?_
  refine k_iconst (v := 0) hk dX6_moved_1 (by decide) ?_
  refine k_putf (k := 0) hk dX6_moved_2 rfl (by decide) kc6 (by decide) fl_RX6_113 rfl rfl rfl rfl (fun σ20 => ?_)
  refine k_aload_n hk dX6_moved_5 0 rfl ?_
  refine k_aload_n hk dX6_moved_6 0 rfl ?_
  refine k_iload_n hk dX6_moved_7 1 rfl ?_
  refine k_callVi (As := [.int a1]) (rest := [.ref (kad E 48 0)]) hk he hro (c_X6_isWhy hj hn hl F a1  σ20) dX6_moved_8 cw_RX6_234 rfl (by decide) kc6 rfl ⟨by decide, by decide⟩ (by decide) rfl (Nat.le_of_ble_eq_true rfl) (fun c22 σ21 => ?_)
  refine k_if_ne hk dX6_moved_11 18 (by decide) (fun h23 => ?_) (fun h23 => ?_)
  · refine k_iconst (v := 0) hk dX6_moved_18 (by decide) ?_
    exact k_sub [0, 1, 2] rfl (s_X6_moved_b19 hj hn hl hk he hro F  a1 a2 0  σ21)
  · refine k_iconst (v := 1) hk dX6_moved_14 (by decide) ?_
    refine k_goto hk dX6_moved_15 19 (by decide) ?_
    exact k_sub [0, 1, 2] rfl (s_X6_moved_b19 hj hn hl hk he hro F  a1 a2 1  σ21)
def f_X6_inquiry_b81 (F : Nat) (t0 : Int32) (σ : kS) : Option kR := some (.inl (some (.int t0)), σ)
set_option maxRecDepth 20000 in
theorem s_X6_inquiry_b81 {l : Launch} {E : kE} (hj : kEj E) (hn : kNorm E) (hl : l.stackTraces = false) {C : kC} {Q : kR → State → Prop} (hk : kOk (C, E, Q) cX6_inquiry RX6 3) (he : kEnd (C, E, Q) (some .int) id 0) (hro : kRo C l (7) (172) 0) (F : Nat) : ∀ (t0 : Int32)  (σ : kS), Sm (C, E, Q) 3 0 81 [] [.int t0] σ (f_X6_inquiry_b81 F t0 σ) := by
  intro t0  σ
  unfold f_X6_inquiry_b81
  exact k_ireturn hk he dX6_inquiry_81 (by decide)
def f_X6_inquiry_b56 (F : Nat)  (σ : kS) : Option kR := some (.inl (some (.int 0)), σ)
set_option maxRecDepth 20000 in
theorem s_X6_inquiry_b56 {l : Launch} {E : kE} (hj : kEj E) (hn : kNorm E) (hl : l.stackTraces = false) {C : kC} {Q : kR → State → Prop} (hk : kOk (C, E, Q) cX6_inquiry RX6 3) (he : kEnd (C, E, Q) (some .int) id 0) (hro : kRo C l (7) (172) 0) (F : Nat) : ∀   (σ : kS), Sm (C, E, Q) 3 0 56 [] [] σ (f_X6_inquiry_b56 F  σ) := by
  intro   σ
  unfold f_X6_inquiry_b56
  refine k_iconst (v := 0) hk dX6_inquiry_56 (by decide) ?_
  exact k_ireturn hk he dX6_inquiry_57 (by decide)
def f_X6_inquiry_b49 (F : Nat) (x1 : Int32) (x2 : Int32) (t1 : Int32) (σ : kS) : Option kR := kBi (f_X6_bad F t1 2 σ) fun c2 σ1 => if c2 = 0 then (kBv (f_X6_findOdds F x1 0 σ1) fun σ4 => if x2 = (-1) then (kBi (f_X6_bestNow F  σ4) fun c9 σ8 => f_X6_inquiry_b81 F c9 σ8) else (kBi (f_X6_shareNow F x2 σ4) fun c7 σ6 => f_X6_inquiry_b81 F c7 σ6)) else (f_X6_inquiry_b56 F  σ1)
set_option maxRecDepth 20000 in
theorem s_X6_inquiry_b49 {l : Launch} {E : kE} (hj : kEj E) (hn : kNorm E) (hl : l.stackTraces = false) {C : kC} {Q : kR → State → Prop} (hk : kOk (C, E, Q) cX6_inquiry RX6 3) (he : kEnd (C, E, Q) (some .int) id 0) (hro : kRo C l (7) (172) 0) (F : Nat) : ∀ (x1 : Int32) (x2 : Int32) (t1 : Int32)  (σ : kS), Sm (C, E, Q) 3 0 49 [(0, .ref (kad E 48 0)), (1, .int x1), (2, .int x2)] [.int t1, .ref (kad E 48 0)] σ (f_X6_inquiry_b49 F x1 x2 t1 σ) := by
  intro x1 x2 t1  σ
  unfold f_X6_inquiry_b49
  refine k_iconst (v := 2) hk dX6_inquiry_49 (by decide) ?_
  refine k_callVi (As := [.int t1, .int 2]) (rest := []) hk he hro (c_X6_bad hj hn hl F t1 2  σ) dX6_inquiry_50 cw_RX6_220 rfl (by decide) kc6 rfl ⟨by decide, by decide⟩ (by decide) rfl (Nat.le_of_ble_eq_true rfl) (fun c2 σ1 => ?_)
  refine k_if_eq hk dX6_inquiry_53 58 (by decide) (fun h3 => ?_) (fun h3 => ?_)
  · refine k_aload_n hk dX6_inquiry_58 0 rfl ?_
    refine k_iload_n hk dX6_inquiry_59 1 rfl ?_
    refine k_iconst (v := 0) hk dX6_inquiry_60 (by decide) ?_
    refine k_callVv (As := [.int x1, .int 0]) (rest := []) hk he hro (c_X6_findOdds hj hn hl F x1 0  σ1) dX6_inquiry_61 cw_RX6_323 rfl (by decide) kc6 rfl ⟨by decide, by decide⟩ (by decide) rfl (Nat.le_of_ble_eq_true rfl) (fun σ4 => ?_)
    refine k_iload_n hk dX6_inquiry_64 2 rfl ?_
    refine k_iconst (v := (-1)) hk dX6_inquiry_65 (by decide) ?_
    refine k_icmp_ne hk dX6_inquiry_66 76 (by decide) (fun h5 => ?_) (fun h5 => ?_)
    · refine k_aload_n hk dX6_inquiry_76 0 rfl ?_
      refine k_iload_n hk dX6_inquiry_77 2 rfl ?_
      refine k_callVi (As := [.int x2]) (rest := []) hk he hro (c_X6_shareNow hj hn hl F x2  σ4) dX6_inquiry_78 cw_RX6_327 rfl (by decide) kc6 rfl ⟨by decide, by decide⟩ (by decide) rfl (Nat.le_of_ble_eq_true rfl) (fun c7 σ6 => ?_)
      exact k_sub [] rfl (s_X6_inquiry_b81 hj hn hl hk he hro F  c7  σ6)
    · refine k_aload_n hk dX6_inquiry_69 0 rfl ?_
      refine k_callVi (As := []) (rest := []) hk he hro (c_X6_bestNow hj hn hl F   σ4) dX6_inquiry_70 cw_RX6_330 rfl (by decide) kc6 rfl ⟨by decide, by decide⟩ (by decide) rfl (Nat.le_of_ble_eq_true rfl) (fun c9 σ8 => ?_)
      refine k_goto hk dX6_inquiry_73 81 (by decide) ?_
      exact k_sub [] rfl (s_X6_inquiry_b81 hj hn hl hk he hro F  c9  σ8)
  · exact k_sub [] rfl (s_X6_inquiry_b56 hj hn hl hk he hro F    σ1)
def f_X6_inquiry_b24 (F : Nat) (x1 : Int32) (x2 : Int32) (t1 : Int32) (σ : kS) : Option kR := kBi (f_X6_bad F t1 1 σ) fun c11 σ10 => if c11 = 0 then (kBi (f_X6_allRows F  σ10) fun c14 σ13 => kBi (f_X6_in F x1 0 c14 σ13) fun c16 σ15 => if c16 = 0 then (f_X6_inquiry_b49 F x1 x2 1 σ15) else (f_X6_inquiry_b49 F x1 x2 0 σ15)) else (f_X6_inquiry_b56 F  σ10)
set_option maxRecDepth 20000 in
theorem s_X6_inquiry_b24 {l : Launch} {E : kE} (hj : kEj E) (hn : kNorm E) (hl : l.stackTraces = false) {C : kC} {Q : kR → State → Prop} (hk : kOk (C, E, Q) cX6_inquiry RX6 3) (he : kEnd (C, E, Q) (some .int) id 0) (hro : kRo C l (7) (172) 0) (F : Nat) : ∀ (x1 : Int32) (x2 : Int32) (t1 : Int32)  (σ : kS), Sm (C, E, Q) 3 0 24 [(0, .ref (kad E 48 0)), (1, .int x1), (2, .int x2)] [.int t1, .ref (kad E 48 0)] σ (f_X6_inquiry_b24 F x1 x2 t1 σ) := by
  intro x1 x2 t1  σ
  unfold f_X6_inquiry_b24
  refine k_iconst (v := 1) hk dX6_inquiry_24 (by decide) ?_
  refine k_callVi (As := [.int t1, .int 1]) (rest := []) hk he hro (c_X6_bad hj hn hl F t1 1  σ) dX6_inquiry_25 cw_RX6_220 rfl (by decide) kc6 rfl ⟨by decide, by decide⟩ (by decide) rfl (Nat.le_of_ble_eq_true rfl) (fun c11 σ10 => ?_)
  refine k_if_ne hk dX6_inquiry_28 56 (by decide) (fun h12 => ?_) (fun h12 => ?_)
  · exact k_sub [] rfl (s_X6_inquiry_b56 hj hn hl hk he hro F    σ10)
  · refine k_aload_n hk dX6_inquiry_31 0 rfl ?_
    refine k_iload_n hk dX6_inquiry_32 1 rfl ?_
    refine k_iconst (v := 0) hk dX6_inquiry_33 (by decide) ?_
    refine k_aload_n hk dX6_inquiry_34 0 rfl ?_
    refine k_callVi (As := []) (rest := [.int 0, .int x1, .ref (kad E 48 0)]) hk he hro (c_X6_allRows hj hn hl F   σ10) dX6_inquiry_35 cw_RX6_320 rfl (by decide) kc6 rfl ⟨by decide, by decide⟩ (by decide) rfl (Nat.le_of_ble_eq_true rfl) (fun c14 σ13 => ?_)
    refine k_callSi (As := [.int x1, .int 0, .int c14]) (rest := [.ref (kad E 48 0)]) hk he hro (c_X6_in hj hn hl F x1 0 c14  σ13) dX6_inquiry_38 cw_RX6_150 ⟨by decide, by decide⟩ (by decide) rfl (Nat.le_of_ble_eq_true rfl) (fun c16 σ15 => ?_)
    refine k_if_ne hk dX6_inquiry_41 48 (by decide) (fun h17 => ?_) (fun h17 => ?_)
    · refine k_iconst (v := 0) hk dX6_inquiry_48 (by decide) ?_
      exact k_sub [0, 1, 2] rfl (s_X6_inquiry_b49 hj hn hl hk he hro F  x1 x2 0  σ15)
    · refine k_iconst (v := 1) hk dX6_inquiry_44 (by decide) ?_
      refine k_goto hk dX6_inquiry_45 49 (by decide) ?_
      exact k_sub [0, 1, 2] rfl (s_X6_inquiry_b49 hj hn hl hk he hro F  x1 x2 1  σ15)
def f_X6_inquiry_b23 (F : Nat) (x1 : Int32) (x2 : Int32) (σ : kS) : Option kR := f_X6_inquiry_b24 F x1 x2 0 σ
set_option maxRecDepth 20000 in
theorem s_X6_inquiry_b23 {l : Launch} {E : kE} (hj : kEj E) (hn : kNorm E) (hl : l.stackTraces = false) {C : kC} {Q : kR → State → Prop} (hk : kOk (C, E, Q) cX6_inquiry RX6 3) (he : kEnd (C, E, Q) (some .int) id 0) (hro : kRo C l (7) (172) 0) (F : Nat) : ∀ (x1 : Int32) (x2 : Int32)  (σ : kS), Sm (C, E, Q) 3 0 23 [(0, .ref (kad E 48 0)), (1, .int x1), (2, .int x2)] [.ref (kad E 48 0)] σ (f_X6_inquiry_b23 F x1 x2 σ) := by
  intro x1 x2  σ
  unfold f_X6_inquiry_b23
  refine k_iconst (v := 0) hk dX6_inquiry_23 (by decide) ?_
  exact k_sub [0, 1, 2] rfl (s_X6_inquiry_b24 hj hn hl hk he hro F  x1 x2 0  σ)
def f_X6_inquiry (F : Nat) (a1 : Int32) (a2 : Int32) (σ : kS) : Option kR := kb (kU σ 48 0 0 0) fun σ18 => if a2 = (-1) then (f_X6_inquiry_b23 F a1 a2 σ18) else (kBi (f_X6_isWhy F a2 σ18) fun c21 σ20 => if c21 = 0 then (f_X6_inquiry_b24 F a1 a2 1 σ20) else (f_X6_inquiry_b23 F a1 a2 σ20))
set_option maxRecDepth 20000 in
theorem c_X6_inquiry {l : Launch} {E : kE} (hj : kEj E) (hn : kNorm E) (hl : l.stackTraces = false) (F : Nat) (a1 : Int32) (a2 : Int32)  (σ : kS) : kMet l E yX6_inquiry cX6_inquiry 3 (some .int) (7) (172) 0 id [.ref (kad E 48 0), .int a1, .int a2] σ (f_X6_inquiry F a1 a2 σ) := by
  refine k_met hj hn hl (by decide) (Nat.le_of_ble_eq_true rfl) (fun C Q hk he hro => ?_)
  have hk : kOk (C, E, Q) cX6_inquiry RX6 3 := hk
  show Sm (C, E, Q) 3 0 0 [(0, .ref (kad E 48 0)), (1, .int a1), (2, .int a2)] [] σ _
  unfold f_X6_inquiry
  refine k_aload_n hk dX6_inquiry_0 0 rfl ?_
  refine k_iconst (v := 0) hk dX6_inquiry_1 (by decide) ?_
  refine k_putf (k := 0) hk dX6_inquiry_2 rfl (by decide) kc6 (by decide) fl_RX6_113 rfl rfl rfl rfl (fun σ18 => ?_)
  refine k_aload_n hk dX6_inquiry_5 0 rfl ?_
  refine k_iload_n hk dX6_inquiry_6 2 rfl ?_
  refine k_iconst (v := (-1)) hk dX6_inquiry_7 (by decide) ?_
  refine k_icmp_eq hk dX6_inquiry_8 23 (by decide) (fun h19 => ?_) (fun h19 => ?_)
  · exact k_sub [0, 1, 2] rfl (s_X6_inquiry_b23 hj hn hl hk he hro F  a1 a2  σ18)
  · refine k_aload_n hk dX6_inquiry_11 0 rfl ?_
    refine k_iload_n hk dX6_inquiry_12 2 rfl ?_
    refine k_callVi (As := [.int a2]) (rest := [.ref (kad E 48 0)]) hk he hro (c_X6_isWhy hj hn hl F a2  σ18) dX6_inquiry_13 cw_RX6_234 rfl (by decide) kc6 rfl ⟨by decide, by decide⟩ (by decide) rfl (Nat.le_of_ble_eq_true rfl) (fun c21 σ20 => ?_)
    refine k_if_ne hk dX6_inquiry_16 23 (by decide) (fun h22 => ?_) (fun h22 => ?_)
    · exact k_sub [0, 1, 2] rfl (s_X6_inquiry_b23 hj hn hl hk he hro F  a1 a2  σ20)
    · refine k_iconst (v := 1) hk dX6_inquiry_19 (by decide) ?_
      refine k_goto hk dX6_inquiry_20 24 (by decide) ?_
      exact k_sub [0, 1, 2] rfl (s_X6_inquiry_b24 hj hn hl hk he hro F  a1 a2 1  σ20)
def f_X6_before_b32 (F : Nat) (x1 : Int32) (x2 : Int32) (t1 : Int32) (σ : kS) : Option kR := kBi (f_X6_bad F t1 1 σ) fun c2 σ1 => if c2 = 0 then (if (σ1.1 48 0 44) = 10 then (some (.inl (some (.int (-1))), σ1)) else (kg (kin (σ1.1 48 0 44) 10) (kb ((σ1.1 48 0 44).toNatClampNeg) fun j5 => kb (kU σ1 84 j5 0 x1) fun σ6 => kg (kin (σ6.1 48 0 44) 10) (kb ((σ6.1 48 0 44).toNatClampNeg) fun j7 => kb (kU σ6 84 j7 1 x2) fun σ8 => kb (kU σ8 48 0 44 ((σ8.1 48 0 44) + 1)) fun σ9 => some (.inl (some (.int (σ9.1 48 0 44))), σ9))))) else (some (.inl (some (.int 0)), σ1))
set_option maxRecDepth 20000 in
theorem s_X6_before_b32 {l : Launch} {E : kE} (hj : kEj E) (hn : kNorm E) (hl : l.stackTraces = false) {C : kC} {Q : kR → State → Prop} (hk : kOk (C, E, Q) cX6_before RX6 3) (he : kEnd (C, E, Q) (some .int) id 0) (hro : kRo C l (1) (22) 0) (F : Nat) : ∀ (x1 : Int32) (x2 : Int32) (t1 : Int32)  (σ : kS), Sm (C, E, Q) 3 0 32 [(0, .ref (kad E 48 0)), (1, .int x1), (2, .int x2)] [.int t1, .ref (kad E 48 0)] σ (f_X6_before_b32 F x1 x2 t1 σ) := by
  intro x1 x2 t1  σ
  unfold f_X6_before_b32
  refine k_iconst (v := 1) hk dX6_before_32 (by decide) ?_
  refine k_callVi (As := [.int t1, .int 1]) (rest := []) hk he hro (c_X6_bad hj hn hl F t1 1  σ) dX6_before_33 cw_RX6_220 rfl (by decide) kc6 rfl ⟨by decide, by decide⟩ (by decide) rfl (Nat.le_of_ble_eq_true rfl) (fun c2 σ1 => ?_)
  refine k_if_eq hk dX6_before_36 41 (by decide) (fun h3 => ?_) (fun h3 => ?_)
  · refine k_aload_n hk dX6_before_41 0 rfl ?_
    refine k_getf (k := 44) hk dX6_before_42 rfl (by decide) kc6 (by decide) fl_RX6_306 rfl ?_
    refine k_bipush (v := 10) hk dX6_before_45 (by decide) ?_
    refine k_icmp_ne hk dX6_before_47 52 (by decide) (fun h4 => ?_) (fun h4 => ?_)
    · refine k_aload_n hk dX6_before_52 0 rfl ?_
      refine k_getr (k := 48) 83 0 hk dX6_before_53 rfl (by decide) kc6 (by decide) fl_RX6_100 rfl rfl ?_
      refine k_aload_n hk dX6_before_56 0 rfl ?_
      refine k_getf (k := 44) hk dX6_before_57 rfl (by decide) kc6 (by decide) fl_RX6_306 rfl ?_
      refine k_aaldj (g' := 84) (fun z => z) hk dX6_before_60 rfl rfl rfl (by decide) (fun z => rfl) (by decide) (fun j5 hj5 => ?_)
      refine k_iconst (v := 0) hk dX6_before_61 (by decide) ?_
      refine k_iload_n hk dX6_before_62 1 rfl ?_
      refine k_iast_k (kk := 0) hk dX6_before_63 rfl hj5 (by decide) (by decide) (fun σ6 => ?_)
      refine k_aload_n hk dX6_before_64 0 rfl ?_
      refine k_getr (k := 48) 83 0 hk dX6_before_65 rfl (by decide) kc6 (by decide) fl_RX6_100 rfl rfl ?_
      refine k_aload_n hk dX6_before_68 0 rfl ?_
      refine k_getf (k := 44) hk dX6_before_69 rfl (by decide) kc6 (by decide) fl_RX6_306 rfl ?_
      refine k_aaldj (g' := 84) (fun z => z) hk dX6_before_72 rfl rfl rfl (by decide) (fun z => rfl) (by decide) (fun j7 hj7 => ?_)
      refine k_iconst (v := 1) hk dX6_before_73 (by decide) ?_
      refine k_iload_n hk dX6_before_74 2 rfl ?_
      refine k_iast_k (kk := 1) hk dX6_before_75 rfl hj7 (by decide) (by decide) (fun σ8 => ?_)
      refine k_aload_n hk dX6_before_76 0 rfl ?_
      refine k_dup hk dX6_before_77 rfl ?_
      refine k_getf (k := 44) hk dX6_before_78 rfl (by decide) kc6 (by decide) fl_RX6_306 rfl ?_
      refine k_iconst (v := 1) hk dX6_before_81 (by decide) ?_
      refine k_iadd hk dX6_before_82 ?_
      refine k_putf (k := 44) hk dX6_before_83 rfl (by decide) kc6 (by decide) fl_RX6_306 rfl rfl rfl rfl (fun σ9 => ?_)
      refine k_aload_n hk dX6_before_86 0 rfl ?_
      refine k_getf (k := 44) hk dX6_before_87 rfl (by decide) kc6 (by decide) fl_RX6_306 rfl ?_
      exact k_ireturn hk he dX6_before_90 (by decide)
    · refine k_iconst (v := (-1)) hk dX6_before_50 (by decide) ?_
      exact k_ireturn hk he dX6_before_51 (by decide)
  · refine k_iconst (v := 0) hk dX6_before_39 (by decide) ?_
    exact k_ireturn hk he dX6_before_40 (by decide)
def f_X6_before_b27 (F : Nat) (x1 : Int32) (x2 : Int32) (σ : kS) : Option kR := f_X6_before_b32 F x1 x2 1 σ
set_option maxRecDepth 20000 in
theorem s_X6_before_b27 {l : Launch} {E : kE} (hj : kEj E) (hn : kNorm E) (hl : l.stackTraces = false) {C : kC} {Q : kR → State → Prop} (hk : kOk (C, E, Q) cX6_before RX6 3) (he : kEnd (C, E, Q) (some .int) id 0) (hro : kRo C l (1) (22) 0) (F : Nat) : ∀ (x1 : Int32) (x2 : Int32)  (σ : kS), Sm (C, E, Q) 3 0 27 [(0, .ref (kad E 48 0)), (1, .int x1), (2, .int x2)] [.ref (kad E 48 0)] σ (f_X6_before_b27 F x1 x2 σ) := by
  intro x1 x2  σ
  unfold f_X6_before_b27
  refine k_iconst (v := 1) hk dX6_before_27 (by decide) ?_
  refine k_goto hk dX6_before_28 32 (by decide) ?_
  exact k_sub [0, 1, 2] rfl (s_X6_before_b32 hj hn hl hk he hro F  x1 x2 1  σ)
def f_X6_before (F : Nat) (a1 : Int32) (a2 : Int32) (σ : kS) : Option kR := kb (kU σ 48 0 0 0) fun σ10 => kBi (f_X6_in F a1 0 99 σ10) fun c12 σ11 => if c12 = 0 then (f_X6_before_b27 F a1 a2 σ11) else (kBi (f_X6_in F a2 0 999 σ11) fun c15 σ14 => if c15 = 0 then (f_X6_before_b27 F a1 a2 σ14) else (f_X6_before_b32 F a1 a2 0 σ14))
set_option maxRecDepth 20000 in
theorem c_X6_before {l : Launch} {E : kE} (hj : kEj E) (hn : kNorm E) (hl : l.stackTraces = false) (F : Nat) (a1 : Int32) (a2 : Int32)  (σ : kS) : kMet l E yX6_before cX6_before 3 (some .int) (1) (22) 0 id [.ref (kad E 48 0), .int a1, .int a2] σ (f_X6_before F a1 a2 σ) := by
  refine k_met hj hn hl (by decide) (Nat.le_of_ble_eq_true rfl) (fun C Q hk he hro => ?_)
  have hk : kOk (C, E, Q) cX6_before RX6 3 := hk
  show Sm (C, E, Q) 3 0 0 [(0, .ref (kad E 48 0)), (1, .int a1), (2, .int a2)] [] σ _
  unfold f_X6_before
  refine k_aload_n hk dX6_before_0 0 rfl ?_
  refine k_iconst (v := 0) hk dX6_before_1 (by decide) ?_
  refine k_putf (k := 0) hk dX6_before_2 rfl (by decide) kc6 (by decide) fl_RX6_113 rfl rfl rfl rfl (fun σ10 => ?_)
  refine k_aload_n hk dX6_before_5 0 rfl ?_
  refine k_iload_n hk dX6_before_6 1 rfl ?_
  refine k_iconst (v := 0) hk dX6_before_7 (by decide) ?_
  refine k_bipush (v := 99) hk dX6_before_8 (by decide) ?_
  refine k_callSi (As := [.int a1, .int 0, .int 99]) (rest := [.ref (kad E 48 0)]) hk he hro (c_X6_in hj hn hl F a1 0 99  σ10) dX6_before_10 cw_RX6_150 ⟨by decide, by decide⟩ (by decide) rfl (Nat.le_of_ble_eq_true rfl) (fun c12 σ11 => ?_)
  refine k_if_eq hk dX6_before_13 27 (by decide) (fun h13 => ?_) (fun h13 => ?_)
  · exact k_sub [0, 1, 2] rfl (s_X6_before_b27 hj hn hl hk he hro F  a1 a2  σ11)
  · refine k_iload_n hk dX6_before_16 2 rfl ?_
    refine k_iconst (v := 0) hk dX6_before_17 (by decide) ?_
    refine k_sipush (v := 999) hk dX6_before_18 (by decide) ?_
    refine k_callSi (As := [.int a2, .int 0, .int 999]) (rest := [.ref (kad E 48 0)]) hk he hro (c_X6_in hj hn hl F a2 0 999  σ11) dX6_before_21 cw_RX6_150 ⟨by decide, by decide⟩ (by decide) rfl (Nat.le_of_ble_eq_true rfl) (fun c15 σ14 => ?_)
    refine k_if_ne hk dX6_before_24 31 (by decide) (fun h16 => ?_) (fun h16 => ?_)
    · refine k_iconst (v := 0) hk dX6_before_31 (by decide) ?_
      exact k_sub [0, 1, 2] rfl (s_X6_before_b32 hj hn hl hk he hro F  a1 a2 0  σ14)
    · exact k_sub [0, 1, 2] rfl (s_X6_before_b27 hj hn hl hk he hro F  a1 a2  σ14)
def f_X6_burnt_b19 (F : Nat) (x1 : Int32) (t1 : Int32) (σ : kS) : Option kR := kBi (f_X6_bad F t1 1 σ) fun c2 σ1 => if c2 = 0 then (kBi (f_X6_burntOf F x1 σ1) fun c5 σ4 => some (.inl (some (.int c5)), σ4)) else (some (.inl (some (.int 0)), σ1))
set_option maxRecDepth 20000 in
theorem s_X6_burnt_b19 {l : Launch} {E : kE} (hj : kEj E) (hn : kNorm E) (hl : l.stackTraces = false) {C : kC} {Q : kR → State → Prop} (hk : kOk (C, E, Q) cX6_burnt RX6 2) (he : kEnd (C, E, Q) (some .int) id 0) (hro : kRo C l (5) (122) 0) (F : Nat) : ∀ (x1 : Int32) (t1 : Int32)  (σ : kS), Sm (C, E, Q) 2 0 19 [(0, .ref (kad E 48 0)), (1, .int x1)] [.int t1, .ref (kad E 48 0)] σ (f_X6_burnt_b19 F x1 t1 σ) := by
  intro x1 t1  σ
  unfold f_X6_burnt_b19
  refine k_iconst (v := 1) hk dX6_burnt_19 (by decide) ?_
  refine k_callVi (As := [.int t1, .int 1]) (rest := []) hk he hro (c_X6_bad hj hn hl F t1 1  σ) dX6_burnt_20 cw_RX6_220 rfl (by decide) kc6 rfl ⟨by decide, by decide⟩ (by decide) rfl (Nat.le_of_ble_eq_true rfl) (fun c2 σ1 => ?_)
  refine k_if_eq hk dX6_burnt_23 28 (by decide) (fun h3 => ?_) (fun h3 => ?_)
  · refine k_aload_n hk dX6_burnt_28 0 rfl ?_
    refine k_iload_n hk dX6_burnt_29 1 rfl ?_
    refine k_callVi (As := [.int x1]) (rest := []) hk he hro (c_X6_burntOf hj hn hl F x1  σ1) dX6_burnt_30 cw_RX6_309 rfl (by decide) kc6 rfl ⟨by decide, by decide⟩ (by decide) rfl (Nat.le_of_ble_eq_true rfl) (fun c5 σ4 => ?_)
    exact k_ireturn hk he dX6_burnt_33 (by decide)
  · refine k_iconst (v := 0) hk dX6_burnt_26 (by decide) ?_
    exact k_ireturn hk he dX6_burnt_27 (by decide)
def f_X6_burnt (F : Nat) (a1 : Int32) (σ : kS) : Option kR := kb (kU σ 48 0 0 0) fun σ6 => kBi (f_X6_isWhy F a1 σ6) fun c8 σ7 => if c8 = 0 then (f_X6_burnt_b19 F a1 1 σ7) else (f_X6_burnt_b19 F a1 0 σ7)
set_option maxRecDepth 20000 in
theorem c_X6_burnt {l : Launch} {E : kE} (hj : kEj E) (hn : kNorm E) (hl : l.stackTraces = false) (F : Nat) (a1 : Int32)  (σ : kS) : kMet l E yX6_burnt cX6_burnt 2 (some .int) (5) (122) 0 id [.ref (kad E 48 0), .int a1] σ (f_X6_burnt F a1 σ) := by
  refine k_met hj hn hl (by decide) (Nat.le_of_ble_eq_true rfl) (fun C Q hk he hro => ?_)
  have hk : kOk (C, E, Q) cX6_burnt RX6 2 := hk
  show Sm (C, E, Q) 2 0 0 [(0, .ref (kad E 48 0)), (1, .int a1)] [] σ _
  unfold f_X6_burnt
  refine k_aload_n hk dX6_burnt_0 0 rfl ?_
  refine k_iconst (v := 0) hk dX6_burnt_1 (by decide) ?_
  refine k_putf (k := 0) hk dX6_burnt_2 rfl (by decide) kc6 (by decide) fl_RX6_113 rfl rfl rfl rfl (fun σ6 => ?_)
  refine k_aload_n hk dX6_burnt_5 0 rfl ?_
  refine k_aload_n hk dX6_burnt_6 0 rfl ?_
  refine k_iload_n hk dX6_burnt_7 1 rfl ?_
  refine k_callVi (As := [.int a1]) (rest := [.ref (kad E 48 0)]) hk he hro (c_X6_isWhy hj hn hl F a1  σ6) dX6_burnt_8 cw_RX6_234 rfl (by decide) kc6 rfl ⟨by decide, by decide⟩ (by decide) rfl (Nat.le_of_ble_eq_true rfl) (fun c8 σ7 => ?_)
  refine k_if_ne hk dX6_burnt_11 18 (by decide) (fun h9 => ?_) (fun h9 => ?_)
  · refine k_iconst (v := 0) hk dX6_burnt_18 (by decide) ?_
    exact k_sub [0, 1] rfl (s_X6_burnt_b19 hj hn hl hk he hro F  a1 0  σ7)
  · refine k_iconst (v := 1) hk dX6_burnt_14 (by decide) ?_
    refine k_goto hk dX6_burnt_15 19 (by decide) ?_
    exact k_sub [0, 1] rfl (s_X6_burnt_b19 hj hn hl hk he hro F  a1 1  σ7)
