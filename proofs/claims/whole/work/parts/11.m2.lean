def f_X6_fault (F : Nat)  (σ : kS) : Option kR := kb (kU σ 48 0 0 0) fun σ1 => some (.inl (some (.int (σ1.1 48 0 3))), σ1)
set_option maxRecDepth 20000 in
theorem c_X6_fault {l : Launch} {E : kE} (hj : kEj E) (hn : kNorm E) (hl : l.stackTraces = false) (F : Nat)   (σ : kS) : kMet l E yX6_fault cX6_fault 1 (some .int) (0) (0) 0 id [.ref (kad E 48 0)] σ (f_X6_fault F  σ) := by
  refine k_met hj hn hl (by decide) (Nat.le_of_ble_eq_true rfl) (fun C Q hk he hro => ?_)
  have hk : kOk (C, E, Q) cX6_fault RX6 1 := hk
  show Sm (C, E, Q) 1 0 0 [(0, .ref (kad E 48 0))] [] σ _
  unfold f_X6_fault
  refine k_aload_n hk dX6_fault_0 0 rfl ?_
  refine k_iconst (v := 0) hk dX6_fault_1 (by decide) ?_
  refine k_putf (k := 0) hk dX6_fault_2 rfl (by decide) kc6 (by decide) fl_RX6_113 rfl rfl rfl rfl (fun σ1 => ?_)
  refine k_aload_n hk dX6_fault_5 0 rfl ?_
  refine k_getf (k := 3) hk dX6_fault_6 rfl (by decide) kc6 (by decide) fl_RX6_9 rfl ?_
  exact k_ireturn hk he dX6_fault_9 (by decide)
def f_X6_holds_b153 (F : Nat) (t0 : Int32) (σ : kS) : Option kR := kg (narrow .boolean (.int t0) = .int t0) (some (.inl (some (.int t0)), σ))
set_option maxRecDepth 20000 in
theorem s_X6_holds_b153 {l : Launch} {E : kE} (hj : kEj E) (hn : kNorm E) (hl : l.stackTraces = false) {C : kC} {Q : kR → State → Prop} (hk : kOk (C, E, Q) cX6_holds RX6 7) (he : kEnd (C, E, Q) (some .boolean) id 0) (hro : kRo C l (1) (22) 0) (F : Nat) : ∀ (t0 : Int32)  (σ : kS), Sm (C, E, Q) 7 0 153 [] [.int t0] σ (f_X6_holds_b153 F t0 σ) := by
  intro t0  σ
  unfold f_X6_holds_b153
  exact k_zreturn hk he dX6_holds_153 (by decide)
def f_X6_holds_b132 (F : Nat) (rr6 : (Int32 × Int32 × Int32 × Int32) → kS → Option kR) (x1 : Int32) (x3 : Int32) (x4 : Int32) (x5 : Int32) (σ : kS) : Option kR := rr6 (x1, x3, x4, x5 + 1) σ
set_option maxRecDepth 20000 in
theorem s_X6_holds_b132 {l : Launch} {E : kE} (hj : kEj E) (hn : kNorm E) (hl : l.stackTraces = false) {C : kC} {Q : kR → State → Prop} (hk : kOk (C, E, Q) cX6_holds RX6 7) (he : kEnd (C, E, Q) (some .boolean) id 0) (hro : kRo C l (1) (22) 0) (F : Nat) (rr6 : (Int32 × Int32 × Int32 × Int32) → kS → Option kR) (hrr6 : ∀ (x1 : Int32) (x3 : Int32) (x4 : Int32) (x5 : Int32)  (σ : kS), Sm (C, E, Q) 7 0 6 [(0, .ref (kad E 48 0)), (1, .int x1), (3, .int x3), (4, .int x4), (5, .int x5)] [] σ (rr6 (x1, x3, x4, x5) σ)) : ∀ (x1 : Int32) (x3 : Int32) (x4 : Int32) (x5 : Int32)  (σ : kS), Sm (C, E, Q) 7 0 132 [(0, .ref (kad E 48 0)), (1, .int x1), (3, .int x3), (4, .int x4), (5, .int x5)] [] σ (f_X6_holds_b132 F rr6 x1 x3 x4 x5 σ) := by
  intro x1 x3 x4 x5  σ
  unfold f_X6_holds_b132
  refine k_iinc (lv' := [(5, .int (x5 + 1)), (0, .ref (kad E 48 0)), (1, .int x1), (3, .int x3), (4, .int x4)]) (j := 4) (y := x5 + 1) hk dX6_holds_132 rfl rfl (by decide) rfl ?_
  refine k_goto hk dX6_holds_135 6 (by decide) ?_
  exact k_sub [1, 2, 3, 4, 0] rfl (hrr6 x1 x3 x4 (x5 + 1)  σ)
def f_X6_holds_b61 (F : Nat) (rr6 : (Int32 × Int32 × Int32 × Int32) → kS → Option kR) (x1 : Int32) (x3 : Int32) (x4 : Int32) (x5 : Int32) (t1 : Int32) (t2 : Int32) (σ : kS) : Option kR := kg (kin t1 120) (kb (kU σ 59 0 t1.toNatClampNeg t2) fun σ1 => f_X6_holds_b132 F rr6 x1 x3 (x4 + 1) x5 σ1)
set_option maxRecDepth 20000 in
theorem s_X6_holds_b61 {l : Launch} {E : kE} (hj : kEj E) (hn : kNorm E) (hl : l.stackTraces = false) {C : kC} {Q : kR → State → Prop} (hk : kOk (C, E, Q) cX6_holds RX6 7) (he : kEnd (C, E, Q) (some .boolean) id 0) (hro : kRo C l (1) (22) 0) (F : Nat) (rr6 : (Int32 × Int32 × Int32 × Int32) → kS → Option kR) (hrr6 : ∀ (x1 : Int32) (x3 : Int32) (x4 : Int32) (x5 : Int32)  (σ : kS), Sm (C, E, Q) 7 0 6 [(0, .ref (kad E 48 0)), (1, .int x1), (3, .int x3), (4, .int x4), (5, .int x5)] [] σ (rr6 (x1, x3, x4, x5) σ)) : ∀ (x1 : Int32) (x3 : Int32) (x4 : Int32) (x5 : Int32) (t1 : Int32) (t2 : Int32)  (σ : kS), Sm (C, E, Q) 7 0 61 [(0, .ref (kad E 48 0)), (1, .int x1), (3, .int x3), (4, .int x4), (5, .int x5)] [.int t2, .int t1, .ref (kad E 59 0)] σ (f_X6_holds_b61 F rr6 x1 x3 x4 x5 t1 t2 σ) := by
  intro x1 x3 x4 x5 t1 t2  σ
  unfold f_X6_holds_b61
  refine k_iast hk dX6_holds_61 rfl (by decide) (fun h2 σ1 => ?_)
  refine k_iinc (lv' := [(4, .int (x4 + 1)), (0, .ref (kad E 48 0)), (1, .int x1), (3, .int x3), (5, .int x5)]) (j := 3) (y := x4 + 1) hk dX6_holds_62 rfl rfl (by decide) rfl ?_
  refine k_goto hk dX6_holds_65 132 (by decide) ?_
  exact k_sub [1, 2, 3, 0, 4] rfl (s_X6_holds_b132 hj hn hl hk he hro F rr6 hrr6  x1 x3 (x4 + 1) x5  σ1)
def f_X6_holds_b6 (F : Nat) (rr6 : (Int32 × Int32 × Int32 × Int32) → kS → Option kR) (a : (Int32 × Int32 × Int32 × Int32)) (σ : kS) : Option kR := match a with
  | (x1, x3, x4, x5) => if x3 ≤ x5 then (if (σ.1 59 0 0) = 1 then (f_X6_holds_b153 F 1 σ) else (f_X6_holds_b153 F 0 σ)) else (kg (kin x1 6) (kb (x1.toNatClampNeg) fun j5 => kg (kin x5 400) (kb (σ.1 54 j5 x5.toNatClampNeg) fun y7 => if 10020 ≤ y7 then (if y7 = 10033 then (kg (kin (x4 - 1) 120) (kg (kin (x4 - 1) 120) (kb (kU σ 59 0 (x4 - 1).toNatClampNeg (1 - (σ.1 59 0 (x4 - 1).toNatClampNeg))) fun σ17 => f_X6_holds_b132 F rr6 x1 x3 x4 x5 σ17))) else (kg (kin ((x4 + (-1)) - 1) 120) (kg (kin (x4 + (-1)) 120) (kBi (f_X6_worked F y7 (σ.1 59 0 ((x4 + (-1)) - 1).toNatClampNeg) (σ.1 59 0 (x4 + (-1)).toNatClampNeg) σ) fun c13 σ12 => kg (kin ((x4 + (-1)) - 1) 120) (kb (kU σ12 59 0 ((x4 + (-1)) - 1).toNatClampNeg c13) fun σ14 => f_X6_holds_b132 F rr6 x1 x3 (x4 + (-1)) x5 σ14))))) else (if 10000 ≤ y7 then (kg (kin (y7 - 10000) 7) (f_X6_holds_b61 F rr6 x1 x3 x4 x5 x4 (σ.1 60 0 (y7 - 10000).toNatClampNeg) σ)) else (f_X6_holds_b61 F rr6 x1 x3 x4 x5 x4 y7 σ)))))
set_option maxRecDepth 20000 in
theorem s_X6_holds_b6 {l : Launch} {E : kE} (hj : kEj E) (hn : kNorm E) (hl : l.stackTraces = false) {C : kC} {Q : kR → State → Prop} (hk : kOk (C, E, Q) cX6_holds RX6 7) (he : kEnd (C, E, Q) (some .boolean) id 0) (hro : kRo C l (1) (22) 0) (F : Nat) : ∀ (N9 : Nat) (x1 : Int32) (x3 : Int32) (x4 : Int32) (x5 : Int32)  (σ : kS), Sm (C, E, Q) 7 0 6 [(0, .ref (kad E 48 0)), (1, .int x1), (3, .int x3), (4, .int x4), (5, .int x5)] [] σ (kFix (f_X6_holds_b6 F) N9 (x1, x3, x4, x5) σ) := by
  intro N9
  induction N9 with
  | zero => intro x1 x3 x4 x5  σ; exact k_no
  | succ N9 ih =>
    intro x1 x3 x4 x5  σ
    show Sm _ _ _ _ _ _ _ (f_X6_holds_b6 F (kFix (f_X6_holds_b6 F) N9) (x1, x3, x4, x5) σ)
    generalize kFix (f_X6_holds_b6 F) N9 = rr6 at ih
    have hrr6 := ih
    unfold f_X6_holds_b6
    dsimp only
    refine k_iload hk dX6_holds_6 4 rfl ?_
    refine k_iload_n hk dX6_holds_8 2 rfl ?_
    refine k_icmp_ge hk dX6_holds_9 138 (by decide) (fun h3 => ?_) (fun h3 => ?_)
    · refine k_aload_n hk dX6_holds_138 0 rfl ?_
      refine k_getr (k := 18) 59 0 hk dX6_holds_139 rfl (by decide) kc6 (by decide) fl_RX6_37 rfl rfl ?_
      refine k_iconst (v := 0) hk dX6_holds_142 (by decide) ?_
      refine k_iald_k (kk := 0) hk dX6_holds_143 rfl (by decide) (by decide) (by decide) ?_
      refine k_iconst (v := 1) hk dX6_holds_144 (by decide) ?_
      refine k_icmp_ne hk dX6_holds_145 152 (by decide) (fun h4 => ?_) (fun h4 => ?_)
      · refine k_iconst (v := 0) hk dX6_holds_152 (by decide) ?_
        exact k_sub [] rfl (s_X6_holds_b153 hj hn hl hk he hro F  0  σ)
      · refine k_iconst (v := 1) hk dX6_holds_148 (by decide) ?_
        refine k_goto hk dX6_holds_149 153 (by decide) ?_
        exact k_sub [] rfl (s_X6_holds_b153 hj hn hl hk he hro F  1  σ)
    · refine k_aload_n hk dX6_holds_12 0 rfl ?_
      refine k_getr (k := 14) 53 0 hk dX6_holds_13 rfl (by decide) kc6 (by decide) fl_RX6_25 rfl rfl ?_
      refine k_iload_n hk dX6_holds_16 1 rfl ?_
      refine k_aaldj (g' := 54) (fun z => z) hk dX6_holds_17 rfl rfl rfl (by decide) (fun z => rfl) (by decide) (fun j5 hj5 => ?_)
      refine k_iload hk dX6_holds_18 4 rfl ?_
      refine k_iald hk dX6_holds_20 rfl hj5 (fun h6 => ?_)
      refine k_nm (fun y7 => ?_)
      refine k_istore (lv' := [(6, .int y7), (0, .ref (kad E 48 0)), (1, .int x1), (3, .int x3), (4, .int x4), (5, .int x5)]) hk dX6_holds_21 (by decide) rfl ?_
      refine k_iload hk dX6_holds_23 0 rfl ?_
      refine k_sipush (v := 10020) hk dX6_holds_25 (by decide) ?_
      refine k_icmp_ge hk dX6_holds_28 68 (by decide) (fun h8 => ?_) (fun h8 => ?_)
      · refine k_iload hk dX6_holds_68 0 rfl ?_
        refine k_sipush (v := 10033) hk dX6_holds_70 (by decide) ?_
        refine k_icmp_ne hk dX6_holds_73 99 (by decide) (fun h9 => ?_) (fun h9 => ?_)
        · refine k_iinc (lv' := [(4, .int (x4 + (-1))), (6, .int y7), (0, .ref (kad E 48 0)), (1, .int x1), (3, .int x3), (5, .int x5)]) (j := 4) (y := x4 + (-1)) hk dX6_holds_99 rfl rfl (by decide) rfl ?_
          refine k_aload_n hk dX6_holds_102 2 rfl ?_
          refine k_getr (k := 18) 59 0 hk dX6_holds_103 rfl (by decide) kc6 (by decide) fl_RX6_37 rfl rfl ?_
          refine k_iload hk dX6_holds_106 0 rfl ?_
          refine k_iconst (v := 1) hk dX6_holds_108 (by decide) ?_
          refine k_isub hk dX6_holds_109 ?_
          refine k_iload hk dX6_holds_110 1 rfl ?_
          refine k_aload_n hk dX6_holds_112 2 rfl ?_
          refine k_getr (k := 18) 59 0 hk dX6_holds_113 rfl (by decide) kc6 (by decide) fl_RX6_37 rfl rfl ?_
          refine k_iload hk dX6_holds_116 0 rfl ?_
          refine k_iconst (v := 1) hk dX6_holds_118 (by decide) ?_
          refine k_isub hk dX6_holds_119 ?_
          refine k_iald hk dX6_holds_120 rfl (by decide) (fun h10 => ?_)
          refine k_aload_n hk dX6_holds_121 2 rfl ?_
          refine k_getr (k := 18) 59 0 hk dX6_holds_122 rfl (by decide) kc6 (by decide) fl_RX6_37 rfl rfl ?_
          refine k_iload hk dX6_holds_125 0 rfl ?_
          refine k_iald hk dX6_holds_127 rfl (by decide) (fun h11 => ?_)
          refine k_callSi (As := [.int y7, .int (σ.1 59 0 ((x4 + (-1)) - 1).toNatClampNeg), .int (σ.1 59 0 (x4 + (-1)).toNatClampNeg)]) (rest := [.int ((x4 + (-1)) - 1), .ref (kad E 59 0)]) hk he hro (c_X6_worked hj hn hl F y7 (σ.1 59 0 ((x4 + (-1)) - 1).toNatClampNeg) (σ.1 59 0 (x4 + (-1)).toNatClampNeg)  σ) dX6_holds_128 cw_RX6_230 ⟨by decide, by decide⟩ (by decide) rfl (Nat.le_of_ble_eq_true rfl) (fun c13 σ12 => ?_)
          refine k_iast hk dX6_holds_131 rfl (by decide) (fun h15 σ14 => ?_)
          exact k_sub [2, 3, 4, 0, 5] rfl (s_X6_holds_b132 hj hn hl hk he hro F rr6 hrr6  x1 x3 (x4 + (-1)) x5  σ14)
        · refine k_aload_n hk dX6_holds_76 1 rfl ?_
          refine k_getr (k := 18) 59 0 hk dX6_holds_77 rfl (by decide) kc6 (by decide) fl_RX6_37 rfl rfl ?_
          refine k_iload hk dX6_holds_80 4 rfl ?_
          refine k_iconst (v := 1) hk dX6_holds_82 (by decide) ?_
          refine k_isub hk dX6_holds_83 ?_
          refine k_iconst (v := 1) hk dX6_holds_84 (by decide) ?_
          refine k_aload_n hk dX6_holds_85 1 rfl ?_
          refine k_getr (k := 18) 59 0 hk dX6_holds_86 rfl (by decide) kc6 (by decide) fl_RX6_37 rfl rfl ?_
          refine k_iload hk dX6_holds_89 4 rfl ?_
          refine k_iconst (v := 1) hk dX6_holds_91 (by decide) ?_
          refine k_isub hk dX6_holds_92 ?_
          refine k_iald hk dX6_holds_93 rfl (by decide) (fun h16 => ?_)
          refine k_isub hk dX6_holds_94 ?_
          refine k_iast hk dX6_holds_95 rfl (by decide) (fun h18 σ17 => ?_)
          refine k_goto hk dX6_holds_96 132 (by decide) ?_
          exact k_sub [1, 2, 3, 4, 5] rfl (s_X6_holds_b132 hj hn hl hk he hro F rr6 hrr6  x1 x3 x4 x5  σ17)
      · refine k_aload_n hk dX6_holds_31 1 rfl ?_
        refine k_getr (k := 18) 59 0 hk dX6_holds_32 rfl (by decide) kc6 (by decide) fl_RX6_37 rfl rfl ?_
        refine k_iload hk dX6_holds_35 4 rfl ?_
        refine k_iload hk dX6_holds_37 0 rfl ?_
        refine k_sipush (v := 10000) hk dX6_holds_39 (by decide) ?_
        refine k_icmp_ge hk dX6_holds_42 50 (by decide) (fun h19 => ?_) (fun h19 => ?_)
        · refine k_aload_n hk dX6_holds_50 1 rfl ?_
          refine k_getr (k := 19) 60 0 hk dX6_holds_51 rfl (by decide) kc6 (by decide) fl_RX6_40 rfl rfl ?_
          refine k_iload hk dX6_holds_54 0 rfl ?_
          refine k_sipush (v := 10000) hk dX6_holds_56 (by decide) ?_
          refine k_isub hk dX6_holds_59 ?_
          refine k_iald hk dX6_holds_60 rfl (by decide) (fun h20 => ?_)
          exact k_sub [1, 2, 3, 4, 5] rfl (s_X6_holds_b61 hj hn hl hk he hro F rr6 hrr6  x1 x3 x4 x5 x4 (σ.1 60 0 (y7 - 10000).toNatClampNeg)  σ)
        · refine k_iload hk dX6_holds_45 0 rfl ?_
          refine k_goto hk dX6_holds_47 61 (by decide) ?_
          exact k_sub [1, 2, 3, 4, 5] rfl (s_X6_holds_b61 hj hn hl hk he hro F rr6 hrr6  x1 x3 x4 x5 x4 y7  σ)
def f_X6_holds (F : Nat) (a1 : Int32) (a2 : Int32) (a3 : Int32) (σ : kS) : Option kR := kFix (f_X6_holds_b6 F) F (a1, a3, 0, a2) σ
set_option maxRecDepth 20000 in
theorem c_X6_holds {l : Launch} {E : kE} (hj : kEj E) (hn : kNorm E) (hl : l.stackTraces = false) (F : Nat) (a1 : Int32) (a2 : Int32) (a3 : Int32)  (σ : kS) : kMet l E yX6_holds cX6_holds 7 (some .boolean) (1) (22) 0 id [.ref (kad E 48 0), .int a1, .int a2, .int a3] σ (f_X6_holds F a1 a2 a3 σ) := by
  refine k_met hj hn hl (by decide) (Nat.le_of_ble_eq_true rfl) (fun C Q hk he hro => ?_)
  have hk : kOk (C, E, Q) cX6_holds RX6 7 := hk
  show Sm (C, E, Q) 7 0 0 [(0, .ref (kad E 48 0)), (1, .int a1), (2, .int a2), (3, .int a3)] [] σ _
  unfold f_X6_holds
  refine k_iconst (v := 0) hk dX6_holds_0 (by decide) ?_
  refine k_istore (lv' := [(4, .int 0), (0, .ref (kad E 48 0)), (1, .int a1), (2, .int a2), (3, .int a3)]) hk dX6_holds_1 (by decide) rfl ?_
  refine k_iload_n hk dX6_holds_3 3 rfl ?_
  refine k_istore (lv' := [(5, .int a2), (4, .int 0), (0, .ref (kad E 48 0)), (1, .int a1), (2, .int a2), (3, .int a3)]) hk dX6_holds_4 (by decide) rfl ?_
  exact k_sub [2, 3, 5, 1, 0] rfl (s_X6_holds_b6 hj hn hl hk he hro F F a1 a3 0 a2  σ)
def f_X6_isWhy (F : Nat) (a1 : Int32) (σ : kS) : Option kR := kBi (f_X6_in F a1 0 ((σ.1 48 0 13) - 1) σ) fun c2 σ1 => kg (narrow .boolean (.int c2) = .int c2) (some (.inl (some (.int c2)), σ1))
set_option maxRecDepth 20000 in
theorem c_X6_isWhy {l : Launch} {E : kE} (hj : kEj E) (hn : kNorm E) (hl : l.stackTraces = false) (F : Nat) (a1 : Int32)  (σ : kS) : kMet l E yX6_isWhy cX6_isWhy 2 (some .boolean) (1) (22) 0 id [.ref (kad E 48 0), .int a1] σ (f_X6_isWhy F a1 σ) := by
  refine k_met hj hn hl (by decide) (Nat.le_of_ble_eq_true rfl) (fun C Q hk he hro => ?_)
  have hk : kOk (C, E, Q) cX6_isWhy RX6 2 := hk
  show Sm (C, E, Q) 2 0 0 [(0, .ref (kad E 48 0)), (1, .int a1)] [] σ _
  unfold f_X6_isWhy
  refine k_iload_n hk dX6_isWhy_0 1 rfl ?_
  refine k_iconst (v := 0) hk dX6_isWhy_1 (by decide) ?_
  refine k_aload_n hk dX6_isWhy_2 0 rfl ?_
  refine k_getf (k := 13) hk dX6_isWhy_3 rfl (by decide) kc6 (by decide) fl_RX6_224 rfl ?_
  refine k_iconst (v := 1) hk dX6_isWhy_6 (by decide) ?_
  refine k_isub hk dX6_isWhy_7 ?_
  refine k_callSi (As := [.int a1, .int 0, .int ((σ.1 48 0 13) - 1)]) (rest := []) hk he hro (c_X6_in hj hn hl F a1 0 ((σ.1 48 0 13) - 1)  σ) dX6_isWhy_8 cw_RX6_150 ⟨by decide, by decide⟩ (by decide) rfl (Nat.le_of_ble_eq_true rfl) (fun c2 σ1 => ?_)
  exact k_zreturn hk he dX6_isWhy_11 (by decide)
def f_X6_weigh_b49 (F : Nat)  (σ : kS) : Option kR := some (.inl (some (.int 0)), σ)
set_option maxRecDepth 20000 in
theorem s_X6_weigh_b49 {l : Launch} {E : kE} (hj : kEj E) (hn : kNorm E) (hl : l.stackTraces = false) {C : kC} {Q : kR → State → Prop} (hk : kOk (C, E, Q) cX6_weigh RX6 4) (he : kEnd (C, E, Q) (some .int) id 0) (hro : kRo C l (2) (43) 0) (F : Nat) : ∀   (σ : kS), Sm (C, E, Q) 4 0 49 [] [] σ (f_X6_weigh_b49 F  σ) := by
  intro   σ
  unfold f_X6_weigh_b49
  refine k_iconst (v := 0) hk dX6_weigh_49 (by decide) ?_
  exact k_ireturn hk he dX6_weigh_50 (by decide)
def f_X6_weigh_b42 (F : Nat) (x1 : Int32) (x2 : Int32) (t1 : Int32) (σ : kS) : Option kR := kBi (f_X6_bad F t1 2 σ) fun c2 σ1 => if c2 = 0 then (kg (kin x1 6) (kb (σ1.1 58 0 x1.toNatClampNeg) fun y5 => kg (kin x1 6) (kb (kU σ1 58 0 x1.toNatClampNeg x2) fun σ6 => some (.inl (some (.int y5)), σ6)))) else (f_X6_weigh_b49 F  σ1)
set_option maxRecDepth 20000 in
theorem s_X6_weigh_b42 {l : Launch} {E : kE} (hj : kEj E) (hn : kNorm E) (hl : l.stackTraces = false) {C : kC} {Q : kR → State → Prop} (hk : kOk (C, E, Q) cX6_weigh RX6 4) (he : kEnd (C, E, Q) (some .int) id 0) (hro : kRo C l (2) (43) 0) (F : Nat) : ∀ (x1 : Int32) (x2 : Int32) (t1 : Int32)  (σ : kS), Sm (C, E, Q) 4 0 42 [(0, .ref (kad E 48 0)), (1, .int x1), (2, .int x2)] [.int t1, .ref (kad E 48 0)] σ (f_X6_weigh_b42 F x1 x2 t1 σ) := by
  intro x1 x2 t1  σ
  unfold f_X6_weigh_b42
  refine k_iconst (v := 2) hk dX6_weigh_42 (by decide) ?_
  refine k_callVi (As := [.int t1, .int 2]) (rest := []) hk he hro (c_X6_bad hj hn hl F t1 2  σ) dX6_weigh_43 cw_RX6_220 rfl (by decide) kc6 rfl ⟨by decide, by decide⟩ (by decide) rfl (Nat.le_of_ble_eq_true rfl) (fun c2 σ1 => ?_)
  refine k_if_eq hk dX6_weigh_46 51 (by decide) (fun h3 => ?_) (fun h3 => ?_)
  · refine k_aload_n hk dX6_weigh_51 0 rfl ?_
    refine k_getr (k := 17) 58 0 hk dX6_weigh_52 rfl (by decide) kc6 (by decide) fl_RX6_34 rfl rfl ?_
    refine k_iload_n hk dX6_weigh_55 1 rfl ?_
    refine k_iald hk dX6_weigh_56 rfl (by decide) (fun h4 => ?_)
    refine k_nm (fun y5 => ?_)
    refine k_istore_n (lv' := [(3, .int y5), (0, .ref (kad E 48 0)), (1, .int x1), (2, .int x2)]) hk dX6_weigh_57 (by decide) rfl ?_
    refine k_aload_n hk dX6_weigh_58 1 rfl ?_
    refine k_getr (k := 17) 58 0 hk dX6_weigh_59 rfl (by decide) kc6 (by decide) fl_RX6_34 rfl rfl ?_
    refine k_iload_n hk dX6_weigh_62 2 rfl ?_
    refine k_iload_n hk dX6_weigh_63 3 rfl ?_
    refine k_iast hk dX6_weigh_64 rfl (by decide) (fun h7 σ6 => ?_)
    refine k_iload_n hk dX6_weigh_65 0 rfl ?_
    exact k_ireturn hk he dX6_weigh_66 (by decide)
  · exact k_sub [] rfl (s_X6_weigh_b49 hj hn hl hk he hro F    σ1)
def f_X6_weigh_b19 (F : Nat) (x1 : Int32) (x2 : Int32) (t1 : Int32) (σ : kS) : Option kR := kBi (f_X6_bad F t1 1 σ) fun c9 σ8 => if c9 = 0 then (kBi (f_X6_in F x2 1 99 σ8) fun c12 σ11 => if c12 = 0 then (f_X6_weigh_b42 F x1 x2 1 σ11) else (f_X6_weigh_b42 F x1 x2 0 σ11)) else (f_X6_weigh_b49 F  σ8)
set_option maxRecDepth 20000 in
theorem s_X6_weigh_b19 {l : Launch} {E : kE} (hj : kEj E) (hn : kNorm E) (hl : l.stackTraces = false) {C : kC} {Q : kR → State → Prop} (hk : kOk (C, E, Q) cX6_weigh RX6 4) (he : kEnd (C, E, Q) (some .int) id 0) (hro : kRo C l (2) (43) 0) (F : Nat) : ∀ (x1 : Int32) (x2 : Int32) (t1 : Int32)  (σ : kS), Sm (C, E, Q) 4 0 19 [(0, .ref (kad E 48 0)), (1, .int x1), (2, .int x2)] [.int t1, .ref (kad E 48 0)] σ (f_X6_weigh_b19 F x1 x2 t1 σ) := by
  intro x1 x2 t1  σ
  unfold f_X6_weigh_b19
  refine k_iconst (v := 1) hk dX6_weigh_19 (by decide) ?_
  refine k_callVi (As := [.int t1, .int 1]) (rest := []) hk he hro (c_X6_bad hj hn hl F t1 1  σ) dX6_weigh_20 cw_RX6_220 rfl (by decide) kc6 rfl ⟨by decide, by decide⟩ (by decide) rfl (Nat.le_of_ble_eq_true rfl) (fun c9 σ8 => ?_)
  refine k_if_ne hk dX6_weigh_23 49 (by decide) (fun h10 => ?_) (fun h10 => ?_)
  · exact k_sub [] rfl (s_X6_weigh_b49 hj hn hl hk he hro F    σ8)
  · refine k_aload_n hk dX6_weigh_26 0 rfl ?_
    refine k_iload_n hk dX6_weigh_27 2 rfl ?_
    refine k_iconst (v := 1) hk dX6_weigh_28 (by decide) ?_
    refine k_bipush (v := 99) hk dX6_weigh_29 (by decide) ?_
    refine k_callSi (As := [.int x2, .int 1, .int 99]) (rest := [.ref (kad E 48 0)]) hk he hro (c_X6_in hj hn hl F x2 1 99  σ8) dX6_weigh_31 cw_RX6_150 ⟨by decide, by decide⟩ (by decide) rfl (Nat.le_of_ble_eq_true rfl) (fun c12 σ11 => ?_)
    refine k_if_ne hk dX6_weigh_34 41 (by decide) (fun h13 => ?_) (fun h13 => ?_)
    · refine k_iconst (v := 0) hk dX6_weigh_41 (by decide) ?_
      exact k_sub [0, 1, 2] rfl (s_X6_weigh_b42 hj hn hl hk he hro F  x1 x2 0  σ11)
    · refine k_iconst (v := 1) hk dX6_weigh_37 (by decide) ?_
      refine k_goto hk dX6_weigh_38 42 (by decide) ?_
      exact k_sub [0, 1, 2] rfl (s_X6_weigh_b42 hj hn hl hk he hro F  x1 x2 1  σ11)
def f_X6_weigh (F : Nat) (a1 : Int32) (a2 : Int32) (σ : kS) : Option kR := kb (kU σ 48 0 0 0) fun σ14 => kBi (f_X6_isWhy F a1 σ14) fun c16 σ15 => if c16 = 0 then (f_X6_weigh_b19 F a1 a2 1 σ15) else (f_X6_weigh_b19 F a1 a2 0 σ15)
set_option maxRecDepth 20000 in
theorem c_X6_weigh {l : Launch} {E : kE} (hj : kEj E) (hn : kNorm E) (hl : l.stackTraces = false) (F : Nat) (a1 : Int32) (a2 : Int32)  (σ : kS) : kMet l E yX6_weigh cX6_weigh 4 (some .int) (2) (43) 0 id [.ref (kad E 48 0), .int a1, .int a2] σ (f_X6_weigh F a1 a2 σ) := by
  refine k_met hj hn hl (by decide) (Nat.le_of_ble_eq_true rfl) (fun C Q hk he hro => ?_)
  have hk : kOk (C, E, Q) cX6_weigh RX6 4 := hk
  show Sm (C, E, Q) 4 0 0 [(0, .ref (kad E 48 0)), (1, .int a1), (2, .int a2)] [] σ _
  unfold f_X6_weigh
  refine k_aload_n hk dX6_weigh_0 0 rfl ?_
  refine k_iconst (v := 0) hk dX6_weigh_1 (by decide) ?_
  refine k_putf (k := 0) hk dX6_weigh_2 rfl (by decide) kc6 (by decide) fl_RX6_113 rfl rfl rfl rfl (fun σ14 => ?_)
  refine k_aload_n hk dX6_weigh_5 0 rfl ?_
  refine k_aload_n hk dX6_weigh_6 0 rfl ?_
  refine k_iload_n hk dX6_weigh_7 1 rfl ?_
  refine k_callVi (As := [.int a1]) (rest := [.ref (kad E 48 0)]) hk he hro (c_X6_isWhy hj hn hl F a1  σ14) dX6_weigh_8 cw_RX6_234 rfl (by decide) kc6 rfl ⟨by decide, by decide⟩ (by decide) rfl (Nat.le_of_ble_eq_true rfl) (fun c16 σ15 => ?_)
  refine k_if_ne hk dX6_weigh_11 18 (by decide) (fun h17 => ?_) (fun h17 => ?_)
  · refine k_iconst (v := 0) hk dX6_weigh_18 (by decide) ?_
    exact k_sub [0, 1, 2] rfl (s_X6_weigh_b19 hj hn hl hk he hro F  a1 a2 0  σ15)
  · refine k_iconst (v := 1) hk dX6_weigh_14 (by decide) ?_
    refine k_goto hk dX6_weigh_15 19 (by decide) ?_
    exact k_sub [0, 1, 2] rfl (s_X6_weigh_b19 hj hn hl hk he hro F  a1 a2 1  σ15)
def f_X6_set_b56 (F : Nat)  (σ : kS) : Option kR := some (.inl (some (.int 0)), σ)
set_option maxRecDepth 20000 in
theorem s_X6_set_b56 {l : Launch} {E : kE} (hj : kEj E) (hn : kNorm E) (hl : l.stackTraces = false) {C : kC} {Q : kR → State → Prop} (hk : kOk (C, E, Q) cX6_set RX6 4) (he : kEnd (C, E, Q) (some .int) id 0) (hro : kRo C l (1) (22) 0) (F : Nat) : ∀   (σ : kS), Sm (C, E, Q) 4 0 56 [] [] σ (f_X6_set_b56 F  σ) := by
  intro   σ
  unfold f_X6_set_b56
  refine k_iconst (v := 0) hk dX6_set_56 (by decide) ?_
  exact k_ireturn hk he dX6_set_57 (by decide)
def f_X6_set_b49 (F : Nat) (x1 : Int32) (x2 : Int32) (t1 : Int32) (σ : kS) : Option kR := kBi (f_X6_bad F t1 1 σ) fun c2 σ1 => if c2 = 0 then (kg (kin x1 10) (kb (σ1.1 61 0 x1.toNatClampNeg) fun y5 => kg (kin x1 10) (kb (kU σ1 61 0 x1.toNatClampNeg x2) fun σ6 => some (.inl (some (.int y5)), σ6)))) else (f_X6_set_b56 F  σ1)
set_option maxRecDepth 20000 in
theorem s_X6_set_b49 {l : Launch} {E : kE} (hj : kEj E) (hn : kNorm E) (hl : l.stackTraces = false) {C : kC} {Q : kR → State → Prop} (hk : kOk (C, E, Q) cX6_set RX6 4) (he : kEnd (C, E, Q) (some .int) id 0) (hro : kRo C l (1) (22) 0) (F : Nat) : ∀ (x1 : Int32) (x2 : Int32) (t1 : Int32)  (σ : kS), Sm (C, E, Q) 4 0 49 [(0, .ref (kad E 48 0)), (1, .int x1), (2, .int x2)] [.int t1, .ref (kad E 48 0)] σ (f_X6_set_b49 F x1 x2 t1 σ) := by
  intro x1 x2 t1  σ
  unfold f_X6_set_b49
  refine k_iconst (v := 1) hk dX6_set_49 (by decide) ?_
  refine k_callVi (As := [.int t1, .int 1]) (rest := []) hk he hro (c_X6_bad hj hn hl F t1 1  σ) dX6_set_50 cw_RX6_220 rfl (by decide) kc6 rfl ⟨by decide, by decide⟩ (by decide) rfl (Nat.le_of_ble_eq_true rfl) (fun c2 σ1 => ?_)
  refine k_if_eq hk dX6_set_53 58 (by decide) (fun h3 => ?_) (fun h3 => ?_)
  · refine k_aload_n hk dX6_set_58 0 rfl ?_
    refine k_getr (k := 20) 61 0 hk dX6_set_59 rfl (by decide) kc6 (by decide) fl_RX6_43 rfl rfl ?_
    refine k_iload_n hk dX6_set_62 1 rfl ?_
    refine k_iald hk dX6_set_63 rfl (by decide) (fun h4 => ?_)
    refine k_nm (fun y5 => ?_)
    refine k_istore_n (lv' := [(3, .int y5), (0, .ref (kad E 48 0)), (1, .int x1), (2, .int x2)]) hk dX6_set_64 (by decide) rfl ?_
    refine k_aload_n hk dX6_set_65 1 rfl ?_
    refine k_getr (k := 20) 61 0 hk dX6_set_66 rfl (by decide) kc6 (by decide) fl_RX6_43 rfl rfl ?_
    refine k_iload_n hk dX6_set_69 2 rfl ?_
    refine k_iload_n hk dX6_set_70 3 rfl ?_
    refine k_iast hk dX6_set_71 rfl (by decide) (fun h7 σ6 => ?_)
    refine k_iload_n hk dX6_set_72 0 rfl ?_
    exact k_ireturn hk he dX6_set_73 (by decide)
  · exact k_sub [] rfl (s_X6_set_b56 hj hn hl hk he hro F    σ1)
def f_X6_set_b21 (F : Nat) (x1 : Int32) (x2 : Int32) (t1 : Int32) (σ : kS) : Option kR := kBi (f_X6_bad F t1 1 σ) fun c9 σ8 => if c9 = 0 then (kBi (f_X6_lowest F x1 σ8) fun c12 σ11 => kBi (f_X6_highest F x1 σ11) fun c14 σ13 => kBi (f_X6_in F x2 c12 c14 σ13) fun c16 σ15 => if c16 = 0 then (f_X6_set_b49 F x1 x2 1 σ15) else (f_X6_set_b49 F x1 x2 0 σ15)) else (f_X6_set_b56 F  σ8)
set_option maxRecDepth 20000 in
theorem s_X6_set_b21 {l : Launch} {E : kE} (hj : kEj E) (hn : kNorm E) (hl : l.stackTraces = false) {C : kC} {Q : kR → State → Prop} (hk : kOk (C, E, Q) cX6_set RX6 4) (he : kEnd (C, E, Q) (some .int) id 0) (hro : kRo C l (1) (22) 0) (F : Nat) : ∀ (x1 : Int32) (x2 : Int32) (t1 : Int32)  (σ : kS), Sm (C, E, Q) 4 0 21 [(0, .ref (kad E 48 0)), (1, .int x1), (2, .int x2)] [.int t1, .ref (kad E 48 0)] σ (f_X6_set_b21 F x1 x2 t1 σ) := by
  intro x1 x2 t1  σ
  unfold f_X6_set_b21
  refine k_iconst (v := 1) hk dX6_set_21 (by decide) ?_
  refine k_callVi (As := [.int t1, .int 1]) (rest := []) hk he hro (c_X6_bad hj hn hl F t1 1  σ) dX6_set_22 cw_RX6_220 rfl (by decide) kc6 rfl ⟨by decide, by decide⟩ (by decide) rfl (Nat.le_of_ble_eq_true rfl) (fun c9 σ8 => ?_)
  refine k_if_ne hk dX6_set_25 56 (by decide) (fun h10 => ?_) (fun h10 => ?_)
  · exact k_sub [] rfl (s_X6_set_b56 hj hn hl hk he hro F    σ8)
  · refine k_aload_n hk dX6_set_28 0 rfl ?_
    refine k_iload_n hk dX6_set_29 2 rfl ?_
    refine k_iload_n hk dX6_set_30 1 rfl ?_
    refine k_callSi (As := [.int x1]) (rest := [.int x2, .ref (kad E 48 0)]) hk he hro (c_X6_lowest hj hn hl F x1  σ8) dX6_set_31 cw_RX6_214 ⟨by decide, by decide⟩ (by decide) rfl (Nat.le_of_ble_eq_true rfl) (fun c12 σ11 => ?_)
    refine k_iload_n hk dX6_set_34 1 rfl ?_
    refine k_callSi (As := [.int x1]) (rest := [.int c12, .int x2, .ref (kad E 48 0)]) hk he hro (c_X6_highest hj hn hl F x1  σ11) dX6_set_35 cw_RX6_217 ⟨by decide, by decide⟩ (by decide) rfl (Nat.le_of_ble_eq_true rfl) (fun c14 σ13 => ?_)
    refine k_callSi (As := [.int x2, .int c12, .int c14]) (rest := [.ref (kad E 48 0)]) hk he hro (c_X6_in hj hn hl F x2 c12 c14  σ13) dX6_set_38 cw_RX6_150 ⟨by decide, by decide⟩ (by decide) rfl (Nat.le_of_ble_eq_true rfl) (fun c16 σ15 => ?_)
    refine k_if_ne hk dX6_set_41 48 (by decide) (fun h17 => ?_) (fun h17 => ?_)
    · refine k_iconst (v := 0) hk dX6_set_48 (by decide) ?_
      exact k_sub [0, 1, 2] rfl (s_X6_set_b49 hj hn hl hk he hro F  x1 x2 0  σ15)
    · refine k_iconst (v := 1) hk dX6_set_44 (by decide) ?_
      refine k_goto hk dX6_set_45 49 (by decide) ?_
      exact k_sub [0, 1, 2] rfl (s_X6_set_b49 hj hn hl hk he hro F  x1 x2 1  σ15)
def f_X6_set (F : Nat) (a1 : Int32) (a2 : Int32) (σ : kS) : Option kR := kb (kU σ 48 0 0 0) fun σ18 => kBi (f_X6_in F a1 0 9 σ18) fun c20 σ19 => if c20 = 0 then (f_X6_set_b21 F a1 a2 1 σ19) else (f_X6_set_b21 F a1 a2 0 σ19)
set_option maxRecDepth 20000 in
theorem c_X6_set {l : Launch} {E : kE} (hj : kEj E) (hn : kNorm E) (hl : l.stackTraces = false) (F : Nat) (a1 : Int32) (a2 : Int32)  (σ : kS) : kMet l E yX6_set cX6_set 4 (some .int) (1) (22) 0 id [.ref (kad E 48 0), .int a1, .int a2] σ (f_X6_set F a1 a2 σ) := by
  refine k_met hj hn hl (by decide) (Nat.le_of_ble_eq_true rfl) (fun C Q hk he hro => ?_)
  have hk : kOk (C, E, Q) cX6_set RX6 4 := hk
  show Sm (C, E, Q) 4 0 0 [(0, .ref (kad E 48 0)), (1, .int a1), (2, .int a2)] [] σ _
  unfold f_X6_set
  refine k_aload_n hk dX6_set_0 0 rfl ?_
  refine k_iconst (v := 0) hk dX6_set_1 (by decide) ?_
  refine k_putf (k := 0) hk dX6_set_2 rfl (by decide) kc6 (by decide) fl_RX6_113 rfl rfl rfl rfl (fun σ18 => ?_)
  refine k_aload_n hk dX6_set_5 0 rfl ?_
  refine k_iload_n hk dX6_set_6 1 rfl ?_
  refine k_iconst (v := 0) hk dX6_set_7 (by decide) ?_
  refine k_bipush (v := 9) hk dX6_set_8 (by decide) ?_
  refine k_callSi (As := [.int a1, .int 0, .int 9]) (rest := [.ref (kad E 48 0)]) hk he hro (c_X6_in hj hn hl F a1 0 9  σ18) dX6_set_10 cw_RX6_150 ⟨by decide, by decide⟩ (by decide) rfl (Nat.le_of_ble_eq_true rfl) (fun c20 σ19 => ?_)
  refine k_if_ne hk dX6_set_13 20 (by decide) (fun h21 => ?_) (fun h21 => ?_)
  · refine k_iconst (v := 0) hk dX6_set_20 (by decide) ?_
    exact k_sub [0, 1, 2] rfl (s_X6_set_b21 hj hn hl hk he hro F  a1 a2 0  σ19)
  · refine k_iconst (v := 1) hk dX6_set_16 (by decide) ?_
    refine k_goto hk dX6_set_17 21 (by decide) ?_
    exact k_sub [0, 1, 2] rfl (s_X6_set_b21 hj hn hl hk he hro F  a1 a2 1  σ19)
def f_X6_fill_b52 (F : Nat)  (σ : kS) : Option kR := some (.inl (some (.int 0)), σ)
set_option maxRecDepth 20000 in
theorem s_X6_fill_b52 {l : Launch} {E : kE} (hj : kEj E) (hn : kNorm E) (hl : l.stackTraces = false) {C : kC} {Q : kR → State → Prop} (hk : kOk (C, E, Q) cX6_fill RX6 4) (he : kEnd (C, E, Q) (some .int) id 0) (hro : kRo C l (1) (22) 0) (F : Nat) : ∀   (σ : kS), Sm (C, E, Q) 4 0 52 [] [] σ (f_X6_fill_b52 F  σ) := by
  intro   σ
  unfold f_X6_fill_b52
  refine k_iconst (v := 0) hk dX6_fill_52 (by decide) ?_
  exact k_ireturn hk he dX6_fill_53 (by decide)
def f_X6_fill_b45 (F : Nat) (x1 : Int32) (x2 : Int32) (t1 : Int32) (σ : kS) : Option kR := kBi (f_X6_bad F t1 2 σ) fun c2 σ1 => if c2 = 0 then (kg (kin x1 8) (kb (σ1.1 62 0 x1.toNatClampNeg) fun y5 => kg (kin x1 8) (kb (kU σ1 62 0 x1.toNatClampNeg x2) fun σ6 => some (.inl (some (.int y5)), σ6)))) else (f_X6_fill_b52 F  σ1)
set_option maxRecDepth 20000 in
theorem s_X6_fill_b45 {l : Launch} {E : kE} (hj : kEj E) (hn : kNorm E) (hl : l.stackTraces = false) {C : kC} {Q : kR → State → Prop} (hk : kOk (C, E, Q) cX6_fill RX6 4) (he : kEnd (C, E, Q) (some .int) id 0) (hro : kRo C l (1) (22) 0) (F : Nat) : ∀ (x1 : Int32) (x2 : Int32) (t1 : Int32)  (σ : kS), Sm (C, E, Q) 4 0 45 [(0, .ref (kad E 48 0)), (1, .int x1), (2, .int x2)] [.int t1, .ref (kad E 48 0)] σ (f_X6_fill_b45 F x1 x2 t1 σ) := by
  intro x1 x2 t1  σ
  unfold f_X6_fill_b45
  refine k_iconst (v := 2) hk dX6_fill_45 (by decide) ?_
  refine k_callVi (As := [.int t1, .int 2]) (rest := []) hk he hro (c_X6_bad hj hn hl F t1 2  σ) dX6_fill_46 cw_RX6_220 rfl (by decide) kc6 rfl ⟨by decide, by decide⟩ (by decide) rfl (Nat.le_of_ble_eq_true rfl) (fun c2 σ1 => ?_)
  refine k_if_eq hk dX6_fill_49 54 (by decide) (fun h3 => ?_) (fun h3 => ?_)
  · refine k_aload_n hk dX6_fill_54 0 rfl ?_
    refine k_getr (k := 21) 62 0 hk dX6_fill_55 rfl (by decide) kc6 (by decide) fl_RX6_46 rfl rfl ?_
    refine k_iload_n hk dX6_fill_58 1 rfl ?_
    refine k_iald hk dX6_fill_59 rfl (by decide) (fun h4 => ?_)
    refine k_nm (fun y5 => ?_)
    refine k_istore_n (lv' := [(3, .int y5), (0, .ref (kad E 48 0)), (1, .int x1), (2, .int x2)]) hk dX6_fill_60 (by decide) rfl ?_
    refine k_aload_n hk dX6_fill_61 1 rfl ?_
    refine k_getr (k := 21) 62 0 hk dX6_fill_62 rfl (by decide) kc6 (by decide) fl_RX6_46 rfl rfl ?_
    refine k_iload_n hk dX6_fill_65 2 rfl ?_
    refine k_iload_n hk dX6_fill_66 3 rfl ?_
    refine k_iast hk dX6_fill_67 rfl (by decide) (fun h7 σ6 => ?_)
    refine k_iload_n hk dX6_fill_68 0 rfl ?_
    exact k_ireturn hk he dX6_fill_69 (by decide)
  · exact k_sub [] rfl (s_X6_fill_b52 hj hn hl hk he hro F    σ1)
def f_X6_fill_b21 (F : Nat) (x1 : Int32) (x2 : Int32) (t1 : Int32) (σ : kS) : Option kR := kBi (f_X6_bad F t1 1 σ) fun c9 σ8 => if c9 = 0 then (kBi (f_X6_in F x2 0 999 σ8) fun c12 σ11 => if c12 = 0 then (f_X6_fill_b45 F x1 x2 1 σ11) else (f_X6_fill_b45 F x1 x2 0 σ11)) else (f_X6_fill_b52 F  σ8)
set_option maxRecDepth 20000 in
theorem s_X6_fill_b21 {l : Launch} {E : kE} (hj : kEj E) (hn : kNorm E) (hl : l.stackTraces = false) {C : kC} {Q : kR → State → Prop} (hk : kOk (C, E, Q) cX6_fill RX6 4) (he : kEnd (C, E, Q) (some .int) id 0) (hro : kRo C l (1) (22) 0) (F : Nat) : ∀ (x1 : Int32) (x2 : Int32) (t1 : Int32)  (σ : kS), Sm (C, E, Q) 4 0 21 [(0, .ref (kad E 48 0)), (1, .int x1), (2, .int x2)] [.int t1, .ref (kad E 48 0)] σ (f_X6_fill_b21 F x1 x2 t1 σ) := by
  intro x1 x2 t1  σ
  unfold f_X6_fill_b21
  refine k_iconst (v := 1) hk dX6_fill_21 (by decide) ?_
  refine k_callVi (As := [.int t1, .int 1]) (rest := []) hk he hro (c_X6_bad hj hn hl F t1 1  σ) dX6_fill_22 cw_RX6_220 rfl (by decide) kc6 rfl ⟨by decide, by decide⟩ (by decide) rfl (Nat.le_of_ble_eq_true rfl) (fun c9 σ8 => ?_)
  refine k_if_ne hk dX6_fill_25 52 (by decide) (fun h10 => ?_) (fun h10 => ?_)
  · exact k_sub [] rfl (s_X6_fill_b52 hj hn hl hk he hro F    σ8)
  · refine k_aload_n hk dX6_fill_28 0 rfl ?_
    refine k_iload_n hk dX6_fill_29 2 rfl ?_
    refine k_iconst (v := 0) hk dX6_fill_30 (by decide) ?_
    refine k_sipush (v := 999) hk dX6_fill_31 (by decide) ?_
    refine k_callSi (As := [.int x2, .int 0, .int 999]) (rest := [.ref (kad E 48 0)]) hk he hro (c_X6_in hj hn hl F x2 0 999  σ8) dX6_fill_34 cw_RX6_150 ⟨by decide, by decide⟩ (by decide) rfl (Nat.le_of_ble_eq_true rfl) (fun c12 σ11 => ?_)
    refine k_if_ne hk dX6_fill_37 44 (by decide) (fun h13 => ?_) (fun h13 => ?_)
    · refine k_iconst (v := 0) hk dX6_fill_44 (by decide) ?_
      exact k_sub [0, 1, 2] rfl (s_X6_fill_b45 hj hn hl hk he hro F  x1 x2 0  σ11)
    · refine k_iconst (v := 1) hk dX6_fill_40 (by decide) ?_
      refine k_goto hk dX6_fill_41 45 (by decide) ?_
      exact k_sub [0, 1, 2] rfl (s_X6_fill_b45 hj hn hl hk he hro F  x1 x2 1  σ11)
def f_X6_fill (F : Nat) (a1 : Int32) (a2 : Int32) (σ : kS) : Option kR := kb (kU σ 48 0 0 0) fun σ14 => kBi (f_X6_in F a1 0 7 σ14) fun c16 σ15 => if c16 = 0 then (f_X6_fill_b21 F a1 a2 1 σ15) else (f_X6_fill_b21 F a1 a2 0 σ15)
set_option maxRecDepth 20000 in
theorem c_X6_fill {l : Launch} {E : kE} (hj : kEj E) (hn : kNorm E) (hl : l.stackTraces = false) (F : Nat) (a1 : Int32) (a2 : Int32)  (σ : kS) : kMet l E yX6_fill cX6_fill 4 (some .int) (1) (22) 0 id [.ref (kad E 48 0), .int a1, .int a2] σ (f_X6_fill F a1 a2 σ) := by
  refine k_met hj hn hl (by decide) (Nat.le_of_ble_eq_true rfl) (fun C Q hk he hro => ?_)
  have hk : kOk (C, E, Q) cX6_fill RX6 4 := hk
  show Sm (C, E, Q) 4 0 0 [(0, .ref (kad E 48 0)), (1, .int a1), (2, .int a2)] [] σ _
  unfold f_X6_fill
  refine k_aload_n hk dX6_fill_0 0 rfl ?_
  refine k_iconst (v := 0) hk dX6_fill_1 (by decide) ?_
  refine k_putf (k := 0) hk dX6_fill_2 rfl (by decide) kc6 (by decide) fl_RX6_113 rfl rfl rfl rfl (fun σ14 => ?_)
  refine k_aload_n hk dX6_fill_5 0 rfl ?_
  refine k_iload_n hk dX6_fill_6 1 rfl ?_
  refine k_iconst (v := 0) hk dX6_fill_7 (by decide) ?_
  refine k_bipush (v := 7) hk dX6_fill_8 (by decide) ?_
  refine k_callSi (As := [.int a1, .int 0, .int 7]) (rest := [.ref (kad E 48 0)]) hk he hro (c_X6_in hj hn hl F a1 0 7  σ14) dX6_fill_10 cw_RX6_150 ⟨by decide, by decide⟩ (by decide) rfl (Nat.le_of_ble_eq_true rfl) (fun c16 σ15 => ?_)
  refine k_if_ne hk dX6_fill_13 20 (by decide) (fun h17 => ?_) (fun h17 => ?_)
  · refine k_iconst (v := 0) hk dX6_fill_20 (by decide) ?_
    exact k_sub [0, 1, 2] rfl (s_X6_fill_b21 hj hn hl hk he hro F  a1 a2 0  σ15)
  · refine k_iconst (v := 1) hk dX6_fill_16 (by decide) ?_
    refine k_goto hk dX6_fill_17 21 (by decide) ?_
    exact k_sub [0, 1, 2] rfl (s_X6_fill_b21 hj hn hl hk he hro F  a1 a2 1  σ15)
def f_X6_begins_b171 (F : Nat) (rr171 : Int32 → kS → Option kR) (a : Int32) (σ : kS) : Option kR := match a with
  | x2 => if 8 ≤ x2 then (kb (kU σ 48 0 36 (-1)) fun σ2 => kb (kU σ2 48 0 37 (-1)) fun σ3 => kb (kU σ3 48 0 38 (-1)) fun σ4 => some (.inl none, σ4)) else (kg (kin x2 8) (kg (kin x2 8) (kb (kU σ 64 0 x2.toNatClampNeg (σ.1 62 0 x2.toNatClampNeg)) fun σ6 => kg (kin x2 8) (kb (kU σ6 65 0 x2.toNatClampNeg 0) fun σ8 => kg (kin x2 8) (kb (kU σ8 66 0 x2.toNatClampNeg (-1)) fun σ10 => rr171 (x2 + 1) σ10)))))
set_option maxRecDepth 20000 in
theorem s_X6_begins_b171 {l : Launch} {E : kE} (hj : kEj E) (hn : kNorm E) (hl : l.stackTraces = false) {C : kC} {Q : kR → State → Prop} (hk : kOk (C, E, Q) cX6_begins RX6 4) (he : kEnd (C, E, Q) none id 0) (hro : kRo C l (0) (0) 0) (F : Nat) : ∀ (N9 : Nat) (x2 : Int32)  (σ : kS), Sm (C, E, Q) 4 0 171 [(0, .ref (kad E 48 0)), (2, .int x2)] [] σ (kFix (f_X6_begins_b171 F) N9 x2 σ) := by
  intro N9
  induction N9 with
  | zero => intro x2  σ; exact k_no
  | succ N9 ih =>
    intro x2  σ
    show Sm _ _ _ _ _ _ _ (f_X6_begins_b171 F (kFix (f_X6_begins_b171 F) N9) x2 σ)
    generalize kFix (f_X6_begins_b171 F) N9 = rr171 at ih
    have hrr171 := ih
    unfold f_X6_begins_b171
    dsimp only
    refine k_iload_n hk dX6_begins_171 1 rfl ?_
    refine k_bipush (v := 8) hk dX6_begins_172 (by decide) ?_
    refine k_icmp_ge hk dX6_begins_174 209 (by decide) (fun h1 => ?_) (fun h1 => ?_)
    · refine k_aload_n hk dX6_begins_209 0 rfl ?_
      refine k_iconst (v := (-1)) hk dX6_begins_210 (by decide) ?_
      refine k_putf (k := 36) hk dX6_begins_211 rfl (by decide) kc6 (by decide) fl_RX6_246 rfl rfl rfl rfl (fun σ2 => ?_)
      refine k_aload_n hk dX6_begins_214 0 rfl ?_
      refine k_iconst (v := (-1)) hk dX6_begins_215 (by decide) ?_
      refine k_putf (k := 37) hk dX6_begins_216 rfl (by decide) kc6 (by decide) fl_RX6_249 rfl rfl rfl rfl (fun σ3 => ?_)
      refine k_aload_n hk dX6_begins_219 0 rfl ?_
      refine k_iconst (v := (-1)) hk dX6_begins_220 (by decide) ?_
      refine k_putf (k := 38) hk dX6_begins_221 rfl (by decide) kc6 (by decide) fl_RX6_252 rfl rfl rfl rfl (fun σ4 => ?_)
      exact k_return hk he dX6_begins_224 (by decide)
    · refine k_aload_n hk dX6_begins_177 0 rfl ?_
      refine k_getr (k := 23) 64 0 hk dX6_begins_178 rfl (by decide) kc6 (by decide) fl_RX6_52 rfl rfl ?_
      refine k_iload_n hk dX6_begins_181 1 rfl ?_
      refine k_aload_n hk dX6_begins_182 0 rfl ?_
      refine k_getr (k := 21) 62 0 hk dX6_begins_183 rfl (by decide) kc6 (by decide) fl_RX6_46 rfl rfl ?_
      refine k_iload_n hk dX6_begins_186 1 rfl ?_
      refine k_iald hk dX6_begins_187 rfl (by decide) (fun h5 => ?_)
      refine k_iast hk dX6_begins_188 rfl (by decide) (fun h7 σ6 => ?_)
      refine k_aload_n hk dX6_begins_189 0 rfl ?_
      refine k_getr (k := 24) 65 0 hk dX6_begins_190 rfl (by decide) kc6 (by decide) fl_RX6_55 rfl rfl ?_
      refine k_iload_n hk dX6_begins_193 1 rfl ?_
      refine k_iconst (v := 0) hk dX6_begins_194 (by decide) ?_
      refine k_iast hk dX6_begins_195 rfl (by decide) (fun h9 σ8 => ?_)
      refine k_aload_n hk dX6_begins_196 0 rfl ?_
      refine k_getr (k := 25) 66 0 hk dX6_begins_197 rfl (by decide) kc6 (by decide) fl_RX6_58 rfl rfl ?_
      refine k_iload_n hk dX6_begins_200 1 rfl ?_
      refine k_iconst (v := (-1)) hk dX6_begins_201 (by decide) ?_
      refine k_iast hk dX6_begins_202 rfl (by decide) (fun h11 σ10 => ?_)
      refine k_iinc (lv' := [(2, .int (x2 + 1)), (0, .ref (kad E 48 0))]) (j := 1) (y := x2 + 1) hk dX6_begins_203 rfl rfl (by decide) rfl ?_
      refine k_goto hk dX6_begins_206 171 (by decide) ?_
      exact k_sub [1, 0] rfl (hrr171 (x2 + 1)  σ10)
def f_X6_begins_b163 (F : Nat) (rr123 : (Int32 × Int32) → kS → Option kR) (x1 : Int32) (x2 : Int32) (σ : kS) : Option kR := rr123 (x1, x2 + 1) σ
set_option maxRecDepth 20000 in
theorem s_X6_begins_b163 {l : Launch} {E : kE} (hj : kEj E) (hn : kNorm E) (hl : l.stackTraces = false) {C : kC} {Q : kR → State → Prop} (hk : kOk (C, E, Q) cX6_begins RX6 4) (he : kEnd (C, E, Q) none id 0) (hro : kRo C l (0) (0) 0) (F : Nat) (rr123 : (Int32 × Int32) → kS → Option kR) (hrr123 : ∀ (x1 : Int32) (x2 : Int32)  (σ : kS), Sm (C, E, Q) 4 0 123 [(0, .ref (kad E 48 0)), (1, .int x1), (2, .int x2)] [] σ (rr123 (x1, x2) σ)) : ∀ (x1 : Int32) (x2 : Int32)  (σ : kS), Sm (C, E, Q) 4 0 163 [(0, .ref (kad E 48 0)), (1, .int x1), (2, .int x2)] [] σ (f_X6_begins_b163 F rr123 x1 x2 σ) := by
  intro x1 x2  σ
  unfold f_X6_begins_b163
  refine k_iinc (lv' := [(2, .int (x2 + 1)), (0, .ref (kad E 48 0)), (1, .int x1)]) (j := 2) (y := x2 + 1) hk dX6_begins_163 rfl rfl (by decide) rfl ?_
  refine k_goto hk dX6_begins_166 123 (by decide) ?_
  exact k_sub [1, 2, 0] rfl (hrr123 x1 (x2 + 1)  σ)
def f_X6_begins_b123 (F : Nat) (rr123 : (Int32 × Int32) → kS → Option kR) (a : (Int32 × Int32)) (σ : kS) : Option kR := match a with
  | (x1, x2) => kg (kin x1 6) (if (σ.1 57 0 x1.toNatClampNeg) ≤ x2 then (kFix (f_X6_begins_b171 F) F 0 σ) else (kg (kin ((14 * x1) + x2) 84) (kb (((14 * x1) + x2).toNatClampNeg) fun j14 => if (σ.1 56 j14 0) = 2 then (kg (kin (σ.1 56 j14 1) 10) (kb (kU σ 63 0 (σ.1 56 j14 1).toNatClampNeg (σ.1 56 j14 2)) fun σ16 => f_X6_begins_b163 F rr123 x1 x2 σ16)) else (f_X6_begins_b163 F rr123 x1 x2 σ))))
set_option maxRecDepth 20000 in
theorem s_X6_begins_b123 {l : Launch} {E : kE} (hj : kEj E) (hn : kNorm E) (hl : l.stackTraces = false) {C : kC} {Q : kR → State → Prop} (hk : kOk (C, E, Q) cX6_begins RX6 4) (he : kEnd (C, E, Q) none id 0) (hro : kRo C l (0) (0) 0) (F : Nat) : ∀ (N9 : Nat) (x1 : Int32) (x2 : Int32)  (σ : kS), Sm (C, E, Q) 4 0 123 [(0, .ref (kad E 48 0)), (1, .int x1), (2, .int x2)] [] σ (kFix (f_X6_begins_b123 F) N9 (x1, x2) σ) := by
  intro N9
  induction N9 with
  | zero => intro x1 x2  σ; exact k_no
  | succ N9 ih =>
    intro x1 x2  σ
    show Sm _ _ _ _ _ _ _ (f_X6_begins_b123 F (kFix (f_X6_begins_b123 F) N9) (x1, x2) σ)
    generalize kFix (f_X6_begins_b123 F) N9 = rr123 at ih
    have hrr123 := ih
    unfold f_X6_begins_b123
    dsimp only
    refine k_iload_n hk dX6_begins_123 2 rfl ?_
    refine k_aload_n hk dX6_begins_124 0 rfl ?_
    refine k_getr (k := 16) 57 0 hk dX6_begins_125 rfl (by decide) kc6 (by decide) fl_RX6_31 rfl rfl ?_
    refine k_iload_n hk dX6_begins_128 1 rfl ?_
    refine k_iald hk dX6_begins_129 rfl (by decide) (fun h12 => ?_)
    refine k_icmp_ge hk dX6_begins_130 169 (by decide) (fun h13 => ?_) (fun h13 => ?_)
    · refine k_iconst (v := 0) hk dX6_begins_169 (by decide) ?_
      refine k_istore_n (lv' := [(2, .int 0), (0, .ref (kad E 48 0)), (1, .int x1)]) hk dX6_begins_170 (by decide) rfl ?_
      exact k_sub [1, 0] rfl (s_X6_begins_b171 hj hn hl hk he hro F F 0  σ)
    · refine k_aload_n hk dX6_begins_133 0 rfl ?_
      refine k_getr (k := 15) 55 0 hk dX6_begins_134 rfl (by decide) kc6 (by decide) fl_RX6_28 rfl rfl ?_
      refine k_bipush (v := 14) hk dX6_begins_137 (by decide) ?_
      refine k_iload_n hk dX6_begins_139 1 rfl ?_
      refine k_imul hk dX6_begins_140 ?_
      refine k_iload_n hk dX6_begins_141 2 rfl ?_
      refine k_iadd hk dX6_begins_142 ?_
      refine k_aaldj (g' := 56) (fun z => z) hk dX6_begins_143 rfl rfl rfl (by decide) (fun z => rfl) (by decide) (fun j14 hj14 => ?_)
      refine k_astore_n (lv' := [(3, .ref (kad E 56 j14)), (0, .ref (kad E 48 0)), (1, .int x1), (2, .int x2)]) hk dX6_begins_144 (by decide) rfl ?_
      refine k_aload_n hk dX6_begins_145 0 rfl ?_
      refine k_iconst (v := 0) hk dX6_begins_146 (by decide) ?_
      refine k_iald_k (kk := 0) hk dX6_begins_147 rfl hj14 (by decide) (by decide) ?_
      refine k_iconst (v := 2) hk dX6_begins_148 (by decide) ?_
      refine k_icmp_ne hk dX6_begins_149 163 (by decide) (fun h15 => ?_) (fun h15 => ?_)
      · exact k_sub [1, 2, 3] rfl (s_X6_begins_b163 hj hn hl hk he hro F rr123 hrr123  x1 x2  σ)
      · refine k_aload_n hk dX6_begins_152 1 rfl ?_
        refine k_getr (k := 22) 63 0 hk dX6_begins_153 rfl (by decide) kc6 (by decide) fl_RX6_49 rfl rfl ?_
        refine k_aload_n hk dX6_begins_156 0 rfl ?_
        refine k_iconst (v := 1) hk dX6_begins_157 (by decide) ?_
        refine k_iald_k (kk := 1) hk dX6_begins_158 rfl hj14 (by decide) (by decide) ?_
        refine k_aload_n hk dX6_begins_159 0 rfl ?_
        refine k_iconst (v := 2) hk dX6_begins_160 (by decide) ?_
        refine k_iald_k (kk := 2) hk dX6_begins_161 rfl hj14 (by decide) (by decide) ?_
        refine k_iast hk dX6_begins_162 rfl (by decide) (fun h17 σ16 => ?_)
        exact k_sub [1, 2, 3] rfl (s_X6_begins_b163 hj hn hl hk he hro F rr123 hrr123  x1 x2  σ16)
def f_X6_begins_b121 (F : Nat) (x1 : Int32) (σ : kS) : Option kR := kFix (f_X6_begins_b123 F) F (x1, 0) σ
set_option maxRecDepth 20000 in
theorem s_X6_begins_b121 {l : Launch} {E : kE} (hj : kEj E) (hn : kNorm E) (hl : l.stackTraces = false) {C : kC} {Q : kR → State → Prop} (hk : kOk (C, E, Q) cX6_begins RX6 4) (he : kEnd (C, E, Q) none id 0) (hro : kRo C l (0) (0) 0) (F : Nat) : ∀ (x1 : Int32)  (σ : kS), Sm (C, E, Q) 4 0 121 [(0, .ref (kad E 48 0)), (1, .int x1)] [] σ (f_X6_begins_b121 F x1 σ) := by
  intro x1  σ
  unfold f_X6_begins_b121
  refine k_iconst (v := 0) hk dX6_begins_121 (by decide) ?_
  refine k_istore_n (lv' := [(2, .int 0), (0, .ref (kad E 48 0)), (1, .int x1)]) hk dX6_begins_122 (by decide) rfl ?_
  exact k_sub [1, 2, 0] rfl (s_X6_begins_b123 hj hn hl hk he hro F F x1 0  σ)
def f_X6_begins_b103 (F : Nat) (x1 : Int32) (σ : kS) : Option kR := if (σ.1 48 0 41) = (-1) then (f_X6_begins_b121 F x1 σ) else (kb (kU σ 63 0 1 (σ.1 48 0 41)) fun σ19 => f_X6_begins_b121 F x1 σ19)
set_option maxRecDepth 20000 in
theorem s_X6_begins_b103 {l : Launch} {E : kE} (hj : kEj E) (hn : kNorm E) (hl : l.stackTraces = false) {C : kC} {Q : kR → State → Prop} (hk : kOk (C, E, Q) cX6_begins RX6 4) (he : kEnd (C, E, Q) none id 0) (hro : kRo C l (0) (0) 0) (F : Nat) : ∀ (x1 : Int32)  (σ : kS), Sm (C, E, Q) 4 0 103 [(0, .ref (kad E 48 0)), (1, .int x1)] [] σ (f_X6_begins_b103 F x1 σ) := by
  intro x1  σ
  unfold f_X6_begins_b103
  refine k_aload_n hk dX6_begins_103 0 rfl ?_
  refine k_getf (k := 41) hk dX6_begins_104 rfl (by decide) kc6 (by decide) fl_RX6_94 rfl ?_
  refine k_iconst (v := (-1)) hk dX6_begins_107 (by decide) ?_
  refine k_icmp_eq hk dX6_begins_108 121 (by decide) (fun h18 => ?_) (fun h18 => ?_)
  · exact k_sub [0, 1] rfl (s_X6_begins_b121 hj hn hl hk he hro F  x1  σ)
  · refine k_aload_n hk dX6_begins_111 0 rfl ?_
    refine k_getr (k := 22) 63 0 hk dX6_begins_112 rfl (by decide) kc6 (by decide) fl_RX6_49 rfl rfl ?_
    refine k_iconst (v := 1) hk dX6_begins_115 (by decide) ?_
    refine k_aload_n hk dX6_begins_116 0 rfl ?_
    refine k_getf (k := 41) hk dX6_begins_117 rfl (by decide) kc6 (by decide) fl_RX6_94 rfl ?_
    refine k_iast_k (kk := 1) hk dX6_begins_120 rfl (by decide) (by decide) (by decide) (fun σ19 => ?_)
    exact k_sub [0, 1] rfl (s_X6_begins_b121 hj hn hl hk he hro F  x1  σ19)
def f_X6_begins_b69 (F : Nat) (rr28 : (Int32 × Int32) → kS → Option kR) (x1 : Int32) (x2 : Int32) (σ : kS) : Option kR := rr28 (x1, x2 + 1) σ
set_option maxRecDepth 20000 in
theorem s_X6_begins_b69 {l : Launch} {E : kE} (hj : kEj E) (hn : kNorm E) (hl : l.stackTraces = false) {C : kC} {Q : kR → State → Prop} (hk : kOk (C, E, Q) cX6_begins RX6 4) (he : kEnd (C, E, Q) none id 0) (hro : kRo C l (0) (0) 0) (F : Nat) (rr28 : (Int32 × Int32) → kS → Option kR) (hrr28 : ∀ (x1 : Int32) (x2 : Int32)  (σ : kS), Sm (C, E, Q) 4 0 28 [(0, .ref (kad E 48 0)), (1, .int x1), (2, .int x2)] [] σ (rr28 (x1, x2) σ)) : ∀ (x1 : Int32) (x2 : Int32)  (σ : kS), Sm (C, E, Q) 4 0 69 [(0, .ref (kad E 48 0)), (1, .int x1), (2, .int x2)] [] σ (f_X6_begins_b69 F rr28 x1 x2 σ) := by
  intro x1 x2  σ
  unfold f_X6_begins_b69
  refine k_iinc (lv' := [(2, .int (x2 + 1)), (0, .ref (kad E 48 0)), (1, .int x1)]) (j := 2) (y := x2 + 1) hk dX6_begins_69 rfl rfl (by decide) rfl ?_
  refine k_goto hk dX6_begins_72 28 (by decide) ?_
  exact k_sub [1, 2, 0] rfl (hrr28 x1 (x2 + 1)  σ)
def f_X6_begins_b28 (F : Nat) (rr28 : (Int32 × Int32) → kS → Option kR) (a : (Int32 × Int32)) (σ : kS) : Option kR := match a with
  | (x1, x2) => if (σ.1 48 0 45) ≤ x2 then (if (σ.1 48 0 39) = (-1) then (f_X6_begins_b103 F x1 σ) else (kb (kU σ 63 0 0 (σ.1 48 0 39)) fun σ22 => kb (kU σ22 63 0 2 (σ22.1 48 0 40)) fun σ23 => f_X6_begins_b103 F x1 σ23)) else (if (((σ.1 48 0 42) >>> (x2 &&& 31)) &&& 1) = 1 then (kg (kin x2 5) (kb (x2.toNatClampNeg) fun j25 => kg (kin x2 5) (kb (x2.toNatClampNeg) fun j26 => kg (kin (σ.1 86 j25 0) 10) (kb (kU σ 63 0 (σ.1 86 j25 0).toNatClampNeg (σ.1 86 j26 1)) fun σ27 => f_X6_begins_b69 F rr28 x1 x2 σ27)))) else (f_X6_begins_b69 F rr28 x1 x2 σ))
set_option maxRecDepth 20000 in
theorem s_X6_begins_b28 {l : Launch} {E : kE} (hj : kEj E) (hn : kNorm E) (hl : l.stackTraces = false) {C : kC} {Q : kR → State → Prop} (hk : kOk (C, E, Q) cX6_begins RX6 4) (he : kEnd (C, E, Q) none id 0) (hro : kRo C l (0) (0) 0) (F : Nat) : ∀ (N9 : Nat) (x1 : Int32) (x2 : Int32)  (σ : kS), Sm (C, E, Q) 4 0 28 [(0, .ref (kad E 48 0)), (1, .int x1), (2, .int x2)] [] σ (kFix (f_X6_begins_b28 F) N9 (x1, x2) σ) := by
  intro N9
  induction N9 with
  | zero => intro x1 x2  σ; exact k_no
  | succ N9 ih =>
    intro x1 x2  σ
    show Sm _ _ _ _ _ _ _ (f_X6_begins_b28 F (kFix (f_X6_begins_b28 F) N9) (x1, x2) σ)
    generalize kFix (f_X6_begins_b28 F) N9 = rr28 at ih
    have hrr28 := ih
    unfold f_X6_begins_b28
    dsimp only
    refine k_iload_n hk dX6_begins_28 2 rfl ?_
    refine k_aload_n hk dX6_begins_29 0 rfl ?_
    refine k_getf (k := 45) hk dX6_begins_30 rfl (by decide) kc6 (by decide) fl_RX6_237 rfl ?_
    refine k_icmp_ge hk dX6_begins_33 75 (by decide) (fun h20 => ?_) (fun h20 => ?_)
    · refine k_aload_n hk dX6_begins_75 0 rfl ?_
      refine k_getf (k := 39) hk dX6_begins_76 rfl (by decide) kc6 (by decide) fl_RX6_91 rfl ?_
      refine k_iconst (v := (-1)) hk dX6_begins_79 (by decide) ?_
      refine k_icmp_eq hk dX6_begins_80 103 (by decide) (fun h21 => ?_) (fun h21 => ?_)
      · exact k_sub [0, 1] rfl (s_X6_begins_b103 hj hn hl hk he hro F  x1  σ)
      · refine k_aload_n hk dX6_begins_83 0 rfl ?_
        refine k_getr (k := 22) 63 0 hk dX6_begins_84 rfl (by decide) kc6 (by decide) fl_RX6_49 rfl rfl ?_
        refine k_iconst (v := 0) hk dX6_begins_87 (by decide) ?_
        refine k_aload_n hk dX6_begins_88 0 rfl ?_
        refine k_getf (k := 39) hk dX6_begins_89 rfl (by decide) kc6 (by decide) fl_RX6_91 rfl ?_
        refine k_iast_k (kk := 0) hk dX6_begins_92 rfl (by decide) (by decide) (by decide) (fun σ22 => ?_)
        refine k_aload_n hk dX6_begins_93 0 rfl ?_
        refine k_getr (k := 22) 63 0 hk dX6_begins_94 rfl (by decide) kc6 (by decide) fl_RX6_49 rfl rfl ?_
        refine k_iconst (v := 2) hk dX6_begins_97 (by decide) ?_
        refine k_aload_n hk dX6_begins_98 0 rfl ?_
        refine k_getf (k := 40) hk dX6_begins_99 rfl (by decide) kc6 (by decide) fl_RX6_243 rfl ?_
        refine k_iast_k (kk := 2) hk dX6_begins_102 rfl (by decide) (by decide) (by decide) (fun σ23 => ?_)
        exact k_sub [0, 1] rfl (s_X6_begins_b103 hj hn hl hk he hro F  x1  σ23)
    · refine k_aload_n hk dX6_begins_36 0 rfl ?_
      refine k_getf (k := 42) hk dX6_begins_37 rfl (by decide) kc6 (by decide) fl_RX6_240 rfl ?_
      refine k_iload_n hk dX6_begins_40 2 rfl ?_
      refine k_ishr hk dX6_begins_41 ?_
      refine k_iconst (v := 1) hk dX6_begins_42 (by decide) ?_
      refine k_iand hk dX6_begins_43 ?_
      refine k_iconst (v := 1) hk dX6_begins_44 (by decide) ?_
      refine k_icmp_ne hk dX6_begins_45 69 (by decide) (fun h24 => ?_) (fun h24 => ?_)
      · exact k_sub [0, 1, 2] rfl (s_X6_begins_b69 hj hn hl hk he hro F rr28 hrr28  x1 x2  σ)
      · refine k_aload_n hk dX6_begins_48 0 rfl ?_
        refine k_getr (k := 22) 63 0 hk dX6_begins_49 rfl (by decide) kc6 (by decide) fl_RX6_49 rfl rfl ?_
        refine k_aload_n hk dX6_begins_52 0 rfl ?_
        refine k_getr (k := 49) 85 0 hk dX6_begins_53 rfl (by decide) kc6 (by decide) fl_RX6_103 rfl rfl ?_
        refine k_iload_n hk dX6_begins_56 2 rfl ?_
        refine k_aaldj (g' := 86) (fun z => z) hk dX6_begins_57 rfl rfl rfl (by decide) (fun z => rfl) (by decide) (fun j25 hj25 => ?_)
        refine k_iconst (v := 0) hk dX6_begins_58 (by decide) ?_
        refine k_iald_k (kk := 0) hk dX6_begins_59 rfl hj25 (by decide) (by decide) ?_
        refine k_aload_n hk dX6_begins_60 0 rfl ?_
        refine k_getr (k := 49) 85 0 hk dX6_begins_61 rfl (by decide) kc6 (by decide) fl_RX6_103 rfl rfl ?_
        refine k_iload_n hk dX6_begins_64 2 rfl ?_
        refine k_aaldj (g' := 86) (fun z => z) hk dX6_begins_65 rfl rfl rfl (by decide) (fun z => rfl) (by decide) (fun j26 hj26 => ?_)
        refine k_iconst (v := 1) hk dX6_begins_66 (by decide) ?_
        refine k_iald_k (kk := 1) hk dX6_begins_67 rfl hj26 (by decide) (by decide) ?_
        refine k_iast hk dX6_begins_68 rfl (by decide) (fun h28 σ27 => ?_)
        exact k_sub [0, 1, 2] rfl (s_X6_begins_b69 hj hn hl hk he hro F rr28 hrr28  x1 x2  σ27)
def f_X6_begins_b2 (F : Nat) (rr2 : (Int32 × Int32) → kS → Option kR) (a : (Int32 × Int32)) (σ : kS) : Option kR := match a with
  | (x1, x2) => if 10 ≤ x2 then (kFix (f_X6_begins_b28 F) F (x1, 0) σ) else (kg (kin x2 10) (kg (kin x2 10) (kb (kU σ 63 0 x2.toNatClampNeg (σ.1 61 0 x2.toNatClampNeg)) fun σ31 => rr2 (x1, x2 + 1) σ31)))
set_option maxRecDepth 20000 in
theorem s_X6_begins_b2 {l : Launch} {E : kE} (hj : kEj E) (hn : kNorm E) (hl : l.stackTraces = false) {C : kC} {Q : kR → State → Prop} (hk : kOk (C, E, Q) cX6_begins RX6 4) (he : kEnd (C, E, Q) none id 0) (hro : kRo C l (0) (0) 0) (F : Nat) : ∀ (N9 : Nat) (x1 : Int32) (x2 : Int32)  (σ : kS), Sm (C, E, Q) 4 0 2 [(0, .ref (kad E 48 0)), (1, .int x1), (2, .int x2)] [] σ (kFix (f_X6_begins_b2 F) N9 (x1, x2) σ) := by
  intro N9
  induction N9 with
  | zero => intro x1 x2  σ; exact k_no
  | succ N9 ih =>
    intro x1 x2  σ
    show Sm _ _ _ _ _ _ _ (f_X6_begins_b2 F (kFix (f_X6_begins_b2 F) N9) (x1, x2) σ)
    generalize kFix (f_X6_begins_b2 F) N9 = rr2 at ih
    have hrr2 := ih
    unfold f_X6_begins_b2
    dsimp only
    refine k_iload_n hk dX6_begins_2 2 rfl ?_
    refine k_bipush (v := 10) hk dX6_begins_3 (by decide) ?_
    refine k_icmp_ge hk dX6_begins_5 26 (by decide) (fun h29 => ?_) (fun h29 => ?_)
    · refine k_iconst (v := 0) hk dX6_begins_26 (by decide) ?_
      refine k_istore_n (lv' := [(2, .int 0), (0, .ref (kad E 48 0)), (1, .int x1)]) hk dX6_begins_27 (by decide) rfl ?_
      exact k_sub [1, 2, 0] rfl (s_X6_begins_b28 hj hn hl hk he hro F F x1 0  σ)
    · refine k_aload_n hk dX6_begins_8 0 rfl ?_
      refine k_getr (k := 22) 63 0 hk dX6_begins_9 rfl (by decide) kc6 (by decide) fl_RX6_49 rfl rfl ?_
      refine k_iload_n hk dX6_begins_12 2 rfl ?_
      refine k_aload_n hk dX6_begins_13 0 rfl ?_
      refine k_getr (k := 20) 61 0 hk dX6_begins_14 rfl (by decide) kc6 (by decide) fl_RX6_43 rfl rfl ?_
      refine k_iload_n hk dX6_begins_17 2 rfl ?_
      refine k_iald hk dX6_begins_18 rfl (by decide) (fun h30 => ?_)
      refine k_iast hk dX6_begins_19 rfl (by decide) (fun h32 σ31 => ?_)
      refine k_iinc (lv' := [(2, .int (x2 + 1)), (0, .ref (kad E 48 0)), (1, .int x1)]) (j := 2) (y := x2 + 1) hk dX6_begins_20 rfl rfl (by decide) rfl ?_
      refine k_goto hk dX6_begins_23 2 (by decide) ?_
      exact k_sub [1, 2, 0] rfl (hrr2 x1 (x2 + 1)  σ31)
def f_X6_begins (F : Nat) (a1 : Int32) (σ : kS) : Option kR := kFix (f_X6_begins_b2 F) F (a1, 0) σ
set_option maxRecDepth 20000 in
theorem c_X6_begins {l : Launch} {E : kE} (hj : kEj E) (hn : kNorm E) (hl : l.stackTraces = false) (F : Nat) (a1 : Int32)  (σ : kS) : kMet l E yX6_begins cX6_begins 4 none (0) (0) 0 id [.ref (kad E 48 0), .int a1] σ (f_X6_begins F a1 σ) := by
  refine k_met hj hn hl (by decide) (Nat.le_of_ble_eq_true rfl) (fun C Q hk he hro => ?_)
  have hk : kOk (C, E, Q) cX6_begins RX6 4 := hk
  show Sm (C, E, Q) 4 0 0 [(0, .ref (kad E 48 0)), (1, .int a1)] [] σ _
  unfold f_X6_begins
  refine k_iconst (v := 0) hk dX6_begins_0 (by decide) ?_
  refine k_istore_n (lv' := [(2, .int 0), (0, .ref (kad E 48 0)), (1, .int a1)]) hk dX6_begins_1 (by decide) rfl ?_
  exact k_sub [1, 2, 0] rfl (s_X6_begins_b2 hj hn hl hk he hro F F a1 0  σ)
def f_X6_allGas_b4 (F : Nat) (rr4 : (Int32 × Int32 × Int32) → kS → Option kR) (a : (Int32 × Int32 × Int32)) (σ : kS) : Option kR := match a with
  | (x1, x2, x3) => if 8 ≤ x3 then (some (.inl (some (.int x2)), σ)) else (kg (kin x1 100) (kb (x1.toNatClampNeg) fun j2 => kg (kin x3 8) (kb (x2 + (σ.1 68 j2 x3.toNatClampNeg)) fun y4 => rr4 (x1, y4, x3 + 1) σ)))
set_option maxRecDepth 20000 in
theorem s_X6_allGas_b4 {l : Launch} {E : kE} (hj : kEj E) (hn : kNorm E) (hl : l.stackTraces = false) {C : kC} {Q : kR → State → Prop} (hk : kOk (C, E, Q) cX6_allGas RX6 4) (he : kEnd (C, E, Q) (some .int) id 0) (hro : kRo C l (0) (0) 0) (F : Nat) : ∀ (N9 : Nat) (x1 : Int32) (x2 : Int32) (x3 : Int32)  (σ : kS), Sm (C, E, Q) 4 0 4 [(0, .ref (kad E 48 0)), (1, .int x1), (2, .int x2), (3, .int x3)] [] σ (kFix (f_X6_allGas_b4 F) N9 (x1, x2, x3) σ) := by
  intro N9
  induction N9 with
  | zero => intro x1 x2 x3  σ; exact k_no
  | succ N9 ih =>
    intro x1 x2 x3  σ
    show Sm _ _ _ _ _ _ _ (f_X6_allGas_b4 F (kFix (f_X6_allGas_b4 F) N9) (x1, x2, x3) σ)
    generalize kFix (f_X6_allGas_b4 F) N9 = rr4 at ih
    have hrr4 := ih
    unfold f_X6_allGas_b4
    dsimp only
    refine k_iload_n hk dX6_allGas_4 3 rfl ?_
    refine k_bipush (v := 8) hk dX6_allGas_5 (by decide) ?_
    refine k_icmp_ge hk dX6_allGas_7 27 (by decide) (fun h1 => ?_) (fun h1 => ?_)
    · refine k_iload_n hk dX6_allGas_27 2 rfl ?_
      exact k_ireturn hk he dX6_allGas_28 (by decide)
    · refine k_iload_n hk dX6_allGas_10 2 rfl ?_
      refine k_aload_n hk dX6_allGas_11 0 rfl ?_
      refine k_getr (k := 26) 67 0 hk dX6_allGas_12 rfl (by decide) kc6 (by decide) fl_RX6_61 rfl rfl ?_
      refine k_iload_n hk dX6_allGas_15 1 rfl ?_
      refine k_aaldj (g' := 68) (fun z => z) hk dX6_allGas_16 rfl rfl rfl (by decide) (fun z => rfl) (by decide) (fun j2 hj2 => ?_)
      refine k_iload_n hk dX6_allGas_17 3 rfl ?_
      refine k_iald hk dX6_allGas_18 rfl hj2 (fun h3 => ?_)
      refine k_iadd hk dX6_allGas_19 ?_
      refine k_nm (fun y4 => ?_)
      refine k_istore_n (lv' := [(2, .int y4), (0, .ref (kad E 48 0)), (1, .int x1), (3, .int x3)]) hk dX6_allGas_20 (by decide) rfl ?_
      refine k_iinc (lv' := [(3, .int (x3 + 1)), (2, .int y4), (0, .ref (kad E 48 0)), (1, .int x1)]) (j := 3) (y := x3 + 1) hk dX6_allGas_21 rfl rfl (by decide) rfl ?_
      refine k_goto hk dX6_allGas_24 4 (by decide) ?_
      exact k_sub [2, 3, 1, 0] rfl (hrr4 x1 y4 (x3 + 1)  σ)
def f_X6_allGas (F : Nat) (a1 : Int32) (σ : kS) : Option kR := kFix (f_X6_allGas_b4 F) F (a1, 0, 0) σ
set_option maxRecDepth 20000 in
theorem c_X6_allGas {l : Launch} {E : kE} (hj : kEj E) (hn : kNorm E) (hl : l.stackTraces = false) (F : Nat) (a1 : Int32)  (σ : kS) : kMet l E yX6_allGas cX6_allGas 4 (some .int) (0) (0) 0 id [.ref (kad E 48 0), .int a1] σ (f_X6_allGas F a1 σ) := by
  refine k_met hj hn hl (by decide) (Nat.le_of_ble_eq_true rfl) (fun C Q hk he hro => ?_)
  have hk : kOk (C, E, Q) cX6_allGas RX6 4 := hk
  show Sm (C, E, Q) 4 0 0 [(0, .ref (kad E 48 0)), (1, .int a1)] [] σ _
  unfold f_X6_allGas
  refine k_iconst (v := 0) hk dX6_allGas_0 (by decide) ?_
  refine k_istore_n (lv' := [(2, .int 0), (0, .ref (kad E 48 0)), (1, .int a1)]) hk dX6_allGas_1 (by decide) rfl ?_
  refine k_iconst (v := 0) hk dX6_allGas_2 (by decide) ?_
  refine k_istore_n (lv' := [(3, .int 0), (2, .int 0), (0, .ref (kad E 48 0)), (1, .int a1)]) hk dX6_allGas_3 (by decide) rfl ?_
  exact k_sub [2, 3, 1, 0] rfl (s_X6_allGas_b4 hj hn hl hk he hro F F a1 0 0  σ)
def f_X6_isLit_b25 (F : Nat) (t0 : Int32) (σ : kS) : Option kR := kg (narrow .boolean (.int t0) = .int t0) (some (.inl (some (.int t0)), σ))
set_option maxRecDepth 20000 in
theorem s_X6_isLit_b25 {l : Launch} {E : kE} (hj : kEj E) (hn : kNorm E) (hl : l.stackTraces = false) {C : kC} {Q : kR → State → Prop} (hk : kOk (C, E, Q) cX6_isLit RX6 3) (he : kEnd (C, E, Q) (some .boolean) id 0) (hro : kRo C l (0) (0) 0) (F : Nat) : ∀ (t0 : Int32)  (σ : kS), Sm (C, E, Q) 3 0 25 [] [.int t0] σ (f_X6_isLit_b25 F t0 σ) := by
  intro t0  σ
  unfold f_X6_isLit_b25
  exact k_zreturn hk he dX6_isLit_25 (by decide)
def f_X6_isLit_b24 (F : Nat)  (σ : kS) : Option kR := f_X6_isLit_b25 F 0 σ
set_option maxRecDepth 20000 in
theorem s_X6_isLit_b24 {l : Launch} {E : kE} (hj : kEj E) (hn : kNorm E) (hl : l.stackTraces = false) {C : kC} {Q : kR → State → Prop} (hk : kOk (C, E, Q) cX6_isLit RX6 3) (he : kEnd (C, E, Q) (some .boolean) id 0) (hro : kRo C l (0) (0) 0) (F : Nat) : ∀   (σ : kS), Sm (C, E, Q) 3 0 24 [] [] σ (f_X6_isLit_b24 F  σ) := by
  intro   σ
  unfold f_X6_isLit_b24
  refine k_iconst (v := 0) hk dX6_isLit_24 (by decide) ?_
  exact k_sub [] rfl (s_X6_isLit_b25 hj hn hl hk he hro F  0  σ)
def f_X6_isLit (F : Nat) (a1 : Int32) (a2 : Int32) (σ : kS) : Option kR := kg (kin a1 8) (if (σ.1 66 0 a1.toNatClampNeg) = (-1) then (f_X6_isLit_b24 F  σ) else (kg (kin a1 8) (if a2 < (σ.1 66 0 a1.toNatClampNeg) then (f_X6_isLit_b24 F  σ) else (f_X6_isLit_b25 F 1 σ))))
set_option maxRecDepth 20000 in
theorem c_X6_isLit {l : Launch} {E : kE} (hj : kEj E) (hn : kNorm E) (hl : l.stackTraces = false) (F : Nat) (a1 : Int32) (a2 : Int32)  (σ : kS) : kMet l E yX6_isLit cX6_isLit 3 (some .boolean) (0) (0) 0 id [.ref (kad E 48 0), .int a1, .int a2] σ (f_X6_isLit F a1 a2 σ) := by
  refine k_met hj hn hl (by decide) (Nat.le_of_ble_eq_true rfl) (fun C Q hk he hro => ?_)
  have hk : kOk (C, E, Q) cX6_isLit RX6 3 := hk
  show Sm (C, E, Q) 3 0 0 [(0, .ref (kad E 48 0)), (1, .int a1), (2, .int a2)] [] σ _
  unfold f_X6_isLit
  refine k_aload_n hk dX6_isLit_0 0 rfl ?_
  refine k_getr (k := 25) 66 0 hk dX6_isLit_1 rfl (by decide) kc6 (by decide) fl_RX6_58 rfl rfl ?_
  refine k_iload_n hk dX6_isLit_4 1 rfl ?_
  refine k_iald hk dX6_isLit_5 rfl (by decide) (fun h1 => ?_)
  refine k_iconst (v := (-1)) hk dX6_isLit_6 (by decide) ?_
  refine k_icmp_eq hk dX6_isLit_7 24 (by decide) (fun h2 => ?_) (fun h2 => ?_)
  · exact k_sub [] rfl (s_X6_isLit_b24 hj hn hl hk he hro F    σ)
  · refine k_aload_n hk dX6_isLit_10 0 rfl ?_
    refine k_getr (k := 25) 66 0 hk dX6_isLit_11 rfl (by decide) kc6 (by decide) fl_RX6_58 rfl rfl ?_
    refine k_iload_n hk dX6_isLit_14 1 rfl ?_
    refine k_iald hk dX6_isLit_15 rfl (by decide) (fun h3 => ?_)
    refine k_iload_n hk dX6_isLit_16 2 rfl ?_
    refine k_icmp_gt hk dX6_isLit_17 24 (by decide) (fun h4 => ?_) (fun h4 => ?_)
    · exact k_sub [] rfl (s_X6_isLit_b24 hj hn hl hk he hro F    σ)
    · refine k_iconst (v := 1) hk dX6_isLit_20 (by decide) ?_
      refine k_goto hk dX6_isLit_21 25 (by decide) ?_
      exact k_sub [] rfl (s_X6_isLit_b25 hj hn hl hk he hro F  1  σ)
def f_X6_isBeside_b87 (F : Nat) (t0 : Int32) (σ : kS) : Option kR := kg (narrow .boolean (.int t0) = .int t0) (some (.inl (some (.int t0)), σ))
set_option maxRecDepth 20000 in
theorem s_X6_isBeside_b87 {l : Launch} {E : kE} (hj : kEj E) (hn : kNorm E) (hl : l.stackTraces = false) {C : kC} {Q : kR → State → Prop} (hk : kOk (C, E, Q) cX6_isBeside RX6 4) (he : kEnd (C, E, Q) (some .boolean) id 0) (hro : kRo C l (0) (0) 0) (F : Nat) : ∀ (t0 : Int32)  (σ : kS), Sm (C, E, Q) 4 0 87 [] [.int t0] σ (f_X6_isBeside_b87 F t0 σ) := by
  intro t0  σ
  unfold f_X6_isBeside_b87
  exact k_zreturn hk he dX6_isBeside_87 (by decide)
def f_X6_isBeside_b86 (F : Nat)  (σ : kS) : Option kR := f_X6_isBeside_b87 F 0 σ
set_option maxRecDepth 20000 in
theorem s_X6_isBeside_b86 {l : Launch} {E : kE} (hj : kEj E) (hn : kNorm E) (hl : l.stackTraces = false) {C : kC} {Q : kR → State → Prop} (hk : kOk (C, E, Q) cX6_isBeside RX6 4) (he : kEnd (C, E, Q) (some .boolean) id 0) (hro : kRo C l (0) (0) 0) (F : Nat) : ∀   (σ : kS), Sm (C, E, Q) 4 0 86 [] [] σ (f_X6_isBeside_b86 F  σ) := by
  intro   σ
  unfold f_X6_isBeside_b86
  refine k_iconst (v := 0) hk dX6_isBeside_86 (by decide) ?_
  exact k_sub [] rfl (s_X6_isBeside_b87 hj hn hl hk he hro F  0  σ)
def f_X6_isBeside_b82 (F : Nat)  (σ : kS) : Option kR := f_X6_isBeside_b87 F 1 σ
set_option maxRecDepth 20000 in
theorem s_X6_isBeside_b82 {l : Launch} {E : kE} (hj : kEj E) (hn : kNorm E) (hl : l.stackTraces = false) {C : kC} {Q : kR → State → Prop} (hk : kOk (C, E, Q) cX6_isBeside RX6 4) (he : kEnd (C, E, Q) (some .boolean) id 0) (hro : kRo C l (0) (0) 0) (F : Nat) : ∀   (σ : kS), Sm (C, E, Q) 4 0 82 [] [] σ (f_X6_isBeside_b82 F  σ) := by
  intro   σ
  unfold f_X6_isBeside_b82
  refine k_iconst (v := 1) hk dX6_isBeside_82 (by decide) ?_
  refine k_goto hk dX6_isBeside_83 87 (by decide) ?_
  exact k_sub [] rfl (s_X6_isBeside_b87 hj hn hl hk he hro F  1  σ)
def f_X6_isBeside_b40 (F : Nat) (x1 : Int32) (x2 : Int32) (t0 : Int32) (σ : kS) : Option kR := if t0 = 0 then (if 7 ≤ x1 then (f_X6_isBeside_b86 F  σ) else (kg (kin (x1 + 1) 8) (if (σ.1 66 0 (x1 + 1).toNatClampNeg) = (-1) then (f_X6_isBeside_b86 F  σ) else (kg (kin (x1 + 1) 8) (if (x2 - (σ.1 66 0 (x1 + 1).toNatClampNeg)) < (σ.1 63 0 5) then (f_X6_isBeside_b86 F  σ) else (f_X6_isBeside_b82 F  σ)))))) else (f_X6_isBeside_b82 F  σ)
set_option maxRecDepth 20000 in
theorem s_X6_isBeside_b40 {l : Launch} {E : kE} (hj : kEj E) (hn : kNorm E) (hl : l.stackTraces = false) {C : kC} {Q : kR → State → Prop} (hk : kOk (C, E, Q) cX6_isBeside RX6 4) (he : kEnd (C, E, Q) (some .boolean) id 0) (hro : kRo C l (0) (0) 0) (F : Nat) : ∀ (x1 : Int32) (x2 : Int32) (t0 : Int32)  (σ : kS), Sm (C, E, Q) 4 0 40 [(0, .ref (kad E 48 0)), (1, .int x1), (2, .int x2)] [.int t0] σ (f_X6_isBeside_b40 F x1 x2 t0 σ) := by
  intro x1 x2 t0  σ
  unfold f_X6_isBeside_b40
  refine k_istore_n (lv' := [(3, .int t0), (0, .ref (kad E 48 0)), (1, .int x1), (2, .int x2)]) hk dX6_isBeside_40 (by decide) rfl ?_
  refine k_iload_n hk dX6_isBeside_41 0 rfl ?_
  refine k_if_ne hk dX6_isBeside_42 82 (by decide) (fun h1 => ?_) (fun h1 => ?_)
  · exact k_sub [] rfl (s_X6_isBeside_b82 hj hn hl hk he hro F    σ)
  · refine k_iload_n hk dX6_isBeside_45 2 rfl ?_
    refine k_bipush (v := 7) hk dX6_isBeside_46 (by decide) ?_
    refine k_icmp_ge hk dX6_isBeside_48 86 (by decide) (fun h2 => ?_) (fun h2 => ?_)
    · exact k_sub [] rfl (s_X6_isBeside_b86 hj hn hl hk he hro F    σ)
    · refine k_aload_n hk dX6_isBeside_51 1 rfl ?_
      refine k_getr (k := 25) 66 0 hk dX6_isBeside_52 rfl (by decide) kc6 (by decide) fl_RX6_58 rfl rfl ?_
      refine k_iload_n hk dX6_isBeside_55 2 rfl ?_
      refine k_iconst (v := 1) hk dX6_isBeside_56 (by decide) ?_
      refine k_iadd hk dX6_isBeside_57 ?_
      refine k_iald hk dX6_isBeside_58 rfl (by decide) (fun h3 => ?_)
      refine k_iconst (v := (-1)) hk dX6_isBeside_59 (by decide) ?_
      refine k_icmp_eq hk dX6_isBeside_60 86 (by decide) (fun h4 => ?_) (fun h4 => ?_)
      · exact k_sub [] rfl (s_X6_isBeside_b86 hj hn hl hk he hro F    σ)
      · refine k_iload_n hk dX6_isBeside_63 3 rfl ?_
        refine k_aload_n hk dX6_isBeside_64 1 rfl ?_
        refine k_getr (k := 25) 66 0 hk dX6_isBeside_65 rfl (by decide) kc6 (by decide) fl_RX6_58 rfl rfl ?_
        refine k_iload_n hk dX6_isBeside_68 2 rfl ?_
        refine k_iconst (v := 1) hk dX6_isBeside_69 (by decide) ?_
        refine k_iadd hk dX6_isBeside_70 ?_
        refine k_iald hk dX6_isBeside_71 rfl (by decide) (fun h5 => ?_)
        refine k_isub hk dX6_isBeside_72 ?_
        refine k_aload_n hk dX6_isBeside_73 1 rfl ?_
        refine k_getr (k := 22) 63 0 hk dX6_isBeside_74 rfl (by decide) kc6 (by decide) fl_RX6_49 rfl rfl ?_
        refine k_iconst (v := 5) hk dX6_isBeside_77 (by decide) ?_
        refine k_iald_k (kk := 5) hk dX6_isBeside_78 rfl (by decide) (by decide) (by decide) ?_
        refine k_icmp_lt hk dX6_isBeside_79 86 (by decide) (fun h6 => ?_) (fun h6 => ?_)
        · exact k_sub [] rfl (s_X6_isBeside_b86 hj hn hl hk he hro F    σ)
        · exact k_sub [] rfl (s_X6_isBeside_b82 hj hn hl hk he hro F    σ)
def f_X6_isBeside_b39 (F : Nat) (x1 : Int32) (x2 : Int32) (σ : kS) : Option kR := f_X6_isBeside_b40 F x1 x2 0 σ
set_option maxRecDepth 20000 in
theorem s_X6_isBeside_b39 {l : Launch} {E : kE} (hj : kEj E) (hn : kNorm E) (hl : l.stackTraces = false) {C : kC} {Q : kR → State → Prop} (hk : kOk (C, E, Q) cX6_isBeside RX6 4) (he : kEnd (C, E, Q) (some .boolean) id 0) (hro : kRo C l (0) (0) 0) (F : Nat) : ∀ (x1 : Int32) (x2 : Int32)  (σ : kS), Sm (C, E, Q) 4 0 39 [(0, .ref (kad E 48 0)), (1, .int x1), (2, .int x2)] [] σ (f_X6_isBeside_b39 F x1 x2 σ) := by
  intro x1 x2  σ
  unfold f_X6_isBeside_b39
  refine k_iconst (v := 0) hk dX6_isBeside_39 (by decide) ?_
  exact k_sub [0, 1, 2] rfl (s_X6_isBeside_b40 hj hn hl hk he hro F  x1 x2 0  σ)
def f_X6_isBeside (F : Nat) (a1 : Int32) (a2 : Int32) (σ : kS) : Option kR := if a1 ≤ 0 then (f_X6_isBeside_b39 F a1 a2 σ) else (kg (kin (a1 - 1) 8) (if (σ.1 66 0 (a1 - 1).toNatClampNeg) = (-1) then (f_X6_isBeside_b39 F a1 a2 σ) else (kg (kin (a1 - 1) 8) (if (a2 - (σ.1 66 0 (a1 - 1).toNatClampNeg)) < (σ.1 63 0 5) then (f_X6_isBeside_b39 F a1 a2 σ) else (f_X6_isBeside_b40 F a1 a2 1 σ)))))
set_option maxRecDepth 20000 in
theorem c_X6_isBeside {l : Launch} {E : kE} (hj : kEj E) (hn : kNorm E) (hl : l.stackTraces = false) (F : Nat) (a1 : Int32) (a2 : Int32)  (σ : kS) : kMet l E yX6_isBeside cX6_isBeside 4 (some .boolean) (0) (0) 0 id [.ref (kad E 48 0), .int a1, .int a2] σ (f_X6_isBeside F a1 a2 σ) := by
  refine k_met hj hn hl (by decide) (Nat.le_of_ble_eq_true rfl) (fun C Q hk he hro => ?_)
  have hk : kOk (C, E, Q) cX6_isBeside RX6 4 := hk
  show Sm (C, E, Q) 4 0 0 [(0, .ref (kad E 48 0)), (1, .int a1), (2, .int a2)] [] σ _
  unfold f_X6_isBeside
  refine k_iload_n hk dX6_isBeside_0 1 rfl ?_
  refine k_if_le hk dX6_isBeside_1 39 (by decide) (fun h7 => ?_) (fun h7 => ?_)
  · exact k_sub [0, 1, 2] rfl (s_X6_isBeside_b39 hj hn hl hk he hro F  a1 a2  σ)
  · refine k_aload_n hk dX6_isBeside_4 0 rfl ?_
    refine k_getr (k := 25) 66 0 hk dX6_isBeside_5 rfl (by decide) kc6 (by decide) fl_RX6_58 rfl rfl ?_
    refine k_iload_n hk dX6_isBeside_8 1 rfl ?_
    refine k_iconst (v := 1) hk dX6_isBeside_9 (by decide) ?_
    refine k_isub hk dX6_isBeside_10 ?_
    refine k_iald hk dX6_isBeside_11 rfl (by decide) (fun h8 => ?_)
    refine k_iconst (v := (-1)) hk dX6_isBeside_12 (by decide) ?_
    refine k_icmp_eq hk dX6_isBeside_13 39 (by decide) (fun h9 => ?_) (fun h9 => ?_)
    · exact k_sub [0, 1, 2] rfl (s_X6_isBeside_b39 hj hn hl hk he hro F  a1 a2  σ)
    · refine k_iload_n hk dX6_isBeside_16 2 rfl ?_
      refine k_aload_n hk dX6_isBeside_17 0 rfl ?_
      refine k_getr (k := 25) 66 0 hk dX6_isBeside_18 rfl (by decide) kc6 (by decide) fl_RX6_58 rfl rfl ?_
      refine k_iload_n hk dX6_isBeside_21 1 rfl ?_
      refine k_iconst (v := 1) hk dX6_isBeside_22 (by decide) ?_
      refine k_isub hk dX6_isBeside_23 ?_
      refine k_iald hk dX6_isBeside_24 rfl (by decide) (fun h10 => ?_)
      refine k_isub hk dX6_isBeside_25 ?_
      refine k_aload_n hk dX6_isBeside_26 0 rfl ?_
      refine k_getr (k := 22) 63 0 hk dX6_isBeside_27 rfl (by decide) kc6 (by decide) fl_RX6_49 rfl rfl ?_
      refine k_iconst (v := 5) hk dX6_isBeside_30 (by decide) ?_
      refine k_iald_k (kk := 5) hk dX6_isBeside_31 rfl (by decide) (by decide) (by decide) ?_
      refine k_icmp_lt hk dX6_isBeside_32 39 (by decide) (fun h11 => ?_) (fun h11 => ?_)
      · exact k_sub [0, 1, 2] rfl (s_X6_isBeside_b39 hj hn hl hk he hro F  a1 a2  σ)
      · refine k_iconst (v := 1) hk dX6_isBeside_35 (by decide) ?_
        refine k_goto hk dX6_isBeside_36 40 (by decide) ?_
        exact k_sub [0, 1, 2] rfl (s_X6_isBeside_b40 hj hn hl hk he hro F  a1 a2 1  σ)
def f_X6_sparks_b106 (F : Nat)  (σ : kS) : Option kR := some (.inl none, σ)
set_option maxRecDepth 20000 in
theorem s_X6_sparks_b106 {l : Launch} {E : kE} (hj : kEj E) (hn : kNorm E) (hl : l.stackTraces = false) {C : kC} {Q : kR → State → Prop} (hk : kOk (C, E, Q) cX6_sparks RX6 4) (he : kEnd (C, E, Q) none id 0) (hro : kRo C l (2) (48) 0) (F : Nat) : ∀   (σ : kS), Sm (C, E, Q) 4 0 106 [] [] σ (f_X6_sparks_b106 F  σ) := by
  intro   σ
  unfold f_X6_sparks_b106
  exact k_return hk he dX6_sparks_106 (by decide)
def f_X6_sparks_b59 (F : Nat) (x1 : Int32) (x2 : Nat) (x3 : Int32) (t1 : Int32) (t2 : Int32) (σ : kS) : Option kR := kg (kin t1 7) (kb (kU σ 60 0 t1.toNatClampNeg t2) fun σ1 => kBi (f_X6_holds F x1 (σ1.1 56 x2 2) (σ1.1 56 x2 3) σ1) fun c4 σ3 => if c4 = 0 then (f_X6_sparks_b106 F  σ3) else (kg (kin (σ3.1 56 x2 1) 8) (if (σ3.1 65 0 (σ3.1 56 x2 1).toNatClampNeg) ≤ 0 then (f_X6_sparks_b106 F  σ3) else (kg (kin (σ3.1 56 x2 1) 8) (if (σ3.1 66 0 (σ3.1 56 x2 1).toNatClampNeg) = (-1) then (kg (kin (σ3.1 56 x2 1) 8) (kb (kU σ3 66 0 (σ3.1 56 x2 1).toNatClampNeg x3) fun σ10 => f_X6_sparks_b106 F  σ10)) else (f_X6_sparks_b106 F  σ3))))))
set_option maxRecDepth 20000 in
theorem s_X6_sparks_b59 {l : Launch} {E : kE} (hj : kEj E) (hn : kNorm E) (hl : l.stackTraces = false) {C : kC} {Q : kR → State → Prop} (hk : kOk (C, E, Q) cX6_sparks RX6 4) (he : kEnd (C, E, Q) none id 0) (hro : kRo C l (2) (48) 0) (F : Nat) : ∀ (x1 : Int32) (x2 : Nat) (x3 : Int32) (t1 : Int32) (t2 : Int32) (hx2 : x2 < kCnt 56) (σ : kS), Sm (C, E, Q) 4 0 59 [(0, .ref (kad E 48 0)), (1, .int x1), (2, .ref (kad E 56 x2)), (3, .int x3)] [.int t2, .int t1, .ref (kad E 60 0)] σ (f_X6_sparks_b59 F x1 x2 x3 t1 t2 σ) := by
  intro x1 x2 x3 t1 t2 hx2 σ
  unfold f_X6_sparks_b59
  refine k_iast hk dX6_sparks_59 rfl (by decide) (fun h2 σ1 => ?_)
  refine k_aload_n hk dX6_sparks_60 0 rfl ?_
  refine k_iload_n hk dX6_sparks_61 1 rfl ?_
  refine k_aload_n hk dX6_sparks_62 2 rfl ?_
  refine k_iconst (v := 2) hk dX6_sparks_63 (by decide) ?_
  refine k_iald_k (kk := 2) hk dX6_sparks_64 rfl hx2 (by decide) (by decide) ?_
  refine k_aload_n hk dX6_sparks_65 2 rfl ?_
  refine k_iconst (v := 3) hk dX6_sparks_66 (by decide) ?_
  refine k_iald_k (kk := 3) hk dX6_sparks_67 rfl hx2 (by decide) (by decide) ?_
  refine k_callVi (As := [.int x1, .int (σ1.1 56 x2 2), .int (σ1.1 56 x2 3)]) (rest := []) hk he hro (c_X6_holds hj hn hl F x1 (σ1.1 56 x2 2) (σ1.1 56 x2 3)  σ1) dX6_sparks_68 cw_RX6_255 rfl (by decide) kc6 rfl ⟨by decide, by decide⟩ (by decide) rfl (Nat.le_of_ble_eq_true rfl) (fun c4 σ3 => ?_)
  refine k_if_eq hk dX6_sparks_71 106 (by decide) (fun h5 => ?_) (fun h5 => ?_)
  · exact k_sub [] rfl (s_X6_sparks_b106 hj hn hl hk he hro F    σ3)
  · refine k_aload_n hk dX6_sparks_74 0 rfl ?_
    refine k_getr (k := 24) 65 0 hk dX6_sparks_75 rfl (by decide) kc6 (by decide) fl_RX6_55 rfl rfl ?_
    refine k_aload_n hk dX6_sparks_78 2 rfl ?_
    refine k_iconst (v := 1) hk dX6_sparks_79 (by decide) ?_
    refine k_iald_k (kk := 1) hk dX6_sparks_80 rfl hx2 (by decide) (by decide) ?_
    refine k_iald hk dX6_sparks_81 rfl (by decide) (fun h6 => ?_)
    refine k_if_le hk dX6_sparks_82 106 (by decide) (fun h7 => ?_) (fun h7 => ?_)
    · exact k_sub [] rfl (s_X6_sparks_b106 hj hn hl hk he hro F    σ3)
    · refine k_aload_n hk dX6_sparks_85 0 rfl ?_
      refine k_getr (k := 25) 66 0 hk dX6_sparks_86 rfl (by decide) kc6 (by decide) fl_RX6_58 rfl rfl ?_
      refine k_aload_n hk dX6_sparks_89 2 rfl ?_
      refine k_iconst (v := 1) hk dX6_sparks_90 (by decide) ?_
      refine k_iald_k (kk := 1) hk dX6_sparks_91 rfl hx2 (by decide) (by decide) ?_
      refine k_iald hk dX6_sparks_92 rfl (by decide) (fun h8 => ?_)
      refine k_iconst (v := (-1)) hk dX6_sparks_93 (by decide) ?_
      refine k_icmp_ne hk dX6_sparks_94 106 (by decide) (fun h9 => ?_) (fun h9 => ?_)
      · exact k_sub [] rfl (s_X6_sparks_b106 hj hn hl hk he hro F    σ3)
      · refine k_aload_n hk dX6_sparks_97 0 rfl ?_
        refine k_getr (k := 25) 66 0 hk dX6_sparks_98 rfl (by decide) kc6 (by decide) fl_RX6_58 rfl rfl ?_
        refine k_aload_n hk dX6_sparks_101 2 rfl ?_
        refine k_iconst (v := 1) hk dX6_sparks_102 (by decide) ?_
        refine k_iald_k (kk := 1) hk dX6_sparks_103 rfl hx2 (by decide) (by decide) ?_
        refine k_iload_n hk dX6_sparks_104 3 rfl ?_
        refine k_iast hk dX6_sparks_105 rfl (by decide) (fun h11 σ10 => ?_)
        exact k_sub [] rfl (s_X6_sparks_b106 hj hn hl hk he hro F    σ10)
def f_X6_sparks (F : Nat) (a1 : Int32) (a2 : Nat) (a3 : Int32) (σ : kS) : Option kR := if (σ.1 56 a2 0) = 1 then (kg (kin (σ.1 56 a2 1) 8) (kb (kU σ 60 0 4 (σ.1 65 0 (σ.1 56 a2 1).toNatClampNeg)) fun σ14 => kg (kin (σ14.1 56 a2 1) 8) (kb (kU σ14 60 0 5 (σ14.1 64 0 (σ14.1 56 a2 1).toNatClampNeg)) fun σ16 => kg (kin (σ16.1 56 a2 1) 8) (if (σ16.1 66 0 (σ16.1 56 a2 1).toNatClampNeg) = (-1) then (f_X6_sparks_b59 F a1 a2 a3 6 0 σ16) else (f_X6_sparks_b59 F a1 a2 a3 6 1 σ16))))) else (some (.inl none, σ))
set_option maxRecDepth 20000 in
theorem c_X6_sparks {l : Launch} {E : kE} (hj : kEj E) (hn : kNorm E) (hl : l.stackTraces = false) (F : Nat) (a1 : Int32) (a2 : Nat) (a3 : Int32) (ha2 : a2 < kCnt 56) (σ : kS) : kMet l E yX6_sparks cX6_sparks 4 none (2) (48) 0 id [.ref (kad E 48 0), .int a1, .ref (kad E 56 a2), .int a3] σ (f_X6_sparks F a1 a2 a3 σ) := by
  refine k_met hj hn hl (by decide) (Nat.le_of_ble_eq_true rfl) (fun C Q hk he hro => ?_)
  have hk : kOk (C, E, Q) cX6_sparks RX6 4 := hk
  show Sm (C, E, Q) 4 0 0 [(0, .ref (kad E 48 0)), (1, .int a1), (2, .ref (kad E 56 a2)), (3, .int a3)] [] σ _
  unfold f_X6_sparks
  refine k_aload_n hk dX6_sparks_0 2 rfl ?_
  refine k_iconst (v := 0) hk dX6_sparks_1 (by decide) ?_
  refine k_iald_k (kk := 0) hk dX6_sparks_2 rfl ha2 (by decide) (by decide) ?_
  refine k_iconst (v := 1) hk dX6_sparks_3 (by decide) ?_
  refine k_icmp_eq hk dX6_sparks_4 8 (by decide) (fun h12 => ?_) (fun h12 => ?_)
  · refine k_aload_n hk dX6_sparks_8 0 rfl ?_
    refine k_getr (k := 19) 60 0 hk dX6_sparks_9 rfl (by decide) kc6 (by decide) fl_RX6_40 rfl rfl ?_
    refine k_iconst (v := 4) hk dX6_sparks_12 (by decide) ?_
    refine k_aload_n hk dX6_sparks_13 0 rfl ?_
    refine k_getr (k := 24) 65 0 hk dX6_sparks_14 rfl (by decide) kc6 (by decide) fl_RX6_55 rfl rfl ?_
    refine k_aload_n hk dX6_sparks_17 2 rfl ?_
    refine k_iconst (v := 1) hk dX6_sparks_18 (by decide) ?_
    refine k_iald_k (kk := 1) hk dX6_sparks_19 rfl ha2 (by decide) (by decide) ?_
    refine k_iald hk dX6_sparks_20 rfl (by decide) (fun h13 => ?_)
    refine k_iast_k (kk := 4) hk dX6_sparks_21 rfl (by decide) (by decide) (by decide) (fun σ14 => ?_)
    refine k_aload_n hk dX6_sparks_22 0 rfl ?_
    refine k_getr (k := 19) 60 0 hk dX6_sparks_23 rfl (by decide) kc6 (by decide) fl_RX6_40 rfl rfl ?_
    refine k_iconst (v := 5) hk dX6_sparks_26 (by decide) ?_
    refine k_aload_n hk dX6_sparks_27 0 rfl ?_
    refine k_getr (k := 23) 64 0 hk dX6_sparks_28 rfl (by decide) kc6 (by decide) fl_RX6_52 rfl rfl ?_
    refine k_aload_n hk dX6_sparks_31 2 rfl ?_
    refine k_iconst (v := 1) hk dX6_sparks_32 (by decide) ?_
    refine k_iald_k (kk := 1) hk dX6_sparks_33 rfl ha2 (by decide) (by decide) ?_
    refine k_iald hk dX6_sparks_34 rfl (by decide) (fun h15 => ?_)
    refine k_iast_k (kk := 5) hk dX6_sparks_35 rfl (by decide) (by decide) (by decide) (fun σ16 => ?_)
    refine k_aload_n hk dX6_sparks_36 0 rfl ?_
    refine k_getr (k := 19) 60 0 hk dX6_sparks_37 rfl (by decide) kc6 (by decide) fl_RX6_40 rfl rfl ?_
    refine k_bipush (v := 6) hk dX6_sparks_40 (by decide) ?_
    refine k_aload_n hk dX6_sparks_42 0 rfl ?_
    refine k_getr (k := 25) 66 0 hk dX6_sparks_43 rfl (by decide) kc6 (by decide) fl_RX6_58 rfl rfl ?_
    refine k_aload_n hk dX6_sparks_46 2 rfl ?_
    refine k_iconst (v := 1) hk dX6_sparks_47 (by decide) ?_
    refine k_iald_k (kk := 1) hk dX6_sparks_48 rfl ha2 (by decide) (by decide) ?_
    refine k_iald hk dX6_sparks_49 rfl (by decide) (fun h17 => ?_)
    refine k_iconst (v := (-1)) hk dX6_sparks_50 (by decide) ?_
    refine k_icmp_ne hk dX6_sparks_51 58 (by decide) (fun h18 => ?_) (fun h18 => ?_)
    · refine k_iconst (v := 1) hk dX6_sparks_58 (by decide) ?_
      exact k_sub [0, 1, 2, 3] rfl (s_X6_sparks_b59 hj hn hl hk he hro F  a1 a2 a3 6 1 ha2 σ16)
    · refine k_iconst (v := 0) hk dX6_sparks_54 (by decide) ?_
      refine k_goto hk dX6_sparks_55 59 (by decide) ?_
      exact k_sub [0, 1, 2, 3] rfl (s_X6_sparks_b59 hj hn hl hk he hro F  a1 a2 a3 6 0 ha2 σ16)
  · exact k_return hk he dX6_sparks_7 (by decide)
def f_X6_leaks_b13 (F : Nat)  (σ : kS) : Option kR := some (.inl none, σ)
set_option maxRecDepth 20000 in
theorem s_X6_leaks_b13 {l : Launch} {E : kE} (hj : kEj E) (hn : kNorm E) (hl : l.stackTraces = false) {C : kC} {Q : kR → State → Prop} (hk : kOk (C, E, Q) cX6_leaks RX6 4) (he : kEnd (C, E, Q) none id 0) (hro : kRo C l (1) (21) 0) (F : Nat) : ∀   (σ : kS), Sm (C, E, Q) 4 0 13 [] [] σ (f_X6_leaks_b13 F  σ) := by
  intro   σ
  unfold f_X6_leaks_b13
  exact k_return hk he dX6_leaks_13 (by decide)
def f_X6_leaks (F : Nat) (a1 : Nat) (a2 : Int32) (σ : kS) : Option kR := if (σ.1 56 a1 0) = 0 then (if (σ.1 56 a1 3) ≤ a2 then (kg (kin (σ.1 56 a1 1) 8) (kBi (f_X6_less F (σ.1 56 a1 2) (σ.1 64 0 (σ.1 56 a1 1).toNatClampNeg) σ) fun c5 σ4 => kb (σ4.1 56 a1 1) fun y6 => kg (kin y6 8) (kg (kin y6 8) (kb (kU σ4 64 0 y6.toNatClampNeg ((σ4.1 64 0 y6.toNatClampNeg) - c5)) fun σ8 => kb (σ8.1 56 a1 1) fun y10 => kg (kin y10 8) (kg (kin y10 8) (kb (kU σ8 65 0 y10.toNatClampNeg ((σ8.1 65 0 y10.toNatClampNeg) + c5)) fun σ12 => some (.inl none, σ12))))))) else (f_X6_leaks_b13 F  σ)) else (f_X6_leaks_b13 F  σ)
set_option maxRecDepth 20000 in
theorem c_X6_leaks {l : Launch} {E : kE} (hj : kEj E) (hn : kNorm E) (hl : l.stackTraces = false) (F : Nat) (a1 : Nat) (a2 : Int32) (ha1 : a1 < kCnt 56) (σ : kS) : kMet l E yX6_leaks cX6_leaks 4 none (1) (21) 0 id [.ref (kad E 48 0), .ref (kad E 56 a1), .int a2] σ (f_X6_leaks F a1 a2 σ) := by
  refine k_met hj hn hl (by decide) (Nat.le_of_ble_eq_true rfl) (fun C Q hk he hro => ?_)
  have hk : kOk (C, E, Q) cX6_leaks RX6 4 := hk
  show Sm (C, E, Q) 4 0 0 [(0, .ref (kad E 48 0)), (1, .ref (kad E 56 a1)), (2, .int a2)] [] σ _
  unfold f_X6_leaks
  refine k_aload_n hk dX6_leaks_0 1 rfl ?_
  refine k_iconst (v := 0) hk dX6_leaks_1 (by decide) ?_
  refine k_iald_k (kk := 0) hk dX6_leaks_2 rfl ha1 (by decide) (by decide) ?_
  refine k_if_ne hk dX6_leaks_3 13 (by decide) (fun h1 => ?_) (fun h1 => ?_)
  · exact k_sub [] rfl (s_X6_leaks_b13 hj hn hl hk he hro F    σ)
  · refine k_iload_n hk dX6_leaks_6 2 rfl ?_
    refine k_aload_n hk dX6_leaks_7 1 rfl ?_
    refine k_iconst (v := 3) hk dX6_leaks_8 (by decide) ?_
    refine k_iald_k (kk := 3) hk dX6_leaks_9 rfl ha1 (by decide) (by decide) ?_
    refine k_icmp_ge hk dX6_leaks_10 14 (by decide) (fun h2 => ?_) (fun h2 => ?_)
    · refine k_aload_n hk dX6_leaks_14 1 rfl ?_
      refine k_iconst (v := 2) hk dX6_leaks_15 (by decide) ?_
      refine k_iald_k (kk := 2) hk dX6_leaks_16 rfl ha1 (by decide) (by decide) ?_
      refine k_aload_n hk dX6_leaks_17 0 rfl ?_
      refine k_getr (k := 23) 64 0 hk dX6_leaks_18 rfl (by decide) kc6 (by decide) fl_RX6_52 rfl rfl ?_
      refine k_aload_n hk dX6_leaks_21 1 rfl ?_
      refine k_iconst (v := 1) hk dX6_leaks_22 (by decide) ?_
      refine k_iald_k (kk := 1) hk dX6_leaks_23 rfl ha1 (by decide) (by decide) ?_
      refine k_iald hk dX6_leaks_24 rfl (by decide) (fun h3 => ?_)
      refine k_callSi (As := [.int (σ.1 56 a1 2), .int (σ.1 64 0 (σ.1 56 a1 1).toNatClampNeg)]) (rest := []) hk he hro (c_X6_less hj hn hl F (σ.1 56 a1 2) (σ.1 64 0 (σ.1 56 a1 1).toNatClampNeg)  σ) dX6_leaks_25 cw_RX6_258 ⟨by decide, by decide⟩ (by decide) rfl (Nat.le_of_ble_eq_true rfl) (fun c5 σ4 => ?_)
      refine k_istore_n (lv' := [(3, .int c5), (0, .ref (kad E 48 0)), (1, .ref (kad E 56 a1)), (2, .int a2)]) hk dX6_leaks_28 (by decide) rfl ?_
      refine k_aload_n hk dX6_leaks_29 1 rfl ?_
      refine k_getr (k := 23) 64 0 hk dX6_leaks_30 rfl (by decide) kc6 (by decide) fl_RX6_52 rfl rfl ?_
      refine k_aload_n hk dX6_leaks_33 2 rfl ?_
      refine k_iconst (v := 1) hk dX6_leaks_34 (by decide) ?_
      refine k_iald_k (kk := 1) hk dX6_leaks_35 rfl ha1 (by decide) (by decide) ?_
      refine k_nm (fun y6 => ?_)
      refine k_dup2 hk dX6_leaks_36 rfl rfl ?_
      refine k_iald hk dX6_leaks_37 rfl (by decide) (fun h7 => ?_)
      refine k_iload_n hk dX6_leaks_38 0 rfl ?_
      refine k_isub hk dX6_leaks_39 ?_
      refine k_iast hk dX6_leaks_40 rfl (by decide) (fun h9 σ8 => ?_)
      refine k_aload_n hk dX6_leaks_41 1 rfl ?_
      refine k_getr (k := 24) 65 0 hk dX6_leaks_42 rfl (by decide) kc6 (by decide) fl_RX6_55 rfl rfl ?_
      refine k_aload_n hk dX6_leaks_45 2 rfl ?_
      refine k_iconst (v := 1) hk dX6_leaks_46 (by decide) ?_
      refine k_iald_k (kk := 1) hk dX6_leaks_47 rfl ha1 (by decide) (by decide) ?_
      refine k_nm (fun y10 => ?_)
      refine k_dup2 hk dX6_leaks_48 rfl rfl ?_
      refine k_iald hk dX6_leaks_49 rfl (by decide) (fun h11 => ?_)
      refine k_iload_n hk dX6_leaks_50 0 rfl ?_
      refine k_iadd hk dX6_leaks_51 ?_
      refine k_iast hk dX6_leaks_52 rfl (by decide) (fun h13 σ12 => ?_)
      exact k_return hk he dX6_leaks_53 (by decide)
    · exact k_sub [] rfl (s_X6_leaks_b13 hj hn hl hk he hro F    σ)
def f_X6_runs_b422 (F : Nat) (rr34 : (Int32 × Int32 × Int32 × Int32 × Int32 × Int32) → kS → Option kR) (x1 : Int32) (x2 : Int32) (x3 : Int32) (x4 : Int32) (x5 : Int32) (x6 : Int32) (σ : kS) : Option kR := kg (kin x6 100) (kb (kU σ 75 0 x6.toNatClampNeg x2) fun σ1 => kg (kin x6 100) (kb (kU σ1 76 0 x6.toNatClampNeg x3) fun σ3 => kg (kin x6 100) (kb (kU σ3 77 0 x6.toNatClampNeg x4) fun σ5 => kg (kin x6 100) (kb (kU σ5 78 0 x6.toNatClampNeg x5) fun σ7 => rr34 (x1, x2, x3, x4, x5, x6 + 1) σ7))))
set_option maxRecDepth 20000 in
theorem s_X6_runs_b422 {l : Launch} {E : kE} (hj : kEj E) (hn : kNorm E) (hl : l.stackTraces = false) {C : kC} {Q : kR → State → Prop} (hk : kOk (C, E, Q) cX6_runs RX6 9) (he : kEnd (C, E, Q) none id 0) (hro : kRo C l (3) (71) 0) (F : Nat) (rr34 : (Int32 × Int32 × Int32 × Int32 × Int32 × Int32) → kS → Option kR) (hrr34 : ∀ (x1 : Int32) (x2 : Int32) (x3 : Int32) (x4 : Int32) (x5 : Int32) (x6 : Int32)  (σ : kS), Sm (C, E, Q) 9 0 34 [(0, .ref (kad E 48 0)), (1, .int x1), (2, .int x2), (3, .int x3), (4, .int x4), (5, .int x5), (6, .int x6)] [] σ (rr34 (x1, x2, x3, x4, x5, x6) σ)) : ∀ (x1 : Int32) (x2 : Int32) (x3 : Int32) (x4 : Int32) (x5 : Int32) (x6 : Int32)  (σ : kS), Sm (C, E, Q) 9 0 422 [(0, .ref (kad E 48 0)), (1, .int x1), (2, .int x2), (3, .int x3), (4, .int x4), (5, .int x5), (6, .int x6)] [] σ (f_X6_runs_b422 F rr34 x1 x2 x3 x4 x5 x6 σ) := by
  intro x1 x2 x3 x4 x5 x6  σ
  unfold f_X6_runs_b422
  refine k_aload_n hk dX6_runs_422 0 rfl ?_
  refine k_getr (k := 30) 75 0 hk dX6_runs_423 rfl (by decide) kc6 (by decide) fl_RX6_73 rfl rfl ?_
  refine k_iload hk dX6_runs_426 6 rfl ?_
  refine k_iload_n hk dX6_runs_428 2 rfl ?_
  refine k_iast hk dX6_runs_429 rfl (by decide) (fun h2 σ1 => ?_)
  refine k_aload_n hk dX6_runs_430 0 rfl ?_
  refine k_getr (k := 31) 76 0 hk dX6_runs_431 rfl (by decide) kc6 (by decide) fl_RX6_76 rfl rfl ?_
  refine k_iload hk dX6_runs_434 6 rfl ?_
  refine k_iload_n hk dX6_runs_436 3 rfl ?_
  refine k_iast hk dX6_runs_437 rfl (by decide) (fun h4 σ3 => ?_)
  refine k_aload_n hk dX6_runs_438 0 rfl ?_
  refine k_getr (k := 32) 77 0 hk dX6_runs_439 rfl (by decide) kc6 (by decide) fl_RX6_79 rfl rfl ?_
  refine k_iload hk dX6_runs_442 6 rfl ?_
  refine k_iload hk dX6_runs_444 4 rfl ?_
  refine k_iast hk dX6_runs_446 rfl (by decide) (fun h6 σ5 => ?_)
  refine k_aload_n hk dX6_runs_447 0 rfl ?_
  refine k_getr (k := 33) 78 0 hk dX6_runs_448 rfl (by decide) kc6 (by decide) fl_RX6_82 rfl rfl ?_
  refine k_iload hk dX6_runs_451 6 rfl ?_
  refine k_iload hk dX6_runs_453 5 rfl ?_
  refine k_iast hk dX6_runs_455 rfl (by decide) (fun h8 σ7 => ?_)
  refine k_iinc (lv' := [(6, .int (x6 + 1)), (0, .ref (kad E 48 0)), (1, .int x1), (2, .int x2), (3, .int x3), (4, .int x4), (5, .int x5)]) (j := 6) (y := x6 + 1) hk dX6_runs_456 rfl rfl (by decide) rfl ?_
  refine k_goto hk dX6_runs_459 34 (by decide) ?_
  exact k_sub [1, 2, 3, 4, 5, 6, 0] rfl (hrr34 x1 x2 x3 x4 x5 (x6 + 1)  σ7)
def f_X6_runs_b323 (F : Nat) (rr251 : (Int32 × Int32 × Int32 × Int32 × Int32 × Int32 × Int32 × Int32) → kS → Option kR) (x1 : Int32) (x2 : Int32) (x3 : Int32) (x4 : Int32) (x5 : Int32) (x6 : Int32) (x7 : Int32) (x8 : Int32) (σ : kS) : Option kR := kg (kin x8 8) (kb (x7 + (σ.1 64 0 x8.toNatClampNeg)) fun y10 => kg (kin x6 100) (kb (x6.toNatClampNeg) fun j11 => kg (kin x8 8) (kg (kin x8 8) (kb (kU σ 68 j11 x8.toNatClampNeg (σ.1 64 0 x8.toNatClampNeg)) fun σ13 => kg (kin x6 100) (kb (x6.toNatClampNeg) fun j15 => kg (kin x8 8) (kg (kin x8 8) (kb (kU σ13 70 j15 x8.toNatClampNeg (σ13.1 65 0 x8.toNatClampNeg)) fun σ17 => rr251 (x1, x2, x3, x4, x5, x6, y10, x8 + 1) σ17)))))))
set_option maxRecDepth 20000 in
theorem s_X6_runs_b323 {l : Launch} {E : kE} (hj : kEj E) (hn : kNorm E) (hl : l.stackTraces = false) {C : kC} {Q : kR → State → Prop} (hk : kOk (C, E, Q) cX6_runs RX6 9) (he : kEnd (C, E, Q) none id 0) (hro : kRo C l (3) (71) 0) (F : Nat) (rr251 : (Int32 × Int32 × Int32 × Int32 × Int32 × Int32 × Int32 × Int32) → kS → Option kR) (hrr251 : ∀ (x1 : Int32) (x2 : Int32) (x3 : Int32) (x4 : Int32) (x5 : Int32) (x6 : Int32) (x7 : Int32) (x8 : Int32)  (σ : kS), Sm (C, E, Q) 9 0 251 [(0, .ref (kad E 48 0)), (1, .int x1), (2, .int x2), (3, .int x3), (4, .int x4), (5, .int x5), (6, .int x6), (7, .int x7), (8, .int x8)] [] σ (rr251 (x1, x2, x3, x4, x5, x6, x7, x8) σ)) : ∀ (x1 : Int32) (x2 : Int32) (x3 : Int32) (x4 : Int32) (x5 : Int32) (x6 : Int32) (x7 : Int32) (x8 : Int32)  (σ : kS), Sm (C, E, Q) 9 0 323 [(0, .ref (kad E 48 0)), (1, .int x1), (2, .int x2), (3, .int x3), (4, .int x4), (5, .int x5), (6, .int x6), (7, .int x7), (8, .int x8)] [] σ (f_X6_runs_b323 F rr251 x1 x2 x3 x4 x5 x6 x7 x8 σ) := by
  intro x1 x2 x3 x4 x5 x6 x7 x8  σ
  unfold f_X6_runs_b323
  refine k_iload hk dX6_runs_323 7 rfl ?_
  refine k_aload_n hk dX6_runs_325 0 rfl ?_
  refine k_getr (k := 23) 64 0 hk dX6_runs_326 rfl (by decide) kc6 (by decide) fl_RX6_52 rfl rfl ?_
  refine k_iload hk dX6_runs_329 8 rfl ?_
  refine k_iald hk dX6_runs_331 rfl (by decide) (fun h9 => ?_)
  refine k_iadd hk dX6_runs_332 ?_
  refine k_nm (fun y10 => ?_)
  refine k_istore (lv' := [(7, .int y10), (0, .ref (kad E 48 0)), (1, .int x1), (2, .int x2), (3, .int x3), (4, .int x4), (5, .int x5), (6, .int x6), (8, .int x8)]) hk dX6_runs_333 (by decide) rfl ?_
  refine k_aload_n hk dX6_runs_335 1 rfl ?_
  refine k_getr (k := 26) 67 0 hk dX6_runs_336 rfl (by decide) kc6 (by decide) fl_RX6_61 rfl rfl ?_
  refine k_iload hk dX6_runs_339 7 rfl ?_
  refine k_aaldj (g' := 68) (fun z => z) hk dX6_runs_341 rfl rfl rfl (by decide) (fun z => rfl) (by decide) (fun j11 hj11 => ?_)
  refine k_iload hk dX6_runs_342 8 rfl ?_
  refine k_aload_n hk dX6_runs_344 1 rfl ?_
  refine k_getr (k := 23) 64 0 hk dX6_runs_345 rfl (by decide) kc6 (by decide) fl_RX6_52 rfl rfl ?_
  refine k_iload hk dX6_runs_348 8 rfl ?_
  refine k_iald hk dX6_runs_350 rfl (by decide) (fun h12 => ?_)
  refine k_iast hk dX6_runs_351 rfl hj11 (fun h14 σ13 => ?_)
  refine k_aload_n hk dX6_runs_352 1 rfl ?_
  refine k_getr (k := 27) 69 0 hk dX6_runs_353 rfl (by decide) kc6 (by decide) fl_RX6_64 rfl rfl ?_
  refine k_iload hk dX6_runs_356 7 rfl ?_
  refine k_aaldj (g' := 70) (fun z => z) hk dX6_runs_358 rfl rfl rfl (by decide) (fun z => rfl) (by decide) (fun j15 hj15 => ?_)
  refine k_iload hk dX6_runs_359 8 rfl ?_
  refine k_aload_n hk dX6_runs_361 1 rfl ?_
  refine k_getr (k := 24) 65 0 hk dX6_runs_362 rfl (by decide) kc6 (by decide) fl_RX6_55 rfl rfl ?_
  refine k_iload hk dX6_runs_365 8 rfl ?_
  refine k_iald hk dX6_runs_367 rfl (by decide) (fun h16 => ?_)
  refine k_iast hk dX6_runs_368 rfl hj15 (fun h18 σ17 => ?_)
  refine k_iinc (lv' := [(8, .int (x8 + 1)), (7, .int y10), (0, .ref (kad E 48 0)), (1, .int x1), (2, .int x2), (3, .int x3), (4, .int x4), (5, .int x5), (6, .int x6)]) (j := 8) (y := x8 + 1) hk dX6_runs_369 rfl rfl (by decide) rfl ?_
  refine k_goto hk dX6_runs_372 251 (by decide) ?_
  exact k_sub [2, 3, 4, 5, 6, 7, 8, 1, 0] rfl (hrr251 x1 x2 x3 x4 x5 x6 y10 (x8 + 1)  σ17)
def f_X6_runs_b251 (F : Nat) (rr34 : (Int32 × Int32 × Int32 × Int32 × Int32 × Int32) → kS → Option kR) (rr251 : (Int32 × Int32 × Int32 × Int32 × Int32 × Int32 × Int32 × Int32) → kS → Option kR) (a : (Int32 × Int32 × Int32 × Int32 × Int32 × Int32 × Int32 × Int32)) (σ : kS) : Option kR := match a with
  | (x1, x2, x3, x4, x5, x6, x7, x8) => if 8 ≤ x8 then (if (σ.1 63 0 7) ≤ x7 then (f_X6_runs_b422 F rr34 x1 x2 x3 x4 x5 x6 σ) else (kBi (f_X6_more F 0 (x5 - (σ.1 63 0 8)) σ) fun c22 σ21 => if c22 = 0 then (if (σ21.1 48 0 36) = (-1) then (kb (kU σ21 48 0 36 x6) fun σ25 => f_X6_runs_b422 F rr34 x1 x2 x3 x4 c22 x6 σ25) else (f_X6_runs_b422 F rr34 x1 x2 x3 x4 c22 x6 σ21)) else (f_X6_runs_b422 F rr34 x1 x2 x3 x4 c22 x6 σ21))) else (kg (kin x8 8) (if (σ.1 66 0 x8.toNatClampNeg) = (-1) then (f_X6_runs_b323 F rr251 x1 x2 x3 x4 x5 x6 x7 x8 σ) else (kg (kin x8 8) (kBi (f_X6_more F 0 ((σ.1 64 0 x8.toNatClampNeg) - (σ.1 63 0 6)) σ) fun c30 σ29 => kg (kin x8 8) (kb (kU σ29 64 0 x8.toNatClampNeg c30) fun σ31 => kg (kin x8 8) (kb (kU σ31 65 0 x8.toNatClampNeg 0) fun σ33 => if (σ33.1 48 0 37) = (-1) then (kb (kU σ33 48 0 37 x6) fun σ36 => kb (kU σ36 48 0 38 x8) fun σ37 => f_X6_runs_b323 F rr251 x1 x2 x3 x4 x5 x6 x7 x8 σ37) else (f_X6_runs_b323 F rr251 x1 x2 x3 x4 x5 x6 x7 x8 σ33)))))))
set_option maxRecDepth 20000 in
theorem s_X6_runs_b251 {l : Launch} {E : kE} (hj : kEj E) (hn : kNorm E) (hl : l.stackTraces = false) {C : kC} {Q : kR → State → Prop} (hk : kOk (C, E, Q) cX6_runs RX6 9) (he : kEnd (C, E, Q) none id 0) (hro : kRo C l (3) (71) 0) (F : Nat) (rr34 : (Int32 × Int32 × Int32 × Int32 × Int32 × Int32) → kS → Option kR) (hrr34 : ∀ (x1 : Int32) (x2 : Int32) (x3 : Int32) (x4 : Int32) (x5 : Int32) (x6 : Int32)  (σ : kS), Sm (C, E, Q) 9 0 34 [(0, .ref (kad E 48 0)), (1, .int x1), (2, .int x2), (3, .int x3), (4, .int x4), (5, .int x5), (6, .int x6)] [] σ (rr34 (x1, x2, x3, x4, x5, x6) σ)) : ∀ (N9 : Nat) (x1 : Int32) (x2 : Int32) (x3 : Int32) (x4 : Int32) (x5 : Int32) (x6 : Int32) (x7 : Int32) (x8 : Int32)  (σ : kS), Sm (C, E, Q) 9 0 251 [(0, .ref (kad E 48 0)), (1, .int x1), (2, .int x2), (3, .int x3), (4, .int x4), (5, .int x5), (6, .int x6), (7, .int x7), (8, .int x8)] [] σ (kFix (f_X6_runs_b251 F rr34) N9 (x1, x2, x3, x4, x5, x6, x7, x8) σ) := by
  intro N9
  induction N9 with
  | zero => intro x1 x2 x3 x4 x5 x6 x7 x8  σ; exact k_no
  | succ N9 ih =>
    intro x1 x2 x3 x4 x5 x6 x7 x8  σ
    show Sm _ _ _ _ _ _ _ (f_X6_runs_b251 F rr34 (kFix (f_X6_runs_b251 F rr34) N9) (x1, x2, x3, x4, x5, x6, x7, x8) σ)
    generalize kFix (f_X6_runs_b251 F rr34) N9 = rr251 at ih
    have hrr251 := ih
    unfold f_X6_runs_b251
    dsimp only
    refine k_iload hk dX6_runs_251 8 rfl ?_
    refine k_bipush (v := 8) hk dX6_runs_253 (by decide) ?_
    refine k_icmp_ge hk dX6_runs_255 375 (by decide) (fun h19 => ?_) (fun h19 => ?_)
    · refine k_iload hk dX6_runs_375 7 rfl ?_
      refine k_aload_n hk dX6_runs_377 0 rfl ?_
      refine k_getr (k := 22) 63 0 hk dX6_runs_378 rfl (by decide) kc6 (by decide) fl_RX6_49 rfl rfl ?_
      refine k_bipush (v := 7) hk dX6_runs_381 (by decide) ?_
      refine k_iald_k (kk := 7) hk dX6_runs_383 rfl (by decide) (by decide) (by decide) ?_
      refine k_icmp_ge hk dX6_runs_384 422 (by decide) (fun h20 => ?_) (fun h20 => ?_)
      · exact k_sub [0, 1, 2, 3, 4, 5, 6] rfl (s_X6_runs_b422 hj hn hl hk he hro F rr34 hrr34  x1 x2 x3 x4 x5 x6  σ)
      · refine k_iconst (v := 0) hk dX6_runs_387 (by decide) ?_
        refine k_iload hk dX6_runs_388 5 rfl ?_
        refine k_aload_n hk dX6_runs_390 0 rfl ?_
        refine k_getr (k := 22) 63 0 hk dX6_runs_391 rfl (by decide) kc6 (by decide) fl_RX6_49 rfl rfl ?_
        refine k_bipush (v := 8) hk dX6_runs_394 (by decide) ?_
        refine k_iald_k (kk := 8) hk dX6_runs_396 rfl (by decide) (by decide) (by decide) ?_
        refine k_isub hk dX6_runs_397 ?_
        refine k_callSi (As := [.int 0, .int (x5 - (σ.1 63 0 8))]) (rest := []) hk he hro (c_X6_more hj hn hl F 0 (x5 - (σ.1 63 0 8))  σ) dX6_runs_398 cw_RX6_264 ⟨by decide, by decide⟩ (by decide) rfl (Nat.le_of_ble_eq_true rfl) (fun c22 σ21 => ?_)
        refine k_istore (lv' := [(5, .int c22), (0, .ref (kad E 48 0)), (1, .int x1), (2, .int x2), (3, .int x3), (4, .int x4), (6, .int x6), (7, .int x7), (8, .int x8)]) hk dX6_runs_401 (by decide) rfl ?_
        refine k_iload hk dX6_runs_403 0 rfl ?_
        refine k_if_ne hk dX6_runs_405 422 (by decide) (fun h23 => ?_) (fun h23 => ?_)
        · exact k_sub [1, 2, 3, 4, 5, 0, 6] rfl (s_X6_runs_b422 hj hn hl hk he hro F rr34 hrr34  x1 x2 x3 x4 c22 x6  σ21)
        · refine k_aload_n hk dX6_runs_408 1 rfl ?_
          refine k_getf (k := 36) hk dX6_runs_409 rfl (by decide) kc6 (by decide) fl_RX6_246 rfl ?_
          refine k_iconst (v := (-1)) hk dX6_runs_412 (by decide) ?_
          refine k_icmp_ne hk dX6_runs_413 422 (by decide) (fun h24 => ?_) (fun h24 => ?_)
          · exact k_sub [1, 2, 3, 4, 5, 0, 6] rfl (s_X6_runs_b422 hj hn hl hk he hro F rr34 hrr34  x1 x2 x3 x4 c22 x6  σ21)
          · refine k_aload_n hk dX6_runs_416 1 rfl ?_
            refine k_iload hk dX6_runs_417 6 rfl ?_
            refine k_putf (k := 36) hk dX6_runs_419 rfl (by decide) kc6 (by decide) fl_RX6_246 rfl rfl rfl rfl (fun σ25 => ?_)
            exact k_sub [1, 2, 3, 4, 5, 0, 6] rfl (s_X6_runs_b422 hj hn hl hk he hro F rr34 hrr34  x1 x2 x3 x4 c22 x6  σ25)
    · refine k_aload_n hk dX6_runs_258 0 rfl ?_
      refine k_getr (k := 25) 66 0 hk dX6_runs_259 rfl (by decide) kc6 (by decide) fl_RX6_58 rfl rfl ?_
      refine k_iload hk dX6_runs_262 8 rfl ?_
      refine k_iald hk dX6_runs_264 rfl (by decide) (fun h26 => ?_)
      refine k_iconst (v := (-1)) hk dX6_runs_265 (by decide) ?_
      refine k_icmp_eq hk dX6_runs_266 323 (by decide) (fun h27 => ?_) (fun h27 => ?_)
      · exact k_sub [0, 1, 2, 3, 4, 5, 6, 7, 8] rfl (s_X6_runs_b323 hj hn hl hk he hro F rr251 hrr251  x1 x2 x3 x4 x5 x6 x7 x8  σ)
      · refine k_aload_n hk dX6_runs_269 0 rfl ?_
        refine k_getr (k := 23) 64 0 hk dX6_runs_270 rfl (by decide) kc6 (by decide) fl_RX6_52 rfl rfl ?_
        refine k_iload hk dX6_runs_273 8 rfl ?_
        refine k_iconst (v := 0) hk dX6_runs_275 (by decide) ?_
        refine k_aload_n hk dX6_runs_276 0 rfl ?_
        refine k_getr (k := 23) 64 0 hk dX6_runs_277 rfl (by decide) kc6 (by decide) fl_RX6_52 rfl rfl ?_
        refine k_iload hk dX6_runs_280 8 rfl ?_
        refine k_iald hk dX6_runs_282 rfl (by decide) (fun h28 => ?_)
        refine k_aload_n hk dX6_runs_283 0 rfl ?_
        refine k_getr (k := 22) 63 0 hk dX6_runs_284 rfl (by decide) kc6 (by decide) fl_RX6_49 rfl rfl ?_
        refine k_bipush (v := 6) hk dX6_runs_287 (by decide) ?_
        refine k_iald_k (kk := 6) hk dX6_runs_289 rfl (by decide) (by decide) (by decide) ?_
        refine k_isub hk dX6_runs_290 ?_
        refine k_callSi (As := [.int 0, .int ((σ.1 64 0 x8.toNatClampNeg) - (σ.1 63 0 6))]) (rest := [.int x8, .ref (kad E 64 0)]) hk he hro (c_X6_more hj hn hl F 0 ((σ.1 64 0 x8.toNatClampNeg) - (σ.1 63 0 6))  σ) dX6_runs_291 cw_RX6_264 ⟨by decide, by decide⟩ (by decide) rfl (Nat.le_of_ble_eq_true rfl) (fun c30 σ29 => ?_)
        refine k_iast hk dX6_runs_294 rfl (by decide) (fun h32 σ31 => ?_)
        refine k_aload_n hk dX6_runs_295 0 rfl ?_
        refine k_getr (k := 24) 65 0 hk dX6_runs_296 rfl (by decide) kc6 (by decide) fl_RX6_55 rfl rfl ?_
        refine k_iload hk dX6_runs_299 8 rfl ?_
        refine k_iconst (v := 0) hk dX6_runs_301 (by decide) ?_
        refine k_iast hk dX6_runs_302 rfl (by decide) (fun h34 σ33 => ?_)
        refine k_aload_n hk dX6_runs_303 0 rfl ?_
        refine k_getf (k := 37) hk dX6_runs_304 rfl (by decide) kc6 (by decide) fl_RX6_249 rfl ?_
        refine k_iconst (v := (-1)) hk dX6_runs_307 (by decide) ?_
        refine k_icmp_ne hk dX6_runs_308 323 (by decide) (fun h35 => ?_) (fun h35 => ?_)
        · exact k_sub [0, 1, 2, 3, 4, 5, 6, 7, 8] rfl (s_X6_runs_b323 hj hn hl hk he hro F rr251 hrr251  x1 x2 x3 x4 x5 x6 x7 x8  σ33)
        · refine k_aload_n hk dX6_runs_311 0 rfl ?_
          refine k_iload hk dX6_runs_312 6 rfl ?_
          refine k_putf (k := 37) hk dX6_runs_314 rfl (by decide) kc6 (by decide) fl_RX6_249 rfl rfl rfl rfl (fun σ36 => ?_)
          refine k_aload_n hk dX6_runs_317 0 rfl ?_
          refine k_iload hk dX6_runs_318 8 rfl ?_
          refine k_putf (k := 38) hk dX6_runs_320 rfl (by decide) kc6 (by decide) fl_RX6_252 rfl rfl rfl rfl (fun σ37 => ?_)
          exact k_sub [0, 1, 2, 3, 4, 5, 6, 7, 8] rfl (s_X6_runs_b323 hj hn hl hk he hro F rr251 hrr251  x1 x2 x3 x4 x5 x6 x7 x8  σ37)
def f_X6_runs_b239 (F : Nat) (rr201 : (Int32 × Int32 × Int32 × Int32 × Int32 × Int32 × Int32) → kS → Option kR) (x1 : Int32) (x2 : Int32) (x3 : Int32) (x4 : Int32) (x5 : Int32) (x6 : Int32) (x7 : Int32) (σ : kS) : Option kR := rr201 (x1, x2, x3, x4, x5, x6, x7 + 1) σ
set_option maxRecDepth 20000 in
theorem s_X6_runs_b239 {l : Launch} {E : kE} (hj : kEj E) (hn : kNorm E) (hl : l.stackTraces = false) {C : kC} {Q : kR → State → Prop} (hk : kOk (C, E, Q) cX6_runs RX6 9) (he : kEnd (C, E, Q) none id 0) (hro : kRo C l (3) (71) 0) (F : Nat) (rr201 : (Int32 × Int32 × Int32 × Int32 × Int32 × Int32 × Int32) → kS → Option kR) (hrr201 : ∀ (x1 : Int32) (x2 : Int32) (x3 : Int32) (x4 : Int32) (x5 : Int32) (x6 : Int32) (x7 : Int32)  (σ : kS), Sm (C, E, Q) 9 0 201 [(0, .ref (kad E 48 0)), (1, .int x1), (2, .int x2), (3, .int x3), (4, .int x4), (5, .int x5), (6, .int x6), (7, .int x7)] [] σ (rr201 (x1, x2, x3, x4, x5, x6, x7) σ)) : ∀ (x1 : Int32) (x2 : Int32) (x3 : Int32) (x4 : Int32) (x5 : Int32) (x6 : Int32) (x7 : Int32)  (σ : kS), Sm (C, E, Q) 9 0 239 [(0, .ref (kad E 48 0)), (1, .int x1), (2, .int x2), (3, .int x3), (4, .int x4), (5, .int x5), (6, .int x6), (7, .int x7)] [] σ (f_X6_runs_b239 F rr201 x1 x2 x3 x4 x5 x6 x7 σ) := by
  intro x1 x2 x3 x4 x5 x6 x7  σ
  unfold f_X6_runs_b239
  refine k_iinc (lv' := [(7, .int (x7 + 1)), (0, .ref (kad E 48 0)), (1, .int x1), (2, .int x2), (3, .int x3), (4, .int x4), (5, .int x5), (6, .int x6)]) (j := 7) (y := x7 + 1) hk dX6_runs_239 rfl rfl (by decide) rfl ?_
  refine k_goto hk dX6_runs_242 201 (by decide) ?_
  exact k_sub [1, 2, 3, 4, 5, 6, 7, 0] rfl (hrr201 x1 x2 x3 x4 x5 x6 (x7 + 1)  σ)
def f_X6_runs_b201 (F : Nat) (rr34 : (Int32 × Int32 × Int32 × Int32 × Int32 × Int32) → kS → Option kR) (rr201 : (Int32 × Int32 × Int32 × Int32 × Int32 × Int32 × Int32) → kS → Option kR) (a : (Int32 × Int32 × Int32 × Int32 × Int32 × Int32 × Int32)) (σ : kS) : Option kR := match a with
  | (x1, x2, x3, x4, x5, x6, x7) => if 8 ≤ x7 then (kFix (f_X6_runs_b251 F rr34) F (x1, x2, x3, x4, x5, x6, 0, 0) σ) else (kg (kin x7 8) (if (σ.1 66 0 x7.toNatClampNeg) = (-1) then (kBi (f_X6_isBeside F x7 x6 σ) fun c42 σ41 => if c42 = 0 then (f_X6_runs_b239 F rr201 x1 x2 x3 x4 x5 x6 x7 σ41) else (kg (kin x7 8) (kb (kU σ41 66 0 x7.toNatClampNeg x6) fun σ44 => f_X6_runs_b239 F rr201 x1 x2 x3 x4 x5 x6 x7 σ44))) else (f_X6_runs_b239 F rr201 x1 x2 x3 x4 x5 x6 x7 σ)))
set_option maxRecDepth 20000 in
theorem s_X6_runs_b201 {l : Launch} {E : kE} (hj : kEj E) (hn : kNorm E) (hl : l.stackTraces = false) {C : kC} {Q : kR → State → Prop} (hk : kOk (C, E, Q) cX6_runs RX6 9) (he : kEnd (C, E, Q) none id 0) (hro : kRo C l (3) (71) 0) (F : Nat) (rr34 : (Int32 × Int32 × Int32 × Int32 × Int32 × Int32) → kS → Option kR) (hrr34 : ∀ (x1 : Int32) (x2 : Int32) (x3 : Int32) (x4 : Int32) (x5 : Int32) (x6 : Int32)  (σ : kS), Sm (C, E, Q) 9 0 34 [(0, .ref (kad E 48 0)), (1, .int x1), (2, .int x2), (3, .int x3), (4, .int x4), (5, .int x5), (6, .int x6)] [] σ (rr34 (x1, x2, x3, x4, x5, x6) σ)) : ∀ (N9 : Nat) (x1 : Int32) (x2 : Int32) (x3 : Int32) (x4 : Int32) (x5 : Int32) (x6 : Int32) (x7 : Int32)  (σ : kS), Sm (C, E, Q) 9 0 201 [(0, .ref (kad E 48 0)), (1, .int x1), (2, .int x2), (3, .int x3), (4, .int x4), (5, .int x5), (6, .int x6), (7, .int x7)] [] σ (kFix (f_X6_runs_b201 F rr34) N9 (x1, x2, x3, x4, x5, x6, x7) σ) := by
  intro N9
  induction N9 with
  | zero => intro x1 x2 x3 x4 x5 x6 x7  σ; exact k_no
  | succ N9 ih =>
    intro x1 x2 x3 x4 x5 x6 x7  σ
    show Sm _ _ _ _ _ _ _ (f_X6_runs_b201 F rr34 (kFix (f_X6_runs_b201 F rr34) N9) (x1, x2, x3, x4, x5, x6, x7) σ)
    generalize kFix (f_X6_runs_b201 F rr34) N9 = rr201 at ih
    have hrr201 := ih
    unfold f_X6_runs_b201
    dsimp only
    refine k_iload hk dX6_runs_201 7 rfl ?_
    refine k_bipush (v := 8) hk dX6_runs_203 (by decide) ?_
    refine k_icmp_ge hk dX6_runs_205 245 (by decide) (fun h38 => ?_) (fun h38 => ?_)
    · refine k_iconst (v := 0) hk dX6_runs_245 (by decide) ?_
      refine k_istore (lv' := [(7, .int 0), (0, .ref (kad E 48 0)), (1, .int x1), (2, .int x2), (3, .int x3), (4, .int x4), (5, .int x5), (6, .int x6)]) hk dX6_runs_246 (by decide) rfl ?_
      refine k_iconst (v := 0) hk dX6_runs_248 (by decide) ?_
      refine k_istore (lv' := [(8, .int 0), (7, .int 0), (0, .ref (kad E 48 0)), (1, .int x1), (2, .int x2), (3, .int x3), (4, .int x4), (5, .int x5), (6, .int x6)]) hk dX6_runs_249 (by decide) rfl ?_
      exact k_sub [2, 3, 4, 5, 6, 7, 8, 1, 0] rfl (s_X6_runs_b251 hj hn hl hk he hro F rr34 hrr34 F x1 x2 x3 x4 x5 x6 0 0  σ)
    · refine k_aload_n hk dX6_runs_208 0 rfl ?_
      refine k_getr (k := 25) 66 0 hk dX6_runs_209 rfl (by decide) kc6 (by decide) fl_RX6_58 rfl rfl ?_
      refine k_iload hk dX6_runs_212 7 rfl ?_
      refine k_iald hk dX6_runs_214 rfl (by decide) (fun h39 => ?_)
      refine k_iconst (v := (-1)) hk dX6_runs_215 (by decide) ?_
      refine k_icmp_ne hk dX6_runs_216 239 (by decide) (fun h40 => ?_) (fun h40 => ?_)
      · exact k_sub [0, 1, 2, 3, 4, 5, 6, 7] rfl (s_X6_runs_b239 hj hn hl hk he hro F rr201 hrr201  x1 x2 x3 x4 x5 x6 x7  σ)
      · refine k_aload_n hk dX6_runs_219 0 rfl ?_
        refine k_iload hk dX6_runs_220 7 rfl ?_
        refine k_iload hk dX6_runs_222 6 rfl ?_
        refine k_callVi (As := [.int x7, .int x6]) (rest := []) hk he hro (c_X6_isBeside hj hn hl F x7 x6  σ) dX6_runs_224 cw_RX6_275 rfl (by decide) kc6 rfl ⟨by decide, by decide⟩ (by decide) rfl (Nat.le_of_ble_eq_true rfl) (fun c42 σ41 => ?_)
        refine k_if_eq hk dX6_runs_227 239 (by decide) (fun h43 => ?_) (fun h43 => ?_)
        · exact k_sub [0, 1, 2, 3, 4, 5, 6, 7] rfl (s_X6_runs_b239 hj hn hl hk he hro F rr201 hrr201  x1 x2 x3 x4 x5 x6 x7  σ41)
        · refine k_aload_n hk dX6_runs_230 0 rfl ?_
          refine k_getr (k := 25) 66 0 hk dX6_runs_231 rfl (by decide) kc6 (by decide) fl_RX6_58 rfl rfl ?_
          refine k_iload hk dX6_runs_234 7 rfl ?_
          refine k_iload hk dX6_runs_236 6 rfl ?_
          refine k_iast hk dX6_runs_238 rfl (by decide) (fun h45 σ44 => ?_)
          exact k_sub [0, 1, 2, 3, 4, 5, 6, 7] rfl (s_X6_runs_b239 hj hn hl hk he hro F rr201 hrr201  x1 x2 x3 x4 x5 x6 x7  σ44)
def f_X6_runs_b162 (F : Nat) (rr34 : (Int32 × Int32 × Int32 × Int32 × Int32 × Int32) → kS → Option kR) (rr162 : (Int32 × Int32 × Int32 × Int32 × Int32 × Int32 × Int32) → kS → Option kR) (a : (Int32 × Int32 × Int32 × Int32 × Int32 × Int32 × Int32)) (σ : kS) : Option kR := match a with
  | (x1, x2, x3, x4, x5, x6, x7) => kg (kin x1 6) (if (σ.1 57 0 x1.toNatClampNeg) ≤ x7 then (kFix (f_X6_runs_b201 F rr34) F (x1, x2, x3, x4, x5, x6, 0) σ) else (kg (kin ((14 * x1) + x7) 84) (kb (((14 * x1) + x7).toNatClampNeg) fun j48 => kBv (f_X6_sparks F x1 j48 x6 σ) fun σ49 => rr162 (x1, x2, x3, x4, x5, x6, x7 + 1) σ49)))
set_option maxRecDepth 20000 in
theorem s_X6_runs_b162 {l : Launch} {E : kE} (hj : kEj E) (hn : kNorm E) (hl : l.stackTraces = false) {C : kC} {Q : kR → State → Prop} (hk : kOk (C, E, Q) cX6_runs RX6 9) (he : kEnd (C, E, Q) none id 0) (hro : kRo C l (3) (71) 0) (F : Nat) (rr34 : (Int32 × Int32 × Int32 × Int32 × Int32 × Int32) → kS → Option kR) (hrr34 : ∀ (x1 : Int32) (x2 : Int32) (x3 : Int32) (x4 : Int32) (x5 : Int32) (x6 : Int32)  (σ : kS), Sm (C, E, Q) 9 0 34 [(0, .ref (kad E 48 0)), (1, .int x1), (2, .int x2), (3, .int x3), (4, .int x4), (5, .int x5), (6, .int x6)] [] σ (rr34 (x1, x2, x3, x4, x5, x6) σ)) : ∀ (N9 : Nat) (x1 : Int32) (x2 : Int32) (x3 : Int32) (x4 : Int32) (x5 : Int32) (x6 : Int32) (x7 : Int32)  (σ : kS), Sm (C, E, Q) 9 0 162 [(0, .ref (kad E 48 0)), (1, .int x1), (2, .int x2), (3, .int x3), (4, .int x4), (5, .int x5), (6, .int x6), (7, .int x7)] [] σ (kFix (f_X6_runs_b162 F rr34) N9 (x1, x2, x3, x4, x5, x6, x7) σ) := by
  intro N9
  induction N9 with
  | zero => intro x1 x2 x3 x4 x5 x6 x7  σ; exact k_no
  | succ N9 ih =>
    intro x1 x2 x3 x4 x5 x6 x7  σ
    show Sm _ _ _ _ _ _ _ (f_X6_runs_b162 F rr34 (kFix (f_X6_runs_b162 F rr34) N9) (x1, x2, x3, x4, x5, x6, x7) σ)
    generalize kFix (f_X6_runs_b162 F rr34) N9 = rr162 at ih
    have hrr162 := ih
    unfold f_X6_runs_b162
    dsimp only
    refine k_iload hk dX6_runs_162 7 rfl ?_
    refine k_aload_n hk dX6_runs_164 0 rfl ?_
    refine k_getr (k := 16) 57 0 hk dX6_runs_165 rfl (by decide) kc6 (by decide) fl_RX6_31 rfl rfl ?_
    refine k_iload_n hk dX6_runs_168 1 rfl ?_
    refine k_iald hk dX6_runs_169 rfl (by decide) (fun h46 => ?_)
    refine k_icmp_ge hk dX6_runs_170 198 (by decide) (fun h47 => ?_) (fun h47 => ?_)
    · refine k_iconst (v := 0) hk dX6_runs_198 (by decide) ?_
      refine k_istore (lv' := [(7, .int 0), (0, .ref (kad E 48 0)), (1, .int x1), (2, .int x2), (3, .int x3), (4, .int x4), (5, .int x5), (6, .int x6)]) hk dX6_runs_199 (by decide) rfl ?_
      exact k_sub [1, 2, 3, 4, 5, 6, 7, 0] rfl (s_X6_runs_b201 hj hn hl hk he hro F rr34 hrr34 F x1 x2 x3 x4 x5 x6 0  σ)
    · refine k_aload_n hk dX6_runs_173 0 rfl ?_
      refine k_iload_n hk dX6_runs_174 1 rfl ?_
      refine k_aload_n hk dX6_runs_175 0 rfl ?_
      refine k_getr (k := 15) 55 0 hk dX6_runs_176 rfl (by decide) kc6 (by decide) fl_RX6_28 rfl rfl ?_
      refine k_bipush (v := 14) hk dX6_runs_179 (by decide) ?_
      refine k_iload_n hk dX6_runs_181 1 rfl ?_
      refine k_imul hk dX6_runs_182 ?_
      refine k_iload hk dX6_runs_183 7 rfl ?_
      refine k_iadd hk dX6_runs_185 ?_
      refine k_aaldj (g' := 56) (fun z => z) hk dX6_runs_186 rfl rfl rfl (by decide) (fun z => rfl) (by decide) (fun j48 hj48 => ?_)
      refine k_iload hk dX6_runs_187 6 rfl ?_
      refine k_callVv (As := [.int x1, .ref (kad E 56 j48), .int x6]) (rest := []) hk he hro (c_X6_sparks hj hn hl F x1 j48 x6 hj48 σ) dX6_runs_189 cw_RX6_271 rfl (by decide) kc6 rfl ⟨by decide, by decide⟩ (by decide) rfl (Nat.le_of_ble_eq_true rfl) (fun σ49 => ?_)
      refine k_iinc (lv' := [(7, .int (x7 + 1)), (0, .ref (kad E 48 0)), (1, .int x1), (2, .int x2), (3, .int x3), (4, .int x4), (5, .int x5), (6, .int x6)]) (j := 7) (y := x7 + 1) hk dX6_runs_192 rfl rfl (by decide) rfl ?_
      refine k_goto hk dX6_runs_195 162 (by decide) ?_
      exact k_sub [1, 2, 3, 4, 5, 6, 7, 0] rfl (hrr162 x1 x2 x3 x4 x5 x6 (x7 + 1)  σ49)
def f_X6_runs_b91 (F : Nat) (rr34 : (Int32 × Int32 × Int32 × Int32 × Int32 × Int32) → kS → Option kR) (rr91 : (Int32 × Int32 × Int32 × Int32 × Int32 × Int32 × Int32) → kS → Option kR) (a : (Int32 × Int32 × Int32 × Int32 × Int32 × Int32 × Int32)) (σ : kS) : Option kR := match a with
  | (x1, x2, x3, x4, x5, x6, x7) => kg (kin x1 6) (if (σ.1 57 0 x1.toNatClampNeg) ≤ x7 then (kb (kU σ 60 0 0 x6) fun σ52 => kb (kU σ52 60 0 1 (x3 - x4)) fun σ53 => kb (kU σ53 60 0 2 x2) fun σ54 => kb (kU σ54 60 0 3 x5) fun σ55 => kFix (f_X6_runs_b162 F rr34) F (x1, x2, x3, x4, x5, x6, 0) σ55) else (kg (kin ((14 * x1) + x7) 84) (kb (((14 * x1) + x7).toNatClampNeg) fun j56 => kBv (f_X6_leaks F j56 x6 σ) fun σ57 => rr91 (x1, x2, x3, x4, x5, x6, x7 + 1) σ57)))
set_option maxRecDepth 20000 in
theorem s_X6_runs_b91 {l : Launch} {E : kE} (hj : kEj E) (hn : kNorm E) (hl : l.stackTraces = false) {C : kC} {Q : kR → State → Prop} (hk : kOk (C, E, Q) cX6_runs RX6 9) (he : kEnd (C, E, Q) none id 0) (hro : kRo C l (3) (71) 0) (F : Nat) (rr34 : (Int32 × Int32 × Int32 × Int32 × Int32 × Int32) → kS → Option kR) (hrr34 : ∀ (x1 : Int32) (x2 : Int32) (x3 : Int32) (x4 : Int32) (x5 : Int32) (x6 : Int32)  (σ : kS), Sm (C, E, Q) 9 0 34 [(0, .ref (kad E 48 0)), (1, .int x1), (2, .int x2), (3, .int x3), (4, .int x4), (5, .int x5), (6, .int x6)] [] σ (rr34 (x1, x2, x3, x4, x5, x6) σ)) : ∀ (N9 : Nat) (x1 : Int32) (x2 : Int32) (x3 : Int32) (x4 : Int32) (x5 : Int32) (x6 : Int32) (x7 : Int32)  (σ : kS), Sm (C, E, Q) 9 0 91 [(0, .ref (kad E 48 0)), (1, .int x1), (2, .int x2), (3, .int x3), (4, .int x4), (5, .int x5), (6, .int x6), (7, .int x7)] [] σ (kFix (f_X6_runs_b91 F rr34) N9 (x1, x2, x3, x4, x5, x6, x7) σ) := by
  intro N9
  induction N9 with
  | zero => intro x1 x2 x3 x4 x5 x6 x7  σ; exact k_no
  | succ N9 ih =>
    intro x1 x2 x3 x4 x5 x6 x7  σ
    show Sm _ _ _ _ _ _ _ (f_X6_runs_b91 F rr34 (kFix (f_X6_runs_b91 F rr34) N9) (x1, x2, x3, x4, x5, x6, x7) σ)
    generalize kFix (f_X6_runs_b91 F rr34) N9 = rr91 at ih
    have hrr91 := ih
    unfold f_X6_runs_b91
    dsimp only
    refine k_iload hk dX6_runs_91 7 rfl ?_
    refine k_aload_n hk dX6_runs_93 0 rfl ?_
    refine k_getr (k := 16) 57 0 hk dX6_runs_94 rfl (by decide) kc6 (by decide) fl_RX6_31 rfl rfl ?_
    refine k_iload_n hk dX6_runs_97 1 rfl ?_
    refine k_iald hk dX6_runs_98 rfl (by decide) (fun h50 => ?_)
    refine k_icmp_ge hk dX6_runs_99 126 (by decide) (fun h51 => ?_) (fun h51 => ?_)
    · refine k_aload_n hk dX6_runs_126 0 rfl ?_
      refine k_getr (k := 19) 60 0 hk dX6_runs_127 rfl (by decide) kc6 (by decide) fl_RX6_40 rfl rfl ?_
      refine k_iconst (v := 0) hk dX6_runs_130 (by decide) ?_
      refine k_iload hk dX6_runs_131 6 rfl ?_
      refine k_iast_k (kk := 0) hk dX6_runs_133 rfl (by decide) (by decide) (by decide) (fun σ52 => ?_)
      refine k_aload_n hk dX6_runs_134 0 rfl ?_
      refine k_getr (k := 19) 60 0 hk dX6_runs_135 rfl (by decide) kc6 (by decide) fl_RX6_40 rfl rfl ?_
      refine k_iconst (v := 1) hk dX6_runs_138 (by decide) ?_
      refine k_iload_n hk dX6_runs_139 3 rfl ?_
      refine k_iload hk dX6_runs_140 4 rfl ?_
      refine k_isub hk dX6_runs_142 ?_
      refine k_iast_k (kk := 1) hk dX6_runs_143 rfl (by decide) (by decide) (by decide) (fun σ53 => ?_)
      refine k_aload_n hk dX6_runs_144 0 rfl ?_
      refine k_getr (k := 19) 60 0 hk dX6_runs_145 rfl (by decide) kc6 (by decide) fl_RX6_40 rfl rfl ?_
      refine k_iconst (v := 2) hk dX6_runs_148 (by decide) ?_
      refine k_iload_n hk dX6_runs_149 2 rfl ?_
      refine k_iast_k (kk := 2) hk dX6_runs_150 rfl (by decide) (by decide) (by decide) (fun σ54 => ?_)
      refine k_aload_n hk dX6_runs_151 0 rfl ?_
      refine k_getr (k := 19) 60 0 hk dX6_runs_152 rfl (by decide) kc6 (by decide) fl_RX6_40 rfl rfl ?_
      refine k_iconst (v := 3) hk dX6_runs_155 (by decide) ?_
      refine k_iload hk dX6_runs_156 5 rfl ?_
      refine k_iast_k (kk := 3) hk dX6_runs_158 rfl (by decide) (by decide) (by decide) (fun σ55 => ?_)
      refine k_iconst (v := 0) hk dX6_runs_159 (by decide) ?_
      refine k_istore (lv' := [(7, .int 0), (0, .ref (kad E 48 0)), (1, .int x1), (2, .int x2), (3, .int x3), (4, .int x4), (5, .int x5), (6, .int x6)]) hk dX6_runs_160 (by decide) rfl ?_
      exact k_sub [1, 2, 3, 4, 5, 6, 7, 0] rfl (s_X6_runs_b162 hj hn hl hk he hro F rr34 hrr34 F x1 x2 x3 x4 x5 x6 0  σ55)
    · refine k_aload_n hk dX6_runs_102 0 rfl ?_
      refine k_aload_n hk dX6_runs_103 0 rfl ?_
      refine k_getr (k := 15) 55 0 hk dX6_runs_104 rfl (by decide) kc6 (by decide) fl_RX6_28 rfl rfl ?_
      refine k_bipush (v := 14) hk dX6_runs_107 (by decide) ?_
      refine k_iload_n hk dX6_runs_109 1 rfl ?_
      refine k_imul hk dX6_runs_110 ?_
      refine k_iload hk dX6_runs_111 7 rfl ?_
      refine k_iadd hk dX6_runs_113 ?_
      refine k_aaldj (g' := 56) (fun z => z) hk dX6_runs_114 rfl rfl rfl (by decide) (fun z => rfl) (by decide) (fun j56 hj56 => ?_)
      refine k_iload hk dX6_runs_115 6 rfl ?_
      refine k_callVv (As := [.ref (kad E 56 j56), .int x6]) (rest := []) hk he hro (c_X6_leaks hj hn hl F j56 x6 hj56 σ) dX6_runs_117 cw_RX6_267 rfl (by decide) kc6 rfl ⟨by decide, by decide⟩ (by decide) rfl (Nat.le_of_ble_eq_true rfl) (fun σ57 => ?_)
      refine k_iinc (lv' := [(7, .int (x7 + 1)), (0, .ref (kad E 48 0)), (1, .int x1), (2, .int x2), (3, .int x3), (4, .int x4), (5, .int x5), (6, .int x6)]) (j := 7) (y := x7 + 1) hk dX6_runs_120 rfl rfl (by decide) rfl ?_
      refine k_goto hk dX6_runs_123 91 (by decide) ?_
      exact k_sub [1, 2, 3, 4, 5, 6, 7, 0] rfl (hrr91 x1 x2 x3 x4 x5 x6 (x7 + 1)  σ57)
def f_X6_runs_b88 (F : Nat) (rr34 : (Int32 × Int32 × Int32 × Int32 × Int32 × Int32) → kS → Option kR) (x1 : Int32) (x2 : Int32) (x3 : Int32) (x4 : Int32) (x5 : Int32) (x6 : Int32) (σ : kS) : Option kR := kFix (f_X6_runs_b91 F rr34) F (x1, x2, x3, x4, x5, x6, 0) σ
set_option maxRecDepth 20000 in
theorem s_X6_runs_b88 {l : Launch} {E : kE} (hj : kEj E) (hn : kNorm E) (hl : l.stackTraces = false) {C : kC} {Q : kR → State → Prop} (hk : kOk (C, E, Q) cX6_runs RX6 9) (he : kEnd (C, E, Q) none id 0) (hro : kRo C l (3) (71) 0) (F : Nat) (rr34 : (Int32 × Int32 × Int32 × Int32 × Int32 × Int32) → kS → Option kR) (hrr34 : ∀ (x1 : Int32) (x2 : Int32) (x3 : Int32) (x4 : Int32) (x5 : Int32) (x6 : Int32)  (σ : kS), Sm (C, E, Q) 9 0 34 [(0, .ref (kad E 48 0)), (1, .int x1), (2, .int x2), (3, .int x3), (4, .int x4), (5, .int x5), (6, .int x6)] [] σ (rr34 (x1, x2, x3, x4, x5, x6) σ)) : ∀ (x1 : Int32) (x2 : Int32) (x3 : Int32) (x4 : Int32) (x5 : Int32) (x6 : Int32)  (σ : kS), Sm (C, E, Q) 9 0 88 [(0, .ref (kad E 48 0)), (1, .int x1), (2, .int x2), (3, .int x3), (4, .int x4), (5, .int x5), (6, .int x6)] [] σ (f_X6_runs_b88 F rr34 x1 x2 x3 x4 x5 x6 σ) := by
  intro x1 x2 x3 x4 x5 x6  σ
  unfold f_X6_runs_b88
  refine k_iconst (v := 0) hk dX6_runs_88 (by decide) ?_
  refine k_istore (lv' := [(7, .int 0), (0, .ref (kad E 48 0)), (1, .int x1), (2, .int x2), (3, .int x3), (4, .int x4), (5, .int x5), (6, .int x6)]) hk dX6_runs_89 (by decide) rfl ?_
  exact k_sub [1, 2, 3, 4, 5, 6, 7, 0] rfl (s_X6_runs_b91 hj hn hl hk he hro F rr34 hrr34 F x1 x2 x3 x4 x5 x6 0  σ)
def f_X6_runs_b34 (F : Nat) (rr34 : (Int32 × Int32 × Int32 × Int32 × Int32 × Int32) → kS → Option kR) (a : (Int32 × Int32 × Int32 × Int32 × Int32 × Int32)) (σ : kS) : Option kR := match a with
  | (x1, x2, x3, x4, x5, x6) => if 100 ≤ x6 then (some (.inl none, σ)) else (kb (x2 + (σ.1 63 0 0)) fun y59 => if y59 < (σ.1 63 0 1) then (f_X6_runs_b88 F rr34 x1 y59 x3 x4 x5 x6 σ) else (kBi (f_X6_more F 0 (x4 - (σ.1 63 0 3)) σ) fun c62 σ61 => kBi (f_X6_more F 0 (x3 - (σ61.1 63 0 4)) σ61) fun c64 σ63 => f_X6_runs_b88 F rr34 x1 y59 c64 c62 x5 x6 σ63))
set_option maxRecDepth 20000 in
theorem s_X6_runs_b34 {l : Launch} {E : kE} (hj : kEj E) (hn : kNorm E) (hl : l.stackTraces = false) {C : kC} {Q : kR → State → Prop} (hk : kOk (C, E, Q) cX6_runs RX6 9) (he : kEnd (C, E, Q) none id 0) (hro : kRo C l (3) (71) 0) (F : Nat) : ∀ (N9 : Nat) (x1 : Int32) (x2 : Int32) (x3 : Int32) (x4 : Int32) (x5 : Int32) (x6 : Int32)  (σ : kS), Sm (C, E, Q) 9 0 34 [(0, .ref (kad E 48 0)), (1, .int x1), (2, .int x2), (3, .int x3), (4, .int x4), (5, .int x5), (6, .int x6)] [] σ (kFix (f_X6_runs_b34 F) N9 (x1, x2, x3, x4, x5, x6) σ) := by
  intro N9
  induction N9 with
  | zero => intro x1 x2 x3 x4 x5 x6  σ; exact k_no
  | succ N9 ih =>
    intro x1 x2 x3 x4 x5 x6  σ
    show Sm _ _ _ _ _ _ _ (f_X6_runs_b34 F (kFix (f_X6_runs_b34 F) N9) (x1, x2, x3, x4, x5, x6) σ)
    generalize kFix (f_X6_runs_b34 F) N9 = rr34 at ih
    have hrr34 := ih
    unfold f_X6_runs_b34
    dsimp only
    refine k_iload hk dX6_runs_34 6 rfl ?_
    refine k_bipush (v := 100) hk dX6_runs_36 (by decide) ?_
    refine k_icmp_ge hk dX6_runs_38 462 (by decide) (fun h58 => ?_) (fun h58 => ?_)
    · exact k_return hk he dX6_runs_462 (by decide)
    · refine k_iload_n hk dX6_runs_41 2 rfl ?_
      refine k_aload_n hk dX6_runs_42 0 rfl ?_
      refine k_getr (k := 22) 63 0 hk dX6_runs_43 rfl (by decide) kc6 (by decide) fl_RX6_49 rfl rfl ?_
      refine k_iconst (v := 0) hk dX6_runs_46 (by decide) ?_
      refine k_iald_k (kk := 0) hk dX6_runs_47 rfl (by decide) (by decide) (by decide) ?_
      refine k_iadd hk dX6_runs_48 ?_
      refine k_nm (fun y59 => ?_)
      refine k_istore_n (lv' := [(2, .int y59), (0, .ref (kad E 48 0)), (1, .int x1), (3, .int x3), (4, .int x4), (5, .int x5), (6, .int x6)]) hk dX6_runs_49 (by decide) rfl ?_
      refine k_iload_n hk dX6_runs_50 0 rfl ?_
      refine k_aload_n hk dX6_runs_51 1 rfl ?_
      refine k_getr (k := 22) 63 0 hk dX6_runs_52 rfl (by decide) kc6 (by decide) fl_RX6_49 rfl rfl ?_
      refine k_iconst (v := 1) hk dX6_runs_55 (by decide) ?_
      refine k_iald_k (kk := 1) hk dX6_runs_56 rfl (by decide) (by decide) (by decide) ?_
      refine k_icmp_lt hk dX6_runs_57 88 (by decide) (fun h60 => ?_) (fun h60 => ?_)
      · exact k_sub [1, 2, 0, 3, 4, 5, 6] rfl (s_X6_runs_b88 hj hn hl hk he hro F rr34 hrr34  x1 y59 x3 x4 x5 x6  σ)
      · refine k_iconst (v := 0) hk dX6_runs_60 (by decide) ?_
        refine k_iload hk dX6_runs_61 4 rfl ?_
        refine k_aload_n hk dX6_runs_63 1 rfl ?_
        refine k_getr (k := 22) 63 0 hk dX6_runs_64 rfl (by decide) kc6 (by decide) fl_RX6_49 rfl rfl ?_
        refine k_iconst (v := 3) hk dX6_runs_67 (by decide) ?_
        refine k_iald_k (kk := 3) hk dX6_runs_68 rfl (by decide) (by decide) (by decide) ?_
        refine k_isub hk dX6_runs_69 ?_
        refine k_callSi (As := [.int 0, .int (x4 - (σ.1 63 0 3))]) (rest := []) hk he hro (c_X6_more hj hn hl F 0 (x4 - (σ.1 63 0 3))  σ) dX6_runs_70 cw_RX6_264 ⟨by decide, by decide⟩ (by decide) rfl (Nat.le_of_ble_eq_true rfl) (fun c62 σ61 => ?_)
        refine k_istore (lv' := [(4, .int c62), (2, .int y59), (0, .ref (kad E 48 0)), (1, .int x1), (3, .int x3), (5, .int x5), (6, .int x6)]) hk dX6_runs_73 (by decide) rfl ?_
        refine k_iconst (v := 0) hk dX6_runs_75 (by decide) ?_
        refine k_iload_n hk dX6_runs_76 4 rfl ?_
        refine k_aload_n hk dX6_runs_77 2 rfl ?_
        refine k_getr (k := 22) 63 0 hk dX6_runs_78 rfl (by decide) kc6 (by decide) fl_RX6_49 rfl rfl ?_
        refine k_iconst (v := 4) hk dX6_runs_81 (by decide) ?_
        refine k_iald_k (kk := 4) hk dX6_runs_82 rfl (by decide) (by decide) (by decide) ?_
        refine k_isub hk dX6_runs_83 ?_
        refine k_callSi (As := [.int 0, .int (x3 - (σ61.1 63 0 4))]) (rest := []) hk he hro (c_X6_more hj hn hl F 0 (x3 - (σ61.1 63 0 4))  σ61) dX6_runs_84 cw_RX6_264 ⟨by decide, by decide⟩ (by decide) rfl (Nat.le_of_ble_eq_true rfl) (fun c64 σ63 => ?_)
        refine k_istore_n (lv' := [(3, .int c64), (4, .int c62), (2, .int y59), (0, .ref (kad E 48 0)), (1, .int x1), (5, .int x5), (6, .int x6)]) hk dX6_runs_87 (by decide) rfl ?_
        exact k_sub [3, 4, 2, 0, 1, 5, 6] rfl (s_X6_runs_b88 hj hn hl hk he hro F rr34 hrr34  x1 y59 c64 c62 x5 x6  σ63)
def f_X6_runs (F : Nat) (a1 : Int32) (σ : kS) : Option kR := kBv (f_X6_begins F a1 σ) fun σ65 => kb (σ65.1 63 0 2) fun y66 => kb (σ65.1 63 0 2) fun y67 => kb (σ65.1 63 0 9) fun y68 => kFix (f_X6_runs_b34 F) F (a1, 0, y66, y67, y68, 0) σ65
set_option maxRecDepth 20000 in
theorem c_X6_runs {l : Launch} {E : kE} (hj : kEj E) (hn : kNorm E) (hl : l.stackTraces = false) (F : Nat) (a1 : Int32)  (σ : kS) : kMet l E yX6_runs cX6_runs 9 none (3) (71) 0 id [.ref (kad E 48 0), .int a1] σ (f_X6_runs F a1 σ) := by
  refine k_met hj hn hl (by decide) (Nat.le_of_ble_eq_true rfl) (fun C Q hk he hro => ?_)
  have hk : kOk (C, E, Q) cX6_runs RX6 9 := hk
  show Sm (C, E, Q) 9 0 0 [(0, .ref (kad E 48 0)), (1, .int a1)] [] σ _
  unfold f_X6_runs
  refine k_aload_n hk dX6_runs_0 0 rfl ?_
  refine k_iload_n hk dX6_runs_1 1 rfl ?_
  refine k_callVv (As := [.int a1]) (rest := []) hk he hro (c_X6_begins hj hn hl F a1  σ) dX6_runs_2 cw_RX6_261 rfl (by decide) kc6 rfl ⟨by decide, by decide⟩ (by decide) rfl (Nat.le_of_ble_eq_true rfl) (fun σ65 => ?_)
  refine k_iconst (v := 0) hk dX6_runs_5 (by decide) ?_
  refine k_istore_n (lv' := [(2, .int 0), (0, .ref (kad E 48 0)), (1, .int a1)]) hk dX6_runs_6 (by decide) rfl ?_
  refine k_aload_n hk dX6_runs_7 1 rfl ?_
  refine k_getr (k := 22) 63 0 hk dX6_runs_8 rfl (by decide) kc6 (by decide) fl_RX6_49 rfl rfl ?_
  refine k_iconst (v := 2) hk dX6_runs_11 (by decide) ?_
  refine k_iald_k (kk := 2) hk dX6_runs_12 rfl (by decide) (by decide) (by decide) ?_
  refine k_nm (fun y66 => ?_)
  refine k_istore_n (lv' := [(3, .int y66), (2, .int 0), (0, .ref (kad E 48 0)), (1, .int a1)]) hk dX6_runs_13 (by decide) rfl ?_
  refine k_aload_n hk dX6_runs_14 2 rfl ?_
  refine k_getr (k := 22) 63 0 hk dX6_runs_15 rfl (by decide) kc6 (by decide) fl_RX6_49 rfl rfl ?_
  refine k_iconst (v := 2) hk dX6_runs_18 (by decide) ?_
  refine k_iald_k (kk := 2) hk dX6_runs_19 rfl (by decide) (by decide) (by decide) ?_
  refine k_nm (fun y67 => ?_)
  refine k_istore (lv' := [(4, .int y67), (3, .int y66), (2, .int 0), (0, .ref (kad E 48 0)), (1, .int a1)]) hk dX6_runs_20 (by decide) rfl ?_
  refine k_aload_n hk dX6_runs_22 3 rfl ?_
  refine k_getr (k := 22) 63 0 hk dX6_runs_23 rfl (by decide) kc6 (by decide) fl_RX6_49 rfl rfl ?_
  refine k_bipush (v := 9) hk dX6_runs_26 (by decide) ?_
  refine k_iald_k (kk := 9) hk dX6_runs_28 rfl (by decide) (by decide) (by decide) ?_
  refine k_nm (fun y68 => ?_)
  refine k_istore (lv' := [(5, .int y68), (4, .int y67), (3, .int y66), (2, .int 0), (0, .ref (kad E 48 0)), (1, .int a1)]) hk dX6_runs_29 (by decide) rfl ?_
  refine k_iconst (v := 0) hk dX6_runs_31 (by decide) ?_
  refine k_istore (lv' := [(6, .int 0), (5, .int y68), (4, .int y67), (3, .int y66), (2, .int 0), (0, .ref (kad E 48 0)), (1, .int a1)]) hk dX6_runs_32 (by decide) rfl ?_
  exact k_sub [5, 6, 4, 3, 2, 1, 0] rfl (s_X6_runs_b34 hj hn hl hk he hro F F a1 0 y66 y67 y68 0  σ65)
def f_X6_lasted_b40 (F : Nat) (t0 : Int32) (σ : kS) : Option kR := some (.inl (some (.int t0)), σ)
set_option maxRecDepth 20000 in
theorem s_X6_lasted_b40 {l : Launch} {E : kE} (hj : kEj E) (hn : kNorm E) (hl : l.stackTraces = false) {C : kC} {Q : kR → State → Prop} (hk : kOk (C, E, Q) cX6_lasted RX6 1) (he : kEnd (C, E, Q) (some .int) id 0) (hro : kRo C l (0) (0) 0) (F : Nat) : ∀ (t0 : Int32)  (σ : kS), Sm (C, E, Q) 1 0 40 [] [.int t0] σ (f_X6_lasted_b40 F t0 σ) := by
  intro t0  σ
  unfold f_X6_lasted_b40
  exact k_ireturn hk he dX6_lasted_40 (by decide)
def f_X6_lasted_b27 (F : Nat)  (σ : kS) : Option kR := f_X6_lasted_b40 F (-1) σ
set_option maxRecDepth 20000 in
theorem s_X6_lasted_b27 {l : Launch} {E : kE} (hj : kEj E) (hn : kNorm E) (hl : l.stackTraces = false) {C : kC} {Q : kR → State → Prop} (hk : kOk (C, E, Q) cX6_lasted RX6 1) (he : kEnd (C, E, Q) (some .int) id 0) (hro : kRo C l (0) (0) 0) (F : Nat) : ∀   (σ : kS), Sm (C, E, Q) 1 0 27 [] [] σ (f_X6_lasted_b27 F  σ) := by
  intro   σ
  unfold f_X6_lasted_b27
  refine k_iconst (v := (-1)) hk dX6_lasted_27 (by decide) ?_
  refine k_goto hk dX6_lasted_28 40 (by decide) ?_
  exact k_sub [] rfl (s_X6_lasted_b40 hj hn hl hk he hro F  (-1)  σ)
def f_X6_lasted (F : Nat)  (σ : kS) : Option kR := if (σ.1 48 0 37) = (-1) then (f_X6_lasted_b27 F  σ) else (if (σ.1 48 0 36) = (-1) then (f_X6_lasted_b27 F  σ) else (if (σ.1 48 0 37) ≤ (σ.1 48 0 36) then (f_X6_lasted_b40 F ((σ.1 48 0 36) - (σ.1 48 0 37)) σ) else (f_X6_lasted_b27 F  σ)))
set_option maxRecDepth 20000 in
theorem c_X6_lasted {l : Launch} {E : kE} (hj : kEj E) (hn : kNorm E) (hl : l.stackTraces = false) (F : Nat)   (σ : kS) : kMet l E yX6_lasted cX6_lasted 1 (some .int) (0) (0) 0 id [.ref (kad E 48 0)] σ (f_X6_lasted F  σ) := by
  refine k_met hj hn hl (by decide) (Nat.le_of_ble_eq_true rfl) (fun C Q hk he hro => ?_)
  have hk : kOk (C, E, Q) cX6_lasted RX6 1 := hk
  show Sm (C, E, Q) 1 0 0 [(0, .ref (kad E 48 0))] [] σ _
  unfold f_X6_lasted
  refine k_aload_n hk dX6_lasted_0 0 rfl ?_
  refine k_getf (k := 37) hk dX6_lasted_1 rfl (by decide) kc6 (by decide) fl_RX6_249 rfl ?_
  refine k_iconst (v := (-1)) hk dX6_lasted_4 (by decide) ?_
  refine k_icmp_eq hk dX6_lasted_5 27 (by decide) (fun h1 => ?_) (fun h1 => ?_)
  · exact k_sub [] rfl (s_X6_lasted_b27 hj hn hl hk he hro F    σ)
  · refine k_aload_n hk dX6_lasted_8 0 rfl ?_
    refine k_getf (k := 36) hk dX6_lasted_9 rfl (by decide) kc6 (by decide) fl_RX6_246 rfl ?_
    refine k_iconst (v := (-1)) hk dX6_lasted_12 (by decide) ?_
    refine k_icmp_eq hk dX6_lasted_13 27 (by decide) (fun h2 => ?_) (fun h2 => ?_)
    · exact k_sub [] rfl (s_X6_lasted_b27 hj hn hl hk he hro F    σ)
    · refine k_aload_n hk dX6_lasted_16 0 rfl ?_
      refine k_getf (k := 36) hk dX6_lasted_17 rfl (by decide) kc6 (by decide) fl_RX6_246 rfl ?_
      refine k_aload_n hk dX6_lasted_20 0 rfl ?_
      refine k_getf (k := 37) hk dX6_lasted_21 rfl (by decide) kc6 (by decide) fl_RX6_249 rfl ?_
      refine k_icmp_ge hk dX6_lasted_24 31 (by decide) (fun h3 => ?_) (fun h3 => ?_)
      · refine k_aload_n hk dX6_lasted_31 0 rfl ?_
        refine k_getf (k := 36) hk dX6_lasted_32 rfl (by decide) kc6 (by decide) fl_RX6_246 rfl ?_
        refine k_aload_n hk dX6_lasted_35 0 rfl ?_
        refine k_getf (k := 37) hk dX6_lasted_36 rfl (by decide) kc6 (by decide) fl_RX6_249 rfl ?_
        refine k_isub hk dX6_lasted_39 ?_
        exact k_sub [] rfl (s_X6_lasted_b40 hj hn hl hk he hro F  ((σ.1 48 0 36) - (σ.1 48 0 37))  σ)
      · exact k_sub [] rfl (s_X6_lasted_b27 hj hn hl hk he hro F    σ)
def f_X6_heavy_b36 (F : Nat) (rr4 : (Int32 × Int32 × Int32) → kS → Option kR) (x1 : Int32) (x3 : Int32) (t0 : Int32) (t1 : Int32) (σ : kS) : Option kR := kb (t0 + t1) fun y1 => rr4 (x1, y1, x3 + 1) σ
set_option maxRecDepth 20000 in
theorem s_X6_heavy_b36 {l : Launch} {E : kE} (hj : kEj E) (hn : kNorm E) (hl : l.stackTraces = false) {C : kC} {Q : kR → State → Prop} (hk : kOk (C, E, Q) cX6_heavy RX6 4) (he : kEnd (C, E, Q) (some .int) id 0) (hro : kRo C l (0) (0) 0) (F : Nat) (rr4 : (Int32 × Int32 × Int32) → kS → Option kR) (hrr4 : ∀ (x1 : Int32) (x2 : Int32) (x3 : Int32)  (σ : kS), Sm (C, E, Q) 4 0 4 [(0, .ref (kad E 48 0)), (1, .int x1), (2, .int x2), (3, .int x3)] [] σ (rr4 (x1, x2, x3) σ)) : ∀ (x1 : Int32) (x3 : Int32) (t0 : Int32) (t1 : Int32)  (σ : kS), Sm (C, E, Q) 4 0 36 [(0, .ref (kad E 48 0)), (1, .int x1), (3, .int x3)] [.int t1, .int t0] σ (f_X6_heavy_b36 F rr4 x1 x3 t0 t1 σ) := by
  intro x1 x3 t0 t1  σ
  unfold f_X6_heavy_b36
  refine k_iadd hk dX6_heavy_36 ?_
  refine k_nm (fun y1 => ?_)
  refine k_istore_n (lv' := [(2, .int y1), (0, .ref (kad E 48 0)), (1, .int x1), (3, .int x3)]) hk dX6_heavy_37 (by decide) rfl ?_
  refine k_iinc (lv' := [(3, .int (x3 + 1)), (2, .int y1), (0, .ref (kad E 48 0)), (1, .int x1)]) (j := 3) (y := x3 + 1) hk dX6_heavy_38 rfl rfl (by decide) rfl ?_
  refine k_goto hk dX6_heavy_41 4 (by decide) ?_
  exact k_sub [2, 3, 1, 0] rfl (hrr4 x1 y1 (x3 + 1)  σ)
def f_X6_heavy_b4 (F : Nat) (rr4 : (Int32 × Int32 × Int32) → kS → Option kR) (a : (Int32 × Int32 × Int32)) (σ : kS) : Option kR := match a with
  | (x1, x2, x3) => if 8 ≤ x3 then (some (.inl (some (.int x2)), σ)) else (if 4 ≤ x3 then (kg (kin x1 100) (kb (x1.toNatClampNeg) fun j4 => kg (kin x3 8) (f_X6_heavy_b36 F rr4 x1 x3 x2 (-(σ.1 68 j4 x3.toNatClampNeg)) σ))) else (kg (kin x1 100) (kb (x1.toNatClampNeg) fun j6 => kg (kin x3 8) (f_X6_heavy_b36 F rr4 x1 x3 x2 (σ.1 68 j6 x3.toNatClampNeg) σ))))
set_option maxRecDepth 20000 in
theorem s_X6_heavy_b4 {l : Launch} {E : kE} (hj : kEj E) (hn : kNorm E) (hl : l.stackTraces = false) {C : kC} {Q : kR → State → Prop} (hk : kOk (C, E, Q) cX6_heavy RX6 4) (he : kEnd (C, E, Q) (some .int) id 0) (hro : kRo C l (0) (0) 0) (F : Nat) : ∀ (N9 : Nat) (x1 : Int32) (x2 : Int32) (x3 : Int32)  (σ : kS), Sm (C, E, Q) 4 0 4 [(0, .ref (kad E 48 0)), (1, .int x1), (2, .int x2), (3, .int x3)] [] σ (kFix (f_X6_heavy_b4 F) N9 (x1, x2, x3) σ) := by
  intro N9
  induction N9 with
  | zero => intro x1 x2 x3  σ; exact k_no
  | succ N9 ih =>
    intro x1 x2 x3  σ
    show Sm _ _ _ _ _ _ _ (f_X6_heavy_b4 F (kFix (f_X6_heavy_b4 F) N9) (x1, x2, x3) σ)
    generalize kFix (f_X6_heavy_b4 F) N9 = rr4 at ih
    have hrr4 := ih
    unfold f_X6_heavy_b4
    dsimp only
    refine k_iload_n hk dX6_heavy_4 3 rfl ?_
    refine k_bipush (v := 8) hk dX6_heavy_5 (by decide) ?_
    refine k_icmp_ge hk dX6_heavy_7 44 (by decide) (fun h2 => ?_) (fun h2 => ?_)
    · refine k_iload_n hk dX6_heavy_44 2 rfl ?_
      exact k_ireturn hk he dX6_heavy_45 (by decide)
    · refine k_iload_n hk dX6_heavy_10 2 rfl ?_
      refine k_iload_n hk dX6_heavy_11 3 rfl ?_
      refine k_iconst (v := 4) hk dX6_heavy_12 (by decide) ?_
      refine k_icmp_ge hk dX6_heavy_13 27 (by decide) (fun h3 => ?_) (fun h3 => ?_)
      · refine k_aload_n hk dX6_heavy_27 0 rfl ?_
        refine k_getr (k := 26) 67 0 hk dX6_heavy_28 rfl (by decide) kc6 (by decide) fl_RX6_61 rfl rfl ?_
        refine k_iload_n hk dX6_heavy_31 1 rfl ?_
        refine k_aaldj (g' := 68) (fun z => z) hk dX6_heavy_32 rfl rfl rfl (by decide) (fun z => rfl) (by decide) (fun j4 hj4 => ?_)
        refine k_iload_n hk dX6_heavy_33 3 rfl ?_
        refine k_iald hk dX6_heavy_34 rfl hj4 (fun h5 => ?_)
        refine k_ineg hk dX6_heavy_35 ?_
        exact k_sub [0, 1, 3] rfl (s_X6_heavy_b36 hj hn hl hk he hro F rr4 hrr4  x1 x3 x2 (-(σ.1 68 j4 x3.toNatClampNeg))  σ)
      · refine k_aload_n hk dX6_heavy_16 0 rfl ?_
        refine k_getr (k := 26) 67 0 hk dX6_heavy_17 rfl (by decide) kc6 (by decide) fl_RX6_61 rfl rfl ?_
        refine k_iload_n hk dX6_heavy_20 1 rfl ?_
        refine k_aaldj (g' := 68) (fun z => z) hk dX6_heavy_21 rfl rfl rfl (by decide) (fun z => rfl) (by decide) (fun j6 hj6 => ?_)
        refine k_iload_n hk dX6_heavy_22 3 rfl ?_
        refine k_iald hk dX6_heavy_23 rfl hj6 (fun h7 => ?_)
        refine k_goto hk dX6_heavy_24 36 (by decide) ?_
        exact k_sub [0, 1, 3] rfl (s_X6_heavy_b36 hj hn hl hk he hro F rr4 hrr4  x1 x3 x2 (σ.1 68 j6 x3.toNatClampNeg)  σ)
def f_X6_heavy (F : Nat) (a1 : Int32) (σ : kS) : Option kR := kFix (f_X6_heavy_b4 F) F (a1, 0, 0) σ
set_option maxRecDepth 20000 in
theorem c_X6_heavy {l : Launch} {E : kE} (hj : kEj E) (hn : kNorm E) (hl : l.stackTraces = false) (F : Nat) (a1 : Int32)  (σ : kS) : kMet l E yX6_heavy cX6_heavy 4 (some .int) (0) (0) 0 id [.ref (kad E 48 0), .int a1] σ (f_X6_heavy F a1 σ) := by
  refine k_met hj hn hl (by decide) (Nat.le_of_ble_eq_true rfl) (fun C Q hk he hro => ?_)
  have hk : kOk (C, E, Q) cX6_heavy RX6 4 := hk
  show Sm (C, E, Q) 4 0 0 [(0, .ref (kad E 48 0)), (1, .int a1)] [] σ _
  unfold f_X6_heavy
  refine k_iconst (v := 0) hk dX6_heavy_0 (by decide) ?_
  refine k_istore_n (lv' := [(2, .int 0), (0, .ref (kad E 48 0)), (1, .int a1)]) hk dX6_heavy_1 (by decide) rfl ?_
  refine k_iconst (v := 0) hk dX6_heavy_2 (by decide) ?_
  refine k_istore_n (lv' := [(3, .int 0), (2, .int 0), (0, .ref (kad E 48 0)), (1, .int a1)]) hk dX6_heavy_3 (by decide) rfl ?_
  exact k_sub [2, 3, 1, 0] rfl (s_X6_heavy_b4 hj hn hl hk he hro F F a1 0 0  σ)
