def f_X5_filmBy_b77 (F : Nat) (x2 : Nat) (σ : kS) : Option kR := some (.inl (some (.int (nI x2))), σ)
set_option maxRecDepth 20000 in
theorem s_X5_filmBy_b77 {l : Launch} {E : kE} (hj : kEj E) (hn : kNorm E) (hl : l.stackTraces = false) {C : kC} {Q : kR → State → Prop} (hk : kOk (C, E, Q) cX5_filmBy RX5 4) (he : kEnd (C, E, Q) (some (.object "MastSparks$Film")) (kRvM E) 0) (hro : kRo C l (4) (92) 0) (F : Nat) : ∀ (x2 : Nat) (hx2 : x2 < kCnt 40) (σ : kS), Sm (C, E, Q) 4 0 77 [(2, .ref (kad E 40 x2))] [] σ (f_X5_filmBy_b77 F x2 σ) := by
  intro x2 hx2 σ
  unfold f_X5_filmBy_b77
  refine k_aload_n hk dX5_filmBy_77 0 rfl ?_
  exact k_areturn hk he dX5_filmBy_78 (by decide) hx2
def f_X5_filmBy_b40 (F : Nat) (rr40 : (Nat × Int32) → kS → Option kR) (a : (Nat × Int32)) (σ : kS) : Option kR := match a with
  | (x2, x3) => if 100 ≤ x3 then (kBv (f_X0_end F x2 σ) fun σ2 => f_X5_filmBy_b77 F x2 σ2) else (kBv (f_X1_pass F x3 σ) fun σ3 => kBv (f_X0_keep F x2 x3 σ3) fun σ4 => rr40 (x2, x3 + 1) σ4)
set_option maxRecDepth 20000 in
theorem s_X5_filmBy_b40 {l : Launch} {E : kE} (hj : kEj E) (hn : kNorm E) (hl : l.stackTraces = false) {C : kC} {Q : kR → State → Prop} (hk : kOk (C, E, Q) cX5_filmBy RX5 4) (he : kEnd (C, E, Q) (some (.object "MastSparks$Film")) (kRvM E) 0) (hro : kRo C l (4) (92) 0) (F : Nat) : ∀ (N9 : Nat) (x2 : Nat) (x3 : Int32) (hx2 : x2 < kCnt 40) (σ : kS), Sm (C, E, Q) 4 0 40 [(0, .ref (kad E 0 0)), (2, .ref (kad E 40 x2)), (3, .int x3)] [] σ (kFix (f_X5_filmBy_b40 F) N9 (x2, x3) σ) := by
  intro N9
  induction N9 with
  | zero => intro x2 x3 hx2 σ; exact k_no
  | succ N9 ih =>
    intro x2 x3 hx2 σ
    show Sm _ _ _ _ _ _ _ (f_X5_filmBy_b40 F (kFix (f_X5_filmBy_b40 F) N9) (x2, x3) σ)
    generalize kFix (f_X5_filmBy_b40 F) N9 = rr40 at ih
    have hrr40 := ih
    unfold f_X5_filmBy_b40
    dsimp only
    refine k_iload_n hk dX5_filmBy_40 2 rfl ?_
    refine k_bipush (v := 100) hk dX5_filmBy_41 (by decide) ?_
    refine k_icmp_ge hk dX5_filmBy_43 69 (by decide) (fun h1 => ?_) (fun h1 => ?_)
    · refine k_aload_n hk dX5_filmBy_69 1 rfl ?_
      refine k_aload_n hk dX5_filmBy_70 0 rfl ?_
      refine k_getr (k := 9) 6 0 hk dX5_filmBy_71 rfl (by decide) kc5 (by decide) fl_RX5_53 rfl rfl ?_
      refine k_callVv (As := [.ref (kad E 6 0)]) (rest := []) hk he hro (c_X0_end hj hn hl F x2 hx2 σ) dX5_filmBy_74 cw_RX5_337 rfl hx2 kc0 rfl ⟨by decide, by decide⟩ (by decide) rfl (Nat.le_of_ble_eq_true rfl) (fun σ2 => ?_)
      exact k_sub [1] rfl (s_X5_filmBy_b77 hj hn hl hk he hro F  x2 hx2 σ2)
    · refine k_aload_n hk dX5_filmBy_46 0 rfl ?_
      refine k_getr (k := 9) 6 0 hk dX5_filmBy_47 rfl (by decide) kc5 (by decide) fl_RX5_53 rfl rfl ?_
      refine k_iload_n hk dX5_filmBy_50 2 rfl ?_
      refine k_callVv (As := [.int x3]) (rest := []) hk he hro (c_X1_pass hj hn hl F x3  σ) dX5_filmBy_51 cw_RX5_330 rfl (by decide) kc1 rfl ⟨by decide, by decide⟩ (by decide) rfl (Nat.le_of_ble_eq_true rfl) (fun σ3 => ?_)
      refine k_aload_n hk dX5_filmBy_54 1 rfl ?_
      refine k_aload_n hk dX5_filmBy_55 0 rfl ?_
      refine k_getr (k := 9) 6 0 hk dX5_filmBy_56 rfl (by decide) kc5 (by decide) fl_RX5_53 rfl rfl ?_
      refine k_iload_n hk dX5_filmBy_59 2 rfl ?_
      refine k_callVv (As := [.ref (kad E 6 0), .int x3]) (rest := []) hk he hro (c_X0_keep hj hn hl F x2 x3 hx2 σ3) dX5_filmBy_60 cw_RX5_333 rfl hx2 kc0 rfl ⟨by decide, by decide⟩ (by decide) rfl (Nat.le_of_ble_eq_true rfl) (fun σ4 => ?_)
      refine k_iinc (lv' := [(3, .int (x3 + 1)), (0, .ref (kad E 0 0)), (2, .ref (kad E 40 x2))]) (j := 2) (y := x3 + 1) hk dX5_filmBy_63 rfl rfl (by decide) rfl ?_
      refine k_goto hk dX5_filmBy_66 40 (by decide) ?_
      exact k_sub [1, 2, 0] rfl (hrr40 x2 (x3 + 1) hx2 σ4)
def f_X5_filmBy (F : Nat) (a1 : Int32) (σ : kS) : Option kR := kg (kin a1 6) (kb (a1.toNatClampNeg) fun j5 => if (σ.1 40 j5 0) = 0 then (kBv (f_X1_load F 0 σ) fun σ7 => kg (kin a1 6) (kb (a1.toNatClampNeg + 2) fun j8 => kBv (f_X1_start F j8 σ7) fun σ9 => kFix (f_X5_filmBy_b40 F) F (j5, 0) σ9)) else (f_X5_filmBy_b77 F j5 σ))
set_option maxRecDepth 20000 in
theorem c_X5_filmBy {l : Launch} {E : kE} (hj : kEj E) (hn : kNorm E) (hl : l.stackTraces = false) (F : Nat) (a1 : Int32)  (σ : kS) : kMet l E yX5_filmBy cX5_filmBy 4 (some (.object "MastSparks$Film")) (4) (92) 0 (kRvM E) [.ref (kad E 0 0), .int a1] σ (f_X5_filmBy F a1 σ) := by
  refine k_met hj hn hl (by decide) (Nat.le_of_ble_eq_true rfl) (fun C Q hk he hro => ?_)
  have hk : kOk (C, E, Q) cX5_filmBy RX5 4 := hk
  show Sm (C, E, Q) 4 0 0 [(0, .ref (kad E 0 0)), (1, .int a1)] [] σ _
  unfold f_X5_filmBy
  refine k_aload_n hk dX5_filmBy_0 0 rfl ?_
  refine k_getr (k := 10) 7 0 hk dX5_filmBy_1 rfl (by decide) kc5 (by decide) fl_RX5_59 rfl rfl ?_
  refine k_iload_n hk dX5_filmBy_4 1 rfl ?_
  refine k_aaldj (g' := 40) (fun z => z) hk dX5_filmBy_5 rfl rfl rfl (by decide) (fun z => rfl) (by decide) (fun j5 hj5 => ?_)
  refine k_astore_n (lv' := [(2, .ref (kad E 40 j5)), (0, .ref (kad E 0 0)), (1, .int a1)]) hk dX5_filmBy_6 (by decide) rfl ?_
  refine k_aload_n hk dX5_filmBy_7 0 rfl ?_
  refine k_getf (k := 0) hk dX5_filmBy_8 rfl hj5 kc0 (by decide) fl_RX5_320 rfl ?_
  refine k_if_ne hk dX5_filmBy_11 77 (by decide) (fun h6 => ?_) (fun h6 => ?_)
  · exact k_sub [0] rfl (s_X5_filmBy_b77 hj hn hl hk he hro F  j5 hj5 σ)
  · refine k_aload_n hk dX5_filmBy_14 1 rfl ?_
    refine k_getr (k := 9) 6 0 hk dX5_filmBy_15 rfl (by decide) kc5 (by decide) fl_RX5_53 rfl rfl ?_
    refine k_aload_n hk dX5_filmBy_18 1 rfl ?_
    refine k_getr (k := 6) 4 0 hk dX5_filmBy_19 rfl (by decide) kc5 (by decide) fl_RX5_39 rfl rfl ?_
    refine k_callVv (As := [.ref (kad E 4 0)]) (rest := []) hk he hro (c_X1_load hj hn hl F 0 (by decide) σ) dX5_filmBy_22 cw_RX5_281 rfl (by decide) kc1 rfl ⟨by decide, by decide⟩ (by decide) rfl (Nat.le_of_ble_eq_true rfl) (fun σ7 => ?_)
    refine k_aload_n hk dX5_filmBy_25 1 rfl ?_
    refine k_getr (k := 9) 6 0 hk dX5_filmBy_26 rfl (by decide) kc5 (by decide) fl_RX5_53 rfl rfl ?_
    refine k_aload_n hk dX5_filmBy_29 1 rfl ?_
    refine k_getr (k := 4) 3 0 hk dX5_filmBy_30 rfl (by decide) kc5 (by decide) fl_RX5_29 rfl rfl ?_
    refine k_iload_n hk dX5_filmBy_33 2 rfl ?_
    refine k_aaldj (g' := 10) (fun z => z + 2) hk dX5_filmBy_34 rfl rfl rfl (by decide) (fun z => rfl) (by decide) (fun j8 hj8 => ?_)
    refine k_callVv (As := [.ref (kad E 10 j8)]) (rest := []) hk he hro (c_X1_start hj hn hl F j8 hj8 σ7) dX5_filmBy_35 cw_RX5_286 rfl (by decide) kc1 rfl ⟨by decide, by decide⟩ (by decide) rfl (Nat.le_of_ble_eq_true rfl) (fun σ9 => ?_)
    refine k_iconst (v := 0) hk dX5_filmBy_38 (by decide) ?_
    refine k_istore_n (lv' := [(3, .int 0), (2, .ref (kad E 40 j5)), (0, .ref (kad E 0 0)), (1, .int a1)]) hk dX5_filmBy_39 (by decide) rfl ?_
    exact k_sub [2, 1, 0] rfl (s_X5_filmBy_b40 hj hn hl hk he hro F F j5 0 hj5 σ9)
def f_X5_isNear_b24 (F : Nat) (t0 : Int32) (σ : kS) : Option kR := kg (narrow .boolean (.int t0) = .int t0) (some (.inl (some (.int t0)), σ))
set_option maxRecDepth 20000 in
theorem s_X5_isNear_b24 {l : Launch} {E : kE} (hj : kEj E) (hn : kNorm E) (hl : l.stackTraces = false) {C : kC} {Q : kR → State → Prop} (hk : kOk (C, E, Q) cX5_isNear RX5 2) (he : kEnd (C, E, Q) (some .boolean) id 0) (hro : kRo C l (0) (0) 0) (F : Nat) : ∀ (t0 : Int32)  (σ : kS), Sm (C, E, Q) 2 0 24 [] [.int t0] σ (f_X5_isNear_b24 F t0 σ) := by
  intro t0  σ
  unfold f_X5_isNear_b24
  exact k_zreturn hk he dX5_isNear_24 (by decide)
def f_X5_isNear_b23 (F : Nat)  (σ : kS) : Option kR := f_X5_isNear_b24 F 0 σ
set_option maxRecDepth 20000 in
theorem s_X5_isNear_b23 {l : Launch} {E : kE} (hj : kEj E) (hn : kNorm E) (hl : l.stackTraces = false) {C : kC} {Q : kR → State → Prop} (hk : kOk (C, E, Q) cX5_isNear RX5 2) (he : kEnd (C, E, Q) (some .boolean) id 0) (hro : kRo C l (0) (0) 0) (F : Nat) : ∀   (σ : kS), Sm (C, E, Q) 2 0 23 [] [] σ (f_X5_isNear_b23 F  σ) := by
  intro   σ
  unfold f_X5_isNear_b23
  refine k_iconst (v := 0) hk dX5_isNear_23 (by decide) ?_
  exact k_sub [] rfl (s_X5_isNear_b24 hj hn hl hk he hro F  0  σ)
def f_X5_isNear (F : Nat) (a0 : Int32) (a1 : Int32) (σ : kS) : Option kR := if a0 = (-1) then (f_X5_isNear_b23 F  σ) else (if a0 < (a1 - 1) then (f_X5_isNear_b23 F  σ) else (if (a1 + 1) < a0 then (f_X5_isNear_b23 F  σ) else (f_X5_isNear_b24 F 1 σ)))
set_option maxRecDepth 20000 in
theorem c_X5_isNear {l : Launch} {E : kE} (hj : kEj E) (hn : kNorm E) (hl : l.stackTraces = false) (F : Nat) (a0 : Int32) (a1 : Int32)  (σ : kS) : kMet l E yX5_isNear cX5_isNear 2 (some .boolean) (0) (0) 0 id [.int a0, .int a1] σ (f_X5_isNear F a0 a1 σ) := by
  refine k_met hj hn hl (by decide) (Nat.le_of_ble_eq_true rfl) (fun C Q hk he hro => ?_)
  have hk : kOk (C, E, Q) cX5_isNear RX5 2 := hk
  show Sm (C, E, Q) 2 0 0 [(0, .int a0), (1, .int a1)] [] σ _
  unfold f_X5_isNear
  refine k_iload_n hk dX5_isNear_0 0 rfl ?_
  refine k_iconst (v := (-1)) hk dX5_isNear_1 (by decide) ?_
  refine k_icmp_eq hk dX5_isNear_2 23 (by decide) (fun h1 => ?_) (fun h1 => ?_)
  · exact k_sub [] rfl (s_X5_isNear_b23 hj hn hl hk he hro F    σ)
  · refine k_iload_n hk dX5_isNear_5 0 rfl ?_
    refine k_iload_n hk dX5_isNear_6 1 rfl ?_
    refine k_iconst (v := 1) hk dX5_isNear_7 (by decide) ?_
    refine k_isub hk dX5_isNear_8 ?_
    refine k_icmp_lt hk dX5_isNear_9 23 (by decide) (fun h2 => ?_) (fun h2 => ?_)
    · exact k_sub [] rfl (s_X5_isNear_b23 hj hn hl hk he hro F    σ)
    · refine k_iload_n hk dX5_isNear_12 0 rfl ?_
      refine k_iload_n hk dX5_isNear_13 1 rfl ?_
      refine k_iconst (v := 1) hk dX5_isNear_14 (by decide) ?_
      refine k_iadd hk dX5_isNear_15 ?_
      refine k_icmp_gt hk dX5_isNear_16 23 (by decide) (fun h3 => ?_) (fun h3 => ?_)
      · exact k_sub [] rfl (s_X5_isNear_b23 hj hn hl hk he hro F    σ)
      · refine k_iconst (v := 1) hk dX5_isNear_19 (by decide) ?_
        refine k_goto hk dX5_isNear_20 24 (by decide) ?_
        exact k_sub [] rfl (s_X5_isNear_b24 hj hn hl hk he hro F  1  σ)
def f_X5_rowBits (F : Nat)  (σ : kS) : Option kR := some (.inl (some (.int ((1 <<< ((σ.1 4 0 3) &&& 31)) - 1))), σ)
set_option maxRecDepth 20000 in
theorem c_X5_rowBits {l : Launch} {E : kE} (hj : kEj E) (hn : kNorm E) (hl : l.stackTraces = false) (F : Nat)   (σ : kS) : kMet l E yX5_rowBits cX5_rowBits 1 (some .int) (0) (0) 0 id [.ref (kad E 0 0)] σ (f_X5_rowBits F  σ) := by
  refine k_met hj hn hl (by decide) (Nat.le_of_ble_eq_true rfl) (fun C Q hk he hro => ?_)
  have hk : kOk (C, E, Q) cX5_rowBits RX5 1 := hk
  show Sm (C, E, Q) 1 0 0 [(0, .ref (kad E 0 0))] [] σ _
  unfold f_X5_rowBits
  refine k_iconst (v := 1) hk dX5_rowBits_0 (by decide) ?_
  refine k_aload_n hk dX5_rowBits_1 0 rfl ?_
  refine k_getr (k := 6) 4 0 hk dX5_rowBits_2 rfl (by decide) kc5 (by decide) fl_RX5_39 rfl rfl ?_
  refine k_getf (k := 3) hk dX5_rowBits_5 rfl (by decide) kc2 (by decide) fl_RX5_177 rfl ?_
  refine k_ishl hk dX5_rowBits_8 ?_
  refine k_iconst (v := 1) hk dX5_rowBits_9 (by decide) ?_
  refine k_isub hk dX5_rowBits_10 ?_
  exact k_ireturn hk he dX5_rowBits_11 (by decide)
def f_X5_burntBy_b111 (F : Nat) (x1 : Int32) (σ : kS) : Option kR := kg (kin x1 6) (some (.inl (some (.int (σ.1 8 0 x1.toNatClampNeg))), σ))
set_option maxRecDepth 20000 in
theorem s_X5_burntBy_b111 {l : Launch} {E : kE} (hj : kEj E) (hn : kNorm E) (hl : l.stackTraces = false) {C : kC} {Q : kR → State → Prop} (hk : kOk (C, E, Q) cX5_burntBy RX5 4) (he : kEnd (C, E, Q) (some .int) id 0) (hro : kRo C l (5) (113) 0) (F : Nat) : ∀ (x1 : Int32)  (σ : kS), Sm (C, E, Q) 4 0 111 [(0, .ref (kad E 0 0)), (1, .int x1)] [] σ (f_X5_burntBy_b111 F x1 σ) := by
  intro x1  σ
  unfold f_X5_burntBy_b111
  refine k_aload_n hk dX5_burntBy_111 0 rfl ?_
  refine k_getr (k := 11) 8 0 hk dX5_burntBy_112 rfl (by decide) kc5 (by decide) fl_RX5_63 rfl rfl ?_
  refine k_iload_n hk dX5_burntBy_115 1 rfl ?_
  refine k_iald hk dX5_burntBy_116 rfl (by decide) (fun h1 => ?_)
  exact k_ireturn hk he dX5_burntBy_117 (by decide)
def f_X5_burntBy_b98 (F : Nat) (rr14 : (Int32 × Int32 × Int32) → kS → Option kR) (x1 : Int32) (x2 : Int32) (x3 : Int32) (σ : kS) : Option kR := rr14 (x1, x2, x3 + 1) σ
set_option maxRecDepth 20000 in
theorem s_X5_burntBy_b98 {l : Launch} {E : kE} (hj : kEj E) (hn : kNorm E) (hl : l.stackTraces = false) {C : kC} {Q : kR → State → Prop} (hk : kOk (C, E, Q) cX5_burntBy RX5 4) (he : kEnd (C, E, Q) (some .int) id 0) (hro : kRo C l (5) (113) 0) (F : Nat) (rr14 : (Int32 × Int32 × Int32) → kS → Option kR) (hrr14 : ∀ (x1 : Int32) (x2 : Int32) (x3 : Int32)  (σ : kS), Sm (C, E, Q) 4 0 14 [(0, .ref (kad E 0 0)), (1, .int x1), (2, .int x2), (3, .int x3)] [] σ (rr14 (x1, x2, x3) σ)) : ∀ (x1 : Int32) (x2 : Int32) (x3 : Int32)  (σ : kS), Sm (C, E, Q) 4 0 98 [(0, .ref (kad E 0 0)), (1, .int x1), (2, .int x2), (3, .int x3)] [] σ (f_X5_burntBy_b98 F rr14 x1 x2 x3 σ) := by
  intro x1 x2 x3  σ
  unfold f_X5_burntBy_b98
  refine k_iinc (lv' := [(3, .int (x3 + 1)), (0, .ref (kad E 0 0)), (1, .int x1), (2, .int x2)]) (j := 3) (y := x3 + 1) hk dX5_burntBy_98 rfl rfl (by decide) rfl ?_
  refine k_goto hk dX5_burntBy_101 14 (by decide) ?_
  exact k_sub [1, 2, 3, 0] rfl (hrr14 x1 x2 (x3 + 1)  σ)
def f_X5_burntBy_b14 (F : Nat) (rr14 : (Int32 × Int32 × Int32) → kS → Option kR) (a : (Int32 × Int32 × Int32)) (σ : kS) : Option kR := match a with
  | (x1, x2, x3) => if (σ.1 4 0 10) ≤ x3 then (kg (kin x1 6) (kb (kU σ 8 0 x1.toNatClampNeg x2) fun σ3 => f_X5_burntBy_b111 F x1 σ3)) else (kBv (f_X1_load F 0 σ) fun σ5 => kg (kin x3 10) (kb (kU σ5 35 0 0 (σ5.1 30 0 x3.toNatClampNeg)) fun σ7 => kg (kin x3 10) (kb (kU σ7 35 0 2 (σ7.1 31 0 x3.toNatClampNeg)) fun σ9 => kg (kin x1 6) (kb (x1.toNatClampNeg + 2) fun j10 => kBv (f_X1_start F j10 σ9) fun σ11 => kBi (f_X1_burns F  σ11) fun c13 σ12 => if c13 = 0 then (f_X5_burntBy_b98 F rr14 x1 x2 x3 σ12) else (f_X5_burntBy_b98 F rr14 x1 (x2 + 1) x3 σ12)))))
set_option maxRecDepth 20000 in
theorem s_X5_burntBy_b14 {l : Launch} {E : kE} (hj : kEj E) (hn : kNorm E) (hl : l.stackTraces = false) {C : kC} {Q : kR → State → Prop} (hk : kOk (C, E, Q) cX5_burntBy RX5 4) (he : kEnd (C, E, Q) (some .int) id 0) (hro : kRo C l (5) (113) 0) (F : Nat) : ∀ (N9 : Nat) (x1 : Int32) (x2 : Int32) (x3 : Int32)  (σ : kS), Sm (C, E, Q) 4 0 14 [(0, .ref (kad E 0 0)), (1, .int x1), (2, .int x2), (3, .int x3)] [] σ (kFix (f_X5_burntBy_b14 F) N9 (x1, x2, x3) σ) := by
  intro N9
  induction N9 with
  | zero => intro x1 x2 x3  σ; exact k_no
  | succ N9 ih =>
    intro x1 x2 x3  σ
    show Sm _ _ _ _ _ _ _ (f_X5_burntBy_b14 F (kFix (f_X5_burntBy_b14 F) N9) (x1, x2, x3) σ)
    generalize kFix (f_X5_burntBy_b14 F) N9 = rr14 at ih
    have hrr14 := ih
    unfold f_X5_burntBy_b14
    dsimp only
    refine k_iload_n hk dX5_burntBy_14 3 rfl ?_
    refine k_aload_n hk dX5_burntBy_15 0 rfl ?_
    refine k_getr (k := 6) 4 0 hk dX5_burntBy_16 rfl (by decide) kc5 (by decide) fl_RX5_39 rfl rfl ?_
    refine k_getf (k := 10) hk dX5_burntBy_19 rfl (by decide) kc2 (by decide) fl_RX5_226 rfl ?_
    refine k_icmp_ge hk dX5_burntBy_22 104 (by decide) (fun h2 => ?_) (fun h2 => ?_)
    · refine k_aload_n hk dX5_burntBy_104 0 rfl ?_
      refine k_getr (k := 11) 8 0 hk dX5_burntBy_105 rfl (by decide) kc5 (by decide) fl_RX5_63 rfl rfl ?_
      refine k_iload_n hk dX5_burntBy_108 1 rfl ?_
      refine k_iload_n hk dX5_burntBy_109 2 rfl ?_
      refine k_iast hk dX5_burntBy_110 rfl (by decide) (fun h4 σ3 => ?_)
      exact k_sub [0, 1] rfl (s_X5_burntBy_b111 hj hn hl hk he hro F  x1  σ3)
    · refine k_aload_n hk dX5_burntBy_25 0 rfl ?_
      refine k_getr (k := 9) 6 0 hk dX5_burntBy_26 rfl (by decide) kc5 (by decide) fl_RX5_53 rfl rfl ?_
      refine k_aload_n hk dX5_burntBy_29 0 rfl ?_
      refine k_getr (k := 6) 4 0 hk dX5_burntBy_30 rfl (by decide) kc5 (by decide) fl_RX5_39 rfl rfl ?_
      refine k_callVv (As := [.ref (kad E 4 0)]) (rest := []) hk he hro (c_X1_load hj hn hl F 0 (by decide) σ) dX5_burntBy_33 cw_RX5_281 rfl (by decide) kc1 rfl ⟨by decide, by decide⟩ (by decide) rfl (Nat.le_of_ble_eq_true rfl) (fun σ5 => ?_)
      refine k_aload_n hk dX5_burntBy_36 0 rfl ?_
      refine k_getr (k := 9) 6 0 hk dX5_burntBy_37 rfl (by decide) kc5 (by decide) fl_RX5_53 rfl rfl ?_
      refine k_getr (k := 0) 35 0 hk dX5_burntBy_40 rfl (by decide) kc1 (by decide) fl_RX5_285 rfl rfl ?_
      refine k_iconst (v := 0) hk dX5_burntBy_43 (by decide) ?_
      refine k_aload_n hk dX5_burntBy_44 0 rfl ?_
      refine k_getr (k := 6) 4 0 hk dX5_burntBy_45 rfl (by decide) kc5 (by decide) fl_RX5_39 rfl rfl ?_
      refine k_getr (k := 11) 30 0 hk dX5_burntBy_48 rfl (by decide) kc2 (by decide) fl_RX5_229 rfl rfl ?_
      refine k_iload_n hk dX5_burntBy_51 3 rfl ?_
      refine k_iald hk dX5_burntBy_52 rfl (by decide) (fun h6 => ?_)
      refine k_iast_k (kk := 0) hk dX5_burntBy_53 rfl (by decide) (by decide) (by decide) (fun σ7 => ?_)
      refine k_aload_n hk dX5_burntBy_54 0 rfl ?_
      refine k_getr (k := 9) 6 0 hk dX5_burntBy_55 rfl (by decide) kc5 (by decide) fl_RX5_53 rfl rfl ?_
      refine k_getr (k := 0) 35 0 hk dX5_burntBy_58 rfl (by decide) kc1 (by decide) fl_RX5_285 rfl rfl ?_
      refine k_iconst (v := 2) hk dX5_burntBy_61 (by decide) ?_
      refine k_aload_n hk dX5_burntBy_62 0 rfl ?_
      refine k_getr (k := 6) 4 0 hk dX5_burntBy_63 rfl (by decide) kc5 (by decide) fl_RX5_39 rfl rfl ?_
      refine k_getr (k := 12) 31 0 hk dX5_burntBy_66 rfl (by decide) kc2 (by decide) fl_RX5_232 rfl rfl ?_
      refine k_iload_n hk dX5_burntBy_69 3 rfl ?_
      refine k_iald hk dX5_burntBy_70 rfl (by decide) (fun h8 => ?_)
      refine k_iast_k (kk := 2) hk dX5_burntBy_71 rfl (by decide) (by decide) (by decide) (fun σ9 => ?_)
      refine k_aload_n hk dX5_burntBy_72 0 rfl ?_
      refine k_getr (k := 9) 6 0 hk dX5_burntBy_73 rfl (by decide) kc5 (by decide) fl_RX5_53 rfl rfl ?_
      refine k_aload_n hk dX5_burntBy_76 0 rfl ?_
      refine k_getr (k := 4) 3 0 hk dX5_burntBy_77 rfl (by decide) kc5 (by decide) fl_RX5_29 rfl rfl ?_
      refine k_iload_n hk dX5_burntBy_80 1 rfl ?_
      refine k_aaldj (g' := 10) (fun z => z + 2) hk dX5_burntBy_81 rfl rfl rfl (by decide) (fun z => rfl) (by decide) (fun j10 hj10 => ?_)
      refine k_callVv (As := [.ref (kad E 10 j10)]) (rest := []) hk he hro (c_X1_start hj hn hl F j10 hj10 σ9) dX5_burntBy_82 cw_RX5_286 rfl (by decide) kc1 rfl ⟨by decide, by decide⟩ (by decide) rfl (Nat.le_of_ble_eq_true rfl) (fun σ11 => ?_)
      refine k_aload_n hk dX5_burntBy_85 0 rfl ?_
      refine k_getr (k := 9) 6 0 hk dX5_burntBy_86 rfl (by decide) kc5 (by decide) fl_RX5_53 rfl rfl ?_
      refine k_callVi (As := []) (rest := []) hk he hro (c_X1_burns hj hn hl F   σ11) dX5_burntBy_89 cw_RX5_292 rfl (by decide) kc1 rfl ⟨by decide, by decide⟩ (by decide) rfl (Nat.le_of_ble_eq_true rfl) (fun c13 σ12 => ?_)
      refine k_if_eq hk dX5_burntBy_92 98 (by decide) (fun h14 => ?_) (fun h14 => ?_)
      · exact k_sub [0, 1, 2, 3] rfl (s_X5_burntBy_b98 hj hn hl hk he hro F rr14 hrr14  x1 x2 x3  σ12)
      · refine k_iinc (lv' := [(2, .int (x2 + 1)), (0, .ref (kad E 0 0)), (1, .int x1), (3, .int x3)]) (j := 2) (y := x2 + 1) hk dX5_burntBy_95 rfl rfl (by decide) rfl ?_
        exact k_sub [1, 2, 0, 3] rfl (s_X5_burntBy_b98 hj hn hl hk he hro F rr14 hrr14  x1 (x2 + 1) x3  σ12)
def f_X5_burntBy (F : Nat) (a1 : Int32) (σ : kS) : Option kR := kg (kin a1 6) (if (σ.1 8 0 a1.toNatClampNeg) = (-1) then (kFix (f_X5_burntBy_b14 F) F (a1, 0, 0) σ) else (f_X5_burntBy_b111 F a1 σ))
set_option maxRecDepth 20000 in
theorem c_X5_burntBy {l : Launch} {E : kE} (hj : kEj E) (hn : kNorm E) (hl : l.stackTraces = false) (F : Nat) (a1 : Int32)  (σ : kS) : kMet l E yX5_burntBy cX5_burntBy 4 (some .int) (5) (113) 0 id [.ref (kad E 0 0), .int a1] σ (f_X5_burntBy F a1 σ) := by
  refine k_met hj hn hl (by decide) (Nat.le_of_ble_eq_true rfl) (fun C Q hk he hro => ?_)
  have hk : kOk (C, E, Q) cX5_burntBy RX5 4 := hk
  show Sm (C, E, Q) 4 0 0 [(0, .ref (kad E 0 0)), (1, .int a1)] [] σ _
  unfold f_X5_burntBy
  refine k_aload_n hk dX5_burntBy_0 0 rfl ?_
  refine k_getr (k := 11) 8 0 hk dX5_burntBy_1 rfl (by decide) kc5 (by decide) fl_RX5_63 rfl rfl ?_
  refine k_iload_n hk dX5_burntBy_4 1 rfl ?_
  refine k_iald hk dX5_burntBy_5 rfl (by decide) (fun h15 => ?_)
  refine k_iconst (v := (-1)) hk dX5_burntBy_6 (by decide) ?_
  refine k_icmp_ne hk dX5_burntBy_7 111 (by decide) (fun h16 => ?_) (fun h16 => ?_)
  · exact k_sub [0, 1] rfl (s_X5_burntBy_b111 hj hn hl hk he hro F  a1  σ)
  · refine k_iconst (v := 0) hk dX5_burntBy_10 (by decide) ?_
    refine k_istore_n (lv' := [(2, .int 0), (0, .ref (kad E 0 0)), (1, .int a1)]) hk dX5_burntBy_11 (by decide) rfl ?_
    refine k_iconst (v := 0) hk dX5_burntBy_12 (by decide) ?_
    refine k_istore_n (lv' := [(3, .int 0), (2, .int 0), (0, .ref (kad E 0 0)), (1, .int a1)]) hk dX5_burntBy_13 (by decide) rfl ?_
    exact k_sub [2, 3, 1, 0] rfl (s_X5_burntBy_b14 hj hn hl hk he hro F F a1 0 0  σ)
def f_X5_isSo_b164 (F : Nat) (t0 : Int32) (σ : kS) : Option kR := kg (narrow .boolean (.int t0) = .int t0) (some (.inl (some (.int t0)), σ))
set_option maxRecDepth 20000 in
theorem s_X5_isSo_b164 {l : Launch} {E : kE} (hj : kEj E) (hn : kNorm E) (hl : l.stackTraces = false) {C : kC} {Q : kR → State → Prop} (hk : kOk (C, E, Q) cX5_isSo RX5 5) (he : kEnd (C, E, Q) (some .boolean) id 0) (hro : kRo C l (1) (24) 0) (F : Nat) : ∀ (t0 : Int32)  (σ : kS), Sm (C, E, Q) 5 0 164 [] [.int t0] σ (f_X5_isSo_b164 F t0 σ) := by
  intro t0  σ
  unfold f_X5_isSo_b164
  exact k_zreturn hk he dX5_isSo_164 (by decide)
def f_X5_isSo_b138 (F : Nat) (t0 : Int32) (σ : kS) : Option kR := kg (narrow .boolean (.int t0) = .int t0) (some (.inl (some (.int t0)), σ))
set_option maxRecDepth 20000 in
theorem s_X5_isSo_b138 {l : Launch} {E : kE} (hj : kEj E) (hn : kNorm E) (hl : l.stackTraces = false) {C : kC} {Q : kR → State → Prop} (hk : kOk (C, E, Q) cX5_isSo RX5 5) (he : kEnd (C, E, Q) (some .boolean) id 0) (hro : kRo C l (1) (24) 0) (F : Nat) : ∀ (t0 : Int32)  (σ : kS), Sm (C, E, Q) 5 0 138 [] [.int t0] σ (f_X5_isSo_b138 F t0 σ) := by
  intro t0  σ
  unfold f_X5_isSo_b138
  exact k_zreturn hk he dX5_isSo_138 (by decide)
def f_X5_isSo_b112 (F : Nat) (t0 : Int32) (σ : kS) : Option kR := kg (narrow .boolean (.int t0) = .int t0) (some (.inl (some (.int t0)), σ))
set_option maxRecDepth 20000 in
theorem s_X5_isSo_b112 {l : Launch} {E : kE} (hj : kEj E) (hn : kNorm E) (hl : l.stackTraces = false) {C : kC} {Q : kR → State → Prop} (hk : kOk (C, E, Q) cX5_isSo RX5 5) (he : kEnd (C, E, Q) (some .boolean) id 0) (hro : kRo C l (1) (24) 0) (F : Nat) : ∀ (t0 : Int32)  (σ : kS), Sm (C, E, Q) 5 0 112 [] [.int t0] σ (f_X5_isSo_b112 F t0 σ) := by
  intro t0  σ
  unfold f_X5_isSo_b112
  exact k_zreturn hk he dX5_isSo_112 (by decide)
def f_X5_isSo_b97 (F : Nat) (t0 : Int32) (σ : kS) : Option kR := kg (narrow .boolean (.int t0) = .int t0) (some (.inl (some (.int t0)), σ))
set_option maxRecDepth 20000 in
theorem s_X5_isSo_b97 {l : Launch} {E : kE} (hj : kEj E) (hn : kNorm E) (hl : l.stackTraces = false) {C : kC} {Q : kR → State → Prop} (hk : kOk (C, E, Q) cX5_isSo RX5 5) (he : kEnd (C, E, Q) (some .boolean) id 0) (hro : kRo C l (1) (24) 0) (F : Nat) : ∀ (t0 : Int32)  (σ : kS), Sm (C, E, Q) 5 0 97 [] [.int t0] σ (f_X5_isSo_b97 F t0 σ) := by
  intro t0  σ
  unfold f_X5_isSo_b97
  exact k_zreturn hk he dX5_isSo_97 (by decide)
def f_X5_isSo_b89 (F : Nat) (t0 : Int32) (t1 : Int32) (σ : kS) : Option kR := if t0 = t1 then (f_X5_isSo_b97 F 1 σ) else (f_X5_isSo_b97 F 0 σ)
set_option maxRecDepth 20000 in
theorem s_X5_isSo_b89 {l : Launch} {E : kE} (hj : kEj E) (hn : kNorm E) (hl : l.stackTraces = false) {C : kC} {Q : kR → State → Prop} (hk : kOk (C, E, Q) cX5_isSo RX5 5) (he : kEnd (C, E, Q) (some .boolean) id 0) (hro : kRo C l (1) (24) 0) (F : Nat) : ∀ (t0 : Int32) (t1 : Int32)  (σ : kS), Sm (C, E, Q) 5 0 89 [] [.int t1, .int t0] σ (f_X5_isSo_b89 F t0 t1 σ) := by
  intro t0 t1  σ
  unfold f_X5_isSo_b89
  refine k_icmp_ne hk dX5_isSo_89 96 (by decide) (fun h1 => ?_) (fun h1 => ?_)
  · refine k_iconst (v := 0) hk dX5_isSo_96 (by decide) ?_
    exact k_sub [] rfl (s_X5_isSo_b97 hj hn hl hk he hro F  0  σ)
  · refine k_iconst (v := 1) hk dX5_isSo_92 (by decide) ?_
    refine k_goto hk dX5_isSo_93 97 (by decide) ?_
    exact k_sub [] rfl (s_X5_isSo_b97 hj hn hl hk he hro F  1  σ)
def f_X5_isSo (F : Nat) (a1 : Nat) (a2 : Int32) (σ : kS) : Option kR := kg (kin a2 10) (kb (σ.1 25 0 a2.toNatClampNeg) fun y3 => kg (kin a2 10) (kb (σ.1 27 0 a2.toNatClampNeg) fun y5 => kg (kin a2 10) (kb (σ.1 24 0 a2.toNatClampNeg) fun y7 => if y7 = 0 then (kg (kin a2 10) (kBi (f_X0_hasFireAt F a1 (σ.1 26 0 a2.toNatClampNeg) y3 σ) fun c11 σ10 => if y5 = 1 then (f_X5_isSo_b89 F c11 1 σ10) else (f_X5_isSo_b89 F c11 0 σ10))) else (if y7 = 1 then (if (σ.1 40 a1 9) = y5 then (f_X5_isSo_b112 F 1 σ) else (f_X5_isSo_b112 F 0 σ)) else (if y7 = 2 then (kBi (f_X5_isNear F (σ.1 40 a1 10) y5 σ) fun c17 σ16 => kg (narrow .boolean (.int c17) = .int c17) (some (.inl (some (.int c17)), σ16))) else (if y7 = 3 then (kBi (f_X0_heavyAt F a1 y3 σ) fun c20 σ19 => if c20 < y5 then (f_X5_isSo_b138 F 0 σ19) else (f_X5_isSo_b138 F 1 σ19)) else (if y7 = 4 then (kBi (f_X5_isNear F (σ.1 40 a1 11) y5 σ) fun c24 σ23 => kg (narrow .boolean (.int c24) = .int c24) (some (.inl (some (.int c24)), σ23))) else (kBi (f_X0_gapAt F a1 y3 σ) fun c26 σ25 => if c26 < y5 then (f_X5_isSo_b164 F 0 σ25) else (f_X5_isSo_b164 F 1 σ25)))))))))
set_option maxRecDepth 20000 in
theorem c_X5_isSo {l : Launch} {E : kE} (hj : kEj E) (hn : kNorm E) (hl : l.stackTraces = false) (F : Nat) (a1 : Nat) (a2 : Int32) (ha1 : a1 < kCnt 40) (σ : kS) : kMet l E yX5_isSo cX5_isSo 5 (some .boolean) (1) (24) 0 id [.ref (kad E 0 0), .ref (kad E 40 a1), .int a2] σ (f_X5_isSo F a1 a2 σ) := by
  refine k_met hj hn hl (by decide) (Nat.le_of_ble_eq_true rfl) (fun C Q hk he hro => ?_)
  have hk : kOk (C, E, Q) cX5_isSo RX5 5 := hk
  show Sm (C, E, Q) 5 0 0 [(0, .ref (kad E 0 0)), (1, .ref (kad E 40 a1)), (2, .int a2)] [] σ _
  unfold f_X5_isSo
  refine k_aload_n hk dX5_isSo_0 0 rfl ?_
  refine k_getr (k := 6) 4 0 hk dX5_isSo_1 rfl (by decide) kc5 (by decide) fl_RX5_39 rfl rfl ?_
  refine k_getr (k := 5) 25 0 hk dX5_isSo_4 rfl (by decide) kc2 (by decide) fl_RX5_183 rfl rfl ?_
  refine k_iload_n hk dX5_isSo_7 2 rfl ?_
  refine k_iald hk dX5_isSo_8 rfl (by decide) (fun h2 => ?_)
  refine k_nm (fun y3 => ?_)
  refine k_istore_n (lv' := [(3, .int y3), (0, .ref (kad E 0 0)), (1, .ref (kad E 40 a1)), (2, .int a2)]) hk dX5_isSo_9 (by decide) rfl ?_
  refine k_aload_n hk dX5_isSo_10 1 rfl ?_
  refine k_getr (k := 6) 4 0 hk dX5_isSo_11 rfl (by decide) kc5 (by decide) fl_RX5_39 rfl rfl ?_
  refine k_getr (k := 7) 27 0 hk dX5_isSo_14 rfl (by decide) kc2 (by decide) fl_RX5_189 rfl rfl ?_
  refine k_iload_n hk dX5_isSo_17 3 rfl ?_
  refine k_iald hk dX5_isSo_18 rfl (by decide) (fun h4 => ?_)
  refine k_nm (fun y5 => ?_)
  refine k_istore (lv' := [(4, .int y5), (3, .int y3), (0, .ref (kad E 0 0)), (1, .ref (kad E 40 a1)), (2, .int a2)]) hk dX5_isSo_19 (by decide) rfl ?_
  refine k_aload_n hk dX5_isSo_21 2 rfl ?_
  refine k_getr (k := 6) 4 0 hk dX5_isSo_22 rfl (by decide) kc5 (by decide) fl_RX5_39 rfl rfl ?_
  refine k_getr (k := 4) 24 0 hk dX5_isSo_25 rfl (by decide) kc2 (by decide) fl_RX5_180 rfl rfl ?_
  refine k_iload_n hk dX5_isSo_28 4 rfl ?_
  refine k_iald hk dX5_isSo_29 rfl (by decide) (fun h6 => ?_)
  refine k_nm (fun y7 => ?_)
  refine k_ite (fun h8 => ?_) (fun h8 => ?_)
  · refine k_tin (v := 0) hk dX5_isSo_30 h8 (by decide) (by decide) rfl 64 (by decide) ?_
    refine k_aload_n hk dX5_isSo_64 3 rfl ?_
    refine k_aload_n hk dX5_isSo_65 2 rfl ?_
    refine k_getr (k := 6) 4 0 hk dX5_isSo_66 rfl (by decide) kc5 (by decide) fl_RX5_39 rfl rfl ?_
    refine k_getr (k := 6) 26 0 hk dX5_isSo_69 rfl (by decide) kc2 (by decide) fl_RX5_186 rfl rfl ?_
    refine k_iload_n hk dX5_isSo_72 4 rfl ?_
    refine k_iald hk dX5_isSo_73 rfl (by decide) (fun h9 => ?_)
    refine k_iload_n hk dX5_isSo_74 1 rfl ?_
    refine k_callVi (As := [.int (σ.1 26 0 a2.toNatClampNeg), .int y3]) (rest := []) hk he hro (c_X0_hasFireAt hj hn hl F a1 (σ.1 26 0 a2.toNatClampNeg) y3 ha1 σ) dX5_isSo_75 cw_RX5_151 rfl ha1 kc0 rfl ⟨by decide, by decide⟩ (by decide) rfl (Nat.le_of_ble_eq_true rfl) (fun c11 σ10 => ?_)
    refine k_iload hk dX5_isSo_78 0 rfl ?_
    refine k_iconst (v := 1) hk dX5_isSo_80 (by decide) ?_
    refine k_icmp_ne hk dX5_isSo_81 88 (by decide) (fun h12 => ?_) (fun h12 => ?_)
    · refine k_iconst (v := 0) hk dX5_isSo_88 (by decide) ?_
      exact k_sub [] rfl (s_X5_isSo_b89 hj hn hl hk he hro F  c11 0  σ10)
    · refine k_iconst (v := 1) hk dX5_isSo_84 (by decide) ?_
      refine k_goto hk dX5_isSo_85 89 (by decide) ?_
      exact k_sub [] rfl (s_X5_isSo_b89 hj hn hl hk he hro F  c11 1  σ10)
  · skip
    refine k_ite (fun h13 => ?_) (fun h13 => ?_)
    · refine k_tin (v := 1) hk dX5_isSo_30 h13 (by decide) (by decide) rfl 98 (by decide) ?_
      refine k_aload_n hk dX5_isSo_98 3 rfl ?_
      refine k_getf (k := 9) hk dX5_isSo_99 rfl ha1 kc0 (by decide) fl_RX5_165 rfl ?_
      refine k_iload hk dX5_isSo_102 0 rfl ?_
      refine k_icmp_ne hk dX5_isSo_104 111 (by decide) (fun h14 => ?_) (fun h14 => ?_)
      · refine k_iconst (v := 0) hk dX5_isSo_111 (by decide) ?_
        exact k_sub [] rfl (s_X5_isSo_b112 hj hn hl hk he hro F  0  σ)
      · refine k_iconst (v := 1) hk dX5_isSo_107 (by decide) ?_
        refine k_goto hk dX5_isSo_108 112 (by decide) ?_
        exact k_sub [] rfl (s_X5_isSo_b112 hj hn hl hk he hro F  1  σ)
    · skip
      refine k_ite (fun h15 => ?_) (fun h15 => ?_)
      · refine k_tin (v := 2) hk dX5_isSo_30 h15 (by decide) (by decide) rfl 113 (by decide) ?_
        refine k_aload_n hk dX5_isSo_113 3 rfl ?_
        refine k_getf (k := 10) hk dX5_isSo_114 rfl ha1 kc0 (by decide) fl_RX5_168 rfl ?_
        refine k_iload hk dX5_isSo_117 0 rfl ?_
        refine k_callSi (As := [.int (σ.1 40 a1 10), .int y5]) (rest := []) hk he hro (c_X5_isNear hj hn hl F (σ.1 40 a1 10) y5  σ) dX5_isSo_119 cw_RX5_341 ⟨by decide, by decide⟩ (by decide) rfl (Nat.le_of_ble_eq_true rfl) (fun c17 σ16 => ?_)
        exact k_zreturn hk he dX5_isSo_122 (by decide)
      · skip
        refine k_ite (fun h18 => ?_) (fun h18 => ?_)
        · refine k_tin (v := 3) hk dX5_isSo_30 h18 (by decide) (by decide) rfl 123 (by decide) ?_
          refine k_aload_n hk dX5_isSo_123 3 rfl ?_
          refine k_iload_n hk dX5_isSo_124 1 rfl ?_
          refine k_callVi (As := [.int y3]) (rest := []) hk he hro (c_X0_heavyAt hj hn hl F a1 y3 ha1 σ) dX5_isSo_125 cw_RX5_143 rfl ha1 kc0 rfl ⟨by decide, by decide⟩ (by decide) rfl (Nat.le_of_ble_eq_true rfl) (fun c20 σ19 => ?_)
          refine k_iload hk dX5_isSo_128 0 rfl ?_
          refine k_icmp_lt hk dX5_isSo_130 137 (by decide) (fun h21 => ?_) (fun h21 => ?_)
          · refine k_iconst (v := 0) hk dX5_isSo_137 (by decide) ?_
            exact k_sub [] rfl (s_X5_isSo_b138 hj hn hl hk he hro F  0  σ19)
          · refine k_iconst (v := 1) hk dX5_isSo_133 (by decide) ?_
            refine k_goto hk dX5_isSo_134 138 (by decide) ?_
            exact k_sub [] rfl (s_X5_isSo_b138 hj hn hl hk he hro F  1  σ19)
        · skip
          refine k_ite (fun h22 => ?_) (fun h22 => ?_)
          · refine k_tin (v := 4) hk dX5_isSo_30 h22 (by decide) (by decide) rfl 139 (by decide) ?_
            refine k_aload_n hk dX5_isSo_139 3 rfl ?_
            refine k_getf (k := 11) hk dX5_isSo_140 rfl ha1 kc0 (by decide) fl_RX5_171 rfl ?_
            refine k_iload hk dX5_isSo_143 0 rfl ?_
            refine k_callSi (As := [.int (σ.1 40 a1 11), .int y5]) (rest := []) hk he hro (c_X5_isNear hj hn hl F (σ.1 40 a1 11) y5  σ) dX5_isSo_145 cw_RX5_341 ⟨by decide, by decide⟩ (by decide) rfl (Nat.le_of_ble_eq_true rfl) (fun c24 σ23 => ?_)
            exact k_zreturn hk he dX5_isSo_148 (by decide)
          · skip
            refine k_tout hk dX5_isSo_30 (by have h8q := k_neI h8 (a := 0) (by decide); have h13q := k_neI h13 (a := 1) (by decide); have h15q := k_neI h15 (a := 2) (by decide); have h18q := k_neI h18 (a := 3) (by decide); have h22q := k_neI h22 (a := 4) (by decide); omega) 149 (by decide) ?_
            refine k_aload_n hk dX5_isSo_149 3 rfl ?_
            refine k_iload_n hk dX5_isSo_150 1 rfl ?_
            refine k_callVi (As := [.int y3]) (rest := []) hk he hro (c_X0_gapAt hj hn hl F a1 y3 ha1 σ) dX5_isSo_151 cw_RX5_133 rfl ha1 kc0 rfl ⟨by decide, by decide⟩ (by decide) rfl (Nat.le_of_ble_eq_true rfl) (fun c26 σ25 => ?_)
            refine k_iload hk dX5_isSo_154 0 rfl ?_
            refine k_icmp_lt hk dX5_isSo_156 163 (by decide) (fun h27 => ?_) (fun h27 => ?_)
            · refine k_iconst (v := 0) hk dX5_isSo_163 (by decide) ?_
              exact k_sub [] rfl (s_X5_isSo_b164 hj hn hl hk he hro F  0  σ25)
            · refine k_iconst (v := 1) hk dX5_isSo_159 (by decide) ?_
              refine k_goto hk dX5_isSo_160 164 (by decide) ?_
              exact k_sub [] rfl (s_X5_isSo_b164 hj hn hl hk he hro F  1  σ25)
def f_X5_reckon_b120 (F : Nat) (rr5 : (Int32 × Int32 × Int64 × Int32) → kS → Option kR) (x1 : Int32) (x2 : Int32) (x3 : Int64) (x5 : Int32) (x7 : Int64) (σ : kS) : Option kR := kg (kin x5 6) (kb (kUL σ 9 0 x5.toNatClampNeg x7) fun σ1 => kb (x3 + x7) fun y3 => rr5 (x1, x2, y3, x5 + 1) σ1)
set_option maxRecDepth 20000 in
theorem s_X5_reckon_b120 {l : Launch} {E : kE} (hj : kEj E) (hn : kNorm E) (hl : l.stackTraces = false) {C : kC} {Q : kR → State → Prop} (hk : kOk (C, E, Q) cX5_reckon RX5 11) (he : kEnd (C, E, Q) (some .long) id 0) (hro : kRo C l (6) (136) 0) (F : Nat) (rr5 : (Int32 × Int32 × Int64 × Int32) → kS → Option kR) (hrr5 : ∀ (x1 : Int32) (x2 : Int32) (x3 : Int64) (x5 : Int32)  (σ : kS), Sm (C, E, Q) 11 0 5 [(0, .ref (kad E 0 0)), (1, .int x1), (2, .int x2), (3, .long x3), (5, .int x5)] [] σ (rr5 (x1, x2, x3, x5) σ)) : ∀ (x1 : Int32) (x2 : Int32) (x3 : Int64) (x5 : Int32) (x7 : Int64)  (σ : kS), Sm (C, E, Q) 11 0 120 [(0, .ref (kad E 0 0)), (1, .int x1), (2, .int x2), (3, .long x3), (5, .int x5), (7, .long x7)] [] σ (f_X5_reckon_b120 F rr5 x1 x2 x3 x5 x7 σ) := by
  intro x1 x2 x3 x5 x7  σ
  unfold f_X5_reckon_b120
  refine k_aload_n hk dX5_reckon_120 0 rfl ?_
  refine k_getr (k := 12) 9 0 hk dX5_reckon_121 rfl (by decide) kc5 (by decide) fl_RX5_67 rfl rfl ?_
  refine k_iload hk dX5_reckon_124 4 rfl ?_
  refine k_lload hk dX5_reckon_126 5 rfl ?_
  refine k_last hk dX5_reckon_128 rfl (by decide) (fun h2 σ1 => ?_)
  refine k_lload_n hk dX5_reckon_129 3 rfl ?_
  refine k_lload hk dX5_reckon_130 5 rfl ?_
  refine k_ladd hk dX5_reckon_132 ?_
  refine k_nml (fun y3 => ?_)
  refine k_lstore_n (lv' := [(3, .long y3), (0, .ref (kad E 0 0)), (1, .int x1), (2, .int x2), (5, .int x5), (7, .long x7)]) hk dX5_reckon_133 (by decide) rfl ?_
  refine k_iinc (lv' := [(5, .int (x5 + 1)), (3, .long y3), (0, .ref (kad E 0 0)), (1, .int x1), (2, .int x2), (7, .long x7)]) (j := 4) (y := x5 + 1) hk dX5_reckon_134 rfl rfl (by decide) rfl ?_
  refine k_goto hk dX5_reckon_137 5 (by decide) ?_
  exact k_sub [2, 3, 4, 1, 0] rfl (hrr5 x1 x2 y3 (x5 + 1)  σ1)
def f_X5_reckon_b99 (F : Nat) (rr38 : (Int32 × Int32 × Int64 × Int32 × Nat × Int64 × Int32) → kS → Option kR) (x1 : Int32) (x2 : Int32) (x3 : Int64) (x5 : Int32) (x6 : Nat) (x7 : Int64) (x9 : Int32) (σ : kS) : Option kR := rr38 (x1, x2, x3, x5, x6, x7, x9 + 1) σ
set_option maxRecDepth 20000 in
theorem s_X5_reckon_b99 {l : Launch} {E : kE} (hj : kEj E) (hn : kNorm E) (hl : l.stackTraces = false) {C : kC} {Q : kR → State → Prop} (hk : kOk (C, E, Q) cX5_reckon RX5 11) (he : kEnd (C, E, Q) (some .long) id 0) (hro : kRo C l (6) (136) 0) (F : Nat) (rr38 : (Int32 × Int32 × Int64 × Int32 × Nat × Int64 × Int32) → kS → Option kR) (hrr38 : ∀ (x1 : Int32) (x2 : Int32) (x3 : Int64) (x5 : Int32) (x6 : Nat) (x7 : Int64) (x9 : Int32) (hx6 : x6 < kCnt 40) (σ : kS), Sm (C, E, Q) 11 0 38 [(0, .ref (kad E 0 0)), (1, .int x1), (2, .int x2), (3, .long x3), (5, .int x5), (6, .ref (kad E 40 x6)), (7, .long x7), (9, .int x9)] [] σ (rr38 (x1, x2, x3, x5, x6, x7, x9) σ)) : ∀ (x1 : Int32) (x2 : Int32) (x3 : Int64) (x5 : Int32) (x6 : Nat) (x7 : Int64) (x9 : Int32) (hx6 : x6 < kCnt 40) (σ : kS), Sm (C, E, Q) 11 0 99 [(0, .ref (kad E 0 0)), (1, .int x1), (2, .int x2), (3, .long x3), (5, .int x5), (6, .ref (kad E 40 x6)), (7, .long x7), (9, .int x9)] [] σ (f_X5_reckon_b99 F rr38 x1 x2 x3 x5 x6 x7 x9 σ) := by
  intro x1 x2 x3 x5 x6 x7 x9 hx6 σ
  unfold f_X5_reckon_b99
  refine k_iinc (lv' := [(9, .int (x9 + 1)), (0, .ref (kad E 0 0)), (1, .int x1), (2, .int x2), (3, .long x3), (5, .int x5), (6, .ref (kad E 40 x6)), (7, .long x7)]) (j := 7) (y := x9 + 1) hk dX5_reckon_99 rfl rfl (by decide) rfl ?_
  refine k_goto hk dX5_reckon_102 38 (by decide) ?_
  exact k_sub [1, 2, 3, 4, 5, 6, 7, 0] rfl (hrr38 x1 x2 x3 x5 x6 x7 (x9 + 1) hx6 σ)
def f_X5_reckon_b96 (F : Nat) (rr38 : (Int32 × Int32 × Int64 × Int32 × Nat × Int64 × Int32) → kS → Option kR) (x1 : Int32) (x2 : Int32) (x3 : Int64) (x5 : Int32) (x6 : Nat) (x9 : Int32) (t0 : Int64) (t1 : Int64) (σ : kS) : Option kR := kb (t0 * t1) fun y4 => f_X5_reckon_b99 F rr38 x1 x2 x3 x5 x6 y4 x9 σ
set_option maxRecDepth 20000 in
theorem s_X5_reckon_b96 {l : Launch} {E : kE} (hj : kEj E) (hn : kNorm E) (hl : l.stackTraces = false) {C : kC} {Q : kR → State → Prop} (hk : kOk (C, E, Q) cX5_reckon RX5 11) (he : kEnd (C, E, Q) (some .long) id 0) (hro : kRo C l (6) (136) 0) (F : Nat) (rr38 : (Int32 × Int32 × Int64 × Int32 × Nat × Int64 × Int32) → kS → Option kR) (hrr38 : ∀ (x1 : Int32) (x2 : Int32) (x3 : Int64) (x5 : Int32) (x6 : Nat) (x7 : Int64) (x9 : Int32) (hx6 : x6 < kCnt 40) (σ : kS), Sm (C, E, Q) 11 0 38 [(0, .ref (kad E 0 0)), (1, .int x1), (2, .int x2), (3, .long x3), (5, .int x5), (6, .ref (kad E 40 x6)), (7, .long x7), (9, .int x9)] [] σ (rr38 (x1, x2, x3, x5, x6, x7, x9) σ)) : ∀ (x1 : Int32) (x2 : Int32) (x3 : Int64) (x5 : Int32) (x6 : Nat) (x9 : Int32) (t0 : Int64) (t1 : Int64) (hx6 : x6 < kCnt 40) (σ : kS), Sm (C, E, Q) 11 0 96 [(0, .ref (kad E 0 0)), (1, .int x1), (2, .int x2), (3, .long x3), (5, .int x5), (6, .ref (kad E 40 x6)), (9, .int x9)] [.long t1, .long t0] σ (f_X5_reckon_b96 F rr38 x1 x2 x3 x5 x6 x9 t0 t1 σ) := by
  intro x1 x2 x3 x5 x6 x9 t0 t1 hx6 σ
  unfold f_X5_reckon_b96
  refine k_lmul hk dX5_reckon_96 ?_
  refine k_nml (fun y4 => ?_)
  refine k_lstore (lv' := [(7, .long y4), (0, .ref (kad E 0 0)), (1, .int x1), (2, .int x2), (3, .long x3), (5, .int x5), (6, .ref (kad E 40 x6)), (9, .int x9)]) hk dX5_reckon_97 (by decide) rfl ?_
  exact k_sub [1, 2, 3, 4, 5, 6, 0, 7] rfl (s_X5_reckon_b99 hj hn hl hk he hro F rr38 hrr38  x1 x2 x3 x5 x6 y4 x9 hx6 σ)
def f_X5_reckon_b38 (F : Nat) (rr5 : (Int32 × Int32 × Int64 × Int32) → kS → Option kR) (rr38 : (Int32 × Int32 × Int64 × Int32 × Nat × Int64 × Int32) → kS → Option kR) (a : (Int32 × Int32 × Int64 × Int32 × Nat × Int64 × Int32)) (σ : kS) : Option kR := match a with
  | (x1, x2, x3, x5, x6, x7, x9) => if (σ.1 4 0 3) ≤ x9 then (if x2 = 0 then (f_X5_reckon_b120 F rr5 x1 x2 x3 x5 x7 σ) else (kBi (f_X5_burntBy F x5 σ) fun c8 σ7 => kb (x7 >>> (c8.toInt64 &&& 63)) fun y9 => f_X5_reckon_b120 F rr5 x1 x2 x3 x5 y9 σ7)) else (if ((x1 >>> (x9 &&& 31)) &&& 1) = 1 then (kBi (f_X2_wrongOf F 0 x9 σ) fun c12 σ11 => kBi (f_X5_isSo F x6 x9 σ11) fun c14 σ13 => if c14 = 0 then (f_X5_reckon_b96 F rr38 x1 x2 x3 x5 x6 x9 x7 (c12.toInt64) σ13) else (f_X5_reckon_b96 F rr38 x1 x2 x3 x5 x6 x9 x7 ((16 - c12).toInt64) σ13)) else (f_X5_reckon_b99 F rr38 x1 x2 x3 x5 x6 x7 x9 σ))
set_option maxRecDepth 20000 in
theorem s_X5_reckon_b38 {l : Launch} {E : kE} (hj : kEj E) (hn : kNorm E) (hl : l.stackTraces = false) {C : kC} {Q : kR → State → Prop} (hk : kOk (C, E, Q) cX5_reckon RX5 11) (he : kEnd (C, E, Q) (some .long) id 0) (hro : kRo C l (6) (136) 0) (F : Nat) (rr5 : (Int32 × Int32 × Int64 × Int32) → kS → Option kR) (hrr5 : ∀ (x1 : Int32) (x2 : Int32) (x3 : Int64) (x5 : Int32)  (σ : kS), Sm (C, E, Q) 11 0 5 [(0, .ref (kad E 0 0)), (1, .int x1), (2, .int x2), (3, .long x3), (5, .int x5)] [] σ (rr5 (x1, x2, x3, x5) σ)) : ∀ (N9 : Nat) (x1 : Int32) (x2 : Int32) (x3 : Int64) (x5 : Int32) (x6 : Nat) (x7 : Int64) (x9 : Int32) (hx6 : x6 < kCnt 40) (σ : kS), Sm (C, E, Q) 11 0 38 [(0, .ref (kad E 0 0)), (1, .int x1), (2, .int x2), (3, .long x3), (5, .int x5), (6, .ref (kad E 40 x6)), (7, .long x7), (9, .int x9)] [] σ (kFix (f_X5_reckon_b38 F rr5) N9 (x1, x2, x3, x5, x6, x7, x9) σ) := by
  intro N9
  induction N9 with
  | zero => intro x1 x2 x3 x5 x6 x7 x9 hx6 σ; exact k_no
  | succ N9 ih =>
    intro x1 x2 x3 x5 x6 x7 x9 hx6 σ
    show Sm _ _ _ _ _ _ _ (f_X5_reckon_b38 F rr5 (kFix (f_X5_reckon_b38 F rr5) N9) (x1, x2, x3, x5, x6, x7, x9) σ)
    generalize kFix (f_X5_reckon_b38 F rr5) N9 = rr38 at ih
    have hrr38 := ih
    unfold f_X5_reckon_b38
    dsimp only
    refine k_iload hk dX5_reckon_38 7 rfl ?_
    refine k_aload_n hk dX5_reckon_40 0 rfl ?_
    refine k_getr (k := 6) 4 0 hk dX5_reckon_41 rfl (by decide) kc5 (by decide) fl_RX5_39 rfl rfl ?_
    refine k_getf (k := 3) hk dX5_reckon_44 rfl (by decide) kc2 (by decide) fl_RX5_177 rfl ?_
    refine k_icmp_ge hk dX5_reckon_47 105 (by decide) (fun h5 => ?_) (fun h5 => ?_)
    · refine k_iload_n hk dX5_reckon_105 2 rfl ?_
      refine k_if_eq hk dX5_reckon_106 120 (by decide) (fun h6 => ?_) (fun h6 => ?_)
      · exact k_sub [0, 1, 2, 3, 4, 6] rfl (s_X5_reckon_b120 hj hn hl hk he hro F rr5 hrr5  x1 x2 x3 x5 x7  σ)
      · refine k_lload hk dX5_reckon_109 6 rfl ?_
        refine k_aload_n hk dX5_reckon_111 0 rfl ?_
        refine k_iload hk dX5_reckon_112 4 rfl ?_
        refine k_callVi (As := [.int x5]) (rest := [.long x7]) hk he hro (c_X5_burntBy hj hn hl F x5  σ) dX5_reckon_114 cw_RX5_238 rfl (by decide) kc5 rfl ⟨by decide, by decide⟩ (by decide) rfl (Nat.le_of_ble_eq_true rfl) (fun c8 σ7 => ?_)
        refine k_lshr hk dX5_reckon_117 ?_
        refine k_nml (fun y9 => ?_)
        refine k_lstore (lv' := [(7, .long y9), (0, .ref (kad E 0 0)), (1, .int x1), (2, .int x2), (3, .long x3), (5, .int x5), (6, .ref (kad E 40 x6)), (9, .int x9)]) hk dX5_reckon_118 (by decide) rfl ?_
        exact k_sub [1, 2, 3, 4, 5, 0] rfl (s_X5_reckon_b120 hj hn hl hk he hro F rr5 hrr5  x1 x2 x3 x5 y9  σ7)
    · refine k_iload_n hk dX5_reckon_50 1 rfl ?_
      refine k_iload hk dX5_reckon_51 7 rfl ?_
      refine k_ishr hk dX5_reckon_53 ?_
      refine k_iconst (v := 1) hk dX5_reckon_54 (by decide) ?_
      refine k_iand hk dX5_reckon_55 ?_
      refine k_iconst (v := 1) hk dX5_reckon_56 (by decide) ?_
      refine k_icmp_ne hk dX5_reckon_57 99 (by decide) (fun h10 => ?_) (fun h10 => ?_)
      · exact k_sub [0, 1, 2, 3, 4, 5, 6, 7] rfl (s_X5_reckon_b99 hj hn hl hk he hro F rr38 hrr38  x1 x2 x3 x5 x6 x7 x9 hx6 σ)
      · refine k_aload_n hk dX5_reckon_60 0 rfl ?_
        refine k_getr (k := 6) 4 0 hk dX5_reckon_61 rfl (by decide) kc5 (by decide) fl_RX5_39 rfl rfl ?_
        refine k_iload hk dX5_reckon_64 7 rfl ?_
        refine k_callVi (As := [.int x9]) (rest := []) hk he hro (c_X2_wrongOf hj hn hl F 0 x9 (by decide) σ) dX5_reckon_66 cw_RX5_201 rfl (by decide) kc2 rfl ⟨by decide, by decide⟩ (by decide) rfl (Nat.le_of_ble_eq_true rfl) (fun c12 σ11 => ?_)
        refine k_istore (lv' := [(10, .int c12), (0, .ref (kad E 0 0)), (1, .int x1), (2, .int x2), (3, .long x3), (5, .int x5), (6, .ref (kad E 40 x6)), (7, .long x7), (9, .int x9)]) hk dX5_reckon_69 (by decide) rfl ?_
        refine k_lload hk dX5_reckon_71 7 rfl ?_
        refine k_aload_n hk dX5_reckon_73 1 rfl ?_
        refine k_aload hk dX5_reckon_74 6 rfl ?_
        refine k_iload hk dX5_reckon_76 8 rfl ?_
        refine k_callVi (As := [.ref (kad E 40 x6), .int x9]) (rest := [.long x7]) hk he hro (c_X5_isSo hj hn hl F x6 x9 hx6 σ11) dX5_reckon_78 cw_RX5_204 rfl (by decide) kc5 rfl ⟨by decide, by decide⟩ (by decide) rfl (Nat.le_of_ble_eq_true rfl) (fun c14 σ13 => ?_)
        refine k_if_eq hk dX5_reckon_81 93 (by decide) (fun h15 => ?_) (fun h15 => ?_)
        · refine k_iload hk dX5_reckon_93 0 rfl ?_
          refine k_i2l hk dX5_reckon_95 ?_
          exact k_sub [1, 2, 3, 4, 5, 6, 8] rfl (s_X5_reckon_b96 hj hn hl hk he hro F rr38 hrr38  x1 x2 x3 x5 x6 x9 x7 (c12.toInt64) hx6 σ13)
        · refine k_bipush (v := 16) hk dX5_reckon_84 (by decide) ?_
          refine k_iload hk dX5_reckon_86 0 rfl ?_
          refine k_isub hk dX5_reckon_88 ?_
          refine k_i2l hk dX5_reckon_89 ?_
          refine k_goto hk dX5_reckon_90 96 (by decide) ?_
          exact k_sub [1, 2, 3, 4, 5, 6, 8] rfl (s_X5_reckon_b96 hj hn hl hk he hro F rr38 hrr38  x1 x2 x3 x5 x6 x9 x7 ((16 - c12).toInt64) hx6 σ13)
def f_X5_reckon_b5 (F : Nat) (rr5 : (Int32 × Int32 × Int64 × Int32) → kS → Option kR) (a : (Int32 × Int32 × Int64 × Int32)) (σ : kS) : Option kR := match a with
  | (x1, x2, x3, x5) => if (σ.1 0 0 5) ≤ x5 then (some (.inl (some (.long x3)), σ)) else (kBr (f_X5_filmBy F x5 σ) fun c18 σ17 => kg (kin x5 6) (kb ((σ17.1 23 0 x5.toNatClampNeg).toInt64) fun y20 => kFix (f_X5_reckon_b38 F rr5) F (x1, x2, x3, x5, c18, y20, 0) σ17))
set_option maxRecDepth 20000 in
theorem s_X5_reckon_b5 {l : Launch} {E : kE} (hj : kEj E) (hn : kNorm E) (hl : l.stackTraces = false) {C : kC} {Q : kR → State → Prop} (hk : kOk (C, E, Q) cX5_reckon RX5 11) (he : kEnd (C, E, Q) (some .long) id 0) (hro : kRo C l (6) (136) 0) (F : Nat) : ∀ (N9 : Nat) (x1 : Int32) (x2 : Int32) (x3 : Int64) (x5 : Int32)  (σ : kS), Sm (C, E, Q) 11 0 5 [(0, .ref (kad E 0 0)), (1, .int x1), (2, .int x2), (3, .long x3), (5, .int x5)] [] σ (kFix (f_X5_reckon_b5 F) N9 (x1, x2, x3, x5) σ) := by
  intro N9
  induction N9 with
  | zero => intro x1 x2 x3 x5  σ; exact k_no
  | succ N9 ih =>
    intro x1 x2 x3 x5  σ
    show Sm _ _ _ _ _ _ _ (f_X5_reckon_b5 F (kFix (f_X5_reckon_b5 F) N9) (x1, x2, x3, x5) σ)
    generalize kFix (f_X5_reckon_b5 F) N9 = rr5 at ih
    have hrr5 := ih
    unfold f_X5_reckon_b5
    dsimp only
    refine k_iload hk dX5_reckon_5 4 rfl ?_
    refine k_aload_n hk dX5_reckon_7 0 rfl ?_
    refine k_getf (k := 5) hk dX5_reckon_8 rfl (by decide) kc5 (by decide) fl_RX5_33 rfl ?_
    refine k_icmp_ge hk dX5_reckon_11 140 (by decide) (fun h16 => ?_) (fun h16 => ?_)
    · refine k_lload_n hk dX5_reckon_140 3 rfl ?_
      exact k_lreturn hk he dX5_reckon_141 (by decide)
    · refine k_aload_n hk dX5_reckon_14 0 rfl ?_
      refine k_iload hk dX5_reckon_15 4 rfl ?_
      refine k_callVr (As := [.int x5]) (rest := []) hk he hro (c_X5_filmBy hj hn hl F x5  σ) dX5_reckon_17 cw_RX5_120 rfl (by decide) kc5 rfl ⟨by decide, by decide⟩ (by decide) rfl (Nat.le_of_ble_eq_true rfl) (fun c18 σ17 hc18 => ?_)
      refine k_astore (lv' := [(6, .ref (kad E 40 c18)), (0, .ref (kad E 0 0)), (1, .int x1), (2, .int x2), (3, .long x3), (5, .int x5)]) hk dX5_reckon_20 (by decide) rfl ?_
      refine k_aload_n hk dX5_reckon_22 1 rfl ?_
      refine k_getr (k := 6) 4 0 hk dX5_reckon_23 rfl (by decide) kc5 (by decide) fl_RX5_39 rfl rfl ?_
      refine k_getr (k := 2) 23 0 hk dX5_reckon_26 rfl (by decide) kc2 (by decide) fl_RX5_101 rfl rfl ?_
      refine k_iload hk dX5_reckon_29 5 rfl ?_
      refine k_iald hk dX5_reckon_31 rfl (by decide) (fun h19 => ?_)
      refine k_i2l hk dX5_reckon_32 ?_
      refine k_nml (fun y20 => ?_)
      refine k_lstore (lv' := [(7, .long y20), (6, .ref (kad E 40 c18)), (0, .ref (kad E 0 0)), (1, .int x1), (2, .int x2), (3, .long x3), (5, .int x5)]) hk dX5_reckon_33 (by decide) rfl ?_
      refine k_iconst (v := 0) hk dX5_reckon_35 (by decide) ?_
      refine k_istore (lv' := [(9, .int 0), (7, .long y20), (6, .ref (kad E 40 c18)), (0, .ref (kad E 0 0)), (1, .int x1), (2, .int x2), (3, .long x3), (5, .int x5)]) hk dX5_reckon_36 (by decide) rfl ?_
      exact k_sub [3, 4, 5, 6, 7, 2, 1, 0] rfl (s_X5_reckon_b38 hj hn hl hk he hro F rr5 hrr5 F x1 x2 x3 x5 c18 y20 0 hc18 σ17)
def f_X5_reckon (F : Nat) (a1 : Int32) (a2 : Int32) (σ : kS) : Option kR := kFix (f_X5_reckon_b5 F) F (a1, a2, 0, 0) σ
set_option maxRecDepth 20000 in
theorem c_X5_reckon {l : Launch} {E : kE} (hj : kEj E) (hn : kNorm E) (hl : l.stackTraces = false) (F : Nat) (a1 : Int32) (a2 : Int32)  (σ : kS) : kMet l E yX5_reckon cX5_reckon 11 (some .long) (6) (136) 0 id [.ref (kad E 0 0), .int a1, .int a2] σ (f_X5_reckon F a1 a2 σ) := by
  refine k_met hj hn hl (by decide) (Nat.le_of_ble_eq_true rfl) (fun C Q hk he hro => ?_)
  have hk : kOk (C, E, Q) cX5_reckon RX5 11 := hk
  show Sm (C, E, Q) 11 0 0 [(0, .ref (kad E 0 0)), (1, .int a1), (2, .int a2)] [] σ _
  unfold f_X5_reckon
  refine k_lconst (v := 0) hk dX5_reckon_0 (by decide) ?_
  refine k_lstore_n (lv' := [(3, .long 0), (0, .ref (kad E 0 0)), (1, .int a1), (2, .int a2)]) hk dX5_reckon_1 (by decide) rfl ?_
  refine k_iconst (v := 0) hk dX5_reckon_2 (by decide) ?_
  refine k_istore (lv' := [(5, .int 0), (3, .long 0), (0, .ref (kad E 0 0)), (1, .int a1), (2, .int a2)]) hk dX5_reckon_3 (by decide) rfl ?_
  exact k_sub [2, 3, 4, 1, 0] rfl (s_X5_reckon_b5 hj hn hl hk he hro F F a1 a2 0 0  σ)
def f_X5_perThousand_b23 (F : Nat) (t0 : Int32) (σ : kS) : Option kR := some (.inl (some (.int t0)), σ)
set_option maxRecDepth 20000 in
theorem s_X5_perThousand_b23 {l : Launch} {E : kE} (hj : kEj E) (hn : kNorm E) (hl : l.stackTraces = false) {C : kC} {Q : kR → State → Prop} (hk : kOk (C, E, Q) cX5_perThousand RX5 4) (he : kEnd (C, E, Q) (some .int) id 0) (hro : kRo C l (0) (0) 0) (F : Nat) : ∀ (t0 : Int32)  (σ : kS), Sm (C, E, Q) 4 0 23 [] [.int t0] σ (f_X5_perThousand_b23 F t0 σ) := by
  intro t0  σ
  unfold f_X5_perThousand_b23
  exact k_ireturn hk he dX5_perThousand_23 (by decide)
def f_X5_perThousand (F : Nat) (a1 : Int32) (a2 : Int64) (σ : kS) : Option kR := if (lg_cmp a2 0) = 0 then (f_X5_perThousand_b23 F 0 σ) else (kg (kin a1 6) (kg (¬ a2 = 0) (f_X5_perThousand_b23 F (((1000 * (σ.2 9 0 a1.toNatClampNeg)) / a2).toInt32) σ)))
set_option maxRecDepth 20000 in
theorem c_X5_perThousand {l : Launch} {E : kE} (hj : kEj E) (hn : kNorm E) (hl : l.stackTraces = false) (F : Nat) (a1 : Int32) (a2 : Int64)  (σ : kS) : kMet l E yX5_perThousand cX5_perThousand 4 (some .int) (0) (0) 0 id [.ref (kad E 0 0), .int a1, .long a2] σ (f_X5_perThousand F a1 a2 σ) := by
  refine k_met hj hn hl (by decide) (Nat.le_of_ble_eq_true rfl) (fun C Q hk he hro => ?_)
  have hk : kOk (C, E, Q) cX5_perThousand RX5 4 := hk
  show Sm (C, E, Q) 4 0 0 [(0, .ref (kad E 0 0)), (1, .int a1), (2, .long a2)] [] σ _
  unfold f_X5_perThousand
  refine k_lload_n hk dX5_perThousand_0 2 rfl ?_
  refine k_lconst (v := 0) hk dX5_perThousand_1 (by decide) ?_
  refine k_lcmp hk dX5_perThousand_2 ?_
  refine k_if_ne hk dX5_perThousand_3 10 (by decide) (fun h1 => ?_) (fun h1 => ?_)
  · refine k_ldc2 (v := 1000) hk dX5_perThousand_10 (kTB_mk (by decide +kernel) rfl) ?_
    refine k_aload_n hk dX5_perThousand_13 0 rfl ?_
    refine k_getr (k := 12) 9 0 hk dX5_perThousand_14 rfl (by decide) kc5 (by decide) fl_RX5_67 rfl rfl ?_
    refine k_iload_n hk dX5_perThousand_17 1 rfl ?_
    refine k_lald hk dX5_perThousand_18 rfl (by decide) (fun h2 => ?_)
    refine k_lmul hk dX5_perThousand_19 ?_
    refine k_lload_n hk dX5_perThousand_20 2 rfl ?_
    refine k_ldiv hk dX5_perThousand_21 (fun _ => ?_)
    refine k_l2i hk dX5_perThousand_22 ?_
    exact k_sub [] rfl (s_X5_perThousand_b23 hj hn hl hk he hro F  (((1000 * (σ.2 9 0 a1.toNatClampNeg)) / a2).toInt32)  σ)
  · refine k_iconst (v := 0) hk dX5_perThousand_6 (by decide) ?_
    refine k_goto hk dX5_perThousand_7 23 (by decide) ?_
    exact k_sub [] rfl (s_X5_perThousand_b23 hj hn hl hk he hro F  0  σ)
def f_X5_greatestWorth_b35 (F : Nat) (rr4 : (Int32 × Int32) → kS → Option kR) (x1 : Int32) (x2 : Int32) (σ : kS) : Option kR := rr4 (x1, x2 + 1) σ
set_option maxRecDepth 20000 in
theorem s_X5_greatestWorth_b35 {l : Launch} {E : kE} (hj : kEj E) (hn : kNorm E) (hl : l.stackTraces = false) {C : kC} {Q : kR → State → Prop} (hk : kOk (C, E, Q) cX5_greatestWorth RX5 3) (he : kEnd (C, E, Q) (some .int) id 0) (hro : kRo C l (0) (0) 0) (F : Nat) (rr4 : (Int32 × Int32) → kS → Option kR) (hrr4 : ∀ (x1 : Int32) (x2 : Int32)  (σ : kS), Sm (C, E, Q) 3 0 4 [(0, .ref (kad E 0 0)), (1, .int x1), (2, .int x2)] [] σ (rr4 (x1, x2) σ)) : ∀ (x1 : Int32) (x2 : Int32)  (σ : kS), Sm (C, E, Q) 3 0 35 [(0, .ref (kad E 0 0)), (1, .int x1), (2, .int x2)] [] σ (f_X5_greatestWorth_b35 F rr4 x1 x2 σ) := by
  intro x1 x2  σ
  unfold f_X5_greatestWorth_b35
  refine k_iinc (lv' := [(2, .int (x2 + 1)), (0, .ref (kad E 0 0)), (1, .int x1)]) (j := 2) (y := x2 + 1) hk dX5_greatestWorth_35 rfl rfl (by decide) rfl ?_
  refine k_goto hk dX5_greatestWorth_38 4 (by decide) ?_
  exact k_sub [1, 2, 0] rfl (hrr4 x1 (x2 + 1)  σ)
def f_X5_greatestWorth_b33 (F : Nat) (rr4 : (Int32 × Int32) → kS → Option kR) (x2 : Int32) (σ : kS) : Option kR := f_X5_greatestWorth_b35 F rr4 x2 x2 σ
set_option maxRecDepth 20000 in
theorem s_X5_greatestWorth_b33 {l : Launch} {E : kE} (hj : kEj E) (hn : kNorm E) (hl : l.stackTraces = false) {C : kC} {Q : kR → State → Prop} (hk : kOk (C, E, Q) cX5_greatestWorth RX5 3) (he : kEnd (C, E, Q) (some .int) id 0) (hro : kRo C l (0) (0) 0) (F : Nat) (rr4 : (Int32 × Int32) → kS → Option kR) (hrr4 : ∀ (x1 : Int32) (x2 : Int32)  (σ : kS), Sm (C, E, Q) 3 0 4 [(0, .ref (kad E 0 0)), (1, .int x1), (2, .int x2)] [] σ (rr4 (x1, x2) σ)) : ∀ (x2 : Int32)  (σ : kS), Sm (C, E, Q) 3 0 33 [(0, .ref (kad E 0 0)), (2, .int x2)] [] σ (f_X5_greatestWorth_b33 F rr4 x2 σ) := by
  intro x2  σ
  unfold f_X5_greatestWorth_b33
  refine k_iload_n hk dX5_greatestWorth_33 1 rfl ?_
  refine k_istore_n (lv' := [(1, .int x2), (0, .ref (kad E 0 0)), (2, .int x2)]) hk dX5_greatestWorth_34 (by decide) rfl ?_
  exact k_sub [1, 0, 2] rfl (s_X5_greatestWorth_b35 hj hn hl hk he hro F rr4 hrr4  x2 x2  σ)
def f_X5_greatestWorth_b4 (F : Nat) (rr4 : (Int32 × Int32) → kS → Option kR) (a : (Int32 × Int32)) (σ : kS) : Option kR := match a with
  | (x1, x2) => if (σ.1 0 0 5) ≤ x2 then (some (.inl (some (.int x1)), σ)) else (if x1 = (-1) then (f_X5_greatestWorth_b33 F rr4 x2 σ) else (kg (kin x2 6) (kg (kin x1 6) (if (lg_cmp (σ.2 9 0 x2.toNatClampNeg) (σ.2 9 0 x1.toNatClampNeg)) ≤ 0 then (f_X5_greatestWorth_b35 F rr4 x1 x2 σ) else (f_X5_greatestWorth_b33 F rr4 x2 σ)))))
set_option maxRecDepth 20000 in
theorem s_X5_greatestWorth_b4 {l : Launch} {E : kE} (hj : kEj E) (hn : kNorm E) (hl : l.stackTraces = false) {C : kC} {Q : kR → State → Prop} (hk : kOk (C, E, Q) cX5_greatestWorth RX5 3) (he : kEnd (C, E, Q) (some .int) id 0) (hro : kRo C l (0) (0) 0) (F : Nat) : ∀ (N9 : Nat) (x1 : Int32) (x2 : Int32)  (σ : kS), Sm (C, E, Q) 3 0 4 [(0, .ref (kad E 0 0)), (1, .int x1), (2, .int x2)] [] σ (kFix (f_X5_greatestWorth_b4 F) N9 (x1, x2) σ) := by
  intro N9
  induction N9 with
  | zero => intro x1 x2  σ; exact k_no
  | succ N9 ih =>
    intro x1 x2  σ
    show Sm _ _ _ _ _ _ _ (f_X5_greatestWorth_b4 F (kFix (f_X5_greatestWorth_b4 F) N9) (x1, x2) σ)
    generalize kFix (f_X5_greatestWorth_b4 F) N9 = rr4 at ih
    have hrr4 := ih
    unfold f_X5_greatestWorth_b4
    dsimp only
    refine k_iload_n hk dX5_greatestWorth_4 2 rfl ?_
    refine k_aload_n hk dX5_greatestWorth_5 0 rfl ?_
    refine k_getf (k := 5) hk dX5_greatestWorth_6 rfl (by decide) kc5 (by decide) fl_RX5_33 rfl ?_
    refine k_icmp_ge hk dX5_greatestWorth_9 41 (by decide) (fun h1 => ?_) (fun h1 => ?_)
    · refine k_iload_n hk dX5_greatestWorth_41 1 rfl ?_
      exact k_ireturn hk he dX5_greatestWorth_42 (by decide)
    · refine k_iload_n hk dX5_greatestWorth_12 1 rfl ?_
      refine k_iconst (v := (-1)) hk dX5_greatestWorth_13 (by decide) ?_
      refine k_icmp_eq hk dX5_greatestWorth_14 33 (by decide) (fun h2 => ?_) (fun h2 => ?_)
      · exact k_sub [0, 2] rfl (s_X5_greatestWorth_b33 hj hn hl hk he hro F rr4 hrr4  x2  σ)
      · refine k_aload_n hk dX5_greatestWorth_17 0 rfl ?_
        refine k_getr (k := 12) 9 0 hk dX5_greatestWorth_18 rfl (by decide) kc5 (by decide) fl_RX5_67 rfl rfl ?_
        refine k_iload_n hk dX5_greatestWorth_21 2 rfl ?_
        refine k_lald hk dX5_greatestWorth_22 rfl (by decide) (fun h3 => ?_)
        refine k_aload_n hk dX5_greatestWorth_23 0 rfl ?_
        refine k_getr (k := 12) 9 0 hk dX5_greatestWorth_24 rfl (by decide) kc5 (by decide) fl_RX5_67 rfl rfl ?_
        refine k_iload_n hk dX5_greatestWorth_27 1 rfl ?_
        refine k_lald hk dX5_greatestWorth_28 rfl (by decide) (fun h4 => ?_)
        refine k_lcmp hk dX5_greatestWorth_29 ?_
        refine k_if_le hk dX5_greatestWorth_30 35 (by decide) (fun h5 => ?_) (fun h5 => ?_)
        · exact k_sub [0, 1, 2] rfl (s_X5_greatestWorth_b35 hj hn hl hk he hro F rr4 hrr4  x1 x2  σ)
        · exact k_sub [0, 2] rfl (s_X5_greatestWorth_b33 hj hn hl hk he hro F rr4 hrr4  x2  σ)
def f_X5_greatestWorth (F : Nat)  (σ : kS) : Option kR := kFix (f_X5_greatestWorth_b4 F) F ((-1), 0) σ
set_option maxRecDepth 20000 in
theorem c_X5_greatestWorth {l : Launch} {E : kE} (hj : kEj E) (hn : kNorm E) (hl : l.stackTraces = false) (F : Nat)   (σ : kS) : kMet l E yX5_greatestWorth cX5_greatestWorth 3 (some .int) (0) (0) 0 id [.ref (kad E 0 0)] σ (f_X5_greatestWorth F  σ) := by
  refine k_met hj hn hl (by decide) (Nat.le_of_ble_eq_true rfl) (fun C Q hk he hro => ?_)
  have hk : kOk (C, E, Q) cX5_greatestWorth RX5 3 := hk
  show Sm (C, E, Q) 3 0 0 [(0, .ref (kad E 0 0))] [] σ _
  unfold f_X5_greatestWorth
  refine k_iconst (v := (-1)) hk dX5_greatestWorth_0 (by decide) ?_
  refine k_istore_n (lv' := [(1, .int (-1)), (0, .ref (kad E 0 0))]) hk dX5_greatestWorth_1 (by decide) rfl ?_
  refine k_iconst (v := 0) hk dX5_greatestWorth_2 (by decide) ?_
  refine k_istore_n (lv' := [(2, .int 0), (1, .int (-1)), (0, .ref (kad E 0 0))]) hk dX5_greatestWorth_3 (by decide) rfl ?_
  exact k_sub [2, 1, 0] rfl (s_X5_greatestWorth_b4 hj hn hl hk he hro F F (-1) 0  σ)
def f_X5_worthWithFire_b39 (F : Nat) (rr5 : (Int32 × Int32 × Int64 × Int32) → kS → Option kR) (x1 : Int32) (x2 : Int32) (x3 : Int64) (x5 : Int32) (σ : kS) : Option kR := rr5 (x1, x2, x3, x5 + 1) σ
set_option maxRecDepth 20000 in
theorem s_X5_worthWithFire_b39 {l : Launch} {E : kE} (hj : kEj E) (hn : kNorm E) (hl : l.stackTraces = false) {C : kC} {Q : kR → State → Prop} (hk : kOk (C, E, Q) cX5_worthWithFire RX5 6) (he : kEnd (C, E, Q) (some .long) id 0) (hro : kRo C l (1) (22) 0) (F : Nat) (rr5 : (Int32 × Int32 × Int64 × Int32) → kS → Option kR) (hrr5 : ∀ (x1 : Int32) (x2 : Int32) (x3 : Int64) (x5 : Int32)  (σ : kS), Sm (C, E, Q) 6 0 5 [(0, .ref (kad E 0 0)), (1, .int x1), (2, .int x2), (3, .long x3), (5, .int x5)] [] σ (rr5 (x1, x2, x3, x5) σ)) : ∀ (x1 : Int32) (x2 : Int32) (x3 : Int64) (x5 : Int32)  (σ : kS), Sm (C, E, Q) 6 0 39 [(0, .ref (kad E 0 0)), (1, .int x1), (2, .int x2), (3, .long x3), (5, .int x5)] [] σ (f_X5_worthWithFire_b39 F rr5 x1 x2 x3 x5 σ) := by
  intro x1 x2 x3 x5  σ
  unfold f_X5_worthWithFire_b39
  refine k_iinc (lv' := [(5, .int (x5 + 1)), (0, .ref (kad E 0 0)), (1, .int x1), (2, .int x2), (3, .long x3)]) (j := 4) (y := x5 + 1) hk dX5_worthWithFire_39 rfl rfl (by decide) rfl ?_
  refine k_goto hk dX5_worthWithFire_42 5 (by decide) ?_
  exact k_sub [1, 2, 3, 4, 0] rfl (hrr5 x1 x2 x3 (x5 + 1)  σ)
def f_X5_worthWithFire_b5 (F : Nat) (rr5 : (Int32 × Int32 × Int64 × Int32) → kS → Option kR) (a : (Int32 × Int32 × Int64 × Int32)) (σ : kS) : Option kR := match a with
  | (x1, x2, x3, x5) => if (σ.1 0 0 5) ≤ x5 then (some (.inl (some (.long x3)), σ)) else (kg (kin x5 6) (kb (x5.toNatClampNeg) fun j2 => kBi (f_X0_hasFireAt F j2 x1 x2 σ) fun c4 σ3 => if c4 = 0 then (f_X5_worthWithFire_b39 F rr5 x1 x2 x3 x5 σ3) else (kg (kin x5 6) (kb (x3 + (σ3.2 9 0 x5.toNatClampNeg)) fun y7 => f_X5_worthWithFire_b39 F rr5 x1 x2 y7 x5 σ3))))
set_option maxRecDepth 20000 in
theorem s_X5_worthWithFire_b5 {l : Launch} {E : kE} (hj : kEj E) (hn : kNorm E) (hl : l.stackTraces = false) {C : kC} {Q : kR → State → Prop} (hk : kOk (C, E, Q) cX5_worthWithFire RX5 6) (he : kEnd (C, E, Q) (some .long) id 0) (hro : kRo C l (1) (22) 0) (F : Nat) : ∀ (N9 : Nat) (x1 : Int32) (x2 : Int32) (x3 : Int64) (x5 : Int32)  (σ : kS), Sm (C, E, Q) 6 0 5 [(0, .ref (kad E 0 0)), (1, .int x1), (2, .int x2), (3, .long x3), (5, .int x5)] [] σ (kFix (f_X5_worthWithFire_b5 F) N9 (x1, x2, x3, x5) σ) := by
  intro N9
  induction N9 with
  | zero => intro x1 x2 x3 x5  σ; exact k_no
  | succ N9 ih =>
    intro x1 x2 x3 x5  σ
    show Sm _ _ _ _ _ _ _ (f_X5_worthWithFire_b5 F (kFix (f_X5_worthWithFire_b5 F) N9) (x1, x2, x3, x5) σ)
    generalize kFix (f_X5_worthWithFire_b5 F) N9 = rr5 at ih
    have hrr5 := ih
    unfold f_X5_worthWithFire_b5
    dsimp only
    refine k_iload hk dX5_worthWithFire_5 4 rfl ?_
    refine k_aload_n hk dX5_worthWithFire_7 0 rfl ?_
    refine k_getf (k := 5) hk dX5_worthWithFire_8 rfl (by decide) kc5 (by decide) fl_RX5_33 rfl ?_
    refine k_icmp_ge hk dX5_worthWithFire_11 45 (by decide) (fun h1 => ?_) (fun h1 => ?_)
    · refine k_lload_n hk dX5_worthWithFire_45 3 rfl ?_
      exact k_lreturn hk he dX5_worthWithFire_46 (by decide)
    · refine k_aload_n hk dX5_worthWithFire_14 0 rfl ?_
      refine k_getr (k := 10) 7 0 hk dX5_worthWithFire_15 rfl (by decide) kc5 (by decide) fl_RX5_59 rfl rfl ?_
      refine k_iload hk dX5_worthWithFire_18 4 rfl ?_
      refine k_aaldj (g' := 40) (fun z => z) hk dX5_worthWithFire_20 rfl rfl rfl (by decide) (fun z => rfl) (by decide) (fun j2 hj2 => ?_)
      refine k_iload_n hk dX5_worthWithFire_21 1 rfl ?_
      refine k_iload_n hk dX5_worthWithFire_22 2 rfl ?_
      refine k_callVi (As := [.int x1, .int x2]) (rest := []) hk he hro (c_X0_hasFireAt hj hn hl F j2 x1 x2 hj2 σ) dX5_worthWithFire_23 cw_RX5_151 rfl hj2 kc0 rfl ⟨by decide, by decide⟩ (by decide) rfl (Nat.le_of_ble_eq_true rfl) (fun c4 σ3 => ?_)
      refine k_if_eq hk dX5_worthWithFire_26 39 (by decide) (fun h5 => ?_) (fun h5 => ?_)
      · exact k_sub [0, 1, 2, 3, 4] rfl (s_X5_worthWithFire_b39 hj hn hl hk he hro F rr5 hrr5  x1 x2 x3 x5  σ3)
      · refine k_lload_n hk dX5_worthWithFire_29 3 rfl ?_
        refine k_aload_n hk dX5_worthWithFire_30 0 rfl ?_
        refine k_getr (k := 12) 9 0 hk dX5_worthWithFire_31 rfl (by decide) kc5 (by decide) fl_RX5_67 rfl rfl ?_
        refine k_iload hk dX5_worthWithFire_34 4 rfl ?_
        refine k_lald hk dX5_worthWithFire_36 rfl (by decide) (fun h6 => ?_)
        refine k_ladd hk dX5_worthWithFire_37 ?_
        refine k_nml (fun y7 => ?_)
        refine k_lstore_n (lv' := [(3, .long y7), (0, .ref (kad E 0 0)), (1, .int x1), (2, .int x2), (5, .int x5)]) hk dX5_worthWithFire_38 (by decide) rfl ?_
        exact k_sub [1, 2, 3, 0, 4] rfl (s_X5_worthWithFire_b39 hj hn hl hk he hro F rr5 hrr5  x1 x2 y7 x5  σ3)
def f_X5_worthWithFire (F : Nat) (a1 : Int32) (a2 : Int32) (σ : kS) : Option kR := kFix (f_X5_worthWithFire_b5 F) F (a1, a2, 0, 0) σ
set_option maxRecDepth 20000 in
theorem c_X5_worthWithFire {l : Launch} {E : kE} (hj : kEj E) (hn : kNorm E) (hl : l.stackTraces = false) (F : Nat) (a1 : Int32) (a2 : Int32)  (σ : kS) : kMet l E yX5_worthWithFire cX5_worthWithFire 6 (some .long) (1) (22) 0 id [.ref (kad E 0 0), .int a1, .int a2] σ (f_X5_worthWithFire F a1 a2 σ) := by
  refine k_met hj hn hl (by decide) (Nat.le_of_ble_eq_true rfl) (fun C Q hk he hro => ?_)
  have hk : kOk (C, E, Q) cX5_worthWithFire RX5 6 := hk
  show Sm (C, E, Q) 6 0 0 [(0, .ref (kad E 0 0)), (1, .int a1), (2, .int a2)] [] σ _
  unfold f_X5_worthWithFire
  refine k_lconst (v := 0) hk dX5_worthWithFire_0 (by decide) ?_
  refine k_lstore_n (lv' := [(3, .long 0), (0, .ref (kad E 0 0)), (1, .int a1), (2, .int a2)]) hk dX5_worthWithFire_1 (by decide) rfl ?_
  refine k_iconst (v := 0) hk dX5_worthWithFire_2 (by decide) ?_
  refine k_istore (lv' := [(5, .int 0), (3, .long 0), (0, .ref (kad E 0 0)), (1, .int a1), (2, .int a2)]) hk dX5_worthWithFire_3 (by decide) rfl ?_
  exact k_sub [2, 3, 4, 1, 0] rfl (s_X5_worthWithFire_b5 hj hn hl hk he hro F F a1 a2 0 0  σ)
def f_X5_areSafe_b73 (F : Nat) (rr3 : (Int32 × Int32 × Int32 × Int32) → kS → Option kR) (x2 : Int32) (x3 : Int32) (x4 : Int32) (x5 : Int32) (σ : kS) : Option kR := rr3 (x2, x3, x4, x5 + 1) σ
set_option maxRecDepth 20000 in
theorem s_X5_areSafe_b73 {l : Launch} {E : kE} (hj : kEj E) (hn : kNorm E) (hl : l.stackTraces = false) {C : kC} {Q : kR → State → Prop} (hk : kOk (C, E, Q) cX5_areSafe RX5 7) (he : kEnd (C, E, Q) (some .boolean) id 0) (hro : kRo C l (5) (113) 0) (F : Nat) (rr3 : (Int32 × Int32 × Int32 × Int32) → kS → Option kR) (hrr3 : ∀ (x2 : Int32) (x3 : Int32) (x4 : Int32) (x5 : Int32)  (σ : kS), Sm (C, E, Q) 7 0 3 [(0, .ref (kad E 0 0)), (2, .int x2), (3, .int x3), (4, .int x4), (5, .int x5)] [] σ (rr3 (x2, x3, x4, x5) σ)) : ∀ (x2 : Int32) (x3 : Int32) (x4 : Int32) (x5 : Int32)  (σ : kS), Sm (C, E, Q) 7 0 73 [(0, .ref (kad E 0 0)), (2, .int x2), (3, .int x3), (4, .int x4), (5, .int x5)] [] σ (f_X5_areSafe_b73 F rr3 x2 x3 x4 x5 σ) := by
  intro x2 x3 x4 x5  σ
  unfold f_X5_areSafe_b73
  refine k_iinc (lv' := [(5, .int (x5 + 1)), (0, .ref (kad E 0 0)), (2, .int x2), (3, .int x3), (4, .int x4)]) (j := 4) (y := x5 + 1) hk dX5_areSafe_73 rfl rfl (by decide) rfl ?_
  refine k_goto hk dX5_areSafe_76 3 (by decide) ?_
  exact k_sub [1, 2, 3, 4, 0] rfl (hrr3 x2 x3 x4 (x5 + 1)  σ)
def f_X5_areSafe_b3 (F : Nat) (rr3 : (Int32 × Int32 × Int32 × Int32) → kS → Option kR) (a : (Int32 × Int32 × Int32 × Int32)) (σ : kS) : Option kR := match a with
  | (x2, x3, x4, x5) => if x2 < x5 then (some (.inl (some (.int 1)), σ)) else (kBv (f_X1_load F 0 σ) fun σ2 => kBv (f_X2_applyOptions F 0 x3 σ2) fun σ3 => kg (kin x5 6) (kb (x5.toNatClampNeg + 2) fun j4 => kBv (f_X1_start F j4 σ3) fun σ5 => kBi (f_X1_lasts F  σ5) fun c7 σ6 => if c7 = (-1) then (f_X5_areSafe_b73 F rr3 x2 x3 x4 x5 σ6) else (if x4 ≤ c7 then (f_X5_areSafe_b73 F rr3 x2 x3 x4 x5 σ6) else (some (.inl (some (.int 0)), σ6)))))
set_option maxRecDepth 20000 in
theorem s_X5_areSafe_b3 {l : Launch} {E : kE} (hj : kEj E) (hn : kNorm E) (hl : l.stackTraces = false) {C : kC} {Q : kR → State → Prop} (hk : kOk (C, E, Q) cX5_areSafe RX5 7) (he : kEnd (C, E, Q) (some .boolean) id 0) (hro : kRo C l (5) (113) 0) (F : Nat) : ∀ (N9 : Nat) (x2 : Int32) (x3 : Int32) (x4 : Int32) (x5 : Int32)  (σ : kS), Sm (C, E, Q) 7 0 3 [(0, .ref (kad E 0 0)), (2, .int x2), (3, .int x3), (4, .int x4), (5, .int x5)] [] σ (kFix (f_X5_areSafe_b3 F) N9 (x2, x3, x4, x5) σ) := by
  intro N9
  induction N9 with
  | zero => intro x2 x3 x4 x5  σ; exact k_no
  | succ N9 ih =>
    intro x2 x3 x4 x5  σ
    show Sm _ _ _ _ _ _ _ (f_X5_areSafe_b3 F (kFix (f_X5_areSafe_b3 F) N9) (x2, x3, x4, x5) σ)
    generalize kFix (f_X5_areSafe_b3 F) N9 = rr3 at ih
    have hrr3 := ih
    unfold f_X5_areSafe_b3
    dsimp only
    refine k_iload hk dX5_areSafe_3 4 rfl ?_
    refine k_iload_n hk dX5_areSafe_5 1 rfl ?_
    refine k_icmp_gt hk dX5_areSafe_6 79 (by decide) (fun h1 => ?_) (fun h1 => ?_)
    · refine k_iconst (v := 1) hk dX5_areSafe_79 (by decide) ?_
      exact k_zreturn_c hk he dX5_areSafe_80 (by decide) rfl
    · refine k_aload_n hk dX5_areSafe_9 0 rfl ?_
      refine k_getr (k := 9) 6 0 hk dX5_areSafe_10 rfl (by decide) kc5 (by decide) fl_RX5_53 rfl rfl ?_
      refine k_aload_n hk dX5_areSafe_13 0 rfl ?_
      refine k_getr (k := 6) 4 0 hk dX5_areSafe_14 rfl (by decide) kc5 (by decide) fl_RX5_39 rfl rfl ?_
      refine k_callVv (As := [.ref (kad E 4 0)]) (rest := []) hk he hro (c_X1_load hj hn hl F 0 (by decide) σ) dX5_areSafe_17 cw_RX5_281 rfl (by decide) kc1 rfl ⟨by decide, by decide⟩ (by decide) rfl (Nat.le_of_ble_eq_true rfl) (fun σ2 => ?_)
      refine k_aload_n hk dX5_areSafe_20 0 rfl ?_
      refine k_getr (k := 6) 4 0 hk dX5_areSafe_21 rfl (by decide) kc5 (by decide) fl_RX5_39 rfl rfl ?_
      refine k_iload_n hk dX5_areSafe_24 2 rfl ?_
      refine k_aload_n hk dX5_areSafe_25 0 rfl ?_
      refine k_getr (k := 9) 6 0 hk dX5_areSafe_26 rfl (by decide) kc5 (by decide) fl_RX5_53 rfl rfl ?_
      refine k_getr (k := 0) 35 0 hk dX5_areSafe_29 rfl (by decide) kc1 (by decide) fl_RX5_285 rfl rfl ?_
      refine k_callVv (As := [.int x3, .ref (kad E 35 0)]) (rest := []) hk he hro (c_X2_applyOptions hj hn hl F 0 x3 (by decide) σ2) dX5_areSafe_32 cw_RX5_349 rfl (by decide) kc2 rfl ⟨by decide, by decide⟩ (by decide) rfl (Nat.le_of_ble_eq_true rfl) (fun σ3 => ?_)
      refine k_aload_n hk dX5_areSafe_35 0 rfl ?_
      refine k_getr (k := 9) 6 0 hk dX5_areSafe_36 rfl (by decide) kc5 (by decide) fl_RX5_53 rfl rfl ?_
      refine k_aload_n hk dX5_areSafe_39 0 rfl ?_
      refine k_getr (k := 4) 3 0 hk dX5_areSafe_40 rfl (by decide) kc5 (by decide) fl_RX5_29 rfl rfl ?_
      refine k_iload hk dX5_areSafe_43 4 rfl ?_
      refine k_aaldj (g' := 10) (fun z => z + 2) hk dX5_areSafe_45 rfl rfl rfl (by decide) (fun z => rfl) (by decide) (fun j4 hj4 => ?_)
      refine k_callVv (As := [.ref (kad E 10 j4)]) (rest := []) hk he hro (c_X1_start hj hn hl F j4 hj4 σ3) dX5_areSafe_46 cw_RX5_286 rfl (by decide) kc1 rfl ⟨by decide, by decide⟩ (by decide) rfl (Nat.le_of_ble_eq_true rfl) (fun σ5 => ?_)
      refine k_aload_n hk dX5_areSafe_49 0 rfl ?_
      refine k_getr (k := 9) 6 0 hk dX5_areSafe_50 rfl (by decide) kc5 (by decide) fl_RX5_53 rfl rfl ?_
      refine k_callVi (As := []) (rest := []) hk he hro (c_X1_lasts hj hn hl F   σ5) dX5_areSafe_53 cw_RX5_353 rfl (by decide) kc1 rfl ⟨by decide, by decide⟩ (by decide) rfl (Nat.le_of_ble_eq_true rfl) (fun c7 σ6 => ?_)
      refine k_istore (lv' := [(6, .int c7), (0, .ref (kad E 0 0)), (2, .int x2), (3, .int x3), (4, .int x4), (5, .int x5)]) hk dX5_areSafe_56 (by decide) rfl ?_
      refine k_iload hk dX5_areSafe_58 0 rfl ?_
      refine k_iconst (v := (-1)) hk dX5_areSafe_60 (by decide) ?_
      refine k_icmp_eq hk dX5_areSafe_61 73 (by decide) (fun h8 => ?_) (fun h8 => ?_)
      · exact k_sub [1, 2, 3, 4, 5] rfl (s_X5_areSafe_b73 hj hn hl hk he hro F rr3 hrr3  x2 x3 x4 x5  σ6)
      · refine k_iload hk dX5_areSafe_64 0 rfl ?_
        refine k_iload hk dX5_areSafe_66 4 rfl ?_
        refine k_icmp_ge hk dX5_areSafe_68 73 (by decide) (fun h9 => ?_) (fun h9 => ?_)
        · exact k_sub [1, 2, 3, 4, 5] rfl (s_X5_areSafe_b73 hj hn hl hk he hro F rr3 hrr3  x2 x3 x4 x5  σ6)
        · refine k_iconst (v := 0) hk dX5_areSafe_71 (by decide) ?_
          exact k_zreturn_c hk he dX5_areSafe_72 (by decide) rfl
def f_X5_areSafe (F : Nat) (a1 : Int32) (a2 : Int32) (a3 : Int32) (a4 : Int32) (σ : kS) : Option kR := kFix (f_X5_areSafe_b3 F) F (a2, a3, a4, a1) σ
set_option maxRecDepth 20000 in
theorem c_X5_areSafe {l : Launch} {E : kE} (hj : kEj E) (hn : kNorm E) (hl : l.stackTraces = false) (F : Nat) (a1 : Int32) (a2 : Int32) (a3 : Int32) (a4 : Int32)  (σ : kS) : kMet l E yX5_areSafe cX5_areSafe 7 (some .boolean) (5) (113) 0 id [.ref (kad E 0 0), .int a1, .int a2, .int a3, .int a4] σ (f_X5_areSafe F a1 a2 a3 a4 σ) := by
  refine k_met hj hn hl (by decide) (Nat.le_of_ble_eq_true rfl) (fun C Q hk he hro => ?_)
  have hk : kOk (C, E, Q) cX5_areSafe RX5 7 := hk
  show Sm (C, E, Q) 7 0 0 [(0, .ref (kad E 0 0)), (1, .int a1), (2, .int a2), (3, .int a3), (4, .int a4)] [] σ _
  unfold f_X5_areSafe
  refine k_iload_n hk dX5_areSafe_0 1 rfl ?_
  refine k_istore (lv' := [(5, .int a1), (0, .ref (kad E 0 0)), (1, .int a1), (2, .int a2), (3, .int a3), (4, .int a4)]) hk dX5_areSafe_1 (by decide) rfl ?_
  exact k_sub [1, 3, 4, 5, 0] rfl (s_X5_areSafe_b3 hj hn hl hk he hro F F a2 a3 a4 a1  σ)
def f_X5_leastFor_b67 (F : Nat) (rr9 : (Int32 × Int32 × Int32 × Int32 × Int32 × Int32) → kS → Option kR) (x1 : Int32) (x2 : Int32) (x3 : Int32) (x4 : Int32) (x5 : Int32) (x6 : Int32) (σ : kS) : Option kR := rr9 (x1, x2, x3, x4, x5, x6 + 1) σ
set_option maxRecDepth 20000 in
theorem s_X5_leastFor_b67 {l : Launch} {E : kE} (hj : kEj E) (hn : kNorm E) (hl : l.stackTraces = false) {C : kC} {Q : kR → State → Prop} (hk : kOk (C, E, Q) cX5_leastFor RX5 8) (he : kEnd (C, E, Q) (some .int) id 0) (hro : kRo C l (6) (139) 0) (F : Nat) (rr9 : (Int32 × Int32 × Int32 × Int32 × Int32 × Int32) → kS → Option kR) (hrr9 : ∀ (x1 : Int32) (x2 : Int32) (x3 : Int32) (x4 : Int32) (x5 : Int32) (x6 : Int32)  (σ : kS), Sm (C, E, Q) 8 0 9 [(0, .ref (kad E 0 0)), (1, .int x1), (2, .int x2), (3, .int x3), (4, .int x4), (5, .int x5), (6, .int x6)] [] σ (rr9 (x1, x2, x3, x4, x5, x6) σ)) : ∀ (x1 : Int32) (x2 : Int32) (x3 : Int32) (x4 : Int32) (x5 : Int32) (x6 : Int32)  (σ : kS), Sm (C, E, Q) 8 0 67 [(0, .ref (kad E 0 0)), (1, .int x1), (2, .int x2), (3, .int x3), (4, .int x4), (5, .int x5), (6, .int x6)] [] σ (f_X5_leastFor_b67 F rr9 x1 x2 x3 x4 x5 x6 σ) := by
  intro x1 x2 x3 x4 x5 x6  σ
  unfold f_X5_leastFor_b67
  refine k_iinc (lv' := [(6, .int (x6 + 1)), (0, .ref (kad E 0 0)), (1, .int x1), (2, .int x2), (3, .int x3), (4, .int x4), (5, .int x5)]) (j := 6) (y := x6 + 1) hk dX5_leastFor_67 rfl rfl (by decide) rfl ?_
  refine k_goto hk dX5_leastFor_70 9 (by decide) ?_
  exact k_sub [1, 2, 3, 4, 5, 6, 0] rfl (hrr9 x1 x2 x3 x4 x5 (x6 + 1)  σ)
def f_X5_leastFor_b47 (F : Nat) (rr9 : (Int32 × Int32 × Int32 × Int32 × Int32 × Int32) → kS → Option kR) (x1 : Int32) (x2 : Int32) (x3 : Int32) (x4 : Int32) (x5 : Int32) (x6 : Int32) (x7 : Int32) (σ : kS) : Option kR := kBi (f_X5_areSafe F x1 x2 x6 x3 σ) fun c2 σ1 => if c2 = 0 then (f_X5_leastFor_b67 F rr9 x1 x2 x3 x4 x5 x6 σ1) else (f_X5_leastFor_b67 F rr9 x1 x2 x3 x6 x7 x6 σ1)
set_option maxRecDepth 20000 in
theorem s_X5_leastFor_b47 {l : Launch} {E : kE} (hj : kEj E) (hn : kNorm E) (hl : l.stackTraces = false) {C : kC} {Q : kR → State → Prop} (hk : kOk (C, E, Q) cX5_leastFor RX5 8) (he : kEnd (C, E, Q) (some .int) id 0) (hro : kRo C l (6) (139) 0) (F : Nat) (rr9 : (Int32 × Int32 × Int32 × Int32 × Int32 × Int32) → kS → Option kR) (hrr9 : ∀ (x1 : Int32) (x2 : Int32) (x3 : Int32) (x4 : Int32) (x5 : Int32) (x6 : Int32)  (σ : kS), Sm (C, E, Q) 8 0 9 [(0, .ref (kad E 0 0)), (1, .int x1), (2, .int x2), (3, .int x3), (4, .int x4), (5, .int x5), (6, .int x6)] [] σ (rr9 (x1, x2, x3, x4, x5, x6) σ)) : ∀ (x1 : Int32) (x2 : Int32) (x3 : Int32) (x4 : Int32) (x5 : Int32) (x6 : Int32) (x7 : Int32)  (σ : kS), Sm (C, E, Q) 8 0 47 [(0, .ref (kad E 0 0)), (1, .int x1), (2, .int x2), (3, .int x3), (4, .int x4), (5, .int x5), (6, .int x6), (7, .int x7)] [] σ (f_X5_leastFor_b47 F rr9 x1 x2 x3 x4 x5 x6 x7 σ) := by
  intro x1 x2 x3 x4 x5 x6 x7  σ
  unfold f_X5_leastFor_b47
  refine k_aload_n hk dX5_leastFor_47 0 rfl ?_
  refine k_iload_n hk dX5_leastFor_48 1 rfl ?_
  refine k_iload_n hk dX5_leastFor_49 2 rfl ?_
  refine k_iload hk dX5_leastFor_50 6 rfl ?_
  refine k_iload_n hk dX5_leastFor_52 3 rfl ?_
  refine k_callVi (As := [.int x1, .int x2, .int x6, .int x3]) (rest := []) hk he hro (c_X5_areSafe hj hn hl F x1 x2 x6 x3  σ) dX5_leastFor_53 cw_RX5_253 rfl (by decide) kc5 rfl ⟨by decide, by decide⟩ (by decide) rfl (Nat.le_of_ble_eq_true rfl) (fun c2 σ1 => ?_)
  refine k_if_eq hk dX5_leastFor_56 67 (by decide) (fun h3 => ?_) (fun h3 => ?_)
  · exact k_sub [0, 1, 2, 3, 4, 5, 6] rfl (s_X5_leastFor_b67 hj hn hl hk he hro F rr9 hrr9  x1 x2 x3 x4 x5 x6  σ1)
  · refine k_iload hk dX5_leastFor_59 6 rfl ?_
    refine k_istore (lv' := [(4, .int x6), (0, .ref (kad E 0 0)), (1, .int x1), (2, .int x2), (3, .int x3), (5, .int x5), (6, .int x6), (7, .int x7)]) hk dX5_leastFor_61 (by decide) rfl ?_
    refine k_iload hk dX5_leastFor_63 7 rfl ?_
    refine k_istore (lv' := [(5, .int x7), (4, .int x6), (0, .ref (kad E 0 0)), (1, .int x1), (2, .int x2), (3, .int x3), (6, .int x6), (7, .int x7)]) hk dX5_leastFor_65 (by decide) rfl ?_
    exact k_sub [2, 3, 4, 5, 1, 0, 6] rfl (s_X5_leastFor_b67 hj hn hl hk he hro F rr9 hrr9  x1 x2 x3 x6 x7 x6  σ1)
def f_X5_leastFor_b9 (F : Nat) (rr9 : (Int32 × Int32 × Int32 × Int32 × Int32 × Int32) → kS → Option kR) (a : (Int32 × Int32 × Int32 × Int32 × Int32 × Int32)) (σ : kS) : Option kR := match a with
  | (x1, x2, x3, x4, x5, x6) => if (1 <<< ((σ.1 4 0 13) &&& 31)) ≤ x6 then (some (.inl (some (.int x4)), σ)) else (kBi (f_X2_costOf F 0 x6 σ) fun c6 σ5 => if x4 = (-1) then (f_X5_leastFor_b47 F rr9 x1 x2 x3 x4 x5 x6 c6 σ5) else (if x5 ≤ c6 then (f_X5_leastFor_b67 F rr9 x1 x2 x3 x4 x5 x6 σ5) else (f_X5_leastFor_b47 F rr9 x1 x2 x3 x4 x5 x6 c6 σ5)))
set_option maxRecDepth 20000 in
theorem s_X5_leastFor_b9 {l : Launch} {E : kE} (hj : kEj E) (hn : kNorm E) (hl : l.stackTraces = false) {C : kC} {Q : kR → State → Prop} (hk : kOk (C, E, Q) cX5_leastFor RX5 8) (he : kEnd (C, E, Q) (some .int) id 0) (hro : kRo C l (6) (139) 0) (F : Nat) : ∀ (N9 : Nat) (x1 : Int32) (x2 : Int32) (x3 : Int32) (x4 : Int32) (x5 : Int32) (x6 : Int32)  (σ : kS), Sm (C, E, Q) 8 0 9 [(0, .ref (kad E 0 0)), (1, .int x1), (2, .int x2), (3, .int x3), (4, .int x4), (5, .int x5), (6, .int x6)] [] σ (kFix (f_X5_leastFor_b9 F) N9 (x1, x2, x3, x4, x5, x6) σ) := by
  intro N9
  induction N9 with
  | zero => intro x1 x2 x3 x4 x5 x6  σ; exact k_no
  | succ N9 ih =>
    intro x1 x2 x3 x4 x5 x6  σ
    show Sm _ _ _ _ _ _ _ (f_X5_leastFor_b9 F (kFix (f_X5_leastFor_b9 F) N9) (x1, x2, x3, x4, x5, x6) σ)
    generalize kFix (f_X5_leastFor_b9 F) N9 = rr9 at ih
    have hrr9 := ih
    unfold f_X5_leastFor_b9
    dsimp only
    refine k_iload hk dX5_leastFor_9 6 rfl ?_
    refine k_iconst (v := 1) hk dX5_leastFor_11 (by decide) ?_
    refine k_aload_n hk dX5_leastFor_12 0 rfl ?_
    refine k_getr (k := 6) 4 0 hk dX5_leastFor_13 rfl (by decide) kc5 (by decide) fl_RX5_39 rfl rfl ?_
    refine k_getf (k := 13) hk dX5_leastFor_16 rfl (by decide) kc2 (by decide) fl_RX5_241 rfl ?_
    refine k_ishl hk dX5_leastFor_19 ?_
    refine k_icmp_ge hk dX5_leastFor_20 73 (by decide) (fun h4 => ?_) (fun h4 => ?_)
    · refine k_iload hk dX5_leastFor_73 4 rfl ?_
      exact k_ireturn hk he dX5_leastFor_75 (by decide)
    · refine k_aload_n hk dX5_leastFor_23 0 rfl ?_
      refine k_getr (k := 6) 4 0 hk dX5_leastFor_24 rfl (by decide) kc5 (by decide) fl_RX5_39 rfl rfl ?_
      refine k_iload hk dX5_leastFor_27 6 rfl ?_
      refine k_callVi (As := [.int x6]) (rest := []) hk he hro (c_X2_costOf hj hn hl F 0 x6 (by decide) σ) dX5_leastFor_29 cw_RX5_346 rfl (by decide) kc2 rfl ⟨by decide, by decide⟩ (by decide) rfl (Nat.le_of_ble_eq_true rfl) (fun c6 σ5 => ?_)
      refine k_istore (lv' := [(7, .int c6), (0, .ref (kad E 0 0)), (1, .int x1), (2, .int x2), (3, .int x3), (4, .int x4), (5, .int x5), (6, .int x6)]) hk dX5_leastFor_32 (by decide) rfl ?_
      refine k_iload hk dX5_leastFor_34 5 rfl ?_
      refine k_iconst (v := (-1)) hk dX5_leastFor_36 (by decide) ?_
      refine k_icmp_eq hk dX5_leastFor_37 47 (by decide) (fun h7 => ?_) (fun h7 => ?_)
      · exact k_sub [1, 2, 3, 4, 5, 6, 7, 0] rfl (s_X5_leastFor_b47 hj hn hl hk he hro F rr9 hrr9  x1 x2 x3 x4 x5 x6 c6  σ5)
      · refine k_iload hk dX5_leastFor_40 0 rfl ?_
        refine k_iload hk dX5_leastFor_42 6 rfl ?_
        refine k_icmp_ge hk dX5_leastFor_44 67 (by decide) (fun h8 => ?_) (fun h8 => ?_)
        · exact k_sub [1, 2, 3, 4, 5, 6, 7] rfl (s_X5_leastFor_b67 hj hn hl hk he hro F rr9 hrr9  x1 x2 x3 x4 x5 x6  σ5)
        · exact k_sub [1, 2, 3, 4, 5, 6, 7, 0] rfl (s_X5_leastFor_b47 hj hn hl hk he hro F rr9 hrr9  x1 x2 x3 x4 x5 x6 c6  σ5)
def f_X5_leastFor (F : Nat) (a1 : Int32) (a2 : Int32) (a3 : Int32) (σ : kS) : Option kR := kFix (f_X5_leastFor_b9 F) F (a1, a2, a3, (-1), 0, 0) σ
set_option maxRecDepth 20000 in
theorem c_X5_leastFor {l : Launch} {E : kE} (hj : kEj E) (hn : kNorm E) (hl : l.stackTraces = false) (F : Nat) (a1 : Int32) (a2 : Int32) (a3 : Int32)  (σ : kS) : kMet l E yX5_leastFor cX5_leastFor 8 (some .int) (6) (139) 0 id [.ref (kad E 0 0), .int a1, .int a2, .int a3] σ (f_X5_leastFor F a1 a2 a3 σ) := by
  refine k_met hj hn hl (by decide) (Nat.le_of_ble_eq_true rfl) (fun C Q hk he hro => ?_)
  have hk : kOk (C, E, Q) cX5_leastFor RX5 8 := hk
  show Sm (C, E, Q) 8 0 0 [(0, .ref (kad E 0 0)), (1, .int a1), (2, .int a2), (3, .int a3)] [] σ _
  unfold f_X5_leastFor
  refine k_iconst (v := (-1)) hk dX5_leastFor_0 (by decide) ?_
  refine k_istore (lv' := [(4, .int (-1)), (0, .ref (kad E 0 0)), (1, .int a1), (2, .int a2), (3, .int a3)]) hk dX5_leastFor_1 (by decide) rfl ?_
  refine k_iconst (v := 0) hk dX5_leastFor_3 (by decide) ?_
  refine k_istore (lv' := [(5, .int 0), (4, .int (-1)), (0, .ref (kad E 0 0)), (1, .int a1), (2, .int a2), (3, .int a3)]) hk dX5_leastFor_4 (by decide) rfl ?_
  refine k_iconst (v := 0) hk dX5_leastFor_6 (by decide) ?_
  refine k_istore (lv' := [(6, .int 0), (5, .int 0), (4, .int (-1)), (0, .ref (kad E 0 0)), (1, .int a1), (2, .int a2), (3, .int a3)]) hk dX5_leastFor_7 (by decide) rfl ?_
  exact k_sub [3, 4, 5, 6, 2, 1, 0] rfl (s_X5_leastFor_b9 hj hn hl hk he hro F F a1 a2 a3 (-1) 0 0  σ)
def f_X5_areAlike_b82 (F : Nat)  (σ : kS) : Option kR := some (.inl (some (.int 0)), σ)
set_option maxRecDepth 20000 in
theorem s_X5_areAlike_b82 {l : Launch} {E : kE} (hj : kEj E) (hn : kNorm E) (hl : l.stackTraces = false) {C : kC} {Q : kR → State → Prop} (hk : kOk (C, E, Q) cX5_areAlike RX5 5) (he : kEnd (C, E, Q) (some .boolean) id 0) (hro : kRo C l (1) (22) 0) (F : Nat) : ∀   (σ : kS), Sm (C, E, Q) 5 0 82 [] [] σ (f_X5_areAlike_b82 F  σ) := by
  intro   σ
  unfold f_X5_areAlike_b82
  refine k_iconst (v := 0) hk dX5_areAlike_82 (by decide) ?_
  exact k_zreturn_c hk he dX5_areAlike_83 (by decide) rfl
def f_X5_areAlike_b19 (F : Nat) (rr19 : (Nat × Nat × Int32 × Int32) → kS → Option kR) (a : (Nat × Nat × Int32 × Int32)) (σ : kS) : Option kR := match a with
  | (x0, x1, x2, x3) => if 8 ≤ x3 then (some (.inl (some (.int 1)), σ)) else (kb ((x2 * 8) + x3) fun y2 => kg (kin y2 800) (kg (kin y2 800) (if (σ.1 45 x0 y2.toNatClampNeg) = (σ.1 45 x1 y2.toNatClampNeg) then (kg (kin y2 800) (kg (kin y2 800) (if (σ.1 46 x0 y2.toNatClampNeg) = (σ.1 46 x1 y2.toNatClampNeg) then (kBi (f_X0_hasFireAt F x0 x3 x2 σ) fun c10 σ9 => kBi (f_X0_hasFireAt F x1 x3 x2 σ9) fun c12 σ11 => if c10 = c12 then (rr19 (x0, x1, x2, x3 + 1) σ11) else (f_X5_areAlike_b82 F  σ11)) else (f_X5_areAlike_b82 F  σ)))) else (f_X5_areAlike_b82 F  σ))))
set_option maxRecDepth 20000 in
theorem s_X5_areAlike_b19 {l : Launch} {E : kE} (hj : kEj E) (hn : kNorm E) (hl : l.stackTraces = false) {C : kC} {Q : kR → State → Prop} (hk : kOk (C, E, Q) cX5_areAlike RX5 5) (he : kEnd (C, E, Q) (some .boolean) id 0) (hro : kRo C l (1) (22) 0) (F : Nat) : ∀ (N9 : Nat) (x0 : Nat) (x1 : Nat) (x2 : Int32) (x3 : Int32) (hx0 : x0 < kCnt 40) (hx1 : x1 < kCnt 40) (σ : kS), Sm (C, E, Q) 5 0 19 [(0, .ref (kad E 40 x0)), (1, .ref (kad E 40 x1)), (2, .int x2), (3, .int x3)] [] σ (kFix (f_X5_areAlike_b19 F) N9 (x0, x1, x2, x3) σ) := by
  intro N9
  induction N9 with
  | zero => intro x0 x1 x2 x3 hx0 hx1 σ; exact k_no
  | succ N9 ih =>
    intro x0 x1 x2 x3 hx0 hx1 σ
    show Sm _ _ _ _ _ _ _ (f_X5_areAlike_b19 F (kFix (f_X5_areAlike_b19 F) N9) (x0, x1, x2, x3) σ)
    generalize kFix (f_X5_areAlike_b19 F) N9 = rr19 at ih
    have hrr19 := ih
    unfold f_X5_areAlike_b19
    dsimp only
    refine k_iload_n hk dX5_areAlike_19 3 rfl ?_
    refine k_bipush (v := 8) hk dX5_areAlike_20 (by decide) ?_
    refine k_icmp_ge hk dX5_areAlike_22 90 (by decide) (fun h1 => ?_) (fun h1 => ?_)
    · refine k_iconst (v := 1) hk dX5_areAlike_90 (by decide) ?_
      exact k_zreturn_c hk he dX5_areAlike_91 (by decide) rfl
    · refine k_iload_n hk dX5_areAlike_25 2 rfl ?_
      refine k_bipush (v := 8) hk dX5_areAlike_26 (by decide) ?_
      refine k_imul hk dX5_areAlike_28 ?_
      refine k_iload_n hk dX5_areAlike_29 3 rfl ?_
      refine k_iadd hk dX5_areAlike_30 ?_
      refine k_nm (fun y2 => ?_)
      refine k_istore (lv' := [(4, .int y2), (0, .ref (kad E 40 x0)), (1, .ref (kad E 40 x1)), (2, .int x2), (3, .int x3)]) hk dX5_areAlike_31 (by decide) rfl ?_
      refine k_aload_n hk dX5_areAlike_33 1 rfl ?_
      refine k_getr (k := 5) 45 x0 hk dX5_areAlike_34 rfl hx0 kc0 (by decide) fl_RX5_158 rfl rfl ?_
      refine k_iload hk dX5_areAlike_37 0 rfl ?_
      refine k_iald hk dX5_areAlike_39 rfl hx0 (fun h3 => ?_)
      refine k_aload_n hk dX5_areAlike_40 2 rfl ?_
      refine k_getr (k := 5) 45 x1 hk dX5_areAlike_41 rfl hx1 kc0 (by decide) fl_RX5_158 rfl rfl ?_
      refine k_iload hk dX5_areAlike_44 0 rfl ?_
      refine k_iald hk dX5_areAlike_46 rfl hx1 (fun h4 => ?_)
      refine k_icmp_ne hk dX5_areAlike_47 82 (by decide) (fun h5 => ?_) (fun h5 => ?_)
      · exact k_sub [] rfl (s_X5_areAlike_b82 hj hn hl hk he hro F    σ)
      · refine k_aload_n hk dX5_areAlike_50 1 rfl ?_
        refine k_getr (k := 6) 46 x0 hk dX5_areAlike_51 rfl hx0 kc0 (by decide) fl_RX5_159 rfl rfl ?_
        refine k_iload hk dX5_areAlike_54 0 rfl ?_
        refine k_iald hk dX5_areAlike_56 rfl hx0 (fun h6 => ?_)
        refine k_aload_n hk dX5_areAlike_57 2 rfl ?_
        refine k_getr (k := 6) 46 x1 hk dX5_areAlike_58 rfl hx1 kc0 (by decide) fl_RX5_159 rfl rfl ?_
        refine k_iload hk dX5_areAlike_61 0 rfl ?_
        refine k_iald hk dX5_areAlike_63 rfl hx1 (fun h7 => ?_)
        refine k_icmp_ne hk dX5_areAlike_64 82 (by decide) (fun h8 => ?_) (fun h8 => ?_)
        · exact k_sub [] rfl (s_X5_areAlike_b82 hj hn hl hk he hro F    σ)
        · refine k_aload_n hk dX5_areAlike_67 1 rfl ?_
          refine k_iload_n hk dX5_areAlike_68 4 rfl ?_
          refine k_iload_n hk dX5_areAlike_69 3 rfl ?_
          refine k_callVi (As := [.int x3, .int x2]) (rest := []) hk he hro (c_X0_hasFireAt hj hn hl F x0 x3 x2 hx0 σ) dX5_areAlike_70 cw_RX5_151 rfl hx0 kc0 rfl ⟨by decide, by decide⟩ (by decide) rfl (Nat.le_of_ble_eq_true rfl) (fun c10 σ9 => ?_)
          refine k_aload_n hk dX5_areAlike_73 2 rfl ?_
          refine k_iload_n hk dX5_areAlike_74 4 rfl ?_
          refine k_iload_n hk dX5_areAlike_75 3 rfl ?_
          refine k_callVi (As := [.int x3, .int x2]) (rest := [.int c10]) hk he hro (c_X0_hasFireAt hj hn hl F x1 x3 x2 hx1 σ9) dX5_areAlike_76 cw_RX5_151 rfl hx1 kc0 rfl ⟨by decide, by decide⟩ (by decide) rfl (Nat.le_of_ble_eq_true rfl) (fun c12 σ11 => ?_)
          refine k_icmp_eq hk dX5_areAlike_79 84 (by decide) (fun h13 => ?_) (fun h13 => ?_)
          · refine k_iinc (lv' := [(3, .int (x3 + 1)), (4, .int y2), (0, .ref (kad E 40 x0)), (1, .ref (kad E 40 x1)), (2, .int x2)]) (j := 4) (y := x3 + 1) hk dX5_areAlike_84 rfl rfl (by decide) rfl ?_
            refine k_goto hk dX5_areAlike_87 19 (by decide) ?_
            exact k_sub [2, 3, 4, 0] rfl (hrr19 x0 x1 x2 (x3 + 1) hx0 hx1 σ11)
          · exact k_sub [] rfl (s_X5_areAlike_b82 hj hn hl hk he hro F    σ11)
def f_X5_areAlike (F : Nat) (a0 : Nat) (a1 : Nat) (a2 : Int32) (σ : kS) : Option kR := kg (kin a2 100) (kg (kin a2 100) (if (σ.1 44 a0 a2.toNatClampNeg) = (σ.1 44 a1 a2.toNatClampNeg) then (kFix (f_X5_areAlike_b19 F) F (a0, a1, a2, 0) σ) else (some (.inl (some (.int 0)), σ))))
set_option maxRecDepth 20000 in
theorem c_X5_areAlike {l : Launch} {E : kE} (hj : kEj E) (hn : kNorm E) (hl : l.stackTraces = false) (F : Nat) (a0 : Nat) (a1 : Nat) (a2 : Int32) (ha0 : a0 < kCnt 40) (ha1 : a1 < kCnt 40) (σ : kS) : kMet l E yX5_areAlike cX5_areAlike 5 (some .boolean) (1) (22) 0 id [.ref (kad E 40 a0), .ref (kad E 40 a1), .int a2] σ (f_X5_areAlike F a0 a1 a2 σ) := by
  refine k_met hj hn hl (by decide) (Nat.le_of_ble_eq_true rfl) (fun C Q hk he hro => ?_)
  have hk : kOk (C, E, Q) cX5_areAlike RX5 5 := hk
  show Sm (C, E, Q) 5 0 0 [(0, .ref (kad E 40 a0)), (1, .ref (kad E 40 a1)), (2, .int a2)] [] σ _
  unfold f_X5_areAlike
  refine k_aload_n hk dX5_areAlike_0 0 rfl ?_
  refine k_getr (k := 4) 44 a0 hk dX5_areAlike_1 rfl ha0 kc0 (by decide) fl_RX5_137 rfl rfl ?_
  refine k_iload_n hk dX5_areAlike_4 2 rfl ?_
  refine k_iald hk dX5_areAlike_5 rfl ha0 (fun h14 => ?_)
  refine k_aload_n hk dX5_areAlike_6 1 rfl ?_
  refine k_getr (k := 4) 44 a1 hk dX5_areAlike_7 rfl ha1 kc0 (by decide) fl_RX5_137 rfl rfl ?_
  refine k_iload_n hk dX5_areAlike_10 2 rfl ?_
  refine k_iald hk dX5_areAlike_11 rfl ha1 (fun h15 => ?_)
  refine k_icmp_eq hk dX5_areAlike_12 17 (by decide) (fun h16 => ?_) (fun h16 => ?_)
  · refine k_iconst (v := 0) hk dX5_areAlike_17 (by decide) ?_
    refine k_istore_n (lv' := [(3, .int 0), (0, .ref (kad E 40 a0)), (1, .ref (kad E 40 a1)), (2, .int a2)]) hk dX5_areAlike_18 (by decide) rfl ?_
    exact k_sub [1, 2, 3, 0] rfl (s_X5_areAlike_b19 hj hn hl hk he hro F F a0 a1 a2 0 ha0 ha1 σ)
  · refine k_iconst (v := 0) hk dX5_areAlike_15 (by decide) ?_
    exact k_zreturn_c hk he dX5_areAlike_16 (by decide) rfl
