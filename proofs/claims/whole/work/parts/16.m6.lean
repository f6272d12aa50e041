def f_X6_next_b207 (F : Nat) (x5 : Int32) (σ : kS) : Option kR := some (.inl (some (.int x5)), σ)
set_option maxRecDepth 20000 in
theorem s_X6_next_b207 {l : Launch} {E : kE} (hj : kEj E) (hn : kNorm E) (hl : l.stackTraces = false) {C : kC} {Q : kR → State → Prop} (hk : kOk (C, E, Q) cX6_next RX6 11) (he : kEnd (C, E, Q) (some .int) id 1) (hro : kRo C l (7) (172) 1) (F : Nat) (h91 : 0 < kcnt E 91) : ∀ (x5 : Int32)  (σ : kS), Sm (C, E, Q) 11 1 207 [(5, .int x5)] [] σ (f_X6_next_b207 F x5 σ) := by
  intro x5  σ
  unfold f_X6_next_b207
  refine k_iload hk dX6_next_207 0 rfl ?_
  exact k_ireturn hk he dX6_next_209 (by decide)
def f_X6_next_b201 (F : Nat) (rr133 : (Int64 × Int32 × Int64 × Int32) → kS → Option kR) (x3 : Int64) (x5 : Int32) (x6 : Int64) (x8 : Int32) (σ : kS) : Option kR := rr133 (x3, x5, x6, x8 + 1) σ
set_option maxRecDepth 20000 in
theorem s_X6_next_b201 {l : Launch} {E : kE} (hj : kEj E) (hn : kNorm E) (hl : l.stackTraces = false) {C : kC} {Q : kR → State → Prop} (hk : kOk (C, E, Q) cX6_next RX6 11) (he : kEnd (C, E, Q) (some .int) id 1) (hro : kRo C l (7) (172) 1) (F : Nat) (h91 : 0 < kcnt E 91) (rr133 : (Int64 × Int32 × Int64 × Int32) → kS → Option kR) (hrr133 : ∀ (x3 : Int64) (x5 : Int32) (x6 : Int64) (x8 : Int32)  (σ : kS), Sm (C, E, Q) 11 1 133 [(0, .ref (kad E 48 0)), (2, .ref (kad E 91 0)), (3, .long x3), (5, .int x5), (6, .long x6), (8, .int x8)] [] σ (rr133 (x3, x5, x6, x8) σ)) : ∀ (x3 : Int64) (x5 : Int32) (x6 : Int64) (x8 : Int32)  (σ : kS), Sm (C, E, Q) 11 1 201 [(0, .ref (kad E 48 0)), (2, .ref (kad E 91 0)), (3, .long x3), (5, .int x5), (6, .long x6), (8, .int x8)] [] σ (f_X6_next_b201 F rr133 x3 x5 x6 x8 σ) := by
  intro x3 x5 x6 x8  σ
  unfold f_X6_next_b201
  refine k_iinc (lv' := [(8, .int (x8 + 1)), (0, .ref (kad E 48 0)), (2, .ref (kad E 91 0)), (3, .long x3), (5, .int x5), (6, .long x6)]) (j := 5) (y := x8 + 1) hk dX6_next_201 rfl rfl (by decide) rfl ?_
  refine k_goto hk dX6_next_204 133 (by decide) ?_
  exact k_sub [1, 2, 3, 4, 5, 0] rfl (hrr133 x3 x5 x6 (x8 + 1)  σ)
def f_X6_next_b193 (F : Nat) (rr133 : (Int64 × Int32 × Int64 × Int32) → kS → Option kR) (x3 : Int64) (x8 : Int32) (x9 : Int64) (σ : kS) : Option kR := f_X6_next_b201 F rr133 x3 x8 x9 x8 σ
set_option maxRecDepth 20000 in
theorem s_X6_next_b193 {l : Launch} {E : kE} (hj : kEj E) (hn : kNorm E) (hl : l.stackTraces = false) {C : kC} {Q : kR → State → Prop} (hk : kOk (C, E, Q) cX6_next RX6 11) (he : kEnd (C, E, Q) (some .int) id 1) (hro : kRo C l (7) (172) 1) (F : Nat) (h91 : 0 < kcnt E 91) (rr133 : (Int64 × Int32 × Int64 × Int32) → kS → Option kR) (hrr133 : ∀ (x3 : Int64) (x5 : Int32) (x6 : Int64) (x8 : Int32)  (σ : kS), Sm (C, E, Q) 11 1 133 [(0, .ref (kad E 48 0)), (2, .ref (kad E 91 0)), (3, .long x3), (5, .int x5), (6, .long x6), (8, .int x8)] [] σ (rr133 (x3, x5, x6, x8) σ)) : ∀ (x3 : Int64) (x8 : Int32) (x9 : Int64)  (σ : kS), Sm (C, E, Q) 11 1 193 [(0, .ref (kad E 48 0)), (2, .ref (kad E 91 0)), (3, .long x3), (8, .int x8), (9, .long x9)] [] σ (f_X6_next_b193 F rr133 x3 x8 x9 σ) := by
  intro x3 x8 x9  σ
  unfold f_X6_next_b193
  refine k_iload hk dX6_next_193 3 rfl ?_
  refine k_istore (lv' := [(5, .int x8), (0, .ref (kad E 48 0)), (2, .ref (kad E 91 0)), (3, .long x3), (8, .int x8), (9, .long x9)]) hk dX6_next_195 (by decide) rfl ?_
  refine k_lload hk dX6_next_197 5 rfl ?_
  refine k_lstore (lv' := [(6, .long x9), (5, .int x8), (0, .ref (kad E 48 0)), (2, .ref (kad E 91 0)), (3, .long x3), (8, .int x8), (9, .long x9)]) hk dX6_next_199 (by decide) rfl ?_
  exact k_sub [2, 3, 4, 1, 0, 5] rfl (s_X6_next_b201 hj hn hl hk he hro F h91 rr133 hrr133  x3 x8 x9 x8  σ)
def f_X6_next_b174 (F : Nat) (rr133 : (Int64 × Int32 × Int64 × Int32) → kS → Option kR) (x3 : Int64) (x5 : Int32) (x6 : Int64) (x8 : Int32) (t0 : Int64) (σ : kS) : Option kR := if x5 = (-1) then (f_X6_next_b193 F rr133 x3 x8 t0 σ) else (if (lg_cmp t0 x6) < 0 then (f_X6_next_b193 F rr133 x3 x8 t0 σ) else (f_X6_next_b201 F rr133 x3 x5 x6 x8 σ))
set_option maxRecDepth 20000 in
theorem s_X6_next_b174 {l : Launch} {E : kE} (hj : kEj E) (hn : kNorm E) (hl : l.stackTraces = false) {C : kC} {Q : kR → State → Prop} (hk : kOk (C, E, Q) cX6_next RX6 11) (he : kEnd (C, E, Q) (some .int) id 1) (hro : kRo C l (7) (172) 1) (F : Nat) (h91 : 0 < kcnt E 91) (rr133 : (Int64 × Int32 × Int64 × Int32) → kS → Option kR) (hrr133 : ∀ (x3 : Int64) (x5 : Int32) (x6 : Int64) (x8 : Int32)  (σ : kS), Sm (C, E, Q) 11 1 133 [(0, .ref (kad E 48 0)), (2, .ref (kad E 91 0)), (3, .long x3), (5, .int x5), (6, .long x6), (8, .int x8)] [] σ (rr133 (x3, x5, x6, x8) σ)) : ∀ (x3 : Int64) (x5 : Int32) (x6 : Int64) (x8 : Int32) (t0 : Int64)  (σ : kS), Sm (C, E, Q) 11 1 174 [(0, .ref (kad E 48 0)), (2, .ref (kad E 91 0)), (3, .long x3), (5, .int x5), (6, .long x6), (8, .int x8)] [.long t0] σ (f_X6_next_b174 F rr133 x3 x5 x6 x8 t0 σ) := by
  intro x3 x5 x6 x8 t0  σ
  unfold f_X6_next_b174
  refine k_lstore (lv' := [(9, .long t0), (0, .ref (kad E 48 0)), (2, .ref (kad E 91 0)), (3, .long x3), (5, .int x5), (6, .long x6), (8, .int x8)]) hk dX6_next_174 (by decide) rfl ?_
  refine k_iload hk dX6_next_176 4 rfl ?_
  refine k_iconst (v := (-1)) hk dX6_next_178 (by decide) ?_
  refine k_icmp_eq hk dX6_next_179 193 (by decide) (fun h1 => ?_) (fun h1 => ?_)
  · exact k_sub [1, 2, 3, 6, 0] rfl (s_X6_next_b193 hj hn hl hk he hro F h91 rr133 hrr133  x3 x8 t0  σ)
  · refine k_lload hk dX6_next_182 0 rfl ?_
    refine k_lload hk dX6_next_184 5 rfl ?_
    refine k_lcmp hk dX6_next_186 ?_
    refine k_if_lt hk dX6_next_187 193 (by decide) (fun h2 => ?_) (fun h2 => ?_)
    · exact k_sub [1, 2, 3, 6, 0] rfl (s_X6_next_b193 hj hn hl hk he hro F h91 rr133 hrr133  x3 x8 t0  σ)
    · refine k_goto hk dX6_next_190 201 (by decide) ?_
      exact k_sub [1, 2, 3, 4, 5, 6] rfl (s_X6_next_b201 hj hn hl hk he hro F h91 rr133 hrr133  x3 x5 x6 x8  σ)
def f_X6_next_b133 (F : Nat) (rr133 : (Int64 × Int32 × Int64 × Int32) → kS → Option kR) (a : (Int64 × Int32 × Int64 × Int32)) (σ : kS) : Option kR := match a with
  | (x3, x5, x6, x8) => if 8 ≤ x8 then (f_X6_next_b207 F x5 σ) else (if (σ.1 48 0 13) ≤ 0 then (f_X6_next_b207 F x5 σ) else (kg (kin x8 8) (kg (kin x8 8) (if (lg_cmp (σ.2 91 0 x8.toNatClampNeg) (x3 - (σ.2 91 0 x8.toNatClampNeg))) ≤ 0 then (kg (kin x8 8) (f_X6_next_b174 F rr133 x3 x5 x6 x8 (x3 - (σ.2 91 0 x8.toNatClampNeg)) σ)) else (kg (kin x8 8) (f_X6_next_b174 F rr133 x3 x5 x6 x8 (σ.2 91 0 x8.toNatClampNeg) σ))))))
set_option maxRecDepth 20000 in
theorem s_X6_next_b133 {l : Launch} {E : kE} (hj : kEj E) (hn : kNorm E) (hl : l.stackTraces = false) {C : kC} {Q : kR → State → Prop} (hk : kOk (C, E, Q) cX6_next RX6 11) (he : kEnd (C, E, Q) (some .int) id 1) (hro : kRo C l (7) (172) 1) (F : Nat) (h91 : 0 < kcnt E 91) : ∀ (N9 : Nat) (x3 : Int64) (x5 : Int32) (x6 : Int64) (x8 : Int32)  (σ : kS), Sm (C, E, Q) 11 1 133 [(0, .ref (kad E 48 0)), (2, .ref (kad E 91 0)), (3, .long x3), (5, .int x5), (6, .long x6), (8, .int x8)] [] σ (kFix (f_X6_next_b133 F) N9 (x3, x5, x6, x8) σ) := by
  intro N9
  induction N9 with
  | zero => intro x3 x5 x6 x8  σ; exact k_no
  | succ N9 ih =>
    intro x3 x5 x6 x8  σ
    show Sm _ _ _ _ _ _ _ (f_X6_next_b133 F (kFix (f_X6_next_b133 F) N9) (x3, x5, x6, x8) σ)
    generalize kFix (f_X6_next_b133 F) N9 = rr133 at ih
    have hrr133 := ih
    unfold f_X6_next_b133
    dsimp only
    refine k_iload hk dX6_next_133 5 rfl ?_
    refine k_bipush (v := 8) hk dX6_next_135 (by decide) ?_
    refine k_icmp_ge hk dX6_next_137 207 (by decide) (fun h3 => ?_) (fun h3 => ?_)
    · exact k_sub [3] rfl (s_X6_next_b207 hj hn hl hk he hro F h91  x5  σ)
    · refine k_aload_n hk dX6_next_140 0 rfl ?_
      refine k_getf (k := 13) hk dX6_next_141 rfl (by decide) kc6 (by decide) fl_RX6_224 rfl ?_
      refine k_if_le hk dX6_next_144 207 (by decide) (fun h4 => ?_) (fun h4 => ?_)
      · exact k_sub [3] rfl (s_X6_next_b207 hj hn hl hk he hro F h91  x5  σ)
      · refine k_aload_n hk dX6_next_147 1 rfl ?_
        refine k_iload hk dX6_next_148 5 rfl ?_
        refine k_lald91 hk h91 dX6_next_150 (fun h5 => ?_)
        refine k_lload_n hk dX6_next_151 2 rfl ?_
        refine k_aload_n hk dX6_next_152 1 rfl ?_
        refine k_iload hk dX6_next_153 5 rfl ?_
        refine k_lald91 hk h91 dX6_next_155 (fun h6 => ?_)
        refine k_lsub hk dX6_next_156 ?_
        refine k_lcmp hk dX6_next_157 ?_
        refine k_if_le hk dX6_next_158 168 (by decide) (fun h7 => ?_) (fun h7 => ?_)
        · refine k_lload_n hk dX6_next_168 2 rfl ?_
          refine k_aload_n hk dX6_next_169 1 rfl ?_
          refine k_iload hk dX6_next_170 5 rfl ?_
          refine k_lald91 hk h91 dX6_next_172 (fun h8 => ?_)
          refine k_lsub hk dX6_next_173 ?_
          exact k_sub [0, 1, 2, 3, 4, 5] rfl (s_X6_next_b174 hj hn hl hk he hro F h91 rr133 hrr133  x3 x5 x6 x8 (x3 - (σ.2 91 0 x8.toNatClampNeg))  σ)
        · refine k_aload_n hk dX6_next_161 1 rfl ?_
          refine k_iload hk dX6_next_162 5 rfl ?_
          refine k_lald91 hk h91 dX6_next_164 (fun h9 => ?_)
          refine k_goto hk dX6_next_165 174 (by decide) ?_
          exact k_sub [0, 1, 2, 3, 4, 5] rfl (s_X6_next_b174 hj hn hl hk he hro F h91 rr133 hrr133  x3 x5 x6 x8 (σ.2 91 0 x8.toNatClampNeg)  σ)
def f_X6_next_b110 (F : Nat) (rr77 : (Int32 × Int64 × Int32 × Int32) → kS → Option kR) (x1 : Int32) (x3 : Int64) (x5 : Int32) (x6 : Int32) (t1 : Int32) (t2 : Int64) (t3 : Int64) (σ : kS) : Option kR := kg (kin t1 8) (kb (kUL σ 91 0 t1.toNatClampNeg (t2 + t3)) fun σ10 => rr77 (x1, x3, x5, x6 + 1) σ10)
set_option maxRecDepth 20000 in
theorem s_X6_next_b110 {l : Launch} {E : kE} (hj : kEj E) (hn : kNorm E) (hl : l.stackTraces = false) {C : kC} {Q : kR → State → Prop} (hk : kOk (C, E, Q) cX6_next RX6 11) (he : kEnd (C, E, Q) (some .int) id 1) (hro : kRo C l (7) (172) 1) (F : Nat) (h91 : 0 < kcnt E 91) (rr77 : (Int32 × Int64 × Int32 × Int32) → kS → Option kR) (hrr77 : ∀ (x1 : Int32) (x3 : Int64) (x5 : Int32) (x6 : Int32)  (σ : kS), Sm (C, E, Q) 11 1 77 [(0, .ref (kad E 48 0)), (1, .int x1), (2, .ref (kad E 91 0)), (3, .long x3), (5, .int x5), (6, .int x6)] [] σ (rr77 (x1, x3, x5, x6) σ)) : ∀ (x1 : Int32) (x3 : Int64) (x5 : Int32) (x6 : Int32) (t1 : Int32) (t2 : Int64) (t3 : Int64)  (σ : kS), Sm (C, E, Q) 11 1 110 [(0, .ref (kad E 48 0)), (1, .int x1), (2, .ref (kad E 91 0)), (3, .long x3), (5, .int x5), (6, .int x6)] [.long t3, .long t2, .int t1, .ref (kad E 91 0)] σ (f_X6_next_b110 F rr77 x1 x3 x5 x6 t1 t2 t3 σ) := by
  intro x1 x3 x5 x6 t1 t2 t3  σ
  unfold f_X6_next_b110
  refine k_ladd hk dX6_next_110 ?_
  refine k_last91 hk h91 dX6_next_111 (fun h11 σ10 => ?_)
  refine k_iinc (lv' := [(6, .int (x6 + 1)), (0, .ref (kad E 48 0)), (1, .int x1), (2, .ref (kad E 91 0)), (3, .long x3), (5, .int x5)]) (j := 5) (y := x6 + 1) hk dX6_next_112 rfl rfl (by decide) rfl ?_
  refine k_goto hk dX6_next_115 77 (by decide) ?_
  exact k_sub [1, 2, 3, 4, 5, 0] rfl (hrr77 x1 x3 x5 (x6 + 1)  σ10)
def f_X6_next_b77 (F : Nat) (rr49 : (Int32 × Int64 × Int32) → kS → Option kR) (rr77 : (Int32 × Int64 × Int32 × Int32) → kS → Option kR) (a : (Int32 × Int64 × Int32 × Int32)) (σ : kS) : Option kR := match a with
  | (x1, x3, x5, x6) => if 8 ≤ x6 then (rr49 (x1, x3, x5 + 1) σ) else (kg (kin x6 8) (kBi (f_X6_isLit F x6 x1 σ) fun c15 σ14 => if c15 = 0 then (f_X6_next_b110 F rr77 x1 x3 x5 x6 x6 (σ.2 91 0 x6.toNatClampNeg) 0 σ14) else (kg (kin x5 6) (f_X6_next_b110 F rr77 x1 x3 x5 x6 x6 (σ.2 91 0 x6.toNatClampNeg) (σ14.2 89 0 x5.toNatClampNeg) σ14))))
set_option maxRecDepth 20000 in
theorem s_X6_next_b77 {l : Launch} {E : kE} (hj : kEj E) (hn : kNorm E) (hl : l.stackTraces = false) {C : kC} {Q : kR → State → Prop} (hk : kOk (C, E, Q) cX6_next RX6 11) (he : kEnd (C, E, Q) (some .int) id 1) (hro : kRo C l (7) (172) 1) (F : Nat) (h91 : 0 < kcnt E 91) (rr49 : (Int32 × Int64 × Int32) → kS → Option kR) (hrr49 : ∀ (x1 : Int32) (x3 : Int64) (x5 : Int32)  (σ : kS), Sm (C, E, Q) 11 1 49 [(0, .ref (kad E 48 0)), (1, .int x1), (2, .ref (kad E 91 0)), (3, .long x3), (5, .int x5)] [] σ (rr49 (x1, x3, x5) σ)) : ∀ (N9 : Nat) (x1 : Int32) (x3 : Int64) (x5 : Int32) (x6 : Int32)  (σ : kS), Sm (C, E, Q) 11 1 77 [(0, .ref (kad E 48 0)), (1, .int x1), (2, .ref (kad E 91 0)), (3, .long x3), (5, .int x5), (6, .int x6)] [] σ (kFix (f_X6_next_b77 F rr49) N9 (x1, x3, x5, x6) σ) := by
  intro N9
  induction N9 with
  | zero => intro x1 x3 x5 x6  σ; exact k_no
  | succ N9 ih =>
    intro x1 x3 x5 x6  σ
    show Sm _ _ _ _ _ _ _ (f_X6_next_b77 F rr49 (kFix (f_X6_next_b77 F rr49) N9) (x1, x3, x5, x6) σ)
    generalize kFix (f_X6_next_b77 F rr49) N9 = rr77 at ih
    have hrr77 := ih
    unfold f_X6_next_b77
    dsimp only
    refine k_iload hk dX6_next_77 5 rfl ?_
    refine k_bipush (v := 8) hk dX6_next_79 (by decide) ?_
    refine k_icmp_ge hk dX6_next_81 118 (by decide) (fun h12 => ?_) (fun h12 => ?_)
    · refine k_iinc (lv' := [(5, .int (x5 + 1)), (0, .ref (kad E 48 0)), (1, .int x1), (2, .ref (kad E 91 0)), (3, .long x3), (6, .int x6)]) (j := 4) (y := x5 + 1) hk dX6_next_118 rfl rfl (by decide) rfl ?_
      refine k_goto hk dX6_next_121 49 (by decide) ?_
      exact k_sub [1, 2, 3, 4, 0] rfl (hrr49 x1 x3 (x5 + 1)  σ)
    · refine k_aload_n hk dX6_next_84 2 rfl ?_
      refine k_iload hk dX6_next_85 5 rfl ?_
      refine k_dup2 hk dX6_next_87 rfl rfl ?_
      refine k_lald91 hk h91 dX6_next_88 (fun h13 => ?_)
      refine k_aload_n hk dX6_next_89 0 rfl ?_
      refine k_iload hk dX6_next_90 5 rfl ?_
      refine k_iload_n hk dX6_next_92 1 rfl ?_
      refine k_callVi (As := [.int x6, .int x1]) (rest := [.long (σ.2 91 0 x6.toNatClampNeg), .int x6, .ref (kad E 91 0)]) hk he hro (c_X6_isLit hj hn hl F x6 x1  σ) dX6_next_93 cw_RX6_282 rfl (by decide) kc6 rfl ⟨by decide, by decide⟩ (by decide) rfl (Nat.le_of_ble_eq_true rfl) (fun c15 σ14 => ?_)
      refine k_if_eq hk dX6_next_96 109 (by decide) (fun h16 => ?_) (fun h16 => ?_)
      · refine k_lconst (v := 0) hk dX6_next_109 (by decide) ?_
        exact k_sub [0, 1, 2, 3, 4, 5] rfl (s_X6_next_b110 hj hn hl hk he hro F h91 rr77 hrr77  x1 x3 x5 x6 x6 (σ.2 91 0 x6.toNatClampNeg) 0  σ14)
      · refine k_aload_n hk dX6_next_99 0 rfl ?_
        refine k_getr (k := 52) 89 0 hk dX6_next_100 rfl (by decide) kc6 (by decide) fl_RX6_109 rfl rfl ?_
        refine k_iload hk dX6_next_103 4 rfl ?_
        refine k_lald hk dX6_next_105 rfl (by decide) (fun h17 => ?_)
        refine k_goto hk dX6_next_106 110 (by decide) ?_
        exact k_sub [0, 1, 2, 3, 4, 5] rfl (s_X6_next_b110 hj hn hl hk he hro F h91 rr77 hrr77  x1 x3 x5 x6 x6 (σ.2 91 0 x6.toNatClampNeg) (σ14.2 89 0 x5.toNatClampNeg)  σ14)
def f_X6_next_b49 (F : Nat) (rr49 : (Int32 × Int64 × Int32) → kS → Option kR) (a : (Int32 × Int64 × Int32)) (σ : kS) : Option kR := match a with
  | (x1, x3, x5) => if (σ.1 48 0 13) ≤ x5 then (kFix (f_X6_next_b133 F) F (x3, (-1), 0, 0) σ) else (kBv (f_X6_runs F x5 σ) fun σ19 => kg (kin x5 6) (kb (x3 + (σ19.2 89 0 x5.toNatClampNeg)) fun y21 => kFix (f_X6_next_b77 F rr49) F (x1, y21, x5, 0) σ19))
set_option maxRecDepth 20000 in
theorem s_X6_next_b49 {l : Launch} {E : kE} (hj : kEj E) (hn : kNorm E) (hl : l.stackTraces = false) {C : kC} {Q : kR → State → Prop} (hk : kOk (C, E, Q) cX6_next RX6 11) (he : kEnd (C, E, Q) (some .int) id 1) (hro : kRo C l (7) (172) 1) (F : Nat) (h91 : 0 < kcnt E 91) : ∀ (N9 : Nat) (x1 : Int32) (x3 : Int64) (x5 : Int32)  (σ : kS), Sm (C, E, Q) 11 1 49 [(0, .ref (kad E 48 0)), (1, .int x1), (2, .ref (kad E 91 0)), (3, .long x3), (5, .int x5)] [] σ (kFix (f_X6_next_b49 F) N9 (x1, x3, x5) σ) := by
  intro N9
  induction N9 with
  | zero => intro x1 x3 x5  σ; exact k_no
  | succ N9 ih =>
    intro x1 x3 x5  σ
    show Sm _ _ _ _ _ _ _ (f_X6_next_b49 F (kFix (f_X6_next_b49 F) N9) (x1, x3, x5) σ)
    generalize kFix (f_X6_next_b49 F) N9 = rr49 at ih
    have hrr49 := ih
    unfold f_X6_next_b49
    dsimp only
    refine k_iload hk dX6_next_49 4 rfl ?_
    refine k_aload_n hk dX6_next_51 0 rfl ?_
    refine k_getf (k := 13) hk dX6_next_52 rfl (by decide) kc6 (by decide) fl_RX6_224 rfl ?_
    refine k_icmp_ge hk dX6_next_55 124 (by decide) (fun h18 => ?_) (fun h18 => ?_)
    · refine k_iconst (v := (-1)) hk dX6_next_124 (by decide) ?_
      refine k_istore (lv' := [(5, .int (-1)), (0, .ref (kad E 48 0)), (1, .int x1), (2, .ref (kad E 91 0)), (3, .long x3)]) hk dX6_next_125 (by decide) rfl ?_
      refine k_lconst (v := 0) hk dX6_next_127 (by decide) ?_
      refine k_lstore (lv' := [(6, .long 0), (5, .int (-1)), (0, .ref (kad E 48 0)), (1, .int x1), (2, .ref (kad E 91 0)), (3, .long x3)]) hk dX6_next_128 (by decide) rfl ?_
      refine k_iconst (v := 0) hk dX6_next_130 (by decide) ?_
      refine k_istore (lv' := [(8, .int 0), (6, .long 0), (5, .int (-1)), (0, .ref (kad E 48 0)), (1, .int x1), (2, .ref (kad E 91 0)), (3, .long x3)]) hk dX6_next_131 (by decide) rfl ?_
      exact k_sub [3, 5, 6, 2, 1, 0] rfl (s_X6_next_b133 hj hn hl hk he hro F h91 F x3 (-1) 0 0  σ)
    · refine k_aload_n hk dX6_next_58 0 rfl ?_
      refine k_iload hk dX6_next_59 4 rfl ?_
      refine k_callVv (As := [.int x5]) (rest := []) hk he hro (c_X6_runs hj hn hl F x5  σ) dX6_next_61 cw_RX6_279 rfl (by decide) kc6 rfl ⟨by decide, by decide⟩ (by decide) rfl (Nat.le_of_ble_eq_true rfl) (fun σ19 => ?_)
      refine k_lload_n hk dX6_next_64 3 rfl ?_
      refine k_aload_n hk dX6_next_65 0 rfl ?_
      refine k_getr (k := 52) 89 0 hk dX6_next_66 rfl (by decide) kc6 (by decide) fl_RX6_109 rfl rfl ?_
      refine k_iload hk dX6_next_69 4 rfl ?_
      refine k_lald hk dX6_next_71 rfl (by decide) (fun h20 => ?_)
      refine k_ladd hk dX6_next_72 ?_
      refine k_nml (fun y21 => ?_)
      refine k_lstore_n (lv' := [(3, .long y21), (0, .ref (kad E 48 0)), (1, .int x1), (2, .ref (kad E 91 0)), (5, .int x5)]) hk dX6_next_73 (by decide) rfl ?_
      refine k_iconst (v := 0) hk dX6_next_74 (by decide) ?_
      refine k_istore (lv' := [(6, .int 0), (3, .long y21), (0, .ref (kad E 48 0)), (1, .int x1), (2, .ref (kad E 91 0)), (5, .int x5)]) hk dX6_next_75 (by decide) rfl ?_
      exact k_sub [2, 3, 4, 1, 5, 0] rfl (s_X6_next_b77 hj hn hl hk he hro F h91 rr49 hrr49 F x1 y21 x5 0  σ19)
def f_X6_next_b21 (F : Nat) (x1 : Int32) (t1 : Int32) (σ : kS) : Option kR := kBi (f_X6_bad F t1 1 σ) fun c23 σ22 => if c23 = 0 then (kBi (f_X6_allRows F  σ22) fun c26 σ25 => kBv (f_X6_findOdds F c26 1 σ25) fun σ27 => kb (kZ8 σ27) fun σ28 => kFix (f_X6_next_b49 F) F (x1, 0, 0) σ28) else (some (.inl (some (.int 0)), σ22))
set_option maxRecDepth 20000 in
theorem s_X6_next_b21 {l : Launch} {E : kE} (hj : kEj E) (hn : kNorm E) (hl : l.stackTraces = false) {C : kC} {Q : kR → State → Prop} (hk : kOk (C, E, Q) cX6_next RX6 11) (he : kEnd (C, E, Q) (some .int) id 1) (hro : kRo C l (7) (172) 1) (F : Nat) (h0 : kcnt E 91 = 0) : ∀ (x1 : Int32) (t1 : Int32)  (σ : kS), Sm (C, E, Q) 11 0 21 [(0, .ref (kad E 48 0)), (1, .int x1)] [.int t1, .ref (kad E 48 0)] σ (f_X6_next_b21 F x1 t1 σ) := by
  intro x1 t1  σ
  unfold f_X6_next_b21
  refine k_iconst (v := 1) hk dX6_next_21 (by decide) ?_
  refine k_callVi (As := [.int t1, .int 1]) (rest := []) hk he hro (c_X6_bad hj hn hl F t1 1  σ) dX6_next_22 cw_RX6_220 rfl (by decide) kc6 rfl ⟨by decide, by decide⟩ (by decide) rfl (Nat.le_of_ble_eq_true rfl) (fun c23 σ22 => ?_)
  refine k_if_eq hk dX6_next_25 30 (by decide) (fun h24 => ?_) (fun h24 => ?_)
  · refine k_aload_n hk dX6_next_30 0 rfl ?_
    refine k_aload_n hk dX6_next_31 0 rfl ?_
    refine k_callVi (As := []) (rest := [.ref (kad E 48 0)]) hk he hro (c_X6_allRows hj hn hl F   σ22) dX6_next_32 cw_RX6_320 rfl (by decide) kc6 rfl ⟨by decide, by decide⟩ (by decide) rfl (Nat.le_of_ble_eq_true rfl) (fun c26 σ25 => ?_)
    refine k_iconst (v := 1) hk dX6_next_35 (by decide) ?_
    refine k_callVv (As := [.int c26, .int 1]) (rest := []) hk he hro (c_X6_findOdds hj hn hl F c26 1  σ25) dX6_next_36 cw_RX6_323 rfl (by decide) kc6 rfl ⟨by decide, by decide⟩ (by decide) rfl (Nat.le_of_ble_eq_true rfl) (fun σ27 => ?_)
    refine k_bipush (v := 8) hk dX6_next_39 (by decide) ?_
    refine k_newW hj hn hk he hro h0 dX6_next_41 (kTB_mk (lwt2 (List.mem_of_getElem? (i := 80) rfl)) rfl) (by decide) (fun E Q hj hn hk he h91 σ28 => ?_)
    refine k_astore_n (lv' := [(2, .ref (kad E 91 0)), (0, .ref (kad E 48 0)), (1, .int x1)]) hk dX6_next_43 (by decide) rfl ?_
    refine k_lconst (v := 0) hk dX6_next_44 (by decide) ?_
    refine k_lstore_n (lv' := [(3, .long 0), (2, .ref (kad E 91 0)), (0, .ref (kad E 48 0)), (1, .int x1)]) hk dX6_next_45 (by decide) rfl ?_
    refine k_iconst (v := 0) hk dX6_next_46 (by decide) ?_
    refine k_istore (lv' := [(5, .int 0), (3, .long 0), (2, .ref (kad E 91 0)), (0, .ref (kad E 48 0)), (1, .int x1)]) hk dX6_next_47 (by decide) rfl ?_
    exact k_sub [3, 4, 2, 1, 0] rfl (s_X6_next_b49 hj hn hl hk he hro F h91 F x1 0 0  σ28)
  · refine k_iconst (v := 0) hk dX6_next_28 (by decide) ?_
    exact k_ireturn hk he dX6_next_29 (by decide)
def f_X6_next (F : Nat) (a1 : Int32) (σ : kS) : Option kR := kb (kU σ 48 0 0 0) fun σ29 => kBi (f_X6_in F a1 0 99 σ29) fun c31 σ30 => if c31 = 0 then (f_X6_next_b21 F a1 1 σ30) else (f_X6_next_b21 F a1 0 σ30)
set_option maxRecDepth 20000 in
theorem c_X6_next {l : Launch} {E : kE} (hj : kEj E) (hn : kNorm E) (hl : l.stackTraces = false) (h0 : kcnt E 91 = 0) (F : Nat) (a1 : Int32)  (σ : kS) : kMet l E yX6_next cX6_next 11 (some .int) (7) (172) 1 id [.ref (kad E 48 0), .int a1] σ (f_X6_next F a1 σ) := by
  refine k_met hj hn hl (by decide) (Nat.le_of_ble_eq_true rfl) (fun C Q hk he hro => ?_)
  have hk : kOk (C, E, Q) cX6_next RX6 11 := hk
  show Sm (C, E, Q) 11 0 0 [(0, .ref (kad E 48 0)), (1, .int a1)] [] σ _
  unfold f_X6_next
  refine k_aload_n hk dX6_next_0 0 rfl ?_
  refine k_iconst (v := 0) hk dX6_next_1 (by decide) ?_
  refine k_putf (k := 0) hk dX6_next_2 rfl (by decide) kc6 (by decide) fl_RX6_113 rfl rfl rfl rfl (fun σ29 => ?_)
  refine k_aload_n hk dX6_next_5 0 rfl ?_
  refine k_iload_n hk dX6_next_6 1 rfl ?_
  refine k_iconst (v := 0) hk dX6_next_7 (by decide) ?_
  refine k_bipush (v := 99) hk dX6_next_8 (by decide) ?_
  refine k_callSi (As := [.int a1, .int 0, .int 99]) (rest := [.ref (kad E 48 0)]) hk he hro (c_X6_in hj hn hl F a1 0 99  σ29) dX6_next_10 cw_RX6_150 ⟨by decide, by decide⟩ (by decide) rfl (Nat.le_of_ble_eq_true rfl) (fun c31 σ30 => ?_)
  refine k_if_ne hk dX6_next_13 20 (by decide) (fun h32 => ?_) (fun h32 => ?_)
  · refine k_iconst (v := 0) hk dX6_next_20 (by decide) ?_
    exact k_sub [0, 1] rfl (s_X6_next_b21 hj hn hl hk he hro F h0  a1 0  σ30)
  · refine k_iconst (v := 1) hk dX6_next_16 (by decide) ?_
    refine k_goto hk dX6_next_17 21 (by decide) ?_
    exact k_sub [0, 1] rfl (s_X6_next_b21 hj hn hl hk he hro F h0  a1 1  σ30)
