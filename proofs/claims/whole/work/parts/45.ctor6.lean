def bv_X6 (E : kE) (h : Nat) : Nat → Value := bU (bU (bU (bU (bU (bU (bU (bU (bU (bU (bU (bU (bU (bU (bU (bU (bU (bU (bU (bU (bU (bU (bU (bU (bU (bU (bU (bU (bU (bU (bU (bU (bU (bV6) 3 (.int (-1))) 10 (.ref (h + 0))) 11 (.ref (h + 1))) 12 (.ref (h + 2))) 14 (.ref (h + 18))) 15 (.ref (h + 25))) 16 (.ref (h + 110))) 17 (.ref (h + 111))) 18 (.ref (h + 112))) 19 (.ref (h + 113))) 20 (.ref (h + 114))) 21 (.ref (h + 115))) 22 (.ref (h + 116))) 23 (.ref (h + 117))) 24 (.ref (h + 118))) 25 (.ref (h + 119))) 26 (.ref (h + 120))) 27 (.ref (h + 221))) 28 (.ref (h + 322))) 29 (.ref (h + 423))) 30 (.ref (h + 524))) 31 (.ref (h + 525))) 32 (.ref (h + 526))) 33 (.ref (h + 527))) 34 (.ref (h + 528))) 35 (.ref (h + 529))) 39 (.int (-1))) 41 (.int (-1))) 47 (.ref (h + 530))) 48 (.ref (h + 541))) 49 (.ref (h + 552))) 50 (.ref (h + 558))) 52 (.ref (h + 562))
def bf_X6 (E : kE) (h : Nat) : Nat → bC := bU (bA (bA (bA (bA (bU (bU (bU (bU (bU (bU (bA (bA (bA (bA (bU (bU (bU (bU (bU (bU (bU (bU (bU (bU (bU (bU (bU (bU (bU (bU (bU (bU (bU (bU (bU (bU (bU (bU (bU (bU (bU (bU (bA (bA (bA (bU (bU (bNil) 0 (.inr (kcA E (bg 0), 300, fun _ => .int 0))) 1 (.inr (kcA E (bg 0), 400, fun _ => .int 0))) 2 (bM E (h + 2) 15 4)) 18 (bM E (h + 18) 6 400)) 25 (bM E (h + 25) 84 4)) 110 (.inr (kcA E (bg 0), 6, fun _ => .int 0))) 111 (.inr (kcA E (bg 0), 6, fun _ => .int 0))) 112 (.inr (kcA E (bg 0), 120, fun _ => .int 0))) 113 (.inr (kcA E (bg 0), 7, fun _ => .int 0))) 114 (.inr (kcA E (bg 0), 10, fun _ => .int 0))) 114 (.inr (kcA E 8, 10, bU (fun _ => .int 0) 0 (.int 2)))) 114 (.inr (kcA E 8, 10, bU (bU (fun _ => .int 0) 0 (.int 2)) 1 (.int 20)))) 114 (.inr (kcA E 8, 10, bU (bU (bU (fun _ => .int 0) 0 (.int 2)) 1 (.int 20)) 2 (.int 200)))) 114 (.inr (kcA E 8, 10, bU (bU (bU (bU (fun _ => .int 0) 0 (.int 2)) 1 (.int 20)) 2 (.int 200)) 3 (.int 15)))) 114 (.inr (kcA E 8, 10, bU (bU (bU (bU (bU (fun _ => .int 0) 0 (.int 2)) 1 (.int 20)) 2 (.int 200)) 3 (.int 15)) 4 (.int 3)))) 114 (.inr (kcA E 8, 10, bU (bU (bU (bU (bU (bU (fun _ => .int 0) 0 (.int 2)) 1 (.int 20)) 2 (.int 200)) 3 (.int 15)) 4 (.int 3)) 5 (.int 2)))) 114 (.inr (kcA E 8, 10, bU (bU (bU (bU (bU (bU (bU (fun _ => .int 0) 0 (.int 2)) 1 (.int 20)) 2 (.int 200)) 3 (.int 15)) 4 (.int 3)) 5 (.int 2)) 6 (.int 20)))) 114 (.inr (kcA E 8, 10, bU (bU (bU (bU (bU (bU (bU (bU (fun _ => .int 0) 0 (.int 2)) 1 (.int 20)) 2 (.int 200)) 3 (.int 15)) 4 (.int 3)) 5 (.int 2)) 6 (.int 20)) 7 (.int 600)))) 114 (.inr (kcA E 8, 10, bU (bU (bU (bU (bU (bU (bU (bU (bU (fun _ => .int 0) 0 (.int 2)) 1 (.int 20)) 2 (.int 200)) 3 (.int 15)) 4 (.int 3)) 5 (.int 2)) 6 (.int 20)) 7 (.int 600)) 8 (.int 6)))) 114 (.inr (kcA E 8, 10, bU (bU (bU (bU (bU (bU (bU (bU (bU (bU (fun _ => .int 0) 0 (.int 2)) 1 (.int 20)) 2 (.int 200)) 3 (.int 15)) 4 (.int 3)) 5 (.int 2)) 6 (.int 20)) 7 (.int 600)) 8 (.int 6)) 9 (.int 90)))) 115 (.inr (kcA E (bg 0), 8, fun _ => .int 0))) 115 (.inr (kcA E 8, 8, bU (fun _ => .int 0) 0 (.int 100)))) 115 (.inr (kcA E 8, 8, bU (bU (fun _ => .int 0) 0 (.int 100)) 1 (.int 100)))) 115 (.inr (kcA E 8, 8, bU (bU (bU (fun _ => .int 0) 0 (.int 100)) 1 (.int 100)) 2 (.int 100)))) 115 (.inr (kcA E 8, 8, bU (bU (bU (bU (fun _ => .int 0) 0 (.int 100)) 1 (.int 100)) 2 (.int 100)) 3 (.int 100)))) 115 (.inr (kcA E 8, 8, bU (bU (bU (bU (bU (fun _ => .int 0) 0 (.int 100)) 1 (.int 100)) 2 (.int 100)) 3 (.int 100)) 4 (.int 100)))) 115 (.inr (kcA E 8, 8, bU (bU (bU (bU (bU (bU (fun _ => .int 0) 0 (.int 100)) 1 (.int 100)) 2 (.int 100)) 3 (.int 100)) 4 (.int 100)) 5 (.int 100)))) 115 (.inr (kcA E 8, 8, bU (bU (bU (bU (bU (bU (bU (fun _ => .int 0) 0 (.int 100)) 1 (.int 100)) 2 (.int 100)) 3 (.int 100)) 4 (.int 100)) 5 (.int 100)) 6 (.int 100)))) 115 (.inr (kcA E 8, 8, bU (bU (bU (bU (bU (bU (bU (bU (fun _ => .int 0) 0 (.int 100)) 1 (.int 100)) 2 (.int 100)) 3 (.int 100)) 4 (.int 100)) 5 (.int 100)) 6 (.int 100)) 7 (.int 100)))) 116 (.inr (kcA E (bg 0), 10, fun _ => .int 0))) 117 (.inr (kcA E (bg 0), 8, fun _ => .int 0))) 118 (.inr (kcA E (bg 0), 8, fun _ => .int 0))) 119 (.inr (kcA E (bg 0), 8, fun _ => .int 0))) 120 (bM E (h + 120) 100 8)) 221 (bM E (h + 221) 100 8)) 322 (bM E (h + 322) 100 8)) 423 (bM E (h + 423) 100 8)) 524 (.inr (kcA E (bg 0), 100, fun _ => .int 0))) 525 (.inr (kcA E (bg 0), 100, fun _ => .int 0))) 526 (.inr (kcA E (bg 0), 100, fun _ => .int 0))) 527 (.inr (kcA E (bg 0), 100, fun _ => .int 0))) 528 (.inr (kcA E (bg 0), 100, fun _ => .int 0))) 529 (.inr (kcA E (bg 0), 8, fun _ => .int 0))) 530 (bM E (h + 530) 10 6)) 541 (bM E (h + 541) 10 2)) 552 (bM E (h + 552) 5 3)) 558 (bM E (h + 558) 3 160)) 562 (.inr (kcA E (bg 1), 6, fun _ => .long 0))
set_option maxRecDepth 20000 in
set_option maxHeartbeats 4000000 in
theorem bm_X6 {l : Launch} {E : kE} (hh8 : 0 < kcnt E 8) : bMet l E yX6_init cX6_init 1 1 12 563 8509 6 bV6 (bv_X6 E) (bf_X6 E) 563 := by
  refine b_met (by decide) rfl (by decide) (fun C Q a h hk hl0 hnm hrt hro hQ => ?_)
  have hk : bOk C E cX6_init RX6 1 := hk
  refine b_aload_n hk dX6_init_0 0 rfl ?_
  refine b_obj hk hro dX6_init_1 (kTB_mk (lwt5 (List.mem_of_getElem? (i := 77) rfl)) rfl) (kTB_mk (lwt1 (List.mem_of_getElem? (i := 27) rfl)) rfl) (kTB_mk (lwt1 (List.mem_of_getElem? (i := 28) rfl)) rfl) ⟨by decide, Nat.le_of_ble_eq_true rfl⟩ ?_
  refine b_aload_n hk dX6_init_4 0 rfl ?_
  refine b_iconst (v := (-1)) hk dX6_init_5 (by decide) ?_
  refine b_putt (k := 3) hk (fun q => absurd q (by decide)) dX6_init_6 kc6 (by decide) fl_RX6_9 rfl rfl ?_
  refine b_aload_n hk dX6_init_9 0 rfl ?_
  refine b_sipush (v := 300) hk dX6_init_10 (by decide) ?_
  refine b_newa (t := 0) (N := 300) (z := .int 0) hk hro dX6_init_13 (by decide) (kTB_mk (lwt1 (List.mem_of_getElem? (i := 87) rfl)) rfl) (fun _ _ q => q) rfl (by decide) (by decide) (by decide) ⟨by decide, by decide⟩ ?_
  refine b_putt (k := 10) hk (fun _ => ⟨hnm, rfl⟩) dX6_init_15 kc6 (by decide) fl_RX6_13 rfl rfl ?_
  refine b_aload_n hk dX6_init_18 0 rfl ?_
  refine b_sipush (v := 400) hk dX6_init_19 (by decide) ?_
  refine b_newa (t := 0) (N := 400) (z := .int 0) hk hro dX6_init_22 (by decide) (kTB_mk (lwt1 (List.mem_of_getElem? (i := 87) rfl)) rfl) (fun _ _ q => q) rfl (by decide) (by decide) (by decide) ⟨by decide, by decide⟩ ?_
  refine b_putt (k := 11) hk (fun _ => ⟨hnm, rfl⟩) dX6_init_24 kc6 (by decide) fl_RX6_17 rfl rfl ?_
  refine b_aload_n hk dX6_init_27 0 rfl ?_
  refine b_bipush (v := 15) hk dX6_init_28 (by decide) ?_
  refine b_iconst (v := 4) hk dX6_init_30 (by decide) ?_
  refine b_mna (N := 15) (M := 4) hk hro dX6_init_31 (kTB_mk (lwt5 (List.mem_of_getElem? (i := 78) rfl)) rfl) hh8 (by decide) (by decide) (by decide) (by decide) (by decide) (by decide) ⟨by decide, by decide⟩ ?_
  refine b_putt (k := 12) hk (fun _ => ⟨hnm, rfl⟩) dX6_init_35 kc6 (by decide) fl_RX6_22 rfl rfl ?_
  refine b_aload_n hk dX6_init_38 0 rfl ?_
  refine b_bipush (v := 6) hk dX6_init_39 (by decide) ?_
  refine b_sipush (v := 400) hk dX6_init_41 (by decide) ?_
  refine b_mna (N := 6) (M := 400) hk hro dX6_init_44 (kTB_mk (lwt5 (List.mem_of_getElem? (i := 78) rfl)) rfl) hh8 (by decide) (by decide) (by decide) (by decide) (by decide) (by decide) ⟨by decide, by decide⟩ ?_
  refine b_putt (k := 14) hk (fun _ => ⟨hnm, rfl⟩) dX6_init_48 kc6 (by decide) fl_RX6_25 rfl rfl ?_
  refine b_aload_n hk dX6_init_51 0 rfl ?_
  refine b_bipush (v := 84) hk dX6_init_52 (by decide) ?_
  refine b_iconst (v := 4) hk dX6_init_54 (by decide) ?_
  refine b_mna (N := 84) (M := 4) hk hro dX6_init_55 (kTB_mk (lwt5 (List.mem_of_getElem? (i := 78) rfl)) rfl) hh8 (by decide) (by decide) (by decide) (by decide) (by decide) (by decide) ⟨by decide, by decide⟩ ?_
  refine b_putt (k := 15) hk (fun _ => ⟨hnm, rfl⟩) dX6_init_59 kc6 (by decide) fl_RX6_28 rfl rfl ?_
  refine b_aload_n hk dX6_init_62 0 rfl ?_
  refine b_bipush (v := 6) hk dX6_init_63 (by decide) ?_
  refine b_newa (t := 0) (N := 6) (z := .int 0) hk hro dX6_init_65 (by decide) (kTB_mk (lwt1 (List.mem_of_getElem? (i := 87) rfl)) rfl) (fun _ _ q => q) rfl (by decide) (by decide) (by decide) ⟨by decide, by decide⟩ ?_
  refine b_putt (k := 16) hk (fun _ => ⟨hnm, rfl⟩) dX6_init_67 kc6 (by decide) fl_RX6_31 rfl rfl ?_
  refine b_aload_n hk dX6_init_70 0 rfl ?_
  refine b_bipush (v := 6) hk dX6_init_71 (by decide) ?_
  refine b_newa (t := 0) (N := 6) (z := .int 0) hk hro dX6_init_73 (by decide) (kTB_mk (lwt1 (List.mem_of_getElem? (i := 87) rfl)) rfl) (fun _ _ q => q) rfl (by decide) (by decide) (by decide) ⟨by decide, by decide⟩ ?_
  refine b_putt (k := 17) hk (fun _ => ⟨hnm, rfl⟩) dX6_init_75 kc6 (by decide) fl_RX6_34 rfl rfl ?_
  refine b_aload_n hk dX6_init_78 0 rfl ?_
  refine b_bipush (v := 120) hk dX6_init_79 (by decide) ?_
  refine b_newa (t := 0) (N := 120) (z := .int 0) hk hro dX6_init_81 (by decide) (kTB_mk (lwt1 (List.mem_of_getElem? (i := 87) rfl)) rfl) (fun _ _ q => q) rfl (by decide) (by decide) (by decide) ⟨by decide, by decide⟩ ?_
  refine b_putt (k := 18) hk (fun _ => ⟨hnm, rfl⟩) dX6_init_83 kc6 (by decide) fl_RX6_37 rfl rfl ?_
  refine b_aload_n hk dX6_init_86 0 rfl ?_
  refine b_bipush (v := 7) hk dX6_init_87 (by decide) ?_
  refine b_newa (t := 0) (N := 7) (z := .int 0) hk hro dX6_init_89 (by decide) (kTB_mk (lwt1 (List.mem_of_getElem? (i := 87) rfl)) rfl) (fun _ _ q => q) rfl (by decide) (by decide) (by decide) ⟨by decide, by decide⟩ ?_
  refine b_putt (k := 19) hk (fun _ => ⟨hnm, rfl⟩) dX6_init_91 kc6 (by decide) fl_RX6_40 rfl rfl ?_
  refine b_aload_n hk dX6_init_94 0 rfl ?_
  refine b_bipush (v := 10) hk dX6_init_95 (by decide) ?_
  refine b_newa (t := 0) (N := 10) (z := .int 0) hk hro dX6_init_97 (by decide) (kTB_mk (lwt1 (List.mem_of_getElem? (i := 87) rfl)) rfl) (fun _ _ q => q) rfl (by decide) (by decide) (by decide) ⟨by decide, by decide⟩ ?_
  refine b_dup hk dX6_init_99 rfl ?_
  refine b_iconst (v := 0) hk dX6_init_100 (by decide) ?_
  refine b_iconst (v := 2) hk dX6_init_101 (by decide) ?_
  refine b_iast (i := 114) (len := 10) (jn := 0) (W0 := fun _ => .int 0) hk dX6_init_102 (by decide) rfl (by decide) (by decide) hh8 ?_
  refine b_dup hk dX6_init_103 rfl ?_
  refine b_iconst (v := 1) hk dX6_init_104 (by decide) ?_
  refine b_bipush (v := 20) hk dX6_init_105 (by decide) ?_
  refine b_iast (i := 114) (len := 10) (jn := 1) (W0 := bU (fun _ => .int 0) 0 (.int 2)) hk dX6_init_107 (by decide) rfl (by decide) (by decide) hh8 ?_
  refine b_dup hk dX6_init_108 rfl ?_
  refine b_iconst (v := 2) hk dX6_init_109 (by decide) ?_
  refine b_sipush (v := 200) hk dX6_init_110 (by decide) ?_
  refine b_iast (i := 114) (len := 10) (jn := 2) (W0 := bU (bU (fun _ => .int 0) 0 (.int 2)) 1 (.int 20)) hk dX6_init_113 (by decide) rfl (by decide) (by decide) hh8 ?_
  refine b_dup hk dX6_init_114 rfl ?_
  refine b_iconst (v := 3) hk dX6_init_115 (by decide) ?_
  refine b_bipush (v := 15) hk dX6_init_116 (by decide) ?_
  refine b_iast (i := 114) (len := 10) (jn := 3) (W0 := bU (bU (bU (fun _ => .int 0) 0 (.int 2)) 1 (.int 20)) 2 (.int 200)) hk dX6_init_118 (by decide) rfl (by decide) (by decide) hh8 ?_
  refine b_dup hk dX6_init_119 rfl ?_
  refine b_iconst (v := 4) hk dX6_init_120 (by decide) ?_
  refine b_iconst (v := 3) hk dX6_init_121 (by decide) ?_
  refine b_iast (i := 114) (len := 10) (jn := 4) (W0 := bU (bU (bU (bU (fun _ => .int 0) 0 (.int 2)) 1 (.int 20)) 2 (.int 200)) 3 (.int 15)) hk dX6_init_122 (by decide) rfl (by decide) (by decide) hh8 ?_
  refine b_dup hk dX6_init_123 rfl ?_
  refine b_iconst (v := 5) hk dX6_init_124 (by decide) ?_
  refine b_iconst (v := 2) hk dX6_init_125 (by decide) ?_
  refine b_iast (i := 114) (len := 10) (jn := 5) (W0 := bU (bU (bU (bU (bU (fun _ => .int 0) 0 (.int 2)) 1 (.int 20)) 2 (.int 200)) 3 (.int 15)) 4 (.int 3)) hk dX6_init_126 (by decide) rfl (by decide) (by decide) hh8 ?_
  refine b_dup hk dX6_init_127 rfl ?_
  refine b_bipush (v := 6) hk dX6_init_128 (by decide) ?_
  refine b_bipush (v := 20) hk dX6_init_130 (by decide) ?_
  refine b_iast (i := 114) (len := 10) (jn := 6) (W0 := bU (bU (bU (bU (bU (bU (fun _ => .int 0) 0 (.int 2)) 1 (.int 20)) 2 (.int 200)) 3 (.int 15)) 4 (.int 3)) 5 (.int 2)) hk dX6_init_132 (by decide) rfl (by decide) (by decide) hh8 ?_
  refine b_dup hk dX6_init_133 rfl ?_
  refine b_bipush (v := 7) hk dX6_init_134 (by decide) ?_
  refine b_sipush (v := 600) hk dX6_init_136 (by decide) ?_
  refine b_iast (i := 114) (len := 10) (jn := 7) (W0 := bU (bU (bU (bU (bU (bU (bU (fun _ => .int 0) 0 (.int 2)) 1 (.int 20)) 2 (.int 200)) 3 (.int 15)) 4 (.int 3)) 5 (.int 2)) 6 (.int 20)) hk dX6_init_139 (by decide) rfl (by decide) (by decide) hh8 ?_
  refine b_dup hk dX6_init_140 rfl ?_
  refine b_bipush (v := 8) hk dX6_init_141 (by decide) ?_
  refine b_bipush (v := 6) hk dX6_init_143 (by decide) ?_
  refine b_iast (i := 114) (len := 10) (jn := 8) (W0 := bU (bU (bU (bU (bU (bU (bU (bU (fun _ => .int 0) 0 (.int 2)) 1 (.int 20)) 2 (.int 200)) 3 (.int 15)) 4 (.int 3)) 5 (.int 2)) 6 (.int 20)) 7 (.int 600)) hk dX6_init_145 (by decide) rfl (by decide) (by decide) hh8 ?_
  refine b_dup hk dX6_init_146 rfl ?_
  refine b_bipush (v := 9) hk dX6_init_147 (by decide) ?_
  refine b_bipush (v := 90) hk dX6_init_149 (by decide) ?_
  refine b_iast (i := 114) (len := 10) (jn := 9) (W0 := bU (bU (bU (bU (bU (bU (bU (bU (bU (fun _ => .int 0) 0 (.int 2)) 1 (.int 20)) 2 (.int 200)) 3 (.int 15)) 4 (.int 3)) 5 (.int 2)) 6 (.int 20)) 7 (.int 600)) 8 (.int 6)) hk dX6_init_151 (by decide) rfl (by decide) (by decide) hh8 ?_
  refine b_putt (k := 20) hk (fun _ => ⟨hnm, rfl⟩) dX6_init_152 kc6 (by decide) fl_RX6_43 rfl rfl ?_
  refine b_aload_n hk dX6_init_155 0 rfl ?_
  refine b_bipush (v := 8) hk dX6_init_156 (by decide) ?_
  refine b_newa (t := 0) (N := 8) (z := .int 0) hk hro dX6_init_158 (by decide) (kTB_mk (lwt1 (List.mem_of_getElem? (i := 87) rfl)) rfl) (fun _ _ q => q) rfl (by decide) (by decide) (by decide) ⟨by decide, by decide⟩ ?_
  refine b_dup hk dX6_init_160 rfl ?_
  refine b_iconst (v := 0) hk dX6_init_161 (by decide) ?_
  refine b_bipush (v := 100) hk dX6_init_162 (by decide) ?_
  refine b_iast (i := 115) (len := 8) (jn := 0) (W0 := fun _ => .int 0) hk dX6_init_164 (by decide) rfl (by decide) (by decide) hh8 ?_
  refine b_dup hk dX6_init_165 rfl ?_
  refine b_iconst (v := 1) hk dX6_init_166 (by decide) ?_
  refine b_bipush (v := 100) hk dX6_init_167 (by decide) ?_
  refine b_iast (i := 115) (len := 8) (jn := 1) (W0 := bU (fun _ => .int 0) 0 (.int 100)) hk dX6_init_169 (by decide) rfl (by decide) (by decide) hh8 ?_
  refine b_dup hk dX6_init_170 rfl ?_
  refine b_iconst (v := 2) hk dX6_init_171 (by decide) ?_
  refine b_bipush (v := 100) hk dX6_init_172 (by decide) ?_
  refine b_iast (i := 115) (len := 8) (jn := 2) (W0 := bU (bU (fun _ => .int 0) 0 (.int 100)) 1 (.int 100)) hk dX6_init_174 (by decide) rfl (by decide) (by decide) hh8 ?_
  refine b_dup hk dX6_init_175 rfl ?_
  refine b_iconst (v := 3) hk dX6_init_176 (by decide) ?_
  refine b_bipush (v := 100) hk dX6_init_177 (by decide) ?_
  refine b_iast (i := 115) (len := 8) (jn := 3) (W0 := bU (bU (bU (fun _ => .int 0) 0 (.int 100)) 1 (.int 100)) 2 (.int 100)) hk dX6_init_179 (by decide) rfl (by decide) (by decide) hh8 ?_
  refine b_dup hk dX6_init_180 rfl ?_
  refine b_iconst (v := 4) hk dX6_init_181 (by decide) ?_
  refine b_bipush (v := 100) hk dX6_init_182 (by decide) ?_
  refine b_iast (i := 115) (len := 8) (jn := 4) (W0 := bU (bU (bU (bU (fun _ => .int 0) 0 (.int 100)) 1 (.int 100)) 2 (.int 100)) 3 (.int 100)) hk dX6_init_184 (by decide) rfl (by decide) (by decide) hh8 ?_
  refine b_dup hk dX6_init_185 rfl ?_
  refine b_iconst (v := 5) hk dX6_init_186 (by decide) ?_
  refine b_bipush (v := 100) hk dX6_init_187 (by decide) ?_
  refine b_iast (i := 115) (len := 8) (jn := 5) (W0 := bU (bU (bU (bU (bU (fun _ => .int 0) 0 (.int 100)) 1 (.int 100)) 2 (.int 100)) 3 (.int 100)) 4 (.int 100)) hk dX6_init_189 (by decide) rfl (by decide) (by decide) hh8 ?_
  refine b_dup hk dX6_init_190 rfl ?_
  refine b_bipush (v := 6) hk dX6_init_191 (by decide) ?_
  refine b_bipush (v := 100) hk dX6_init_193 (by decide) ?_
  refine b_iast (i := 115) (len := 8) (jn := 6) (W0 := bU (bU (bU (bU (bU (bU (fun _ => .int 0) 0 (.int 100)) 1 (.int 100)) 2 (.int 100)) 3 (.int 100)) 4 (.int 100)) 5 (.int 100)) hk dX6_init_195 (by decide) rfl (by decide) (by decide) hh8 ?_
  refine b_dup hk dX6_init_196 rfl ?_
  refine b_bipush (v := 7) hk dX6_init_197 (by decide) ?_
  refine b_bipush (v := 100) hk dX6_init_199 (by decide) ?_
  refine b_iast (i := 115) (len := 8) (jn := 7) (W0 := bU (bU (bU (bU (bU (bU (bU (fun _ => .int 0) 0 (.int 100)) 1 (.int 100)) 2 (.int 100)) 3 (.int 100)) 4 (.int 100)) 5 (.int 100)) 6 (.int 100)) hk dX6_init_201 (by decide) rfl (by decide) (by decide) hh8 ?_
  refine b_putt (k := 21) hk (fun _ => ⟨hnm, rfl⟩) dX6_init_202 kc6 (by decide) fl_RX6_46 rfl rfl ?_
  refine b_aload_n hk dX6_init_205 0 rfl ?_
  refine b_bipush (v := 10) hk dX6_init_206 (by decide) ?_
  refine b_newa (t := 0) (N := 10) (z := .int 0) hk hro dX6_init_208 (by decide) (kTB_mk (lwt1 (List.mem_of_getElem? (i := 87) rfl)) rfl) (fun _ _ q => q) rfl (by decide) (by decide) (by decide) ⟨by decide, by decide⟩ ?_
  refine b_putt (k := 22) hk (fun _ => ⟨hnm, rfl⟩) dX6_init_210 kc6 (by decide) fl_RX6_49 rfl rfl ?_
  refine b_aload_n hk dX6_init_213 0 rfl ?_
  refine b_bipush (v := 8) hk dX6_init_214 (by decide) ?_
  refine b_newa (t := 0) (N := 8) (z := .int 0) hk hro dX6_init_216 (by decide) (kTB_mk (lwt1 (List.mem_of_getElem? (i := 87) rfl)) rfl) (fun _ _ q => q) rfl (by decide) (by decide) (by decide) ⟨by decide, by decide⟩ ?_
  refine b_putt (k := 23) hk (fun _ => ⟨hnm, rfl⟩) dX6_init_218 kc6 (by decide) fl_RX6_52 rfl rfl ?_
  refine b_aload_n hk dX6_init_221 0 rfl ?_
  refine b_bipush (v := 8) hk dX6_init_222 (by decide) ?_
  refine b_newa (t := 0) (N := 8) (z := .int 0) hk hro dX6_init_224 (by decide) (kTB_mk (lwt1 (List.mem_of_getElem? (i := 87) rfl)) rfl) (fun _ _ q => q) rfl (by decide) (by decide) (by decide) ⟨by decide, by decide⟩ ?_
  refine b_putt (k := 24) hk (fun _ => ⟨hnm, rfl⟩) dX6_init_226 kc6 (by decide) fl_RX6_55 rfl rfl ?_
  refine b_aload_n hk dX6_init_229 0 rfl ?_
  refine b_bipush (v := 8) hk dX6_init_230 (by decide) ?_
  refine b_newa (t := 0) (N := 8) (z := .int 0) hk hro dX6_init_232 (by decide) (kTB_mk (lwt1 (List.mem_of_getElem? (i := 87) rfl)) rfl) (fun _ _ q => q) rfl (by decide) (by decide) (by decide) ⟨by decide, by decide⟩ ?_
  refine b_putt (k := 25) hk (fun _ => ⟨hnm, rfl⟩) dX6_init_234 kc6 (by decide) fl_RX6_58 rfl rfl ?_
  refine b_aload_n hk dX6_init_237 0 rfl ?_
  refine b_bipush (v := 100) hk dX6_init_238 (by decide) ?_
  refine b_bipush (v := 8) hk dX6_init_240 (by decide) ?_
  refine b_mna (N := 100) (M := 8) hk hro dX6_init_242 (kTB_mk (lwt5 (List.mem_of_getElem? (i := 78) rfl)) rfl) hh8 (by decide) (by decide) (by decide) (by decide) (by decide) (by decide) ⟨by decide, by decide⟩ ?_
  refine b_putt (k := 26) hk (fun _ => ⟨hnm, rfl⟩) dX6_init_246 kc6 (by decide) fl_RX6_61 rfl rfl ?_
  refine b_aload_n hk dX6_init_249 0 rfl ?_
  refine b_bipush (v := 100) hk dX6_init_250 (by decide) ?_
  refine b_bipush (v := 8) hk dX6_init_252 (by decide) ?_
  refine b_mna (N := 100) (M := 8) hk hro dX6_init_254 (kTB_mk (lwt5 (List.mem_of_getElem? (i := 78) rfl)) rfl) hh8 (by decide) (by decide) (by decide) (by decide) (by decide) (by decide) ⟨by decide, by decide⟩ ?_
  refine b_putt (k := 27) hk (fun _ => ⟨hnm, rfl⟩) dX6_init_258 kc6 (by decide) fl_RX6_64 rfl rfl ?_
  refine b_aload_n hk dX6_init_261 0 rfl ?_
  refine b_bipush (v := 100) hk dX6_init_262 (by decide) ?_
  refine b_bipush (v := 8) hk dX6_init_264 (by decide) ?_
  refine b_mna (N := 100) (M := 8) hk hro dX6_init_266 (kTB_mk (lwt5 (List.mem_of_getElem? (i := 78) rfl)) rfl) hh8 (by decide) (by decide) (by decide) (by decide) (by decide) (by decide) ⟨by decide, by decide⟩ ?_
  refine b_putt (k := 28) hk (fun _ => ⟨hnm, rfl⟩) dX6_init_270 kc6 (by decide) fl_RX6_67 rfl rfl ?_
  refine b_aload_n hk dX6_init_273 0 rfl ?_
  refine b_bipush (v := 100) hk dX6_init_274 (by decide) ?_
  refine b_bipush (v := 8) hk dX6_init_276 (by decide) ?_
  refine b_mna (N := 100) (M := 8) hk hro dX6_init_278 (kTB_mk (lwt5 (List.mem_of_getElem? (i := 78) rfl)) rfl) hh8 (by decide) (by decide) (by decide) (by decide) (by decide) (by decide) ⟨by decide, by decide⟩ ?_
  refine b_putt (k := 29) hk (fun _ => ⟨hnm, rfl⟩) dX6_init_282 kc6 (by decide) fl_RX6_70 rfl rfl ?_
  refine b_aload_n hk dX6_init_285 0 rfl ?_
  refine b_bipush (v := 100) hk dX6_init_286 (by decide) ?_
  refine b_newa (t := 0) (N := 100) (z := .int 0) hk hro dX6_init_288 (by decide) (kTB_mk (lwt1 (List.mem_of_getElem? (i := 87) rfl)) rfl) (fun _ _ q => q) rfl (by decide) (by decide) (by decide) ⟨by decide, by decide⟩ ?_
  refine b_putt (k := 30) hk (fun _ => ⟨hnm, rfl⟩) dX6_init_290 kc6 (by decide) fl_RX6_73 rfl rfl ?_
  refine b_aload_n hk dX6_init_293 0 rfl ?_
  refine b_bipush (v := 100) hk dX6_init_294 (by decide) ?_
  refine b_newa (t := 0) (N := 100) (z := .int 0) hk hro dX6_init_296 (by decide) (kTB_mk (lwt1 (List.mem_of_getElem? (i := 87) rfl)) rfl) (fun _ _ q => q) rfl (by decide) (by decide) (by decide) ⟨by decide, by decide⟩ ?_
  refine b_putt (k := 31) hk (fun _ => ⟨hnm, rfl⟩) dX6_init_298 kc6 (by decide) fl_RX6_76 rfl rfl ?_
  refine b_aload_n hk dX6_init_301 0 rfl ?_
  refine b_bipush (v := 100) hk dX6_init_302 (by decide) ?_
  refine b_newa (t := 0) (N := 100) (z := .int 0) hk hro dX6_init_304 (by decide) (kTB_mk (lwt1 (List.mem_of_getElem? (i := 87) rfl)) rfl) (fun _ _ q => q) rfl (by decide) (by decide) (by decide) ⟨by decide, by decide⟩ ?_
  refine b_putt (k := 32) hk (fun _ => ⟨hnm, rfl⟩) dX6_init_306 kc6 (by decide) fl_RX6_79 rfl rfl ?_
  refine b_aload_n hk dX6_init_309 0 rfl ?_
  refine b_bipush (v := 100) hk dX6_init_310 (by decide) ?_
  refine b_newa (t := 0) (N := 100) (z := .int 0) hk hro dX6_init_312 (by decide) (kTB_mk (lwt1 (List.mem_of_getElem? (i := 87) rfl)) rfl) (fun _ _ q => q) rfl (by decide) (by decide) (by decide) ⟨by decide, by decide⟩ ?_
  refine b_putt (k := 33) hk (fun _ => ⟨hnm, rfl⟩) dX6_init_314 kc6 (by decide) fl_RX6_82 rfl rfl ?_
  refine b_aload_n hk dX6_init_317 0 rfl ?_
  refine b_bipush (v := 100) hk dX6_init_318 (by decide) ?_
  refine b_newa (t := 0) (N := 100) (z := .int 0) hk hro dX6_init_320 (by decide) (kTB_mk (lwt1 (List.mem_of_getElem? (i := 87) rfl)) rfl) (fun _ _ q => q) rfl (by decide) (by decide) (by decide) ⟨by decide, by decide⟩ ?_
  refine b_putt (k := 34) hk (fun _ => ⟨hnm, rfl⟩) dX6_init_322 kc6 (by decide) fl_RX6_85 rfl rfl ?_
  refine b_aload_n hk dX6_init_325 0 rfl ?_
  refine b_bipush (v := 8) hk dX6_init_326 (by decide) ?_
  refine b_newa (t := 0) (N := 8) (z := .int 0) hk hro dX6_init_328 (by decide) (kTB_mk (lwt1 (List.mem_of_getElem? (i := 87) rfl)) rfl) (fun _ _ q => q) rfl (by decide) (by decide) (by decide) ⟨by decide, by decide⟩ ?_
  refine b_putt (k := 35) hk (fun _ => ⟨hnm, rfl⟩) dX6_init_330 kc6 (by decide) fl_RX6_88 rfl rfl ?_
  refine b_aload_n hk dX6_init_333 0 rfl ?_
  refine b_iconst (v := (-1)) hk dX6_init_334 (by decide) ?_
  refine b_putt (k := 39) hk (fun q => absurd q (by decide)) dX6_init_335 kc6 (by decide) fl_RX6_91 rfl rfl ?_
  refine b_aload_n hk dX6_init_338 0 rfl ?_
  refine b_iconst (v := (-1)) hk dX6_init_339 (by decide) ?_
  refine b_putt (k := 41) hk (fun q => absurd q (by decide)) dX6_init_340 kc6 (by decide) fl_RX6_94 rfl rfl ?_
  refine b_aload_n hk dX6_init_343 0 rfl ?_
  refine b_bipush (v := 10) hk dX6_init_344 (by decide) ?_
  refine b_bipush (v := 6) hk dX6_init_346 (by decide) ?_
  refine b_mna (N := 10) (M := 6) hk hro dX6_init_348 (kTB_mk (lwt5 (List.mem_of_getElem? (i := 78) rfl)) rfl) hh8 (by decide) (by decide) (by decide) (by decide) (by decide) (by decide) ⟨by decide, by decide⟩ ?_
  refine b_putt (k := 47) hk (fun _ => ⟨hnm, rfl⟩) dX6_init_352 kc6 (by decide) fl_RX6_97 rfl rfl ?_
  refine b_aload_n hk dX6_init_355 0 rfl ?_
  refine b_bipush (v := 10) hk dX6_init_356 (by decide) ?_
  refine b_iconst (v := 2) hk dX6_init_358 (by decide) ?_
  refine b_mna (N := 10) (M := 2) hk hro dX6_init_359 (kTB_mk (lwt5 (List.mem_of_getElem? (i := 78) rfl)) rfl) hh8 (by decide) (by decide) (by decide) (by decide) (by decide) (by decide) ⟨by decide, by decide⟩ ?_
  refine b_putt (k := 48) hk (fun _ => ⟨hnm, rfl⟩) dX6_init_363 kc6 (by decide) fl_RX6_100 rfl rfl ?_
  refine b_aload_n hk dX6_init_366 0 rfl ?_
  refine b_iconst (v := 5) hk dX6_init_367 (by decide) ?_
  refine b_iconst (v := 3) hk dX6_init_368 (by decide) ?_
  refine b_mna (N := 5) (M := 3) hk hro dX6_init_369 (kTB_mk (lwt5 (List.mem_of_getElem? (i := 78) rfl)) rfl) hh8 (by decide) (by decide) (by decide) (by decide) (by decide) (by decide) ⟨by decide, by decide⟩ ?_
  refine b_putt (k := 49) hk (fun _ => ⟨hnm, rfl⟩) dX6_init_373 kc6 (by decide) fl_RX6_103 rfl rfl ?_
  refine b_aload_n hk dX6_init_376 0 rfl ?_
  refine b_iconst (v := 3) hk dX6_init_377 (by decide) ?_
  refine b_sipush (v := 160) hk dX6_init_378 (by decide) ?_
  refine b_mna (N := 3) (M := 160) hk hro dX6_init_381 (kTB_mk (lwt5 (List.mem_of_getElem? (i := 78) rfl)) rfl) hh8 (by decide) (by decide) (by decide) (by decide) (by decide) (by decide) ⟨by decide, by decide⟩ ?_
  refine b_putt (k := 50) hk (fun _ => ⟨hnm, rfl⟩) dX6_init_385 kc6 (by decide) fl_RX6_106 rfl rfl ?_
  refine b_aload_n hk dX6_init_388 0 rfl ?_
  refine b_bipush (v := 6) hk dX6_init_389 (by decide) ?_
  refine b_newa (t := 1) (N := 6) (z := .long 0) hk hro dX6_init_391 (by decide) (kTB_mk (lwt2 (List.mem_of_getElem? (i := 80) rfl)) rfl) (fun _ _ q => q) rfl (by decide) (by decide) (by decide) ⟨by decide, by decide⟩ ?_
  refine b_putt (k := 52) hk (fun _ => ⟨hnm, rfl⟩) dX6_init_393 kc6 (by decide) fl_RX6_109 rfl rfl ?_
  exact b_ret hk hrt hQ dX6_init_396 ⟨by decide, by decide⟩ rfl rfl rfl
