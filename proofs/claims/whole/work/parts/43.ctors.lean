theorem bc_RX3_11 : bCw RX3 11 yX4_init cX4_init 1 := ⟨kTB_mk (lwt1 (List.mem_of_getElem? (i := 39) rfl)) rfl, kTB_mk (lwt1 (List.mem_of_getElem? (i := 3) rfl)) rfl, kTB_mk (lwt1 (List.mem_of_getElem? (i := 38) rfl)) rfl, ⟨by decide, by decide⟩, rfl, Or.inr (by decide)⟩
theorem bc_RX1_29 : bCw RX1 29 yX4_init cX4_init 1 := ⟨kTB_mk (lwt1 (List.mem_of_getElem? (i := 39) rfl)) rfl, kTB_mk (lwt1 (List.mem_of_getElem? (i := 3) rfl)) rfl, kTB_mk (lwt1 (List.mem_of_getElem? (i := 38) rfl)) rfl, ⟨by decide, by decide⟩, rfl, Or.inr (by decide)⟩
theorem bc_RX5_19 : bCw RX5 19 yX3_init cX3_init 1 := ⟨kTB_mk (lwt1 (List.mem_of_getElem? (i := 33) rfl)) rfl, kTB_mk (lwt1 (List.mem_of_getElem? (i := 2) rfl)) rfl, kTB_mk (lwt1 (List.mem_of_getElem? (i := 32) rfl)) rfl, ⟨by decide, by decide⟩, rfl, Or.inr (by decide)⟩
theorem bc_RX5_38 : bCw RX5 38 yX2_init cX2_init 1 := ⟨kTB_mk (lwt1 (List.mem_of_getElem? (i := 121) rfl)) rfl, kTB_mk (lwt1 (List.mem_of_getElem? (i := 4) rfl)) rfl, kTB_mk (lwt1 (List.mem_of_getElem? (i := 120) rfl)) rfl, ⟨by decide, by decide⟩, rfl, Or.inl (kTB_mk (lwt1 (List.mem_of_getElem? (i := 119) rfl)) rfl)⟩
theorem bc_RX5_52 : bCw RX5 52 yX1_init cX1_init 1 := ⟨kTB_mk (lwt1 (List.mem_of_getElem? (i := 207) rfl)) rfl, kTB_mk (lwt1 (List.mem_of_getElem? (i := 7) rfl)) rfl, kTB_mk (lwt1 (List.mem_of_getElem? (i := 206) rfl)) rfl, ⟨by decide, by decide⟩, rfl, Or.inr (by decide)⟩
theorem bc_RX5_71 : bCw RX5 71 yX4_init cX4_init 1 := ⟨kTB_mk (lwt1 (List.mem_of_getElem? (i := 39) rfl)) rfl, kTB_mk (lwt1 (List.mem_of_getElem? (i := 3) rfl)) rfl, kTB_mk (lwt1 (List.mem_of_getElem? (i := 38) rfl)) rfl, ⟨by decide, by decide⟩, rfl, Or.inr (by decide)⟩
theorem bc_RX5_72 : bCw RX5 72 yX0_init cX0_init 1 := ⟨kTB_mk (lwt2 (List.mem_of_getElem? (i := 29) rfl)) rfl, kTB_mk (lwt1 (List.mem_of_getElem? (i := 8) rfl)) rfl, kTB_mk (lwt2 (List.mem_of_getElem? (i := 28) rfl)) rfl, ⟨by decide, by decide⟩, rfl, Or.inr (by decide)⟩
def bV0 : Nat → Value := fun k => ([.int 0, .null, .null, .null, .null, .null, .null, .null, .int 0, .int 0, .int 0, .int 0] : List Value).getD k .null
def bV1 : Nat → Value := fun k => ([.null, .null, .null, .null, .null, .null, .int 0, .int 0, .int 0, .int 0, .int 0, .int 0, .int 0] : List Value).getD k .null
def bV2 : Nat → Value := fun k => ([.null, .null, .null, .int 0, .null, .null, .null, .null, .null, .null, .int 0, .null, .null, .int 0, .null, .null, .null] : List Value).getD k .null
def bV3 : Nat → Value := fun k => ([.null, .int 0, .int 0, .null, .null, .null, .int 0, .int 0] : List Value).getD k .null
def bV4 : Nat → Value := fun k => ([.int 0, .null, .null, .null, .null, .null, .null, .null, .int 0] : List Value).getD k .null
def bV5 : Nat → Value := fun k => ([.null, .int 0, .null, .int 0, .null, .int 0, .null, .null, .int 0, .null, .null, .null, .null] : List Value).getD k .null
def bV6 : Nat → Value := fun k => ([.int 0, .int 0, .int 0, .int 0, .int 0, .int 0, .int 0, .int 0, .int 0, .int 0, .null, .null, .null, .int 0, .null, .null, .null, .null, .null, .null, .null, .null, .null, .null, .null, .null, .null, .null, .null, .null, .null, .null, .null, .null, .null, .null, .int 0, .int 0, .int 0, .int 0, .int 0, .int 0, .int 0, .int 0, .int 0, .int 0, .int 0, .null, .null, .null, .null, .int 0, .null] : List Value).getD k .null
def bv_X4 (E : kE) (h : Nat) : Nat → Value := bU (bU (bU (bU (bU (bU (bU (bU (bU (bV4) 0 (.int 0)) 1 (.ref (h + 0))) 2 (.ref (h + 1))) 3 (.ref (h + 2))) 4 (.ref (h + 3))) 5 (.ref (h + 4))) 6 (.ref (h + 5))) 7 (.ref (h + 6))) 8 (.int 0)
def bf_X4 (E : kE) (h : Nat) : Nat → bC := bU (bU (bU (bU (bU (bU (bU (bNil) 0 (.inr (kcA E (bg 0), 14, fun _ => .int 0))) 1 (.inr (kcA E (bg 0), 14, fun _ => .int 0))) 2 (.inr (kcA E (bg 0), 14, fun _ => .int 0))) 3 (.inr (kcA E (bg 0), 14, fun _ => .int 0))) 4 (.inr (kcA E (bg 0), 14, fun _ => .int 0))) 5 (.inr (kcA E (bg 0), 14, fun _ => .int 0))) 6 (.inr (kcA E (bg 0), 300, fun _ => .int 0))
set_option maxRecDepth 20000 in
set_option maxHeartbeats 4000000 in
theorem bm_X4 {l : Launch} {E : kE} (hh8 : 0 < kcnt E 8) : bMet l E yX4_init cX4_init 1 1 12 7 384 4 bV4 (bv_X4 E) (bf_X4 E) 7 := by
  refine b_met (by decide) rfl (by decide) (fun C Q a h hk hl0 hnm hrt hro hQ => ?_)
  have hk : bOk C E cX4_init RX4 1 := hk
  refine b_aload_n hk dX4_init_0 0 rfl ?_
  refine b_obj hk hro dX4_init_1 (kTB_mk (lwt1 (List.mem_of_getElem? (i := 40) rfl)) rfl) (kTB_mk (lwt1 (List.mem_of_getElem? (i := 27) rfl)) rfl) (kTB_mk (lwt1 (List.mem_of_getElem? (i := 28) rfl)) rfl) ⟨by decide, Nat.le_of_ble_eq_true rfl⟩ ?_
  refine b_aload_n hk dX4_init_4 0 rfl ?_
  refine b_iconst (v := 0) hk dX4_init_5 (by decide) ?_
  refine b_putt (k := 0) hk (fun q => absurd q (by decide)) dX4_init_6 kc4 (by decide) fl_RX4_9 rfl rfl ?_
  refine b_aload_n hk dX4_init_9 0 rfl ?_
  refine b_bipush (v := 14) hk dX4_init_10 (by decide) ?_
  refine b_newa (t := 0) (N := 14) (z := .int 0) hk hro dX4_init_12 (by decide) (kTB_mk (lwt1 (List.mem_of_getElem? (i := 87) rfl)) rfl) (fun _ _ q => q) rfl (by decide) (by decide) (by decide) ⟨by decide, by decide⟩ ?_
  refine b_putt (k := 1) hk (fun _ => ⟨hnm, rfl⟩) dX4_init_14 kc4 (by decide) fl_RX4_15 rfl rfl ?_
  refine b_aload_n hk dX4_init_17 0 rfl ?_
  refine b_bipush (v := 14) hk dX4_init_18 (by decide) ?_
  refine b_newa (t := 0) (N := 14) (z := .int 0) hk hro dX4_init_20 (by decide) (kTB_mk (lwt1 (List.mem_of_getElem? (i := 87) rfl)) rfl) (fun _ _ q => q) rfl (by decide) (by decide) (by decide) ⟨by decide, by decide⟩ ?_
  refine b_putt (k := 2) hk (fun _ => ⟨hnm, rfl⟩) dX4_init_22 kc4 (by decide) fl_RX4_19 rfl rfl ?_
  refine b_aload_n hk dX4_init_25 0 rfl ?_
  refine b_bipush (v := 14) hk dX4_init_26 (by decide) ?_
  refine b_newa (t := 0) (N := 14) (z := .int 0) hk hro dX4_init_28 (by decide) (kTB_mk (lwt1 (List.mem_of_getElem? (i := 87) rfl)) rfl) (fun _ _ q => q) rfl (by decide) (by decide) (by decide) ⟨by decide, by decide⟩ ?_
  refine b_putt (k := 3) hk (fun _ => ⟨hnm, rfl⟩) dX4_init_30 kc4 (by decide) fl_RX4_22 rfl rfl ?_
  refine b_aload_n hk dX4_init_33 0 rfl ?_
  refine b_bipush (v := 14) hk dX4_init_34 (by decide) ?_
  refine b_newa (t := 0) (N := 14) (z := .int 0) hk hro dX4_init_36 (by decide) (kTB_mk (lwt1 (List.mem_of_getElem? (i := 87) rfl)) rfl) (fun _ _ q => q) rfl (by decide) (by decide) (by decide) ⟨by decide, by decide⟩ ?_
  refine b_putt (k := 4) hk (fun _ => ⟨hnm, rfl⟩) dX4_init_38 kc4 (by decide) fl_RX4_25 rfl rfl ?_
  refine b_aload_n hk dX4_init_41 0 rfl ?_
  refine b_bipush (v := 14) hk dX4_init_42 (by decide) ?_
  refine b_newa (t := 0) (N := 14) (z := .int 0) hk hro dX4_init_44 (by decide) (kTB_mk (lwt1 (List.mem_of_getElem? (i := 87) rfl)) rfl) (fun _ _ q => q) rfl (by decide) (by decide) (by decide) ⟨by decide, by decide⟩ ?_
  refine b_putt (k := 5) hk (fun _ => ⟨hnm, rfl⟩) dX4_init_46 kc4 (by decide) fl_RX4_28 rfl rfl ?_
  refine b_aload_n hk dX4_init_49 0 rfl ?_
  refine b_bipush (v := 14) hk dX4_init_50 (by decide) ?_
  refine b_newa (t := 0) (N := 14) (z := .int 0) hk hro dX4_init_52 (by decide) (kTB_mk (lwt1 (List.mem_of_getElem? (i := 87) rfl)) rfl) (fun _ _ q => q) rfl (by decide) (by decide) (by decide) ⟨by decide, by decide⟩ ?_
  refine b_putt (k := 6) hk (fun _ => ⟨hnm, rfl⟩) dX4_init_54 kc4 (by decide) fl_RX4_31 rfl rfl ?_
  refine b_aload_n hk dX4_init_57 0 rfl ?_
  refine b_sipush (v := 300) hk dX4_init_58 (by decide) ?_
  refine b_newa (t := 0) (N := 300) (z := .int 0) hk hro dX4_init_61 (by decide) (kTB_mk (lwt1 (List.mem_of_getElem? (i := 87) rfl)) rfl) (fun _ _ q => q) rfl (by decide) (by decide) (by decide) ⟨by decide, by decide⟩ ?_
  refine b_putt (k := 7) hk (fun _ => ⟨hnm, rfl⟩) dX4_init_63 kc4 (by decide) fl_RX4_34 rfl rfl ?_
  refine b_aload_n hk dX4_init_66 0 rfl ?_
  refine b_iconst (v := 0) hk dX4_init_67 (by decide) ?_
  refine b_putt (k := 8) hk (fun q => absurd q (by decide)) dX4_init_68 kc4 (by decide) fl_RX4_37 rfl rfl ?_
  exact b_ret hk hrt hQ dX4_init_71 ⟨by decide, by decide⟩ rfl rfl rfl
def bv_X0 (E : kE) (h : Nat) : Nat → Value := bU (bU (bU (bU (bU (bU (bU (bU (bU (bU (bU (bU (bV0) 0 (.int 0)) 1 (.ref (h + 0))) 2 (.ref (h + 1))) 3 (.ref (h + 2))) 4 (.ref (h + 3))) 5 (.ref (h + 4))) 6 (.ref (h + 5))) 7 (.ref (h + 6))) 8 (.int (-1))) 9 (.int (-1))) 10 (.int (-1))) 11 (.int (-1))
def bf_X0 (E : kE) (h : Nat) : Nat → bC := bU (bU (bU (bU (bU (bU (bU (bNil) 0 (.inr (kcA E (bg 0), 100, fun _ => .int 0))) 1 (.inr (kcA E (bg 0), 100, fun _ => .int 0))) 2 (.inr (kcA E (bg 0), 100, fun _ => .int 0))) 3 (.inr (kcA E (bg 0), 100, fun _ => .int 0))) 4 (.inr (kcA E (bg 0), 800, fun _ => .int 0))) 5 (.inr (kcA E (bg 0), 800, fun _ => .int 0))) 6 (.inr (kcA E (bg 0), 8, fun _ => .int 0))
set_option maxRecDepth 20000 in
set_option maxHeartbeats 4000000 in
theorem bm_X0 {l : Launch} {E : kE} (hh8 : 0 < kcnt E 8) : bMet l E yX0_init cX0_init 1 1 12 7 2008 0 bV0 (bv_X0 E) (bf_X0 E) 7 := by
  refine b_met (by decide) rfl (by decide) (fun C Q a h hk hl0 hnm hrt hro hQ => ?_)
  have hk : bOk C E cX0_init RX0 1 := hk
  refine b_aload_n hk dX0_init_0 0 rfl ?_
  refine b_obj hk hro dX0_init_1 (kTB_mk (lwt2 (List.mem_of_getElem? (i := 30) rfl)) rfl) (kTB_mk (lwt1 (List.mem_of_getElem? (i := 27) rfl)) rfl) (kTB_mk (lwt1 (List.mem_of_getElem? (i := 28) rfl)) rfl) ⟨by decide, Nat.le_of_ble_eq_true rfl⟩ ?_
  refine b_aload_n hk dX0_init_4 0 rfl ?_
  refine b_iconst (v := 0) hk dX0_init_5 (by decide) ?_
  refine b_putt (k := 0) hk (fun q => absurd q (by decide)) dX0_init_6 kc0 (by decide) fl_RX0_9 rfl rfl ?_
  refine b_aload_n hk dX0_init_9 0 rfl ?_
  refine b_bipush (v := 100) hk dX0_init_10 (by decide) ?_
  refine b_newa (t := 0) (N := 100) (z := .int 0) hk hro dX0_init_12 (by decide) (kTB_mk (lwt1 (List.mem_of_getElem? (i := 87) rfl)) rfl) (fun _ _ q => q) rfl (by decide) (by decide) (by decide) ⟨by decide, by decide⟩ ?_
  refine b_putt (k := 1) hk (fun _ => ⟨hnm, rfl⟩) dX0_init_14 kc0 (by decide) fl_RX0_15 rfl rfl ?_
  refine b_aload_n hk dX0_init_17 0 rfl ?_
  refine b_bipush (v := 100) hk dX0_init_18 (by decide) ?_
  refine b_newa (t := 0) (N := 100) (z := .int 0) hk hro dX0_init_20 (by decide) (kTB_mk (lwt1 (List.mem_of_getElem? (i := 87) rfl)) rfl) (fun _ _ q => q) rfl (by decide) (by decide) (by decide) ⟨by decide, by decide⟩ ?_
  refine b_putt (k := 2) hk (fun _ => ⟨hnm, rfl⟩) dX0_init_22 kc0 (by decide) fl_RX0_19 rfl rfl ?_
  refine b_aload_n hk dX0_init_25 0 rfl ?_
  refine b_bipush (v := 100) hk dX0_init_26 (by decide) ?_
  refine b_newa (t := 0) (N := 100) (z := .int 0) hk hro dX0_init_28 (by decide) (kTB_mk (lwt1 (List.mem_of_getElem? (i := 87) rfl)) rfl) (fun _ _ q => q) rfl (by decide) (by decide) (by decide) ⟨by decide, by decide⟩ ?_
  refine b_putt (k := 3) hk (fun _ => ⟨hnm, rfl⟩) dX0_init_30 kc0 (by decide) fl_RX0_22 rfl rfl ?_
  refine b_aload_n hk dX0_init_33 0 rfl ?_
  refine b_bipush (v := 100) hk dX0_init_34 (by decide) ?_
  refine b_newa (t := 0) (N := 100) (z := .int 0) hk hro dX0_init_36 (by decide) (kTB_mk (lwt1 (List.mem_of_getElem? (i := 87) rfl)) rfl) (fun _ _ q => q) rfl (by decide) (by decide) (by decide) ⟨by decide, by decide⟩ ?_
  refine b_putt (k := 4) hk (fun _ => ⟨hnm, rfl⟩) dX0_init_38 kc0 (by decide) fl_RX0_25 rfl rfl ?_
  refine b_aload_n hk dX0_init_41 0 rfl ?_
  refine b_sipush (v := 800) hk dX0_init_42 (by decide) ?_
  refine b_newa (t := 0) (N := 800) (z := .int 0) hk hro dX0_init_45 (by decide) (kTB_mk (lwt1 (List.mem_of_getElem? (i := 87) rfl)) rfl) (fun _ _ q => q) rfl (by decide) (by decide) (by decide) ⟨by decide, by decide⟩ ?_
  refine b_putt (k := 5) hk (fun _ => ⟨hnm, rfl⟩) dX0_init_47 kc0 (by decide) fl_RX0_28 rfl rfl ?_
  refine b_aload_n hk dX0_init_50 0 rfl ?_
  refine b_sipush (v := 800) hk dX0_init_51 (by decide) ?_
  refine b_newa (t := 0) (N := 800) (z := .int 0) hk hro dX0_init_54 (by decide) (kTB_mk (lwt1 (List.mem_of_getElem? (i := 87) rfl)) rfl) (fun _ _ q => q) rfl (by decide) (by decide) (by decide) ⟨by decide, by decide⟩ ?_
  refine b_putt (k := 6) hk (fun _ => ⟨hnm, rfl⟩) dX0_init_56 kc0 (by decide) fl_RX0_31 rfl rfl ?_
  refine b_aload_n hk dX0_init_59 0 rfl ?_
  refine b_bipush (v := 8) hk dX0_init_60 (by decide) ?_
  refine b_newa (t := 0) (N := 8) (z := .int 0) hk hro dX0_init_62 (by decide) (kTB_mk (lwt1 (List.mem_of_getElem? (i := 87) rfl)) rfl) (fun _ _ q => q) rfl (by decide) (by decide) (by decide) ⟨by decide, by decide⟩ ?_
  refine b_putt (k := 7) hk (fun _ => ⟨hnm, rfl⟩) dX0_init_64 kc0 (by decide) fl_RX0_34 rfl rfl ?_
  refine b_aload_n hk dX0_init_67 0 rfl ?_
  refine b_iconst (v := (-1)) hk dX0_init_68 (by decide) ?_
  refine b_putt (k := 8) hk (fun q => absurd q (by decide)) dX0_init_69 kc0 (by decide) fl_RX0_37 rfl rfl ?_
  refine b_aload_n hk dX0_init_72 0 rfl ?_
  refine b_iconst (v := (-1)) hk dX0_init_73 (by decide) ?_
  refine b_putt (k := 9) hk (fun q => absurd q (by decide)) dX0_init_74 kc0 (by decide) fl_RX0_41 rfl rfl ?_
  refine b_aload_n hk dX0_init_77 0 rfl ?_
  refine b_iconst (v := (-1)) hk dX0_init_78 (by decide) ?_
  refine b_putt (k := 10) hk (fun q => absurd q (by decide)) dX0_init_79 kc0 (by decide) fl_RX0_44 rfl rfl ?_
  refine b_aload_n hk dX0_init_82 0 rfl ?_
  refine b_iconst (v := (-1)) hk dX0_init_83 (by decide) ?_
  refine b_putt (k := 11) hk (fun q => absurd q (by decide)) dX0_init_84 kc0 (by decide) fl_RX0_47 rfl rfl ?_
  exact b_ret hk hrt hQ dX0_init_87 ⟨by decide, by decide⟩ rfl rfl rfl
def bv_X2 (E : kE) (h : Nat) : Nat → Value := bU (bU (bU (bU (bU (bU (bU (bU (bU (bU (bU (bU (bU (bU (bU (bU (bU (bV2) 0 (.ref (h + 0))) 1 (.ref (h + 1))) 2 (.ref (h + 2))) 3 (.int 0)) 4 (.ref (h + 3))) 5 (.ref (h + 4))) 6 (.ref (h + 5))) 7 (.ref (h + 6))) 8 (.ref (h + 7))) 9 (.ref (h + 8))) 10 (.int 0)) 11 (.ref (h + 9))) 12 (.ref (h + 10))) 13 (.int 0)) 14 (.ref (h + 11))) 15 (.ref (h + 12))) 16 (.ref (h + 13))
def bf_X2 (E : kE) (h : Nat) : Nat → bC := bU (bU (bU (bU (bU (bU (bU (bU (bU (bU (bU (bU (bU (bU (bU (bU (bU (bNil) 0 (.inr (kcA E (bg 0), 10, fun _ => .int 0))) 1 (.inr (kcA E (bg 0), 8, fun _ => .int 0))) 2 (.inr (kcA E (bg 0), 6, fun _ => .int 0))) 3 (.inr (kcA E (bg 0), 10, fun _ => .int 0))) 4 (.inr (kcA E (bg 0), 10, fun _ => .int 0))) 5 (.inr (kcA E (bg 0), 10, fun _ => .int 0))) 6 (.inr (kcA E (bg 0), 10, fun _ => .int 0))) 7 (.inr (kcA E (bg 0), 10, fun _ => .int 0))) 8 (.inr (kcA E (bg 0), 10, fun _ => .int 0))) 9 (.inr (kcA E (bg 0), 10, fun _ => .int 0))) 10 (.inr (kcA E (bg 0), 10, fun _ => .int 0))) 11 (.inr (kcA E (bg 0), 5, fun _ => .int 0))) 12 (.inr (kcA E (bg 0), 5, fun _ => .int 0))) 13 (.inr (kcA E (bg 0), 5, fun _ => .int 0))) 0 (.inr (kcA E 8, 10, fun j => .int ((kZv 0).getD j 0)))) 1 (.inr (kcA E 8, 8, fun _ => .int 100))) 2 (.inr (kcA E 8, 6, fun _ => .int 10))
set_option maxRecDepth 20000 in
set_option maxHeartbeats 4000000 in
theorem bm_X2 {l : Launch} {E : kE} (hh8 : 0 < kcnt E 8) : bMet l E yX2_init cX2_init 1 2 60 14 119 2 bV2 (bv_X2 E) (bf_X2 E) 14 := by
  refine b_met (by decide) rfl (by decide) (fun C Q a h hk hl0 hnm hrt hro hQ => ?_)
  have hk : bOk C E cX2_init RX2 1 := hk
  refine b_aload_n hk dX2_init_0 0 rfl ?_
  refine b_obj hk hro dX2_init_1 (kTB_mk (lwt1 (List.mem_of_getElem? (i := 122) rfl)) rfl) (kTB_mk (lwt1 (List.mem_of_getElem? (i := 27) rfl)) rfl) (kTB_mk (lwt1 (List.mem_of_getElem? (i := 28) rfl)) rfl) ⟨by decide, Nat.le_of_ble_eq_true rfl⟩ ?_
  refine b_aload_n hk dX2_init_4 0 rfl ?_
  refine b_bipush (v := 10) hk dX2_init_5 (by decide) ?_
  refine b_newa (t := 0) (N := 10) (z := .int 0) hk hro dX2_init_7 (by decide) (kTB_mk (lwt1 (List.mem_of_getElem? (i := 87) rfl)) rfl) (fun _ _ q => q) rfl (by decide) (by decide) (by decide) ⟨by decide, by decide⟩ ?_
  refine b_putt (k := 0) hk (fun _ => ⟨hnm, rfl⟩) dX2_init_9 kc2 (by decide) fl_RX2_9 rfl rfl ?_
  refine b_aload_n hk dX2_init_12 0 rfl ?_
  refine b_bipush (v := 8) hk dX2_init_13 (by decide) ?_
  refine b_newa (t := 0) (N := 8) (z := .int 0) hk hro dX2_init_15 (by decide) (kTB_mk (lwt1 (List.mem_of_getElem? (i := 87) rfl)) rfl) (fun _ _ q => q) rfl (by decide) (by decide) (by decide) ⟨by decide, by decide⟩ ?_
  refine b_putt (k := 1) hk (fun _ => ⟨hnm, rfl⟩) dX2_init_17 kc2 (by decide) fl_RX2_15 rfl rfl ?_
  refine b_aload_n hk dX2_init_20 0 rfl ?_
  refine b_bipush (v := 6) hk dX2_init_21 (by decide) ?_
  refine b_newa (t := 0) (N := 6) (z := .int 0) hk hro dX2_init_23 (by decide) (kTB_mk (lwt1 (List.mem_of_getElem? (i := 87) rfl)) rfl) (fun _ _ q => q) rfl (by decide) (by decide) (by decide) ⟨by decide, by decide⟩ ?_
  refine b_putt (k := 2) hk (fun _ => ⟨hnm, rfl⟩) dX2_init_25 kc2 (by decide) fl_RX2_18 rfl rfl ?_
  refine b_aload_n hk dX2_init_28 0 rfl ?_
  refine b_iconst (v := 0) hk dX2_init_29 (by decide) ?_
  refine b_putt (k := 3) hk (fun q => absurd q (by decide)) dX2_init_30 kc2 (by decide) fl_RX2_21 rfl rfl ?_
  refine b_aload_n hk dX2_init_33 0 rfl ?_
  refine b_bipush (v := 10) hk dX2_init_34 (by decide) ?_
  refine b_newa (t := 0) (N := 10) (z := .int 0) hk hro dX2_init_36 (by decide) (kTB_mk (lwt1 (List.mem_of_getElem? (i := 87) rfl)) rfl) (fun _ _ q => q) rfl (by decide) (by decide) (by decide) ⟨by decide, by decide⟩ ?_
  refine b_putt (k := 4) hk (fun _ => ⟨hnm, rfl⟩) dX2_init_38 kc2 (by decide) fl_RX2_25 rfl rfl ?_
  refine b_aload_n hk dX2_init_41 0 rfl ?_
  refine b_bipush (v := 10) hk dX2_init_42 (by decide) ?_
  refine b_newa (t := 0) (N := 10) (z := .int 0) hk hro dX2_init_44 (by decide) (kTB_mk (lwt1 (List.mem_of_getElem? (i := 87) rfl)) rfl) (fun _ _ q => q) rfl (by decide) (by decide) (by decide) ⟨by decide, by decide⟩ ?_
  refine b_putt (k := 5) hk (fun _ => ⟨hnm, rfl⟩) dX2_init_46 kc2 (by decide) fl_RX2_28 rfl rfl ?_
  refine b_aload_n hk dX2_init_49 0 rfl ?_
  refine b_bipush (v := 10) hk dX2_init_50 (by decide) ?_
  refine b_newa (t := 0) (N := 10) (z := .int 0) hk hro dX2_init_52 (by decide) (kTB_mk (lwt1 (List.mem_of_getElem? (i := 87) rfl)) rfl) (fun _ _ q => q) rfl (by decide) (by decide) (by decide) ⟨by decide, by decide⟩ ?_
  refine b_putt (k := 6) hk (fun _ => ⟨hnm, rfl⟩) dX2_init_54 kc2 (by decide) fl_RX2_31 rfl rfl ?_
  refine b_aload_n hk dX2_init_57 0 rfl ?_
  refine b_bipush (v := 10) hk dX2_init_58 (by decide) ?_
  refine b_newa (t := 0) (N := 10) (z := .int 0) hk hro dX2_init_60 (by decide) (kTB_mk (lwt1 (List.mem_of_getElem? (i := 87) rfl)) rfl) (fun _ _ q => q) rfl (by decide) (by decide) (by decide) ⟨by decide, by decide⟩ ?_
  refine b_putt (k := 7) hk (fun _ => ⟨hnm, rfl⟩) dX2_init_62 kc2 (by decide) fl_RX2_34 rfl rfl ?_
  refine b_aload_n hk dX2_init_65 0 rfl ?_
  refine b_bipush (v := 10) hk dX2_init_66 (by decide) ?_
  refine b_newa (t := 0) (N := 10) (z := .int 0) hk hro dX2_init_68 (by decide) (kTB_mk (lwt1 (List.mem_of_getElem? (i := 87) rfl)) rfl) (fun _ _ q => q) rfl (by decide) (by decide) (by decide) ⟨by decide, by decide⟩ ?_
  refine b_putt (k := 8) hk (fun _ => ⟨hnm, rfl⟩) dX2_init_70 kc2 (by decide) fl_RX2_37 rfl rfl ?_
  refine b_aload_n hk dX2_init_73 0 rfl ?_
  refine b_bipush (v := 10) hk dX2_init_74 (by decide) ?_
  refine b_newa (t := 0) (N := 10) (z := .int 0) hk hro dX2_init_76 (by decide) (kTB_mk (lwt1 (List.mem_of_getElem? (i := 87) rfl)) rfl) (fun _ _ q => q) rfl (by decide) (by decide) (by decide) ⟨by decide, by decide⟩ ?_
  refine b_putt (k := 9) hk (fun _ => ⟨hnm, rfl⟩) dX2_init_78 kc2 (by decide) fl_RX2_40 rfl rfl ?_
  refine b_aload_n hk dX2_init_81 0 rfl ?_
  refine b_iconst (v := 0) hk dX2_init_82 (by decide) ?_
  refine b_putt (k := 10) hk (fun q => absurd q (by decide)) dX2_init_83 kc2 (by decide) fl_RX2_43 rfl rfl ?_
  refine b_aload_n hk dX2_init_86 0 rfl ?_
  refine b_bipush (v := 10) hk dX2_init_87 (by decide) ?_
  refine b_newa (t := 0) (N := 10) (z := .int 0) hk hro dX2_init_89 (by decide) (kTB_mk (lwt1 (List.mem_of_getElem? (i := 87) rfl)) rfl) (fun _ _ q => q) rfl (by decide) (by decide) (by decide) ⟨by decide, by decide⟩ ?_
  refine b_putt (k := 11) hk (fun _ => ⟨hnm, rfl⟩) dX2_init_91 kc2 (by decide) fl_RX2_46 rfl rfl ?_
  refine b_aload_n hk dX2_init_94 0 rfl ?_
  refine b_bipush (v := 10) hk dX2_init_95 (by decide) ?_
  refine b_newa (t := 0) (N := 10) (z := .int 0) hk hro dX2_init_97 (by decide) (kTB_mk (lwt1 (List.mem_of_getElem? (i := 87) rfl)) rfl) (fun _ _ q => q) rfl (by decide) (by decide) (by decide) ⟨by decide, by decide⟩ ?_
  refine b_putt (k := 12) hk (fun _ => ⟨hnm, rfl⟩) dX2_init_99 kc2 (by decide) fl_RX2_49 rfl rfl ?_
  refine b_aload_n hk dX2_init_102 0 rfl ?_
  refine b_iconst (v := 0) hk dX2_init_103 (by decide) ?_
  refine b_putt (k := 13) hk (fun q => absurd q (by decide)) dX2_init_104 kc2 (by decide) fl_RX2_52 rfl rfl ?_
  refine b_aload_n hk dX2_init_107 0 rfl ?_
  refine b_iconst (v := 5) hk dX2_init_108 (by decide) ?_
  refine b_newa (t := 0) (N := 5) (z := .int 0) hk hro dX2_init_109 (by decide) (kTB_mk (lwt1 (List.mem_of_getElem? (i := 87) rfl)) rfl) (fun _ _ q => q) rfl (by decide) (by decide) (by decide) ⟨by decide, by decide⟩ ?_
  refine b_putt (k := 14) hk (fun _ => ⟨hnm, rfl⟩) dX2_init_111 kc2 (by decide) fl_RX2_55 rfl rfl ?_
  refine b_aload_n hk dX2_init_114 0 rfl ?_
  refine b_iconst (v := 5) hk dX2_init_115 (by decide) ?_
  refine b_newa (t := 0) (N := 5) (z := .int 0) hk hro dX2_init_116 (by decide) (kTB_mk (lwt1 (List.mem_of_getElem? (i := 87) rfl)) rfl) (fun _ _ q => q) rfl (by decide) (by decide) (by decide) ⟨by decide, by decide⟩ ?_
  refine b_putt (k := 15) hk (fun _ => ⟨hnm, rfl⟩) dX2_init_118 kc2 (by decide) fl_RX2_58 rfl rfl ?_
  refine b_aload_n hk dX2_init_121 0 rfl ?_
  refine b_iconst (v := 5) hk dX2_init_122 (by decide) ?_
  refine b_newa (t := 0) (N := 5) (z := .int 0) hk hro dX2_init_123 (by decide) (kTB_mk (lwt1 (List.mem_of_getElem? (i := 87) rfl)) rfl) (fun _ _ q => q) rfl (by decide) (by decide) (by decide) ⟨by decide, by decide⟩ ?_
  refine b_putt (k := 16) hk (fun _ => ⟨hnm, rfl⟩) dX2_init_125 kc2 (by decide) fl_RX2_61 rfl rfl ?_
  refine b_getz (t := 0) hk dX2_init_128 (by decide) (by decide) ?_
  refine b_iconst (v := 0) hk dX2_init_131 (by decide) ?_
  refine b_aload_n hk dX2_init_132 0 rfl ?_
  refine b_gett (k := 0) (v := .ref (h + 0)) hk dX2_init_133 kc2 (by decide) fl_RX2_9 rfl ?_
  refine b_iconst (v := 0) hk dX2_init_136 (by decide) ?_
  refine b_bipush (v := 10) hk dX2_init_137 (by decide) ?_
  refine b_acopy (i := 0) hk hro dX2_init_139 ac_RX2_67 (by decide) rfl hh8 ⟨by decide, by decide⟩ ?_
  refine b_aload_n hk dX2_init_142 0 rfl ?_
  refine b_gett (k := 1) (v := .ref (h + 1)) hk dX2_init_143 kc2 (by decide) fl_RX2_15 rfl ?_
  refine b_bipush (v := 100) hk dX2_init_146 (by decide) ?_
  refine b_fill (i := 1) (len := 8) hk hro dX2_init_148 cw_RX2_73 (by decide) rfl (by decide) hh8 ⟨by decide, by decide⟩ ⟨by decide, by decide⟩ (Nat.le_of_ble_eq_true rfl) ?_
  refine b_aload_n hk dX2_init_151 0 rfl ?_
  refine b_gett (k := 2) (v := .ref (h + 2)) hk dX2_init_152 kc2 (by decide) fl_RX2_18 rfl ?_
  refine b_bipush (v := 10) hk dX2_init_155 (by decide) ?_
  refine b_fill (i := 2) (len := 6) hk hro dX2_init_157 cw_RX2_73 (by decide) rfl (by decide) hh8 ⟨by decide, by decide⟩ ⟨by decide, by decide⟩ (Nat.le_of_ble_eq_true rfl) ?_
  exact b_ret hk hrt hQ dX2_init_160 ⟨by decide, by decide⟩ rfl rfl rfl
def bv_X3 (E : kE) (h : Nat) : Nat → Value := bU (bU (bU (bU (bU (bU (bU (bU (bV3) 0 (.ref (h + 0))) 1 (.int (-1))) 2 (.int 0)) 3 (.ref (h + 8))) 4 (.ref (h + 9))) 5 (.ref (h + 10))) 6 (.int 0)) 7 (.int 0)
def bf_X3 (E : kE) (h : Nat) : Nat → bC := bU (bU (bU (bA (bU (bU (bNil) 0 (.inl (4, bV4))) 0 (.inl (4, bv_X4 E (h + 1)))) 1 (bf_X4 E (h + 1))) 8 (.inr (kcA E (bg 0), 301, fun _ => .int 0))) 9 (.inr (kcA E (bg 0), 301, fun _ => .int 0))) 10 (.inr (kcA E (bg 0), 301, fun _ => .int 0))
set_option maxRecDepth 20000 in
set_option maxHeartbeats 4000000 in
theorem bm_X3 {l : Launch} {E : kE} (hh8 : 0 < kcnt E 8) : bMet l E yX3_init cX3_init 1 2 32 11 1296 3 bV3 (bv_X3 E) (bf_X3 E) 11 := by
  refine b_met (by decide) rfl (by decide) (fun C Q a h hk hl0 hnm hrt hro hQ => ?_)
  have hk : bOk C E cX3_init RX3 1 := hk
  refine b_aload_n hk dX3_init_0 0 rfl ?_
  refine b_obj hk hro dX3_init_1 (kTB_mk (lwt1 (List.mem_of_getElem? (i := 34) rfl)) rfl) (kTB_mk (lwt1 (List.mem_of_getElem? (i := 27) rfl)) rfl) (kTB_mk (lwt1 (List.mem_of_getElem? (i := 28) rfl)) rfl) ⟨by decide, Nat.le_of_ble_eq_true rfl⟩ ?_
  refine b_aload_n hk dX3_init_4 0 rfl ?_
  refine b_new (V2 := bV4) hk hro dX3_init_5 kc4 (kTB_mk (lwt1 (List.mem_of_getElem? (i := 35) rfl)) rfl) (kTB_mk (lwt1 (List.mem_of_getElem? (i := 36) rfl)) rfl) (kTB_mk (lwt1 (List.mem_of_getElem? (i := 3) rfl)) rfl) (by decide) ⟨by decide, by decide⟩ ?_
  refine b_dup hk dX3_init_8 rfl ?_
  refine b_init (i := 0) hk hl0 hro (bm_X4 hh8) dX3_init_9 (by decide) rfl bc_RX3_11 ⟨by decide, by decide⟩ ⟨by decide, by decide⟩ (Nat.le_of_ble_eq_true rfl) ?_
  refine b_putt (k := 0) hk (fun _ => ⟨hnm, rfl⟩) dX3_init_12 kc3 (by decide) fl_RX3_12 rfl rfl ?_
  refine b_aload_n hk dX3_init_15 0 rfl ?_
  refine b_iconst (v := (-1)) hk dX3_init_16 (by decide) ?_
  refine b_putt (k := 1) hk (fun q => absurd q (by decide)) dX3_init_17 kc3 (by decide) fl_RX3_18 rfl rfl ?_
  refine b_aload_n hk dX3_init_20 0 rfl ?_
  refine b_iconst (v := 0) hk dX3_init_21 (by decide) ?_
  refine b_putt (k := 2) hk (fun q => absurd q (by decide)) dX3_init_22 kc3 (by decide) fl_RX3_22 rfl rfl ?_
  refine b_aload_n hk dX3_init_25 0 rfl ?_
  refine b_sipush (v := 301) hk dX3_init_26 (by decide) ?_
  refine b_newa (t := 0) (N := 301) (z := .int 0) hk hro dX3_init_29 (by decide) (kTB_mk (lwt1 (List.mem_of_getElem? (i := 87) rfl)) rfl) (fun _ _ q => q) rfl (by decide) (by decide) (by decide) ⟨by decide, by decide⟩ ?_
  refine b_putt (k := 3) hk (fun _ => ⟨hnm, rfl⟩) dX3_init_31 kc3 (by decide) fl_RX3_25 rfl rfl ?_
  refine b_aload_n hk dX3_init_34 0 rfl ?_
  refine b_sipush (v := 301) hk dX3_init_35 (by decide) ?_
  refine b_newa (t := 0) (N := 301) (z := .int 0) hk hro dX3_init_38 (by decide) (kTB_mk (lwt1 (List.mem_of_getElem? (i := 87) rfl)) rfl) (fun _ _ q => q) rfl (by decide) (by decide) (by decide) ⟨by decide, by decide⟩ ?_
  refine b_putt (k := 4) hk (fun _ => ⟨hnm, rfl⟩) dX3_init_40 kc3 (by decide) fl_RX3_29 rfl rfl ?_
  refine b_aload_n hk dX3_init_43 0 rfl ?_
  refine b_sipush (v := 301) hk dX3_init_44 (by decide) ?_
  refine b_newa (t := 0) (N := 301) (z := .int 0) hk hro dX3_init_47 (by decide) (kTB_mk (lwt1 (List.mem_of_getElem? (i := 87) rfl)) rfl) (fun _ _ q => q) rfl (by decide) (by decide) (by decide) ⟨by decide, by decide⟩ ?_
  refine b_putt (k := 5) hk (fun _ => ⟨hnm, rfl⟩) dX3_init_49 kc3 (by decide) fl_RX3_32 rfl rfl ?_
  refine b_aload_n hk dX3_init_52 0 rfl ?_
  refine b_iconst (v := 0) hk dX3_init_53 (by decide) ?_
  refine b_putt (k := 6) hk (fun q => absurd q (by decide)) dX3_init_54 kc3 (by decide) fl_RX3_35 rfl rfl ?_
  refine b_aload_n hk dX3_init_57 0 rfl ?_
  refine b_iconst (v := 0) hk dX3_init_58 (by decide) ?_
  refine b_putt (k := 7) hk (fun q => absurd q (by decide)) dX3_init_59 kc3 (by decide) fl_RX3_38 rfl rfl ?_
  exact b_ret hk hrt hQ dX3_init_62 ⟨by decide, by decide⟩ rfl rfl rfl
def bv_X1 (E : kE) (h : Nat) : Nat → Value := bU (bU (bU (bU (bU (bU (bU (bU (bU (bU (bU (bU (bU (bV1) 0 (.ref (h + 0))) 1 (.ref (h + 1))) 2 (.ref (h + 2))) 3 (.ref (h + 3))) 4 (.ref (h + 4))) 5 (.ref (h + 5))) 6 (.int 0)) 7 (.int 0)) 8 (.int 0)) 9 (.int 0)) 10 (.int (-1))) 11 (.int (-1))) 12 (.int (-1))
def bf_X1 (E : kE) (h : Nat) : Nat → bC := bA (bU (bU (bU (bU (bU (bU (bU (bNil) 0 (.inr (kcA E (bg 0), 10, fun _ => .int 0))) 1 (.inr (kcA E (bg 0), 8, fun _ => .int 0))) 2 (.inr (kcA E (bg 0), 8, fun _ => .int 0))) 3 (.inr (kcA E (bg 0), 8, fun _ => .int 0))) 4 (.inr (kcA E (bg 0), 32, fun _ => .int 0))) 5 (.inl (4, bV4))) 5 (.inl (4, bv_X4 E (h + 6)))) 6 (bf_X4 E (h + 6))
set_option maxRecDepth 20000 in
set_option maxHeartbeats 4000000 in
theorem bm_X1 {l : Launch} {E : kE} (hh8 : 0 < kcnt E 8) : bMet l E yX1_init cX1_init 1 2 32 13 459 1 bV1 (bv_X1 E) (bf_X1 E) 13 := by
  refine b_met (by decide) rfl (by decide) (fun C Q a h hk hl0 hnm hrt hro hQ => ?_)
  have hk : bOk C E cX1_init RX1 1 := hk
  refine b_aload_n hk dX1_init_0 0 rfl ?_
  refine b_obj hk hro dX1_init_1 (kTB_mk (lwt1 (List.mem_of_getElem? (i := 208) rfl)) rfl) (kTB_mk (lwt1 (List.mem_of_getElem? (i := 27) rfl)) rfl) (kTB_mk (lwt1 (List.mem_of_getElem? (i := 28) rfl)) rfl) ⟨by decide, Nat.le_of_ble_eq_true rfl⟩ ?_
  refine b_aload_n hk dX1_init_4 0 rfl ?_
  refine b_bipush (v := 10) hk dX1_init_5 (by decide) ?_
  refine b_newa (t := 0) (N := 10) (z := .int 0) hk hro dX1_init_7 (by decide) (kTB_mk (lwt1 (List.mem_of_getElem? (i := 87) rfl)) rfl) (fun _ _ q => q) rfl (by decide) (by decide) (by decide) ⟨by decide, by decide⟩ ?_
  refine b_putt (k := 0) hk (fun _ => ⟨hnm, rfl⟩) dX1_init_9 kc1 (by decide) fl_RX1_9 rfl rfl ?_
  refine b_aload_n hk dX1_init_12 0 rfl ?_
  refine b_bipush (v := 8) hk dX1_init_13 (by decide) ?_
  refine b_newa (t := 0) (N := 8) (z := .int 0) hk hro dX1_init_15 (by decide) (kTB_mk (lwt1 (List.mem_of_getElem? (i := 87) rfl)) rfl) (fun _ _ q => q) rfl (by decide) (by decide) (by decide) ⟨by decide, by decide⟩ ?_
  refine b_putt (k := 1) hk (fun _ => ⟨hnm, rfl⟩) dX1_init_17 kc1 (by decide) fl_RX1_15 rfl rfl ?_
  refine b_aload_n hk dX1_init_20 0 rfl ?_
  refine b_bipush (v := 8) hk dX1_init_21 (by decide) ?_
  refine b_newa (t := 0) (N := 8) (z := .int 0) hk hro dX1_init_23 (by decide) (kTB_mk (lwt1 (List.mem_of_getElem? (i := 87) rfl)) rfl) (fun _ _ q => q) rfl (by decide) (by decide) (by decide) ⟨by decide, by decide⟩ ?_
  refine b_putt (k := 2) hk (fun _ => ⟨hnm, rfl⟩) dX1_init_25 kc1 (by decide) fl_RX1_18 rfl rfl ?_
  refine b_aload_n hk dX1_init_28 0 rfl ?_
  refine b_bipush (v := 8) hk dX1_init_29 (by decide) ?_
  refine b_newa (t := 0) (N := 8) (z := .int 0) hk hro dX1_init_31 (by decide) (kTB_mk (lwt1 (List.mem_of_getElem? (i := 87) rfl)) rfl) (fun _ _ q => q) rfl (by decide) (by decide) (by decide) ⟨by decide, by decide⟩ ?_
  refine b_putt (k := 3) hk (fun _ => ⟨hnm, rfl⟩) dX1_init_33 kc1 (by decide) fl_RX1_21 rfl rfl ?_
  refine b_aload_n hk dX1_init_36 0 rfl ?_
  refine b_bipush (v := 32) hk dX1_init_37 (by decide) ?_
  refine b_newa (t := 0) (N := 32) (z := .int 0) hk hro dX1_init_39 (by decide) (kTB_mk (lwt1 (List.mem_of_getElem? (i := 87) rfl)) rfl) (fun _ _ q => q) rfl (by decide) (by decide) (by decide) ⟨by decide, by decide⟩ ?_
  refine b_putt (k := 4) hk (fun _ => ⟨hnm, rfl⟩) dX1_init_41 kc1 (by decide) fl_RX1_24 rfl rfl ?_
  refine b_aload_n hk dX1_init_44 0 rfl ?_
  refine b_new (V2 := bV4) hk hro dX1_init_45 kc4 (kTB_mk (lwt1 (List.mem_of_getElem? (i := 209) rfl)) rfl) (kTB_mk (lwt1 (List.mem_of_getElem? (i := 36) rfl)) rfl) (kTB_mk (lwt1 (List.mem_of_getElem? (i := 3) rfl)) rfl) (by decide) ⟨by decide, by decide⟩ ?_
  refine b_dup hk dX1_init_48 rfl ?_
  refine b_init (i := 5) hk hl0 hro (bm_X4 hh8) dX1_init_49 (by decide) rfl bc_RX1_29 ⟨by decide, by decide⟩ ⟨by decide, by decide⟩ (Nat.le_of_ble_eq_true rfl) ?_
  refine b_putt (k := 5) hk (fun q => absurd q (by decide)) dX1_init_52 kc1 (by decide) fl_RX1_30 rfl rfl ?_
  refine b_aload_n hk dX1_init_55 0 rfl ?_
  refine b_iconst (v := 0) hk dX1_init_56 (by decide) ?_
  refine b_putt (k := 6) hk (fun q => absurd q (by decide)) dX1_init_57 kc1 (by decide) fl_RX1_34 rfl rfl ?_
  refine b_aload_n hk dX1_init_60 0 rfl ?_
  refine b_iconst (v := 0) hk dX1_init_61 (by decide) ?_
  refine b_putt (k := 7) hk (fun q => absurd q (by decide)) dX1_init_62 kc1 (by decide) fl_RX1_38 rfl rfl ?_
  refine b_aload_n hk dX1_init_65 0 rfl ?_
  refine b_iconst (v := 0) hk dX1_init_66 (by decide) ?_
  refine b_putt (k := 8) hk (fun q => absurd q (by decide)) dX1_init_67 kc1 (by decide) fl_RX1_41 rfl rfl ?_
  refine b_aload_n hk dX1_init_70 0 rfl ?_
  refine b_iconst (v := 0) hk dX1_init_71 (by decide) ?_
  refine b_putt (k := 9) hk (fun q => absurd q (by decide)) dX1_init_72 kc1 (by decide) fl_RX1_44 rfl rfl ?_
  refine b_aload_n hk dX1_init_75 0 rfl ?_
  refine b_iconst (v := (-1)) hk dX1_init_76 (by decide) ?_
  refine b_putt (k := 10) hk (fun q => absurd q (by decide)) dX1_init_77 kc1 (by decide) fl_RX1_47 rfl rfl ?_
  refine b_aload_n hk dX1_init_80 0 rfl ?_
  refine b_iconst (v := (-1)) hk dX1_init_81 (by decide) ?_
  refine b_putt (k := 11) hk (fun q => absurd q (by decide)) dX1_init_82 kc1 (by decide) fl_RX1_50 rfl rfl ?_
  refine b_aload_n hk dX1_init_85 0 rfl ?_
  refine b_iconst (v := (-1)) hk dX1_init_86 (by decide) ?_
  refine b_putt (k := 12) hk (fun q => absurd q (by decide)) dX1_init_87 kc1 (by decide) fl_RX1_53 rfl rfl ?_
  exact b_ret hk hrt hQ dX1_init_90 ⟨by decide, by decide⟩ rfl rfl rfl
def bv_X5 (E : kE) (h : Nat) : Nat → Value := bU (bU (bU (bU (bU (bU (bU (bU (bU (bU (bU (bU (bU (bV5) 0 (.ref (h + 0))) 1 (.int 0)) 2 (.ref (h + 1))) 3 (.int (-1))) 4 (.ref (h + 13))) 5 (.int 0)) 6 (.ref (h + 14))) 7 (.ref (h + 29))) 8 (.int 0)) 9 (.ref (h + 30))) 10 (.ref (h + 44))) 11 (.ref (h + 45))) 12 (.ref (h + 46))
def bf_X5 (E : kE) (h : Nat) : Nat → bC := bU (bA (bU (bU (bU (bA (bU (bU (bU (bA (bU (bU (bU (bU (bA (bU (bU (bU (bA (bU (bU (bU (bU (bA (bU (bU (bU (bA (bU (bU (bU (bU (bA (bU (bU (bU (bA (bU (bU (bU (bU (bA (bU (bU (bU (bA (bU (bU (bU (bU (bA (bU (bU (bU (bA (bU (bU (bU (bU (bA (bU (bU (bU (bA (bU (bU (bU (bU (bU (bA (bU (bU (bU (bA (bU (bU (bU (bA (bU (bU (bU (bNil) 0 (.inr (kcA E (bg 2), 300, fun _ => .int 0))) 1 (.inl (3, bV3))) 1 (.inl (3, bv_X3 E (h + 2)))) 2 (bf_X3 E (h + 2))) 13 (.inr (kcA E (bg 3), 6, fun _ => .null))) 14 (.inl (2, bV2))) 14 (.inl (2, bv_X2 E (h + 15)))) 15 (bf_X2 E (h + 15))) 29 (.inr (kcA E (bg 4), 3, fun _ => .null))) 30 (.inl (1, bV1))) 30 (.inl (1, bv_X1 E (h + 31)))) 31 (bf_X1 E (h + 31))) 44 (.inr (kcA E (bg 5), 6, fun _ => .null))) 45 (.inr (kcA E (bg 0), 6, fun _ => .int 0))) 46 (.inr (kcA E (bg 1), 6, fun _ => .long 0))) 47 (.inl (4, bV4))) 47 (.inl (4, bv_X4 E (h + 48)))) 48 (bf_X4 E (h + 48))) 13 (.inr (kcA E (bg 3), 6, bU (fun _ => .null) 0 (.ref (h + 47))))) 55 (.inl (0, bV0))) 55 (.inl (0, bv_X0 E (h + 56)))) 56 (bf_X0 E (h + 56))) 44 (.inr (kcA E (bg 5), 6, bU (fun _ => .null) 0 (.ref (h + 55))))) 45 (.inr (kcA E 8, 6, bU (fun _ => .int 0) 0 (.int (-1))))) 63 (.inl (4, bV4))) 63 (.inl (4, bv_X4 E (h + 64)))) 64 (bf_X4 E (h + 64))) 13 (.inr (kcA E (bg 3), 6, bU (bU (fun _ => .null) 0 (.ref (h + 47))) 1 (.ref (h + 63))))) 71 (.inl (0, bV0))) 71 (.inl (0, bv_X0 E (h + 72)))) 72 (bf_X0 E (h + 72))) 44 (.inr (kcA E (bg 5), 6, bU (bU (fun _ => .null) 0 (.ref (h + 55))) 1 (.ref (h + 71))))) 45 (.inr (kcA E 8, 6, bU (bU (fun _ => .int 0) 0 (.int (-1))) 1 (.int (-1))))) 79 (.inl (4, bV4))) 79 (.inl (4, bv_X4 E (h + 80)))) 80 (bf_X4 E (h + 80))) 13 (.inr (kcA E (bg 3), 6, bU (bU (bU (fun _ => .null) 0 (.ref (h + 47))) 1 (.ref (h + 63))) 2 (.ref (h + 79))))) 87 (.inl (0, bV0))) 87 (.inl (0, bv_X0 E (h + 88)))) 88 (bf_X0 E (h + 88))) 44 (.inr (kcA E (bg 5), 6, bU (bU (bU (fun _ => .null) 0 (.ref (h + 55))) 1 (.ref (h + 71))) 2 (.ref (h + 87))))) 45 (.inr (kcA E 8, 6, bU (bU (bU (fun _ => .int 0) 0 (.int (-1))) 1 (.int (-1))) 2 (.int (-1))))) 95 (.inl (4, bV4))) 95 (.inl (4, bv_X4 E (h + 96)))) 96 (bf_X4 E (h + 96))) 13 (.inr (kcA E (bg 3), 6, bU (bU (bU (bU (fun _ => .null) 0 (.ref (h + 47))) 1 (.ref (h + 63))) 2 (.ref (h + 79))) 3 (.ref (h + 95))))) 103 (.inl (0, bV0))) 103 (.inl (0, bv_X0 E (h + 104)))) 104 (bf_X0 E (h + 104))) 44 (.inr (kcA E (bg 5), 6, bU (bU (bU (bU (fun _ => .null) 0 (.ref (h + 55))) 1 (.ref (h + 71))) 2 (.ref (h + 87))) 3 (.ref (h + 103))))) 45 (.inr (kcA E 8, 6, bU (bU (bU (bU (fun _ => .int 0) 0 (.int (-1))) 1 (.int (-1))) 2 (.int (-1))) 3 (.int (-1))))) 111 (.inl (4, bV4))) 111 (.inl (4, bv_X4 E (h + 112)))) 112 (bf_X4 E (h + 112))) 13 (.inr (kcA E (bg 3), 6, bU (bU (bU (bU (bU (fun _ => .null) 0 (.ref (h + 47))) 1 (.ref (h + 63))) 2 (.ref (h + 79))) 3 (.ref (h + 95))) 4 (.ref (h + 111))))) 119 (.inl (0, bV0))) 119 (.inl (0, bv_X0 E (h + 120)))) 120 (bf_X0 E (h + 120))) 44 (.inr (kcA E (bg 5), 6, bU (bU (bU (bU (bU (fun _ => .null) 0 (.ref (h + 55))) 1 (.ref (h + 71))) 2 (.ref (h + 87))) 3 (.ref (h + 103))) 4 (.ref (h + 119))))) 45 (.inr (kcA E 8, 6, bU (bU (bU (bU (bU (fun _ => .int 0) 0 (.int (-1))) 1 (.int (-1))) 2 (.int (-1))) 3 (.int (-1))) 4 (.int (-1))))) 127 (.inl (4, bV4))) 127 (.inl (4, bv_X4 E (h + 128)))) 128 (bf_X4 E (h + 128))) 13 (.inr (kcA E (bg 3), 6, bU (bU (bU (bU (bU (bU (fun _ => .null) 0 (.ref (h + 47))) 1 (.ref (h + 63))) 2 (.ref (h + 79))) 3 (.ref (h + 95))) 4 (.ref (h + 111))) 5 (.ref (h + 127))))) 135 (.inl (0, bV0))) 135 (.inl (0, bv_X0 E (h + 136)))) 136 (bf_X0 E (h + 136))) 44 (.inr (kcA E (bg 5), 6, bU (bU (bU (bU (bU (bU (fun _ => .null) 0 (.ref (h + 55))) 1 (.ref (h + 71))) 2 (.ref (h + 87))) 3 (.ref (h + 103))) 4 (.ref (h + 119))) 5 (.ref (h + 135))))) 45 (.inr (kcA E 8, 6, bU (bU (bU (bU (bU (bU (fun _ => .int 0) 0 (.int (-1))) 1 (.int (-1))) 2 (.int (-1))) 3 (.int (-1))) 4 (.int (-1))) 5 (.int (-1))))) 143 (.inl (2, bV2))) 143 (.inl (2, bv_X2 E (h + 144)))) 144 (bf_X2 E (h + 144))) 29 (.inr (kcA E (bg 4), 3, bU (fun _ => .null) 0 (.ref (h + 143))))) 158 (.inl (2, bV2))) 158 (.inl (2, bv_X2 E (h + 159)))) 159 (bf_X2 E (h + 159))) 29 (.inr (kcA E (bg 4), 3, bU (bU (fun _ => .null) 0 (.ref (h + 143))) 1 (.ref (h + 158))))) 173 (.inl (2, bV2))) 173 (.inl (2, bv_X2 E (h + 174)))) 174 (bf_X2 E (h + 174))) 29 (.inr (kcA E (bg 4), 3, bU (bU (bU (fun _ => .null) 0 (.ref (h + 143))) 1 (.ref (h + 158))) 2 (.ref (h + 173))))
set_option maxRecDepth 20000 in
set_option maxHeartbeats 4000000 in
theorem bm_X5 {l : Launch} {E : kE} (hh8 : 0 < kcnt E 8) : bMet l E yX5_init cX5_init 2 3 80 188 17125 5 bV5 (bv_X5 E) (bf_X5 E) 188 := by
  refine b_met (by decide) rfl (by decide) (fun C Q a h hk hl0 hnm hrt hro hQ => ?_)
  have hk : bOk C E cX5_init RX5 2 := hk
  refine b_aload_n hk dX5_init_0 0 rfl ?_
  refine b_obj hk hro dX5_init_1 (kTB_mk (lwt1 (List.mem_of_getElem? (i := 26) rfl)) rfl) (kTB_mk (lwt1 (List.mem_of_getElem? (i := 27) rfl)) rfl) (kTB_mk (lwt1 (List.mem_of_getElem? (i := 28) rfl)) rfl) ⟨by decide, Nat.le_of_ble_eq_true rfl⟩ ?_
  refine b_aload_n hk dX5_init_4 0 rfl ?_
  refine b_sipush (v := 300) hk dX5_init_5 (by decide) ?_
  refine b_newa (t := 2) (N := 300) (z := .int 0) hk hro dX5_init_8 (by decide) (kTB_mk (lwt1 (List.mem_of_getElem? (i := 86) rfl)) rfl) (fun _ _ q => q) rfl (by decide) (by decide) (by decide) ⟨by decide, by decide⟩ ?_
  refine b_putt (k := 0) hk (fun _ => ⟨hnm, rfl⟩) dX5_init_10 kc5 (by decide) fl_RX5_9 rfl rfl ?_
  refine b_aload_n hk dX5_init_13 0 rfl ?_
  refine b_iconst (v := 0) hk dX5_init_14 (by decide) ?_
  refine b_putt (k := 1) hk (fun q => absurd q (by decide)) dX5_init_15 kc5 (by decide) fl_RX5_13 rfl rfl ?_
  refine b_aload_n hk dX5_init_18 0 rfl ?_
  refine b_new (V2 := bV3) hk hro dX5_init_19 kc3 (kTB_mk (lwt1 (List.mem_of_getElem? (i := 29) rfl)) rfl) (kTB_mk (lwt1 (List.mem_of_getElem? (i := 30) rfl)) rfl) (kTB_mk (lwt1 (List.mem_of_getElem? (i := 2) rfl)) rfl) (by decide) ⟨by decide, by decide⟩ ?_
  refine b_dup hk dX5_init_22 rfl ?_
  refine b_init (i := 1) hk hl0 hro (bm_X3 hh8) dX5_init_23 (by decide) rfl bc_RX5_19 ⟨by decide, by decide⟩ ⟨by decide, by decide⟩ (Nat.le_of_ble_eq_true rfl) ?_
  refine b_putt (k := 2) hk (fun _ => ⟨hnm, rfl⟩) dX5_init_26 kc5 (by decide) fl_RX5_20 rfl rfl ?_
  refine b_aload_n hk dX5_init_29 0 rfl ?_
  refine b_iconst (v := (-1)) hk dX5_init_30 (by decide) ?_
  refine b_putt (k := 3) hk (fun q => absurd q (by decide)) dX5_init_31 kc5 (by decide) fl_RX5_24 rfl rfl ?_
  refine b_aload_n hk dX5_init_34 0 rfl ?_
  refine b_bipush (v := 6) hk dX5_init_35 (by decide) ?_
  refine b_anew (t := 3) (N := 6) (Cn := "MastSparks$Why") hk hro dX5_init_37 (kTB_mk (lwt1 (List.mem_of_getElem? (i := 115) rfl)) rfl) (by decide) (by decide) rfl (by decide) (by decide) (by decide) ⟨by decide, by decide⟩ ?_
  refine b_putt (k := 4) hk (fun _ => ⟨hnm, rfl⟩) dX5_init_40 kc5 (by decide) fl_RX5_29 rfl rfl ?_
  refine b_aload_n hk dX5_init_43 0 rfl ?_
  refine b_iconst (v := 0) hk dX5_init_44 (by decide) ?_
  refine b_putt (k := 5) hk (fun q => absurd q (by decide)) dX5_init_45 kc5 (by decide) fl_RX5_33 rfl rfl ?_
  refine b_aload_n hk dX5_init_48 0 rfl ?_
  refine b_new (V2 := bV2) hk hro dX5_init_49 kc2 (kTB_mk (lwt1 (List.mem_of_getElem? (i := 117) rfl)) rfl) (kTB_mk (lwt1 (List.mem_of_getElem? (i := 118) rfl)) rfl) (kTB_mk (lwt1 (List.mem_of_getElem? (i := 4) rfl)) rfl) (by decide) ⟨by decide, by decide⟩ ?_
  refine b_dup hk dX5_init_52 rfl ?_
  refine b_init (i := 14) hk hl0 hro (bm_X2 hh8) dX5_init_53 (by decide) rfl bc_RX5_38 ⟨by decide, by decide⟩ ⟨by decide, by decide⟩ (Nat.le_of_ble_eq_true rfl) ?_
  refine b_putt (k := 6) hk (fun _ => ⟨hnm, rfl⟩) dX5_init_56 kc5 (by decide) fl_RX5_39 rfl rfl ?_
  refine b_aload_n hk dX5_init_59 0 rfl ?_
  refine b_iconst (v := 3) hk dX5_init_60 (by decide) ?_
  refine b_anew (t := 4) (N := 3) (Cn := "MastSparks$Papers") hk hro dX5_init_61 (kTB_mk (lwt1 (List.mem_of_getElem? (i := 117) rfl)) rfl) (by decide) (by decide) rfl (by decide) (by decide) (by decide) ⟨by decide, by decide⟩ ?_
  refine b_putt (k := 7) hk (fun _ => ⟨hnm, rfl⟩) dX5_init_64 kc5 (by decide) fl_RX5_43 rfl rfl ?_
  refine b_aload_n hk dX5_init_67 0 rfl ?_
  refine b_iconst (v := 0) hk dX5_init_68 (by decide) ?_
  refine b_putt (k := 8) hk (fun q => absurd q (by decide)) dX5_init_69 kc5 (by decide) fl_RX5_47 rfl rfl ?_
  refine b_aload_n hk dX5_init_72 0 rfl ?_
  refine b_new (V2 := bV1) hk hro dX5_init_73 kc1 (kTB_mk (lwt1 (List.mem_of_getElem? (i := 203) rfl)) rfl) (kTB_mk (lwt1 (List.mem_of_getElem? (i := 204) rfl)) rfl) (kTB_mk (lwt1 (List.mem_of_getElem? (i := 7) rfl)) rfl) (by decide) ⟨by decide, by decide⟩ ?_
  refine b_dup hk dX5_init_76 rfl ?_
  refine b_init (i := 30) hk hl0 hro (bm_X1 hh8) dX5_init_77 (by decide) rfl bc_RX5_52 ⟨by decide, by decide⟩ ⟨by decide, by decide⟩ (Nat.le_of_ble_eq_true rfl) ?_
  refine b_putt (k := 9) hk (fun _ => ⟨hnm, rfl⟩) dX5_init_80 kc5 (by decide) fl_RX5_53 rfl rfl ?_
  refine b_aload_n hk dX5_init_83 0 rfl ?_
  refine b_bipush (v := 6) hk dX5_init_84 (by decide) ?_
  refine b_anew (t := 5) (N := 6) (Cn := "MastSparks$Film") hk hro dX5_init_86 (kTB_mk (lwt2 (List.mem_of_getElem? (i := 23) rfl)) rfl) (by decide) (by decide) rfl (by decide) (by decide) (by decide) ⟨by decide, by decide⟩ ?_
  refine b_putt (k := 10) hk (fun _ => ⟨hnm, rfl⟩) dX5_init_89 kc5 (by decide) fl_RX5_59 rfl rfl ?_
  refine b_aload_n hk dX5_init_92 0 rfl ?_
  refine b_bipush (v := 6) hk dX5_init_93 (by decide) ?_
  refine b_newa (t := 0) (N := 6) (z := .int 0) hk hro dX5_init_95 (by decide) (kTB_mk (lwt1 (List.mem_of_getElem? (i := 87) rfl)) rfl) (fun _ _ q => q) rfl (by decide) (by decide) (by decide) ⟨by decide, by decide⟩ ?_
  refine b_putt (k := 11) hk (fun _ => ⟨hnm, rfl⟩) dX5_init_97 kc5 (by decide) fl_RX5_63 rfl rfl ?_
  refine b_aload_n hk dX5_init_100 0 rfl ?_
  refine b_bipush (v := 6) hk dX5_init_101 (by decide) ?_
  refine b_newa (t := 1) (N := 6) (z := .long 0) hk hro dX5_init_103 (by decide) (kTB_mk (lwt2 (List.mem_of_getElem? (i := 80) rfl)) rfl) (fun _ _ q => q) rfl (by decide) (by decide) (by decide) ⟨by decide, by decide⟩ ?_
  refine b_putt (k := 12) hk (fun _ => ⟨hnm, rfl⟩) dX5_init_105 kc5 (by decide) fl_RX5_67 rfl rfl ?_
  refine b_iconst (v := 0) hk dX5_init_108 (by decide) ?_
  refine b_istore_n (lv' := [(1, .int 0), (0, .ref a)]) hk dX5_init_109 (by decide) rfl ?_
  refine b_iload_n hk dX5_init_110 0 rfl ?_
  refine b_bipush (v := 6) hk dX5_init_111 (by decide) ?_
  refine b_ge_f hk dX5_init_113 155 (by decide) (by decide) ?_
  refine b_aload_n hk dX5_init_116 1 rfl ?_
  refine b_gett (k := 4) (v := .ref (h + 13)) hk dX5_init_117 kc5 (by decide) fl_RX5_29 rfl ?_
  refine b_iload_n hk dX5_init_120 0 rfl ?_
  refine b_new (V2 := bV4) hk hro dX5_init_121 kc4 (kTB_mk (lwt1 (List.mem_of_getElem? (i := 115) rfl)) rfl) (kTB_mk (lwt1 (List.mem_of_getElem? (i := 36) rfl)) rfl) (kTB_mk (lwt1 (List.mem_of_getElem? (i := 3) rfl)) rfl) (by decide) ⟨by decide, by decide⟩ ?_
  refine b_dup hk dX5_init_124 rfl ?_
  refine b_init (i := 47) hk hl0 hro (bm_X4 hh8) dX5_init_125 (by decide) rfl bc_RX5_71 ⟨by decide, by decide⟩ ⟨by decide, by decide⟩ (Nat.le_of_ble_eq_true rfl) ?_
  refine b_aast (i := 13) (i2 := 47) (t := 3) (len := 6) (jn := 0) (W0 := fun _ => .null) hk dX5_init_128 (by decide) (by decide) rfl rfl kc4 (by decide) rfl (by decide) (by decide) ?_
  refine b_aload_n hk dX5_init_129 1 rfl ?_
  refine b_gett (k := 10) (v := .ref (h + 44)) hk dX5_init_130 kc5 (by decide) fl_RX5_59 rfl ?_
  refine b_iload_n hk dX5_init_133 0 rfl ?_
  refine b_new (V2 := bV0) hk hro dX5_init_134 kc0 (kTB_mk (lwt2 (List.mem_of_getElem? (i := 23) rfl)) rfl) (kTB_mk (lwt2 (List.mem_of_getElem? (i := 26) rfl)) rfl) (kTB_mk (lwt1 (List.mem_of_getElem? (i := 8) rfl)) rfl) (by decide) ⟨by decide, by decide⟩ ?_
  refine b_dup hk dX5_init_137 rfl ?_
  refine b_init (i := 55) hk hl0 hro (bm_X0 hh8) dX5_init_138 (by decide) rfl bc_RX5_72 ⟨by decide, by decide⟩ ⟨by decide, by decide⟩ (Nat.le_of_ble_eq_true rfl) ?_
  refine b_aast (i := 44) (i2 := 55) (t := 5) (len := 6) (jn := 0) (W0 := fun _ => .null) hk dX5_init_141 (by decide) (by decide) rfl rfl kc0 (by decide) rfl (by decide) (by decide) ?_
  refine b_aload_n hk dX5_init_142 1 rfl ?_
  refine b_gett (k := 11) (v := .ref (h + 45)) hk dX5_init_143 kc5 (by decide) fl_RX5_63 rfl ?_
  refine b_iload_n hk dX5_init_146 0 rfl ?_
  refine b_iconst (v := (-1)) hk dX5_init_147 (by decide) ?_
  refine b_iast (i := 45) (len := 6) (jn := 0) (W0 := fun _ => .int 0) hk dX5_init_148 (by decide) rfl (by decide) (by decide) hh8 ?_
  refine b_iinc (lv' := [(1, .int 1), (0, .ref a)]) (j := 0) (y := 1) hk dX5_init_149 rfl (by decide) (by decide) rfl ?_
  refine b_goto hk dX5_init_152 110 (by decide) ?_
  refine b_iload_n hk dX5_init_110 0 rfl ?_
  refine b_bipush (v := 6) hk dX5_init_111 (by decide) ?_
  refine b_ge_f hk dX5_init_113 155 (by decide) (by decide) ?_
  refine b_aload_n hk dX5_init_116 1 rfl ?_
  refine b_gett (k := 4) (v := .ref (h + 13)) hk dX5_init_117 kc5 (by decide) fl_RX5_29 rfl ?_
  refine b_iload_n hk dX5_init_120 0 rfl ?_
  refine b_new (V2 := bV4) hk hro dX5_init_121 kc4 (kTB_mk (lwt1 (List.mem_of_getElem? (i := 115) rfl)) rfl) (kTB_mk (lwt1 (List.mem_of_getElem? (i := 36) rfl)) rfl) (kTB_mk (lwt1 (List.mem_of_getElem? (i := 3) rfl)) rfl) (by decide) ⟨by decide, by decide⟩ ?_
  refine b_dup hk dX5_init_124 rfl ?_
  refine b_init (i := 63) hk hl0 hro (bm_X4 hh8) dX5_init_125 (by decide) rfl bc_RX5_71 ⟨by decide, by decide⟩ ⟨by decide, by decide⟩ (Nat.le_of_ble_eq_true rfl) ?_
  refine b_aast (i := 13) (i2 := 63) (t := 3) (len := 6) (jn := 1) (W0 := bU (fun _ => .null) 0 (.ref (h + 47))) hk dX5_init_128 (by decide) (by decide) rfl rfl kc4 (by decide) rfl (by decide) (by decide) ?_
  refine b_aload_n hk dX5_init_129 1 rfl ?_
  refine b_gett (k := 10) (v := .ref (h + 44)) hk dX5_init_130 kc5 (by decide) fl_RX5_59 rfl ?_
  refine b_iload_n hk dX5_init_133 0 rfl ?_
  refine b_new (V2 := bV0) hk hro dX5_init_134 kc0 (kTB_mk (lwt2 (List.mem_of_getElem? (i := 23) rfl)) rfl) (kTB_mk (lwt2 (List.mem_of_getElem? (i := 26) rfl)) rfl) (kTB_mk (lwt1 (List.mem_of_getElem? (i := 8) rfl)) rfl) (by decide) ⟨by decide, by decide⟩ ?_
  refine b_dup hk dX5_init_137 rfl ?_
  refine b_init (i := 71) hk hl0 hro (bm_X0 hh8) dX5_init_138 (by decide) rfl bc_RX5_72 ⟨by decide, by decide⟩ ⟨by decide, by decide⟩ (Nat.le_of_ble_eq_true rfl) ?_
  refine b_aast (i := 44) (i2 := 71) (t := 5) (len := 6) (jn := 1) (W0 := bU (fun _ => .null) 0 (.ref (h + 55))) hk dX5_init_141 (by decide) (by decide) rfl rfl kc0 (by decide) rfl (by decide) (by decide) ?_
  refine b_aload_n hk dX5_init_142 1 rfl ?_
  refine b_gett (k := 11) (v := .ref (h + 45)) hk dX5_init_143 kc5 (by decide) fl_RX5_63 rfl ?_
  refine b_iload_n hk dX5_init_146 0 rfl ?_
  refine b_iconst (v := (-1)) hk dX5_init_147 (by decide) ?_
  refine b_iast (i := 45) (len := 6) (jn := 1) (W0 := bU (fun _ => .int 0) 0 (.int (-1))) hk dX5_init_148 (by decide) rfl (by decide) (by decide) hh8 ?_
  refine b_iinc (lv' := [(1, .int 2), (0, .ref a)]) (j := 0) (y := 2) hk dX5_init_149 rfl (by decide) (by decide) rfl ?_
  refine b_goto hk dX5_init_152 110 (by decide) ?_
  refine b_iload_n hk dX5_init_110 0 rfl ?_
  refine b_bipush (v := 6) hk dX5_init_111 (by decide) ?_
  refine b_ge_f hk dX5_init_113 155 (by decide) (by decide) ?_
  refine b_aload_n hk dX5_init_116 1 rfl ?_
  refine b_gett (k := 4) (v := .ref (h + 13)) hk dX5_init_117 kc5 (by decide) fl_RX5_29 rfl ?_
  refine b_iload_n hk dX5_init_120 0 rfl ?_
  refine b_new (V2 := bV4) hk hro dX5_init_121 kc4 (kTB_mk (lwt1 (List.mem_of_getElem? (i := 115) rfl)) rfl) (kTB_mk (lwt1 (List.mem_of_getElem? (i := 36) rfl)) rfl) (kTB_mk (lwt1 (List.mem_of_getElem? (i := 3) rfl)) rfl) (by decide) ⟨by decide, by decide⟩ ?_
  refine b_dup hk dX5_init_124 rfl ?_
  refine b_init (i := 79) hk hl0 hro (bm_X4 hh8) dX5_init_125 (by decide) rfl bc_RX5_71 ⟨by decide, by decide⟩ ⟨by decide, by decide⟩ (Nat.le_of_ble_eq_true rfl) ?_
  refine b_aast (i := 13) (i2 := 79) (t := 3) (len := 6) (jn := 2) (W0 := bU (bU (fun _ => .null) 0 (.ref (h + 47))) 1 (.ref (h + 63))) hk dX5_init_128 (by decide) (by decide) rfl rfl kc4 (by decide) rfl (by decide) (by decide) ?_
  refine b_aload_n hk dX5_init_129 1 rfl ?_
  refine b_gett (k := 10) (v := .ref (h + 44)) hk dX5_init_130 kc5 (by decide) fl_RX5_59 rfl ?_
  refine b_iload_n hk dX5_init_133 0 rfl ?_
  refine b_new (V2 := bV0) hk hro dX5_init_134 kc0 (kTB_mk (lwt2 (List.mem_of_getElem? (i := 23) rfl)) rfl) (kTB_mk (lwt2 (List.mem_of_getElem? (i := 26) rfl)) rfl) (kTB_mk (lwt1 (List.mem_of_getElem? (i := 8) rfl)) rfl) (by decide) ⟨by decide, by decide⟩ ?_
  refine b_dup hk dX5_init_137 rfl ?_
  refine b_init (i := 87) hk hl0 hro (bm_X0 hh8) dX5_init_138 (by decide) rfl bc_RX5_72 ⟨by decide, by decide⟩ ⟨by decide, by decide⟩ (Nat.le_of_ble_eq_true rfl) ?_
  refine b_aast (i := 44) (i2 := 87) (t := 5) (len := 6) (jn := 2) (W0 := bU (bU (fun _ => .null) 0 (.ref (h + 55))) 1 (.ref (h + 71))) hk dX5_init_141 (by decide) (by decide) rfl rfl kc0 (by decide) rfl (by decide) (by decide) ?_
  refine b_aload_n hk dX5_init_142 1 rfl ?_
  refine b_gett (k := 11) (v := .ref (h + 45)) hk dX5_init_143 kc5 (by decide) fl_RX5_63 rfl ?_
  refine b_iload_n hk dX5_init_146 0 rfl ?_
  refine b_iconst (v := (-1)) hk dX5_init_147 (by decide) ?_
  refine b_iast (i := 45) (len := 6) (jn := 2) (W0 := bU (bU (fun _ => .int 0) 0 (.int (-1))) 1 (.int (-1))) hk dX5_init_148 (by decide) rfl (by decide) (by decide) hh8 ?_
  refine b_iinc (lv' := [(1, .int 3), (0, .ref a)]) (j := 0) (y := 3) hk dX5_init_149 rfl (by decide) (by decide) rfl ?_
  refine b_goto hk dX5_init_152 110 (by decide) ?_
  refine b_iload_n hk dX5_init_110 0 rfl ?_
  refine b_bipush (v := 6) hk dX5_init_111 (by decide) ?_
  refine b_ge_f hk dX5_init_113 155 (by decide) (by decide) ?_
  refine b_aload_n hk dX5_init_116 1 rfl ?_
  refine b_gett (k := 4) (v := .ref (h + 13)) hk dX5_init_117 kc5 (by decide) fl_RX5_29 rfl ?_
  refine b_iload_n hk dX5_init_120 0 rfl ?_
  refine b_new (V2 := bV4) hk hro dX5_init_121 kc4 (kTB_mk (lwt1 (List.mem_of_getElem? (i := 115) rfl)) rfl) (kTB_mk (lwt1 (List.mem_of_getElem? (i := 36) rfl)) rfl) (kTB_mk (lwt1 (List.mem_of_getElem? (i := 3) rfl)) rfl) (by decide) ⟨by decide, by decide⟩ ?_
  refine b_dup hk dX5_init_124 rfl ?_
  refine b_init (i := 95) hk hl0 hro (bm_X4 hh8) dX5_init_125 (by decide) rfl bc_RX5_71 ⟨by decide, by decide⟩ ⟨by decide, by decide⟩ (Nat.le_of_ble_eq_true rfl) ?_
  refine b_aast (i := 13) (i2 := 95) (t := 3) (len := 6) (jn := 3) (W0 := bU (bU (bU (fun _ => .null) 0 (.ref (h + 47))) 1 (.ref (h + 63))) 2 (.ref (h + 79))) hk dX5_init_128 (by decide) (by decide) rfl rfl kc4 (by decide) rfl (by decide) (by decide) ?_
  refine b_aload_n hk dX5_init_129 1 rfl ?_
  refine b_gett (k := 10) (v := .ref (h + 44)) hk dX5_init_130 kc5 (by decide) fl_RX5_59 rfl ?_
  refine b_iload_n hk dX5_init_133 0 rfl ?_
  refine b_new (V2 := bV0) hk hro dX5_init_134 kc0 (kTB_mk (lwt2 (List.mem_of_getElem? (i := 23) rfl)) rfl) (kTB_mk (lwt2 (List.mem_of_getElem? (i := 26) rfl)) rfl) (kTB_mk (lwt1 (List.mem_of_getElem? (i := 8) rfl)) rfl) (by decide) ⟨by decide, by decide⟩ ?_
  refine b_dup hk dX5_init_137 rfl ?_
  refine b_init (i := 103) hk hl0 hro (bm_X0 hh8) dX5_init_138 (by decide) rfl bc_RX5_72 ⟨by decide, by decide⟩ ⟨by decide, by decide⟩ (Nat.le_of_ble_eq_true rfl) ?_
  refine b_aast (i := 44) (i2 := 103) (t := 5) (len := 6) (jn := 3) (W0 := bU (bU (bU (fun _ => .null) 0 (.ref (h + 55))) 1 (.ref (h + 71))) 2 (.ref (h + 87))) hk dX5_init_141 (by decide) (by decide) rfl rfl kc0 (by decide) rfl (by decide) (by decide) ?_
  refine b_aload_n hk dX5_init_142 1 rfl ?_
  refine b_gett (k := 11) (v := .ref (h + 45)) hk dX5_init_143 kc5 (by decide) fl_RX5_63 rfl ?_
  refine b_iload_n hk dX5_init_146 0 rfl ?_
  refine b_iconst (v := (-1)) hk dX5_init_147 (by decide) ?_
  refine b_iast (i := 45) (len := 6) (jn := 3) (W0 := bU (bU (bU (fun _ => .int 0) 0 (.int (-1))) 1 (.int (-1))) 2 (.int (-1))) hk dX5_init_148 (by decide) rfl (by decide) (by decide) hh8 ?_
  refine b_iinc (lv' := [(1, .int 4), (0, .ref a)]) (j := 0) (y := 4) hk dX5_init_149 rfl (by decide) (by decide) rfl ?_
  refine b_goto hk dX5_init_152 110 (by decide) ?_
  refine b_iload_n hk dX5_init_110 0 rfl ?_
  refine b_bipush (v := 6) hk dX5_init_111 (by decide) ?_
  refine b_ge_f hk dX5_init_113 155 (by decide) (by decide) ?_
  refine b_aload_n hk dX5_init_116 1 rfl ?_
  refine b_gett (k := 4) (v := .ref (h + 13)) hk dX5_init_117 kc5 (by decide) fl_RX5_29 rfl ?_
  refine b_iload_n hk dX5_init_120 0 rfl ?_
  refine b_new (V2 := bV4) hk hro dX5_init_121 kc4 (kTB_mk (lwt1 (List.mem_of_getElem? (i := 115) rfl)) rfl) (kTB_mk (lwt1 (List.mem_of_getElem? (i := 36) rfl)) rfl) (kTB_mk (lwt1 (List.mem_of_getElem? (i := 3) rfl)) rfl) (by decide) ⟨by decide, by decide⟩ ?_
  refine b_dup hk dX5_init_124 rfl ?_
  refine b_init (i := 111) hk hl0 hro (bm_X4 hh8) dX5_init_125 (by decide) rfl bc_RX5_71 ⟨by decide, by decide⟩ ⟨by decide, by decide⟩ (Nat.le_of_ble_eq_true rfl) ?_
  refine b_aast (i := 13) (i2 := 111) (t := 3) (len := 6) (jn := 4) (W0 := bU (bU (bU (bU (fun _ => .null) 0 (.ref (h + 47))) 1 (.ref (h + 63))) 2 (.ref (h + 79))) 3 (.ref (h + 95))) hk dX5_init_128 (by decide) (by decide) rfl rfl kc4 (by decide) rfl (by decide) (by decide) ?_
  refine b_aload_n hk dX5_init_129 1 rfl ?_
  refine b_gett (k := 10) (v := .ref (h + 44)) hk dX5_init_130 kc5 (by decide) fl_RX5_59 rfl ?_
  refine b_iload_n hk dX5_init_133 0 rfl ?_
  refine b_new (V2 := bV0) hk hro dX5_init_134 kc0 (kTB_mk (lwt2 (List.mem_of_getElem? (i := 23) rfl)) rfl) (kTB_mk (lwt2 (List.mem_of_getElem? (i := 26) rfl)) rfl) (kTB_mk (lwt1 (List.mem_of_getElem? (i := 8) rfl)) rfl) (by decide) ⟨by decide, by decide⟩ ?_
  refine b_dup hk dX5_init_137 rfl ?_
  refine b_init (i := 119) hk hl0 hro (bm_X0 hh8) dX5_init_138 (by decide) rfl bc_RX5_72 ⟨by decide, by decide⟩ ⟨by decide, by decide⟩ (Nat.le_of_ble_eq_true rfl) ?_
  refine b_aast (i := 44) (i2 := 119) (t := 5) (len := 6) (jn := 4) (W0 := bU (bU (bU (bU (fun _ => .null) 0 (.ref (h + 55))) 1 (.ref (h + 71))) 2 (.ref (h + 87))) 3 (.ref (h + 103))) hk dX5_init_141 (by decide) (by decide) rfl rfl kc0 (by decide) rfl (by decide) (by decide) ?_
  refine b_aload_n hk dX5_init_142 1 rfl ?_
  refine b_gett (k := 11) (v := .ref (h + 45)) hk dX5_init_143 kc5 (by decide) fl_RX5_63 rfl ?_
  refine b_iload_n hk dX5_init_146 0 rfl ?_
  refine b_iconst (v := (-1)) hk dX5_init_147 (by decide) ?_
  refine b_iast (i := 45) (len := 6) (jn := 4) (W0 := bU (bU (bU (bU (fun _ => .int 0) 0 (.int (-1))) 1 (.int (-1))) 2 (.int (-1))) 3 (.int (-1))) hk dX5_init_148 (by decide) rfl (by decide) (by decide) hh8 ?_
  refine b_iinc (lv' := [(1, .int 5), (0, .ref a)]) (j := 0) (y := 5) hk dX5_init_149 rfl (by decide) (by decide) rfl ?_
  refine b_goto hk dX5_init_152 110 (by decide) ?_
  refine b_iload_n hk dX5_init_110 0 rfl ?_
  refine b_bipush (v := 6) hk dX5_init_111 (by decide) ?_
  refine b_ge_f hk dX5_init_113 155 (by decide) (by decide) ?_
  refine b_aload_n hk dX5_init_116 1 rfl ?_
  refine b_gett (k := 4) (v := .ref (h + 13)) hk dX5_init_117 kc5 (by decide) fl_RX5_29 rfl ?_
  refine b_iload_n hk dX5_init_120 0 rfl ?_
  refine b_new (V2 := bV4) hk hro dX5_init_121 kc4 (kTB_mk (lwt1 (List.mem_of_getElem? (i := 115) rfl)) rfl) (kTB_mk (lwt1 (List.mem_of_getElem? (i := 36) rfl)) rfl) (kTB_mk (lwt1 (List.mem_of_getElem? (i := 3) rfl)) rfl) (by decide) ⟨by decide, by decide⟩ ?_
  refine b_dup hk dX5_init_124 rfl ?_
  refine b_init (i := 127) hk hl0 hro (bm_X4 hh8) dX5_init_125 (by decide) rfl bc_RX5_71 ⟨by decide, by decide⟩ ⟨by decide, by decide⟩ (Nat.le_of_ble_eq_true rfl) ?_
  refine b_aast (i := 13) (i2 := 127) (t := 3) (len := 6) (jn := 5) (W0 := bU (bU (bU (bU (bU (fun _ => .null) 0 (.ref (h + 47))) 1 (.ref (h + 63))) 2 (.ref (h + 79))) 3 (.ref (h + 95))) 4 (.ref (h + 111))) hk dX5_init_128 (by decide) (by decide) rfl rfl kc4 (by decide) rfl (by decide) (by decide) ?_
  refine b_aload_n hk dX5_init_129 1 rfl ?_
  refine b_gett (k := 10) (v := .ref (h + 44)) hk dX5_init_130 kc5 (by decide) fl_RX5_59 rfl ?_
  refine b_iload_n hk dX5_init_133 0 rfl ?_
  refine b_new (V2 := bV0) hk hro dX5_init_134 kc0 (kTB_mk (lwt2 (List.mem_of_getElem? (i := 23) rfl)) rfl) (kTB_mk (lwt2 (List.mem_of_getElem? (i := 26) rfl)) rfl) (kTB_mk (lwt1 (List.mem_of_getElem? (i := 8) rfl)) rfl) (by decide) ⟨by decide, by decide⟩ ?_
  refine b_dup hk dX5_init_137 rfl ?_
  refine b_init (i := 135) hk hl0 hro (bm_X0 hh8) dX5_init_138 (by decide) rfl bc_RX5_72 ⟨by decide, by decide⟩ ⟨by decide, by decide⟩ (Nat.le_of_ble_eq_true rfl) ?_
  refine b_aast (i := 44) (i2 := 135) (t := 5) (len := 6) (jn := 5) (W0 := bU (bU (bU (bU (bU (fun _ => .null) 0 (.ref (h + 55))) 1 (.ref (h + 71))) 2 (.ref (h + 87))) 3 (.ref (h + 103))) 4 (.ref (h + 119))) hk dX5_init_141 (by decide) (by decide) rfl rfl kc0 (by decide) rfl (by decide) (by decide) ?_
  refine b_aload_n hk dX5_init_142 1 rfl ?_
  refine b_gett (k := 11) (v := .ref (h + 45)) hk dX5_init_143 kc5 (by decide) fl_RX5_63 rfl ?_
  refine b_iload_n hk dX5_init_146 0 rfl ?_
  refine b_iconst (v := (-1)) hk dX5_init_147 (by decide) ?_
  refine b_iast (i := 45) (len := 6) (jn := 5) (W0 := bU (bU (bU (bU (bU (fun _ => .int 0) 0 (.int (-1))) 1 (.int (-1))) 2 (.int (-1))) 3 (.int (-1))) 4 (.int (-1))) hk dX5_init_148 (by decide) rfl (by decide) (by decide) hh8 ?_
  refine b_iinc (lv' := [(1, .int 6), (0, .ref a)]) (j := 0) (y := 6) hk dX5_init_149 rfl (by decide) (by decide) rfl ?_
  refine b_goto hk dX5_init_152 110 (by decide) ?_
  refine b_iload_n hk dX5_init_110 0 rfl ?_
  refine b_bipush (v := 6) hk dX5_init_111 (by decide) ?_
  refine b_ge_t hk dX5_init_113 155 (by decide) (by decide) ?_
  refine b_iconst (v := 0) hk dX5_init_155 (by decide) ?_
  refine b_istore_n (lv' := [(1, .int 0), (0, .ref a)]) hk dX5_init_156 (by decide) rfl ?_
  refine b_iload_n hk dX5_init_157 0 rfl ?_
  refine b_iconst (v := 3) hk dX5_init_158 (by decide) ?_
  refine b_ge_f hk dX5_init_159 181 (by decide) (by decide) ?_
  refine b_aload_n hk dX5_init_162 1 rfl ?_
  refine b_gett (k := 7) (v := .ref (h + 29)) hk dX5_init_163 kc5 (by decide) fl_RX5_43 rfl ?_
  refine b_iload_n hk dX5_init_166 0 rfl ?_
  refine b_new (V2 := bV2) hk hro dX5_init_167 kc2 (kTB_mk (lwt1 (List.mem_of_getElem? (i := 117) rfl)) rfl) (kTB_mk (lwt1 (List.mem_of_getElem? (i := 118) rfl)) rfl) (kTB_mk (lwt1 (List.mem_of_getElem? (i := 4) rfl)) rfl) (by decide) ⟨by decide, by decide⟩ ?_
  refine b_dup hk dX5_init_170 rfl ?_
  refine b_init (i := 143) hk hl0 hro (bm_X2 hh8) dX5_init_171 (by decide) rfl bc_RX5_38 ⟨by decide, by decide⟩ ⟨by decide, by decide⟩ (Nat.le_of_ble_eq_true rfl) ?_
  refine b_aast (i := 29) (i2 := 143) (t := 4) (len := 3) (jn := 0) (W0 := fun _ => .null) hk dX5_init_174 (by decide) (by decide) rfl rfl kc2 (by decide) rfl (by decide) (by decide) ?_
  refine b_iinc (lv' := [(1, .int 1), (0, .ref a)]) (j := 0) (y := 1) hk dX5_init_175 rfl (by decide) (by decide) rfl ?_
  refine b_goto hk dX5_init_178 157 (by decide) ?_
  refine b_iload_n hk dX5_init_157 0 rfl ?_
  refine b_iconst (v := 3) hk dX5_init_158 (by decide) ?_
  refine b_ge_f hk dX5_init_159 181 (by decide) (by decide) ?_
  refine b_aload_n hk dX5_init_162 1 rfl ?_
  refine b_gett (k := 7) (v := .ref (h + 29)) hk dX5_init_163 kc5 (by decide) fl_RX5_43 rfl ?_
  refine b_iload_n hk dX5_init_166 0 rfl ?_
  refine b_new (V2 := bV2) hk hro dX5_init_167 kc2 (kTB_mk (lwt1 (List.mem_of_getElem? (i := 117) rfl)) rfl) (kTB_mk (lwt1 (List.mem_of_getElem? (i := 118) rfl)) rfl) (kTB_mk (lwt1 (List.mem_of_getElem? (i := 4) rfl)) rfl) (by decide) ⟨by decide, by decide⟩ ?_
  refine b_dup hk dX5_init_170 rfl ?_
  refine b_init (i := 158) hk hl0 hro (bm_X2 hh8) dX5_init_171 (by decide) rfl bc_RX5_38 ⟨by decide, by decide⟩ ⟨by decide, by decide⟩ (Nat.le_of_ble_eq_true rfl) ?_
  refine b_aast (i := 29) (i2 := 158) (t := 4) (len := 3) (jn := 1) (W0 := bU (fun _ => .null) 0 (.ref (h + 143))) hk dX5_init_174 (by decide) (by decide) rfl rfl kc2 (by decide) rfl (by decide) (by decide) ?_
  refine b_iinc (lv' := [(1, .int 2), (0, .ref a)]) (j := 0) (y := 2) hk dX5_init_175 rfl (by decide) (by decide) rfl ?_
  refine b_goto hk dX5_init_178 157 (by decide) ?_
  refine b_iload_n hk dX5_init_157 0 rfl ?_
  refine b_iconst (v := 3) hk dX5_init_158 (by decide) ?_
  refine b_ge_f hk dX5_init_159 181 (by decide) (by decide) ?_
  refine b_aload_n hk dX5_init_162 1 rfl ?_
  refine b_gett (k := 7) (v := .ref (h + 29)) hk dX5_init_163 kc5 (by decide) fl_RX5_43 rfl ?_
  refine b_iload_n hk dX5_init_166 0 rfl ?_
  refine b_new (V2 := bV2) hk hro dX5_init_167 kc2 (kTB_mk (lwt1 (List.mem_of_getElem? (i := 117) rfl)) rfl) (kTB_mk (lwt1 (List.mem_of_getElem? (i := 118) rfl)) rfl) (kTB_mk (lwt1 (List.mem_of_getElem? (i := 4) rfl)) rfl) (by decide) ⟨by decide, by decide⟩ ?_
  refine b_dup hk dX5_init_170 rfl ?_
  refine b_init (i := 173) hk hl0 hro (bm_X2 hh8) dX5_init_171 (by decide) rfl bc_RX5_38 ⟨by decide, by decide⟩ ⟨by decide, by decide⟩ (Nat.le_of_ble_eq_true rfl) ?_
  refine b_aast (i := 29) (i2 := 173) (t := 4) (len := 3) (jn := 2) (W0 := bU (bU (fun _ => .null) 0 (.ref (h + 143))) 1 (.ref (h + 158))) hk dX5_init_174 (by decide) (by decide) rfl rfl kc2 (by decide) rfl (by decide) (by decide) ?_
  refine b_iinc (lv' := [(1, .int 3), (0, .ref a)]) (j := 0) (y := 3) hk dX5_init_175 rfl (by decide) (by decide) rfl ?_
  refine b_goto hk dX5_init_178 157 (by decide) ?_
  refine b_iload_n hk dX5_init_157 0 rfl ?_
  refine b_iconst (v := 3) hk dX5_init_158 (by decide) ?_
  refine b_ge_t hk dX5_init_159 181 (by decide) (by decide) ?_
  exact b_ret hk hrt hQ dX5_init_181 ⟨by decide, by decide⟩ rfl rfl rfl
