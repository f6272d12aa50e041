theorem lc_why : kCsw RL 103 yL_why cL_why 4 3 (some .int) [(0, 9, 12, 13)] := ⟨kTB_mk (lwt3 (List.mem_of_getElem? (i := 37) rfl)) rfl, kTB_mk (lwt3 (List.mem_of_getElem? (i := 35) rfl)) rfl, kTB_mk (lwt1 (List.mem_of_getElem? (i := 0) rfl)) rfl, kTB_mk (lwt3 (List.mem_of_getElem? (i := 36) rfl)) rfl, by decide, by decide, by decide +kernel⟩
theorem lc_weigh : kCsw RL 117 yL_weigh cL_weigh 5 4 (some .int) [(0, 10, 13, 19), (0, 10, 17, 13)] := ⟨kTB_mk (lwt4 (List.mem_of_getElem? (i := 36) rfl)) rfl, kTB_mk (lwt4 (List.mem_of_getElem? (i := 34) rfl)) rfl, kTB_mk (lwt1 (List.mem_of_getElem? (i := 0) rfl)) rfl, kTB_mk (lwt4 (List.mem_of_getElem? (i := 35) rfl)) rfl, by decide, by decide, by decide +kernel⟩
theorem lc_set : kCsw RL 121 yL_set cL_set 5 4 (some .int) [(0, 10, 13, 13)] := ⟨kTB_mk (lwt4 (List.mem_of_getElem? (i := 68) rfl)) rfl, kTB_mk (lwt4 (List.mem_of_getElem? (i := 66) rfl)) rfl, kTB_mk (lwt1 (List.mem_of_getElem? (i := 0) rfl)) rfl, kTB_mk (lwt4 (List.mem_of_getElem? (i := 67) rfl)) rfl, by decide, by decide, by decide +kernel⟩
theorem lc_fill : kCsw RL 124 yL_fill cL_fill 5 4 (some .int) [(0, 10, 13, 27), (0, 10, 17, 13)] := ⟨kTB_mk (lwt4 (List.mem_of_getElem? (i := 81) rfl)) rfl, kTB_mk (lwt4 (List.mem_of_getElem? (i := 79) rfl)) rfl, kTB_mk (lwt1 (List.mem_of_getElem? (i := 0) rfl)) rfl, kTB_mk (lwt4 (List.mem_of_getElem? (i := 80) rfl)) rfl, by decide, by decide, by decide +kernel⟩
theorem lc_state : kCsw RL 127 yL_state cL_state 6 5 (some .int) [(0, 12, 15, 19), (0, 12, 19, 13)] := ⟨kTB_mk (lwt4 (List.mem_of_getElem? (i := 108) rfl)) rfl, kTB_mk (lwt4 (List.mem_of_getElem? (i := 106) rfl)) rfl, kTB_mk (lwt1 (List.mem_of_getElem? (i := 0) rfl)) rfl, kTB_mk (lwt4 (List.mem_of_getElem? (i := 107) rfl)) rfl, by decide, by decide, by decide +kernel⟩
theorem lc_cell : kCsw RL 131 yL_cell cL_cell 7 6 (some .int) [(0, 14, 17, 19), (0, 14, 21, 27), (0, 14, 25, 13)] := ⟨kTB_mk (lwt4 (List.mem_of_getElem? (i := 125) rfl)) rfl, kTB_mk (lwt4 (List.mem_of_getElem? (i := 123) rfl)) rfl, kTB_mk (lwt1 (List.mem_of_getElem? (i := 0) rfl)) rfl, kTB_mk (lwt4 (List.mem_of_getElem? (i := 124) rfl)) rfl, by decide, by decide, by decide +kernel⟩
theorem lc_run : kCsw RL 135 yL_run cL_run 5 4 (some .int) [(0, 10, 13, 19), (0, 10, 17, 13)] := ⟨kTB_mk (lwt4 (List.mem_of_getElem? (i := 132) rfl)) rfl, kTB_mk (lwt4 (List.mem_of_getElem? (i := 130) rfl)) rfl, kTB_mk (lwt1 (List.mem_of_getElem? (i := 0) rfl)) rfl, kTB_mk (lwt4 (List.mem_of_getElem? (i := 131) rfl)) rfl, by decide, by decide, by decide +kernel⟩
theorem lc_row : kCsw RL 138 yL_row cL_row 8 7 (some .int) [(0, 16, 19, 13)] := ⟨kTB_mk (lwt4 (List.mem_of_getElem? (i := 139) rfl)) rfl, kTB_mk (lwt4 (List.mem_of_getElem? (i := 137) rfl)) rfl, kTB_mk (lwt1 (List.mem_of_getElem? (i := 0) rfl)) rfl, kTB_mk (lwt4 (List.mem_of_getElem? (i := 138) rfl)) rfl, by decide, by decide, by decide +kernel⟩
theorem lc_asked : kCsw RL 142 yL_asked cL_asked 5 4 (some .int) [(0, 10, 13, 27), (0, 10, 17, 13)] := ⟨kTB_mk (lwt4 (List.mem_of_getElem? (i := 149) rfl)) rfl, kTB_mk (lwt4 (List.mem_of_getElem? (i := 147) rfl)) rfl, kTB_mk (lwt1 (List.mem_of_getElem? (i := 0) rfl)) rfl, kTB_mk (lwt4 (List.mem_of_getElem? (i := 148) rfl)) rfl, by decide, by decide, by decide +kernel⟩
theorem lc_says : kCsw RL 145 yL_says cL_says 5 4 (some .int) [(0, 17, 20, 19), (0, 17, 24, 27)] := ⟨kTB_mk (lwt4 (List.mem_of_getElem? (i := 161) rfl)) rfl, kTB_mk (lwt4 (List.mem_of_getElem? (i := 159) rfl)) rfl, kTB_mk (lwt1 (List.mem_of_getElem? (i := 0) rfl)) rfl, kTB_mk (lwt4 (List.mem_of_getElem? (i := 160) rfl)) rfl, by decide, by decide, by decide +kernel⟩
theorem lc_odds : kCsw RL 148 yL_odds cL_odds 4 3 (some .int) [(0, 8, 11, 19)] := ⟨kTB_mk (lwt4 (List.mem_of_getElem? (i := 168) rfl)) rfl, kTB_mk (lwt4 (List.mem_of_getElem? (i := 166) rfl)) rfl, kTB_mk (lwt1 (List.mem_of_getElem? (i := 0) rfl)) rfl, kTB_mk (lwt4 (List.mem_of_getElem? (i := 167) rfl)) rfl, by decide, by decide, by decide +kernel⟩
theorem lc_share : kCsw RL 151 yL_share cL_share 4 3 (some .int) [(0, 9, 12, 19)] := ⟨kTB_mk (lwt4 (List.mem_of_getElem? (i := 175) rfl)) rfl, kTB_mk (lwt4 (List.mem_of_getElem? (i := 173) rfl)) rfl, kTB_mk (lwt1 (List.mem_of_getElem? (i := 0) rfl)) rfl, kTB_mk (lwt4 (List.mem_of_getElem? (i := 174) rfl)) rfl, by decide, by decide, by decide +kernel⟩
theorem lc_moved : kCsw RL 158 yL_moved cL_moved 5 4 (some .int) [(0, 10, 13, 19), (0, 10, 17, 27)] := ⟨kTB_mk (lwt4 (List.mem_of_getElem? (i := 187) rfl)) rfl, kTB_mk (lwt4 (List.mem_of_getElem? (i := 185) rfl)) rfl, kTB_mk (lwt1 (List.mem_of_getElem? (i := 0) rfl)) rfl, kTB_mk (lwt4 (List.mem_of_getElem? (i := 186) rfl)) rfl, by decide, by decide, by decide +kernel⟩
theorem lc_inquiry : kCsw RL 161 yL_inquiry cL_inquiry 5 4 (some .int) [(0, 10, 13, 19), (0, 10, 17, 13)] := ⟨kTB_mk (lwt4 (List.mem_of_getElem? (i := 194) rfl)) rfl, kTB_mk (lwt4 (List.mem_of_getElem? (i := 192) rfl)) rfl, kTB_mk (lwt1 (List.mem_of_getElem? (i := 0) rfl)) rfl, kTB_mk (lwt4 (List.mem_of_getElem? (i := 193) rfl)) rfl, by decide, by decide, by decide +kernel⟩
theorem lc_before : kCsw RL 164 yL_before cL_before 5 4 (some .int) [(0, 10, 13, 13)] := ⟨kTB_mk (lwt4 (List.mem_of_getElem? (i := 205) rfl)) rfl, kTB_mk (lwt4 (List.mem_of_getElem? (i := 203) rfl)) rfl, kTB_mk (lwt1 (List.mem_of_getElem? (i := 0) rfl)) rfl, kTB_mk (lwt4 (List.mem_of_getElem? (i := 204) rfl)) rfl, by decide, by decide, by decide +kernel⟩
theorem lc_burnt : kCsw RL 167 yL_burnt cL_burnt 4 3 (some .int) [(0, 9, 12, 19)] := ⟨kTB_mk (lwt4 (List.mem_of_getElem? (i := 212) rfl)) rfl, kTB_mk (lwt4 (List.mem_of_getElem? (i := 210) rfl)) rfl, kTB_mk (lwt1 (List.mem_of_getElem? (i := 0) rfl)) rfl, kTB_mk (lwt4 (List.mem_of_getElem? (i := 211) rfl)) rfl, by decide, by decide, by decide +kernel⟩
theorem lc_option : kCsw RL 170 yL_option cL_option 6 5 (some .int) [(0, 12, 15, 13)] := ⟨kTB_mk (lwt4 (List.mem_of_getElem? (i := 219) rfl)) rfl, kTB_mk (lwt4 (List.mem_of_getElem? (i := 217) rfl)) rfl, kTB_mk (lwt1 (List.mem_of_getElem? (i := 0) rfl)) rfl, kTB_mk (lwt4 (List.mem_of_getElem? (i := 218) rfl)) rfl, by decide, by decide, by decide +kernel⟩
theorem lc_safe : kCsw RL 173 yL_safe cL_safe 6 5 (some .int) [(0, 19, 22, 19), (0, 19, 26, 13)] := ⟨kTB_mk (lwt4 (List.mem_of_getElem? (i := 226) rfl)) rfl, kTB_mk (lwt4 (List.mem_of_getElem? (i := 224) rfl)) rfl, kTB_mk (lwt1 (List.mem_of_getElem? (i := 0) rfl)) rfl, kTB_mk (lwt4 (List.mem_of_getElem? (i := 225) rfl)) rfl, by decide, by decide, by decide +kernel⟩
theorem lc_least : kCsw RL 176 yL_least cL_least 5 4 (some .int) [(0, 10, 13, 19), (0, 10, 17, 13)] := ⟨kTB_mk (lwt5 (List.mem_of_getElem? (i := 6) rfl)) rfl, kTB_mk (lwt5 (List.mem_of_getElem? (i := 4) rfl)) rfl, kTB_mk (lwt1 (List.mem_of_getElem? (i := 0) rfl)) rfl, kTB_mk (lwt5 (List.mem_of_getElem? (i := 5) rfl)) rfl, by decide, by decide, by decide +kernel⟩
theorem lc_all : kCsw RL 179 yL_all cL_all 4 3 (some .int) [(0, 9, 12, 13)] := ⟨kTB_mk (lwt5 (List.mem_of_getElem? (i := 21) rfl)) rfl, kTB_mk (lwt5 (List.mem_of_getElem? (i := 19) rfl)) rfl, kTB_mk (lwt1 (List.mem_of_getElem? (i := 0) rfl)) rfl, kTB_mk (lwt5 (List.mem_of_getElem? (i := 20) rfl)) rfl, by decide, by decide, by decide +kernel⟩
theorem lc_next : kCsw RL 182 yL_next cL_next 4 3 (some .int) [(0, 9, 12, 13)] := ⟨kTB_mk (lwt5 (List.mem_of_getElem? (i := 28) rfl)) rfl, kTB_mk (lwt5 (List.mem_of_getElem? (i := 26) rfl)) rfl, kTB_mk (lwt1 (List.mem_of_getElem? (i := 0) rfl)) rfl, kTB_mk (lwt5 (List.mem_of_getElem? (i := 27) rfl)) rfl, by decide, by decide, by decide +kernel⟩
theorem lc_parted : kCsw RL 185 yL_parted cL_parted 5 4 (some .int) [(0, 10, 13, 19)] := ⟨kTB_mk (lwt5 (List.mem_of_getElem? (i := 42) rfl)) rfl, kTB_mk (lwt5 (List.mem_of_getElem? (i := 40) rfl)) rfl, kTB_mk (lwt1 (List.mem_of_getElem? (i := 0) rfl)) rfl, kTB_mk (lwt5 (List.mem_of_getElem? (i := 41) rfl)) rfl, by decide, by decide, by decide +kernel⟩
theorem lc_order : kCsw RL 188 yL_order cL_order 5 4 (some .int) [(0, 10, 13, 19)] := ⟨kTB_mk (lwt5 (List.mem_of_getElem? (i := 52) rfl)) rfl, kTB_mk (lwt5 (List.mem_of_getElem? (i := 50) rfl)) rfl, kTB_mk (lwt1 (List.mem_of_getElem? (i := 0) rfl)) rfl, kTB_mk (lwt5 (List.mem_of_getElem? (i := 51) rfl)) rfl, by decide, by decide, by decide +kernel⟩
theorem lc_dry : kCsw RL 191 yL_dry cL_dry 4 3 (some .int) [(0, 9, 12, 19)] := ⟨kTB_mk (lwt5 (List.mem_of_getElem? (i := 63) rfl)) rfl, kTB_mk (lwt5 (List.mem_of_getElem? (i := 61) rfl)) rfl, kTB_mk (lwt1 (List.mem_of_getElem? (i := 0) rfl)) rfl, kTB_mk (lwt5 (List.mem_of_getElem? (i := 62) rfl)) rfl, by decide, by decide, by decide +kernel⟩
def q_feed (F : Nat) (a1 : Int32) (a2 : Int32) (a3 : Int32) (a4 : Int32) (a5 : Int32) (nx : kS → Option kR) (σ : kS) : Option kR := kBhi (f_X5_feed F a1 a2 a3 a4 a5 σ) (fun c1 σ2 => kBhi (f_X6_feed F a1 a2 a3 a4 a5 σ2) (fun c3 σ4 => (if c1 = c3 then (nx σ4) else (none))) kNo) kNo
set_option maxRecDepth 20000 in
theorem sl_feed {l : Launch} {E : kE} (hj : kEj E) (hn : kNorm E) (hl : l.stackTraces = false) (h91 : kcnt E 91 = 0) {C : kC} {Q : kR → State → Prop} {b L : Nat} {xs : Nat → Int32} (hk : kOk (C, E, Q) cL_law RL 8) (hro : kRo C l 2048 84000 601024) (hw : kLw (C, E, Q) b L xs) (F : Nat) (i : Int32) (h1 : kin (i + 1) L) (h2 : kin (i + 2) L) (h3 : kin (i + 3) L) (h4 : kin (i + 4) L) (h5 : kin (i + 5) L) (n : Nat) (hn9 : n + 16 ≤ 601024) (nx : kS → Option kR) (hnx : ∀ σ, Sm (C, E, Q) 8 (n + 16) 1983 [(0, .ref b), (1, .ref (kad E 0 0)), (2, .ref (kad E 48 0)), (3, .ref (kad E 90 0)), (4, .int i)] [] σ (nx σ)) (σ : kS) : Sm (C, E, Q) 8 n 176 [(0, .ref b), (1, .ref (kad E 0 0)), (2, .ref (kad E 48 0)), (3, .ref (kad E 90 0)), (4, .int i)] [] σ (q_feed F (xs (i + 1).toNatClampNeg) (xs (i + 2).toNatClampNeg) (xs (i + 3).toNatClampNeg) (xs (i + 4).toNatClampNeg) (xs (i + 5).toNatClampNeg) nx σ) := by
  unfold q_feed
  refine k_aload_n hk dL_law_176 1 rfl ?_
  refine k_aload_n hk dL_law_177 0 rfl ?_
  refine k_iload hk dL_law_178 4 rfl ?_
  refine k_iconst (v := 1) hk dL_law_180 (by decide) ?_
  refine k_iadd hk dL_law_181 ?_
  refine k_scld hk hw h1 dL_law_182 ?_
  refine k_aload_n hk dL_law_183 0 rfl ?_
  refine k_iload hk dL_law_184 4 rfl ?_
  refine k_iconst (v := 2) hk dL_law_186 (by decide) ?_
  refine k_iadd hk dL_law_187 ?_
  refine k_scld hk hw h2 dL_law_188 ?_
  refine k_aload_n hk dL_law_189 0 rfl ?_
  refine k_iload hk dL_law_190 4 rfl ?_
  refine k_iconst (v := 3) hk dL_law_192 (by decide) ?_
  refine k_iadd hk dL_law_193 ?_
  refine k_scld hk hw h3 dL_law_194 ?_
  refine k_aload_n hk dL_law_195 0 rfl ?_
  refine k_iload hk dL_law_196 4 rfl ?_
  refine k_iconst (v := 4) hk dL_law_198 (by decide) ?_
  refine k_iadd hk dL_law_199 ?_
  refine k_scld hk hw h4 dL_law_200 ?_
  refine k_aload_n hk dL_law_201 0 rfl ?_
  refine k_iload hk dL_law_202 4 rfl ?_
  refine k_iconst (v := 5) hk dL_law_204 (by decide) ?_
  refine k_iadd hk dL_law_205 ?_
  refine k_scld hk hw h5 dL_law_206 ?_
  refine k_callVHi (As := [.int (xs (i + 1).toNatClampNeg), .int (xs (i + 2).toNatClampNeg), .int (xs (i + 3).toNatClampNeg), .int (xs (i + 4).toNatClampNeg), .int (xs (i + 5).toNatClampNeg)]) (rest := []) hk hro (c_X5_feed hj hn hl F ((xs (i + 1).toNatClampNeg)) ((xs (i + 2).toNatClampNeg)) ((xs (i + 3).toNatClampNeg)) ((xs (i + 4).toNatClampNeg)) ((xs (i + 5).toNatClampNeg)) σ) dL_law_207 cw_RL_99 rfl (by decide) kc5 rfl ⟨Nat.le_of_ble_eq_true rfl, Nat.le_of_ble_eq_true rfl⟩ (by omega) rfl (Nat.le_of_ble_eq_true rfl) (fun c1 σ2 => ?_) (fun _ _ => kThr_no)
  refine k_aload_n hk dL_law_210 2 rfl ?_
  refine k_aload_n hk dL_law_211 0 rfl ?_
  refine k_iload hk dL_law_212 4 rfl ?_
  refine k_iconst (v := 1) hk dL_law_214 (by decide) ?_
  refine k_iadd hk dL_law_215 ?_
  refine k_scld hk hw h1 dL_law_216 ?_
  refine k_aload_n hk dL_law_217 0 rfl ?_
  refine k_iload hk dL_law_218 4 rfl ?_
  refine k_iconst (v := 2) hk dL_law_220 (by decide) ?_
  refine k_iadd hk dL_law_221 ?_
  refine k_scld hk hw h2 dL_law_222 ?_
  refine k_aload_n hk dL_law_223 0 rfl ?_
  refine k_iload hk dL_law_224 4 rfl ?_
  refine k_iconst (v := 3) hk dL_law_226 (by decide) ?_
  refine k_iadd hk dL_law_227 ?_
  refine k_scld hk hw h3 dL_law_228 ?_
  refine k_aload_n hk dL_law_229 0 rfl ?_
  refine k_iload hk dL_law_230 4 rfl ?_
  refine k_iconst (v := 4) hk dL_law_232 (by decide) ?_
  refine k_iadd hk dL_law_233 ?_
  refine k_scld hk hw h4 dL_law_234 ?_
  refine k_aload_n hk dL_law_235 0 rfl ?_
  refine k_iload hk dL_law_236 4 rfl ?_
  refine k_iconst (v := 5) hk dL_law_238 (by decide) ?_
  refine k_iadd hk dL_law_239 ?_
  refine k_scld hk hw h5 dL_law_240 ?_
  refine k_callVHi (As := [.int (xs (i + 1).toNatClampNeg), .int (xs (i + 2).toNatClampNeg), .int (xs (i + 3).toNatClampNeg), .int (xs (i + 4).toNatClampNeg), .int (xs (i + 5).toNatClampNeg)]) (rest := [.int c1]) hk hro (c_X6_feed hj hn hl F ((xs (i + 1).toNatClampNeg)) ((xs (i + 2).toNatClampNeg)) ((xs (i + 3).toNatClampNeg)) ((xs (i + 4).toNatClampNeg)) ((xs (i + 5).toNatClampNeg)) σ2) dL_law_241 cw_RL_102 rfl (by decide) kc6 rfl ⟨Nat.le_of_ble_eq_true rfl, Nat.le_of_ble_eq_true rfl⟩ (by omega) rfl (Nat.le_of_ble_eq_true rfl) (fun c3 σ4 => ?_) (fun _ _ => kThr_no)
  refine k_icmp_eq hk dL_law_244 1983 (by decide) (fun g5 => ?_) (fun g5 => ?_)
  · refine k_wide (n' := n + 16) (by omega) ?_
    exact k_sub [0, 1, 2, 3, 4] rfl (hnx σ4)
  · refine k_iconst (v := 0) hk dL_law_247 (by decide) ?_
    exact k_no
def q_why (F : Nat) (a1 : Int32) (nx : kS → Option kR) (σ : kS) : Option kR := kBhi (w_why F a1 σ) (fun c1 σ2 => kBhi (f_X6_why F a1 σ2) (fun c3 σ4 => kBhi (f_X6_thrown F  σ4) (fun c5 σ6 => (if c5 = c1 then ((if c1 = 0 then ((if (lg_cmp (σ6.2 90 0 0) (c3).toInt64) = 0 then (nx σ6) else (none))) else (nx σ6))) else (none))) kNo) kNo) kNo
set_option maxRecDepth 20000 in
theorem sl_why {l : Launch} {E : kE} (hj : kEj E) (hn : kNorm E) (hl : l.stackTraces = false) (h91 : kcnt E 91 = 0) {C : kC} {Q : kR → State → Prop} {b L : Nat} {xs : Nat → Int32} (hk : kOk (C, E, Q) cL_law RL 8) (hro : kRo C l 2048 84000 601024) (hw : kLw (C, E, Q) b L xs) (F : Nat) (i : Int32) (h1 : kin (i + 1) L) (h2 : kin (i + 2) L) (h3 : kin (i + 3) L) (h4 : kin (i + 4) L) (h5 : kin (i + 5) L) (n : Nat) (hn9 : n + 16 ≤ 601024) (nx : kS → Option kR) (hnx : ∀ σ, Sm (C, E, Q) 8 (n + 16) 1983 [(0, .ref b), (1, .ref (kad E 0 0)), (2, .ref (kad E 48 0)), (3, .ref (kad E 90 0)), (4, .int i)] [] σ (nx σ)) (σ : kS) : Sm (C, E, Q) 8 n 249 [(0, .ref b), (1, .ref (kad E 0 0)), (2, .ref (kad E 48 0)), (3, .ref (kad E 90 0)), (4, .int i)] [] σ (q_why F (xs (i + 1).toNatClampNeg) nx σ) := by
  unfold q_why
  refine k_aload_n hk dL_law_249 1 rfl ?_
  refine k_aload_n hk dL_law_250 0 rfl ?_
  refine k_iload hk dL_law_251 4 rfl ?_
  refine k_iconst (v := 1) hk dL_law_253 (by decide) ?_
  refine k_iadd hk dL_law_254 ?_
  refine k_scld hk hw h1 dL_law_255 ?_
  refine k_aload_n hk dL_law_256 3 rfl ?_
  refine k_callSHi (As := [.ref (kad E 0 0), .int (xs (i + 1).toNatClampNeg), .ref (kad E 90 0)]) (rest := []) hk hro (cw_why hj hn hl F ((xs (i + 1).toNatClampNeg)) σ) dL_law_257 lc_why ⟨Nat.le_of_ble_eq_true rfl, Nat.le_of_ble_eq_true rfl⟩ (by omega) rfl (Nat.le_of_ble_eq_true rfl) (fun c1 σ2 => ?_)
  refine k_istore (lv' := [(5, .int c1), (0, .ref b), (1, .ref (kad E 0 0)), (2, .ref (kad E 48 0)), (3, .ref (kad E 90 0)), (4, .int i)]) hk dL_law_260 (by decide) rfl ?_
  refine k_aload_n hk dL_law_262 3 rfl ?_
  refine k_aload_n hk dL_law_263 1 rfl ?_
  refine k_iload hk dL_law_264 5 rfl ?_
  refine k_iconst (v := 1) hk dL_law_266 (by decide) ?_
  refine k_iadd hk dL_law_267 ?_
  refine k_scld hk hw h1 dL_law_268 ?_
  refine k_callVHi (As := [.int (xs (i + 1).toNatClampNeg)]) (rest := []) hk hro (c_X6_why hj hn hl F ((xs (i + 1).toNatClampNeg)) σ2) dL_law_269 cw_RL_108 rfl (by decide) kc6 rfl ⟨Nat.le_of_ble_eq_true rfl, Nat.le_of_ble_eq_true rfl⟩ (by omega) rfl (Nat.le_of_ble_eq_true rfl) (fun c3 σ4 => ?_) (fun _ _ => kThr_no)
  refine k_istore (lv' := [(6, .int c3), (5, .int c1), (0, .ref b), (1, .ref (kad E 0 0)), (2, .ref (kad E 48 0)), (3, .ref (kad E 90 0)), (4, .int i)]) hk dL_law_272 (by decide) rfl ?_
  refine k_aload_n hk dL_law_274 4 rfl ?_
  refine k_callVHi (As := []) (rest := []) hk hro (c_X6_thrown hj hn hl F  σ4) dL_law_275 cw_RL_109 rfl (by decide) kc6 rfl ⟨Nat.le_of_ble_eq_true rfl, Nat.le_of_ble_eq_true rfl⟩ (by omega) rfl (Nat.le_of_ble_eq_true rfl) (fun c5 σ6 => ?_) (fun _ _ => kThr_no)
  refine k_iload hk dL_law_278 1 rfl ?_
  refine k_icmp_eq hk dL_law_280 285 (by decide) (fun g7 => ?_) (fun g7 => ?_)
  · refine k_iload hk dL_law_285 1 rfl ?_
    refine k_if_ne hk dL_law_287 302 (by decide) (fun g8 => ?_) (fun g8 => ?_)
    · refine k_goto hk dL_law_302 1983 (by decide) ?_
      refine k_wide (n' := n + 16) (by omega) ?_
      exact k_sub [2, 3, 4, 5, 6] rfl (hnx σ6)
    · refine k_aload_n hk dL_law_290 5 rfl ?_
      refine k_iconst (v := 0) hk dL_law_291 (by decide) ?_
      refine k_lald_k (kk := 0) hk dL_law_292 rfl (by decide) (by decide) (by decide) ?_
      refine k_iload hk dL_law_293 0 rfl ?_
      refine k_i2l hk dL_law_295 ?_
      refine k_lcmp hk dL_law_296 ?_
      refine k_if_eq hk dL_law_297 302 (by decide) (fun g9 => ?_) (fun g9 => ?_)
      · refine k_goto hk dL_law_302 1983 (by decide) ?_
        refine k_wide (n' := n + 16) (by omega) ?_
        exact k_sub [2, 3, 4, 5, 6] rfl (hnx σ6)
      · refine k_iconst (v := 0) hk dL_law_300 (by decide) ?_
        exact k_no
  · refine k_iconst (v := 0) hk dL_law_283 (by decide) ?_
    exact k_no
def q_fault (F : Nat)  (nx : kS → Option kR) (σ : kS) : Option kR := kBhi (f_X5_fault F  σ) (fun c1 σ2 => kBhi (f_X6_fault F  σ2) (fun c3 σ4 => (if c1 = c3 then (nx σ4) else (none))) kNo) kNo
set_option maxRecDepth 20000 in
theorem sl_fault {l : Launch} {E : kE} (hj : kEj E) (hn : kNorm E) (hl : l.stackTraces = false) (h91 : kcnt E 91 = 0) {C : kC} {Q : kR → State → Prop} {b L : Nat} {xs : Nat → Int32} (hk : kOk (C, E, Q) cL_law RL 8) (hro : kRo C l 2048 84000 601024) (hw : kLw (C, E, Q) b L xs) (F : Nat) (i : Int32) (h1 : kin (i + 1) L) (h2 : kin (i + 2) L) (h3 : kin (i + 3) L) (h4 : kin (i + 4) L) (h5 : kin (i + 5) L) (n : Nat) (hn9 : n + 16 ≤ 601024) (nx : kS → Option kR) (hnx : ∀ σ, Sm (C, E, Q) 8 (n + 16) 1983 [(0, .ref b), (1, .ref (kad E 0 0)), (2, .ref (kad E 48 0)), (3, .ref (kad E 90 0)), (4, .int i)] [] σ (nx σ)) (σ : kS) : Sm (C, E, Q) 8 n 305 [(0, .ref b), (1, .ref (kad E 0 0)), (2, .ref (kad E 48 0)), (3, .ref (kad E 90 0)), (4, .int i)] [] σ (q_fault F  nx σ) := by
  unfold q_fault
  refine k_aload_n hk dL_law_305 1 rfl ?_
  refine k_callVHi (As := []) (rest := []) hk hro (c_X5_fault hj hn hl F  σ) dL_law_306 cw_RL_113 rfl (by decide) kc5 rfl ⟨Nat.le_of_ble_eq_true rfl, Nat.le_of_ble_eq_true rfl⟩ (by omega) rfl (Nat.le_of_ble_eq_true rfl) (fun c1 σ2 => ?_) (fun _ _ => kThr_no)
  refine k_aload_n hk dL_law_309 2 rfl ?_
  refine k_callVHi (As := []) (rest := [.int c1]) hk hro (c_X6_fault hj hn hl F  σ2) dL_law_310 cw_RL_116 rfl (by decide) kc6 rfl ⟨Nat.le_of_ble_eq_true rfl, Nat.le_of_ble_eq_true rfl⟩ (by omega) rfl (Nat.le_of_ble_eq_true rfl) (fun c3 σ4 => ?_) (fun _ _ => kThr_no)
  refine k_icmp_eq hk dL_law_313 1983 (by decide) (fun g5 => ?_) (fun g5 => ?_)
  · refine k_wide (n' := n + 16) (by omega) ?_
    exact k_sub [0, 1, 2, 3, 4] rfl (hnx σ4)
  · refine k_iconst (v := 0) hk dL_law_316 (by decide) ?_
    exact k_no
def q_weigh (F : Nat) (a1 : Int32) (a2 : Int32) (nx : kS → Option kR) (σ : kS) : Option kR := kBhi (w_weigh F a1 a2 σ) (fun c1 σ2 => kBhi (f_X6_weigh F a1 a2 σ2) (fun c3 σ4 => kBhi (f_X6_thrown F  σ4) (fun c5 σ6 => (if c5 = c1 then ((if c1 = 0 then ((if (lg_cmp (σ6.2 90 0 0) (c3).toInt64) = 0 then (nx σ6) else (none))) else (nx σ6))) else (none))) kNo) kNo) kNo
set_option maxRecDepth 20000 in
theorem sl_weigh {l : Launch} {E : kE} (hj : kEj E) (hn : kNorm E) (hl : l.stackTraces = false) (h91 : kcnt E 91 = 0) {C : kC} {Q : kR → State → Prop} {b L : Nat} {xs : Nat → Int32} (hk : kOk (C, E, Q) cL_law RL 8) (hro : kRo C l 2048 84000 601024) (hw : kLw (C, E, Q) b L xs) (F : Nat) (i : Int32) (h1 : kin (i + 1) L) (h2 : kin (i + 2) L) (h3 : kin (i + 3) L) (h4 : kin (i + 4) L) (h5 : kin (i + 5) L) (n : Nat) (hn9 : n + 16 ≤ 601024) (nx : kS → Option kR) (hnx : ∀ σ, Sm (C, E, Q) 8 (n + 16) 1983 [(0, .ref b), (1, .ref (kad E 0 0)), (2, .ref (kad E 48 0)), (3, .ref (kad E 90 0)), (4, .int i)] [] σ (nx σ)) (σ : kS) : Sm (C, E, Q) 8 n 318 [(0, .ref b), (1, .ref (kad E 0 0)), (2, .ref (kad E 48 0)), (3, .ref (kad E 90 0)), (4, .int i)] [] σ (q_weigh F (xs (i + 1).toNatClampNeg) (xs (i + 2).toNatClampNeg) nx σ) := by
  unfold q_weigh
  refine k_aload_n hk dL_law_318 1 rfl ?_
  refine k_aload_n hk dL_law_319 0 rfl ?_
  refine k_iload hk dL_law_320 4 rfl ?_
  refine k_iconst (v := 1) hk dL_law_322 (by decide) ?_
  refine k_iadd hk dL_law_323 ?_
  refine k_scld hk hw h1 dL_law_324 ?_
  refine k_aload_n hk dL_law_325 0 rfl ?_
  refine k_iload hk dL_law_326 4 rfl ?_
  refine k_iconst (v := 2) hk dL_law_328 (by decide) ?_
  refine k_iadd hk dL_law_329 ?_
  refine k_scld hk hw h2 dL_law_330 ?_
  refine k_aload_n hk dL_law_331 3 rfl ?_
  refine k_callSHi (As := [.ref (kad E 0 0), .int (xs (i + 1).toNatClampNeg), .int (xs (i + 2).toNatClampNeg), .ref (kad E 90 0)]) (rest := []) hk hro (cw_weigh hj hn hl F ((xs (i + 1).toNatClampNeg)) ((xs (i + 2).toNatClampNeg)) σ) dL_law_332 lc_weigh ⟨Nat.le_of_ble_eq_true rfl, Nat.le_of_ble_eq_true rfl⟩ (by omega) rfl (Nat.le_of_ble_eq_true rfl) (fun c1 σ2 => ?_)
  refine k_istore (lv' := [(5, .int c1), (0, .ref b), (1, .ref (kad E 0 0)), (2, .ref (kad E 48 0)), (3, .ref (kad E 90 0)), (4, .int i)]) hk dL_law_335 (by decide) rfl ?_
  refine k_aload_n hk dL_law_337 3 rfl ?_
  refine k_aload_n hk dL_law_338 1 rfl ?_
  refine k_iload hk dL_law_339 5 rfl ?_
  refine k_iconst (v := 1) hk dL_law_341 (by decide) ?_
  refine k_iadd hk dL_law_342 ?_
  refine k_scld hk hw h1 dL_law_343 ?_
  refine k_aload_n hk dL_law_344 1 rfl ?_
  refine k_iload hk dL_law_345 5 rfl ?_
  refine k_iconst (v := 2) hk dL_law_347 (by decide) ?_
  refine k_iadd hk dL_law_348 ?_
  refine k_scld hk hw h2 dL_law_349 ?_
  refine k_callVHi (As := [.int (xs (i + 1).toNatClampNeg), .int (xs (i + 2).toNatClampNeg)]) (rest := []) hk hro (c_X6_weigh hj hn hl F ((xs (i + 1).toNatClampNeg)) ((xs (i + 2).toNatClampNeg)) σ2) dL_law_350 cw_RL_120 rfl (by decide) kc6 rfl ⟨Nat.le_of_ble_eq_true rfl, Nat.le_of_ble_eq_true rfl⟩ (by omega) rfl (Nat.le_of_ble_eq_true rfl) (fun c3 σ4 => ?_) (fun _ _ => kThr_no)
  refine k_istore (lv' := [(6, .int c3), (5, .int c1), (0, .ref b), (1, .ref (kad E 0 0)), (2, .ref (kad E 48 0)), (3, .ref (kad E 90 0)), (4, .int i)]) hk dL_law_353 (by decide) rfl ?_
  refine k_aload_n hk dL_law_355 4 rfl ?_
  refine k_callVHi (As := []) (rest := []) hk hro (c_X6_thrown hj hn hl F  σ4) dL_law_356 cw_RL_109 rfl (by decide) kc6 rfl ⟨Nat.le_of_ble_eq_true rfl, Nat.le_of_ble_eq_true rfl⟩ (by omega) rfl (Nat.le_of_ble_eq_true rfl) (fun c5 σ6 => ?_) (fun _ _ => kThr_no)
  refine k_iload hk dL_law_359 1 rfl ?_
  refine k_icmp_eq hk dL_law_361 366 (by decide) (fun g7 => ?_) (fun g7 => ?_)
  · refine k_iload hk dL_law_366 1 rfl ?_
    refine k_if_ne hk dL_law_368 383 (by decide) (fun g8 => ?_) (fun g8 => ?_)
    · refine k_goto hk dL_law_383 1983 (by decide) ?_
      refine k_wide (n' := n + 16) (by omega) ?_
      exact k_sub [2, 3, 4, 5, 6] rfl (hnx σ6)
    · refine k_aload_n hk dL_law_371 5 rfl ?_
      refine k_iconst (v := 0) hk dL_law_372 (by decide) ?_
      refine k_lald_k (kk := 0) hk dL_law_373 rfl (by decide) (by decide) (by decide) ?_
      refine k_iload hk dL_law_374 0 rfl ?_
      refine k_i2l hk dL_law_376 ?_
      refine k_lcmp hk dL_law_377 ?_
      refine k_if_eq hk dL_law_378 383 (by decide) (fun g9 => ?_) (fun g9 => ?_)
      · refine k_goto hk dL_law_383 1983 (by decide) ?_
        refine k_wide (n' := n + 16) (by omega) ?_
        exact k_sub [2, 3, 4, 5, 6] rfl (hnx σ6)
      · refine k_iconst (v := 0) hk dL_law_381 (by decide) ?_
        exact k_no
  · refine k_iconst (v := 0) hk dL_law_364 (by decide) ?_
    exact k_no
def q_set (F : Nat) (a1 : Int32) (a2 : Int32) (nx : kS → Option kR) (σ : kS) : Option kR := kBhi (w_set F a1 a2 σ) (fun c1 σ2 => kBhi (f_X6_set F a1 a2 σ2) (fun c3 σ4 => kBhi (f_X6_thrown F  σ4) (fun c5 σ6 => (if c5 = c1 then ((if c1 = 0 then ((if (lg_cmp (σ6.2 90 0 0) (c3).toInt64) = 0 then (nx σ6) else (none))) else (nx σ6))) else (none))) kNo) kNo) kNo
set_option maxRecDepth 20000 in
theorem sl_set {l : Launch} {E : kE} (hj : kEj E) (hn : kNorm E) (hl : l.stackTraces = false) (h91 : kcnt E 91 = 0) {C : kC} {Q : kR → State → Prop} {b L : Nat} {xs : Nat → Int32} (hk : kOk (C, E, Q) cL_law RL 8) (hro : kRo C l 2048 84000 601024) (hw : kLw (C, E, Q) b L xs) (F : Nat) (i : Int32) (h1 : kin (i + 1) L) (h2 : kin (i + 2) L) (h3 : kin (i + 3) L) (h4 : kin (i + 4) L) (h5 : kin (i + 5) L) (n : Nat) (hn9 : n + 16 ≤ 601024) (nx : kS → Option kR) (hnx : ∀ σ, Sm (C, E, Q) 8 (n + 16) 1983 [(0, .ref b), (1, .ref (kad E 0 0)), (2, .ref (kad E 48 0)), (3, .ref (kad E 90 0)), (4, .int i)] [] σ (nx σ)) (σ : kS) : Sm (C, E, Q) 8 n 386 [(0, .ref b), (1, .ref (kad E 0 0)), (2, .ref (kad E 48 0)), (3, .ref (kad E 90 0)), (4, .int i)] [] σ (q_set F (xs (i + 1).toNatClampNeg) (xs (i + 2).toNatClampNeg) nx σ) := by
  unfold q_set
  refine k_aload_n hk dL_law_386 1 rfl ?_
  refine k_aload_n hk dL_law_387 0 rfl ?_
  refine k_iload hk dL_law_388 4 rfl ?_
  refine k_iconst (v := 1) hk dL_law_390 (by decide) ?_
  refine k_iadd hk dL_law_391 ?_
  refine k_scld hk hw h1 dL_law_392 ?_
  refine k_aload_n hk dL_law_393 0 rfl ?_
  refine k_iload hk dL_law_394 4 rfl ?_
  refine k_iconst (v := 2) hk dL_law_396 (by decide) ?_
  refine k_iadd hk dL_law_397 ?_
  refine k_scld hk hw h2 dL_law_398 ?_
  refine k_aload_n hk dL_law_399 3 rfl ?_
  refine k_callSHi (As := [.ref (kad E 0 0), .int (xs (i + 1).toNatClampNeg), .int (xs (i + 2).toNatClampNeg), .ref (kad E 90 0)]) (rest := []) hk hro (cw_set hj hn hl F ((xs (i + 1).toNatClampNeg)) ((xs (i + 2).toNatClampNeg)) σ) dL_law_400 lc_set ⟨Nat.le_of_ble_eq_true rfl, Nat.le_of_ble_eq_true rfl⟩ (by omega) rfl (Nat.le_of_ble_eq_true rfl) (fun c1 σ2 => ?_)
  refine k_istore (lv' := [(5, .int c1), (0, .ref b), (1, .ref (kad E 0 0)), (2, .ref (kad E 48 0)), (3, .ref (kad E 90 0)), (4, .int i)]) hk dL_law_403 (by decide) rfl ?_
  refine k_aload_n hk dL_law_405 3 rfl ?_
  refine k_aload_n hk dL_law_406 1 rfl ?_
  refine k_iload hk dL_law_407 5 rfl ?_
  refine k_iconst (v := 1) hk dL_law_409 (by decide) ?_
  refine k_iadd hk dL_law_410 ?_
  refine k_scld hk hw h1 dL_law_411 ?_
  refine k_aload_n hk dL_law_412 1 rfl ?_
  refine k_iload hk dL_law_413 5 rfl ?_
  refine k_iconst (v := 2) hk dL_law_415 (by decide) ?_
  refine k_iadd hk dL_law_416 ?_
  refine k_scld hk hw h2 dL_law_417 ?_
  refine k_callVHi (As := [.int (xs (i + 1).toNatClampNeg), .int (xs (i + 2).toNatClampNeg)]) (rest := []) hk hro (c_X6_set hj hn hl F ((xs (i + 1).toNatClampNeg)) ((xs (i + 2).toNatClampNeg)) σ2) dL_law_418 cw_RL_123 rfl (by decide) kc6 rfl ⟨Nat.le_of_ble_eq_true rfl, Nat.le_of_ble_eq_true rfl⟩ (by omega) rfl (Nat.le_of_ble_eq_true rfl) (fun c3 σ4 => ?_) (fun _ _ => kThr_no)
  refine k_istore (lv' := [(6, .int c3), (5, .int c1), (0, .ref b), (1, .ref (kad E 0 0)), (2, .ref (kad E 48 0)), (3, .ref (kad E 90 0)), (4, .int i)]) hk dL_law_421 (by decide) rfl ?_
  refine k_aload_n hk dL_law_423 4 rfl ?_
  refine k_callVHi (As := []) (rest := []) hk hro (c_X6_thrown hj hn hl F  σ4) dL_law_424 cw_RL_109 rfl (by decide) kc6 rfl ⟨Nat.le_of_ble_eq_true rfl, Nat.le_of_ble_eq_true rfl⟩ (by omega) rfl (Nat.le_of_ble_eq_true rfl) (fun c5 σ6 => ?_) (fun _ _ => kThr_no)
  refine k_iload hk dL_law_427 1 rfl ?_
  refine k_icmp_eq hk dL_law_429 434 (by decide) (fun g7 => ?_) (fun g7 => ?_)
  · refine k_iload hk dL_law_434 1 rfl ?_
    refine k_if_ne hk dL_law_436 451 (by decide) (fun g8 => ?_) (fun g8 => ?_)
    · refine k_goto hk dL_law_451 1983 (by decide) ?_
      refine k_wide (n' := n + 16) (by omega) ?_
      exact k_sub [2, 3, 4, 5, 6] rfl (hnx σ6)
    · refine k_aload_n hk dL_law_439 5 rfl ?_
      refine k_iconst (v := 0) hk dL_law_440 (by decide) ?_
      refine k_lald_k (kk := 0) hk dL_law_441 rfl (by decide) (by decide) (by decide) ?_
      refine k_iload hk dL_law_442 0 rfl ?_
      refine k_i2l hk dL_law_444 ?_
      refine k_lcmp hk dL_law_445 ?_
      refine k_if_eq hk dL_law_446 451 (by decide) (fun g9 => ?_) (fun g9 => ?_)
      · refine k_goto hk dL_law_451 1983 (by decide) ?_
        refine k_wide (n' := n + 16) (by omega) ?_
        exact k_sub [2, 3, 4, 5, 6] rfl (hnx σ6)
      · refine k_iconst (v := 0) hk dL_law_449 (by decide) ?_
        exact k_no
  · refine k_iconst (v := 0) hk dL_law_432 (by decide) ?_
    exact k_no
def q_fill (F : Nat) (a1 : Int32) (a2 : Int32) (nx : kS → Option kR) (σ : kS) : Option kR := kBhi (w_fill F a1 a2 σ) (fun c1 σ2 => kBhi (f_X6_fill F a1 a2 σ2) (fun c3 σ4 => kBhi (f_X6_thrown F  σ4) (fun c5 σ6 => (if c5 = c1 then ((if c1 = 0 then ((if (lg_cmp (σ6.2 90 0 0) (c3).toInt64) = 0 then (nx σ6) else (none))) else (nx σ6))) else (none))) kNo) kNo) kNo
set_option maxRecDepth 20000 in
theorem sl_fill {l : Launch} {E : kE} (hj : kEj E) (hn : kNorm E) (hl : l.stackTraces = false) (h91 : kcnt E 91 = 0) {C : kC} {Q : kR → State → Prop} {b L : Nat} {xs : Nat → Int32} (hk : kOk (C, E, Q) cL_law RL 8) (hro : kRo C l 2048 84000 601024) (hw : kLw (C, E, Q) b L xs) (F : Nat) (i : Int32) (h1 : kin (i + 1) L) (h2 : kin (i + 2) L) (h3 : kin (i + 3) L) (h4 : kin (i + 4) L) (h5 : kin (i + 5) L) (n : Nat) (hn9 : n + 16 ≤ 601024) (nx : kS → Option kR) (hnx : ∀ σ, Sm (C, E, Q) 8 (n + 16) 1983 [(0, .ref b), (1, .ref (kad E 0 0)), (2, .ref (kad E 48 0)), (3, .ref (kad E 90 0)), (4, .int i)] [] σ (nx σ)) (σ : kS) : Sm (C, E, Q) 8 n 454 [(0, .ref b), (1, .ref (kad E 0 0)), (2, .ref (kad E 48 0)), (3, .ref (kad E 90 0)), (4, .int i)] [] σ (q_fill F (xs (i + 1).toNatClampNeg) (xs (i + 2).toNatClampNeg) nx σ) := by
  unfold q_fill
  refine k_aload_n hk dL_law_454 1 rfl ?_
  refine k_aload_n hk dL_law_455 0 rfl ?_
  refine k_iload hk dL_law_456 4 rfl ?_
  refine k_iconst (v := 1) hk dL_law_458 (by decide) ?_
  refine k_iadd hk dL_law_459 ?_
  refine k_scld hk hw h1 dL_law_460 ?_
  refine k_aload_n hk dL_law_461 0 rfl ?_
  refine k_iload hk dL_law_462 4 rfl ?_
  refine k_iconst (v := 2) hk dL_law_464 (by decide) ?_
  refine k_iadd hk dL_law_465 ?_
  refine k_scld hk hw h2 dL_law_466 ?_
  refine k_aload_n hk dL_law_467 3 rfl ?_
  refine k_callSHi (As := [.ref (kad E 0 0), .int (xs (i + 1).toNatClampNeg), .int (xs (i + 2).toNatClampNeg), .ref (kad E 90 0)]) (rest := []) hk hro (cw_fill hj hn hl F ((xs (i + 1).toNatClampNeg)) ((xs (i + 2).toNatClampNeg)) σ) dL_law_468 lc_fill ⟨Nat.le_of_ble_eq_true rfl, Nat.le_of_ble_eq_true rfl⟩ (by omega) rfl (Nat.le_of_ble_eq_true rfl) (fun c1 σ2 => ?_)
  refine k_istore (lv' := [(5, .int c1), (0, .ref b), (1, .ref (kad E 0 0)), (2, .ref (kad E 48 0)), (3, .ref (kad E 90 0)), (4, .int i)]) hk dL_law_471 (by decide) rfl ?_
  refine k_aload_n hk dL_law_473 3 rfl ?_
  refine k_aload_n hk dL_law_474 1 rfl ?_
  refine k_iload hk dL_law_475 5 rfl ?_
  refine k_iconst (v := 1) hk dL_law_477 (by decide) ?_
  refine k_iadd hk dL_law_478 ?_
  refine k_scld hk hw h1 dL_law_479 ?_
  refine k_aload_n hk dL_law_480 1 rfl ?_
  refine k_iload hk dL_law_481 5 rfl ?_
  refine k_iconst (v := 2) hk dL_law_483 (by decide) ?_
  refine k_iadd hk dL_law_484 ?_
  refine k_scld hk hw h2 dL_law_485 ?_
  refine k_callVHi (As := [.int (xs (i + 1).toNatClampNeg), .int (xs (i + 2).toNatClampNeg)]) (rest := []) hk hro (c_X6_fill hj hn hl F ((xs (i + 1).toNatClampNeg)) ((xs (i + 2).toNatClampNeg)) σ2) dL_law_486 cw_RL_126 rfl (by decide) kc6 rfl ⟨Nat.le_of_ble_eq_true rfl, Nat.le_of_ble_eq_true rfl⟩ (by omega) rfl (Nat.le_of_ble_eq_true rfl) (fun c3 σ4 => ?_) (fun _ _ => kThr_no)
  refine k_istore (lv' := [(6, .int c3), (5, .int c1), (0, .ref b), (1, .ref (kad E 0 0)), (2, .ref (kad E 48 0)), (3, .ref (kad E 90 0)), (4, .int i)]) hk dL_law_489 (by decide) rfl ?_
  refine k_aload_n hk dL_law_491 4 rfl ?_
  refine k_callVHi (As := []) (rest := []) hk hro (c_X6_thrown hj hn hl F  σ4) dL_law_492 cw_RL_109 rfl (by decide) kc6 rfl ⟨Nat.le_of_ble_eq_true rfl, Nat.le_of_ble_eq_true rfl⟩ (by omega) rfl (Nat.le_of_ble_eq_true rfl) (fun c5 σ6 => ?_) (fun _ _ => kThr_no)
  refine k_iload hk dL_law_495 1 rfl ?_
  refine k_icmp_eq hk dL_law_497 502 (by decide) (fun g7 => ?_) (fun g7 => ?_)
  · refine k_iload hk dL_law_502 1 rfl ?_
    refine k_if_ne hk dL_law_504 519 (by decide) (fun g8 => ?_) (fun g8 => ?_)
    · refine k_goto hk dL_law_519 1983 (by decide) ?_
      refine k_wide (n' := n + 16) (by omega) ?_
      exact k_sub [2, 3, 4, 5, 6] rfl (hnx σ6)
    · refine k_aload_n hk dL_law_507 5 rfl ?_
      refine k_iconst (v := 0) hk dL_law_508 (by decide) ?_
      refine k_lald_k (kk := 0) hk dL_law_509 rfl (by decide) (by decide) (by decide) ?_
      refine k_iload hk dL_law_510 0 rfl ?_
      refine k_i2l hk dL_law_512 ?_
      refine k_lcmp hk dL_law_513 ?_
      refine k_if_eq hk dL_law_514 519 (by decide) (fun g9 => ?_) (fun g9 => ?_)
      · refine k_goto hk dL_law_519 1983 (by decide) ?_
        refine k_wide (n' := n + 16) (by omega) ?_
        exact k_sub [2, 3, 4, 5, 6] rfl (hnx σ6)
      · refine k_iconst (v := 0) hk dL_law_517 (by decide) ?_
        exact k_no
  · refine k_iconst (v := 0) hk dL_law_500 (by decide) ?_
    exact k_no
def q_state (F : Nat) (a1 : Int32) (a2 : Int32) (a3 : Int32) (nx : kS → Option kR) (σ : kS) : Option kR := kBhi (w_state F a1 a2 a3 σ) (fun c1 σ2 => kBhi (f_X6_state F a1 a2 a3 σ2) (fun c3 σ4 => kBhi (f_X6_thrown F  σ4) (fun c5 σ6 => (if c5 = c1 then ((if c1 = 0 then ((if (lg_cmp (σ6.2 90 0 0) (c3).toInt64) = 0 then (nx σ6) else (none))) else (nx σ6))) else (none))) kNo) kNo) kNo
set_option maxRecDepth 20000 in
theorem sl_state {l : Launch} {E : kE} (hj : kEj E) (hn : kNorm E) (hl : l.stackTraces = false) (h91 : kcnt E 91 = 0) {C : kC} {Q : kR → State → Prop} {b L : Nat} {xs : Nat → Int32} (hk : kOk (C, E, Q) cL_law RL 8) (hro : kRo C l 2048 84000 601024) (hw : kLw (C, E, Q) b L xs) (F : Nat) (i : Int32) (h1 : kin (i + 1) L) (h2 : kin (i + 2) L) (h3 : kin (i + 3) L) (h4 : kin (i + 4) L) (h5 : kin (i + 5) L) (n : Nat) (hn9 : n + 16 ≤ 601024) (nx : kS → Option kR) (hnx : ∀ σ, Sm (C, E, Q) 8 (n + 16) 1983 [(0, .ref b), (1, .ref (kad E 0 0)), (2, .ref (kad E 48 0)), (3, .ref (kad E 90 0)), (4, .int i)] [] σ (nx σ)) (σ : kS) : Sm (C, E, Q) 8 n 522 [(0, .ref b), (1, .ref (kad E 0 0)), (2, .ref (kad E 48 0)), (3, .ref (kad E 90 0)), (4, .int i)] [] σ (q_state F (xs (i + 1).toNatClampNeg) (xs (i + 2).toNatClampNeg) (xs (i + 3).toNatClampNeg) nx σ) := by
  unfold q_state
  refine k_aload_n hk dL_law_522 1 rfl ?_
  refine k_aload_n hk dL_law_523 0 rfl ?_
  refine k_iload hk dL_law_524 4 rfl ?_
  refine k_iconst (v := 1) hk dL_law_526 (by decide) ?_
  refine k_iadd hk dL_law_527 ?_
  refine k_scld hk hw h1 dL_law_528 ?_
  refine k_aload_n hk dL_law_529 0 rfl ?_
  refine k_iload hk dL_law_530 4 rfl ?_
  refine k_iconst (v := 2) hk dL_law_532 (by decide) ?_
  refine k_iadd hk dL_law_533 ?_
  refine k_scld hk hw h2 dL_law_534 ?_
  refine k_aload_n hk dL_law_535 0 rfl ?_
  refine k_iload hk dL_law_536 4 rfl ?_
  refine k_iconst (v := 3) hk dL_law_538 (by decide) ?_
  refine k_iadd hk dL_law_539 ?_
  refine k_scld hk hw h3 dL_law_540 ?_
  refine k_aload_n hk dL_law_541 3 rfl ?_
  refine k_callSHi (As := [.ref (kad E 0 0), .int (xs (i + 1).toNatClampNeg), .int (xs (i + 2).toNatClampNeg), .int (xs (i + 3).toNatClampNeg), .ref (kad E 90 0)]) (rest := []) hk hro (cw_state hj hn hl F ((xs (i + 1).toNatClampNeg)) ((xs (i + 2).toNatClampNeg)) ((xs (i + 3).toNatClampNeg)) σ) dL_law_542 lc_state ⟨Nat.le_of_ble_eq_true rfl, Nat.le_of_ble_eq_true rfl⟩ (by omega) rfl (Nat.le_of_ble_eq_true rfl) (fun c1 σ2 => ?_)
  refine k_istore (lv' := [(5, .int c1), (0, .ref b), (1, .ref (kad E 0 0)), (2, .ref (kad E 48 0)), (3, .ref (kad E 90 0)), (4, .int i)]) hk dL_law_545 (by decide) rfl ?_
  refine k_aload_n hk dL_law_547 3 rfl ?_
  refine k_aload_n hk dL_law_548 1 rfl ?_
  refine k_iload hk dL_law_549 5 rfl ?_
  refine k_iconst (v := 1) hk dL_law_551 (by decide) ?_
  refine k_iadd hk dL_law_552 ?_
  refine k_scld hk hw h1 dL_law_553 ?_
  refine k_aload_n hk dL_law_554 1 rfl ?_
  refine k_iload hk dL_law_555 5 rfl ?_
  refine k_iconst (v := 2) hk dL_law_557 (by decide) ?_
  refine k_iadd hk dL_law_558 ?_
  refine k_scld hk hw h2 dL_law_559 ?_
  refine k_aload_n hk dL_law_560 1 rfl ?_
  refine k_iload hk dL_law_561 5 rfl ?_
  refine k_iconst (v := 3) hk dL_law_563 (by decide) ?_
  refine k_iadd hk dL_law_564 ?_
  refine k_scld hk hw h3 dL_law_565 ?_
  refine k_callVHi (As := [.int (xs (i + 1).toNatClampNeg), .int (xs (i + 2).toNatClampNeg), .int (xs (i + 3).toNatClampNeg)]) (rest := []) hk hro (c_X6_state hj hn hl F ((xs (i + 1).toNatClampNeg)) ((xs (i + 2).toNatClampNeg)) ((xs (i + 3).toNatClampNeg)) σ2) dL_law_566 cw_RL_130 rfl (by decide) kc6 rfl ⟨Nat.le_of_ble_eq_true rfl, Nat.le_of_ble_eq_true rfl⟩ (by omega) rfl (Nat.le_of_ble_eq_true rfl) (fun c3 σ4 => ?_) (fun _ _ => kThr_no)
  refine k_istore (lv' := [(6, .int c3), (5, .int c1), (0, .ref b), (1, .ref (kad E 0 0)), (2, .ref (kad E 48 0)), (3, .ref (kad E 90 0)), (4, .int i)]) hk dL_law_569 (by decide) rfl ?_
  refine k_aload_n hk dL_law_571 4 rfl ?_
  refine k_callVHi (As := []) (rest := []) hk hro (c_X6_thrown hj hn hl F  σ4) dL_law_572 cw_RL_109 rfl (by decide) kc6 rfl ⟨Nat.le_of_ble_eq_true rfl, Nat.le_of_ble_eq_true rfl⟩ (by omega) rfl (Nat.le_of_ble_eq_true rfl) (fun c5 σ6 => ?_) (fun _ _ => kThr_no)
  refine k_iload hk dL_law_575 1 rfl ?_
  refine k_icmp_eq hk dL_law_577 582 (by decide) (fun g7 => ?_) (fun g7 => ?_)
  · refine k_iload hk dL_law_582 1 rfl ?_
    refine k_if_ne hk dL_law_584 599 (by decide) (fun g8 => ?_) (fun g8 => ?_)
    · refine k_goto hk dL_law_599 1983 (by decide) ?_
      refine k_wide (n' := n + 16) (by omega) ?_
      exact k_sub [2, 3, 4, 5, 6] rfl (hnx σ6)
    · refine k_aload_n hk dL_law_587 5 rfl ?_
      refine k_iconst (v := 0) hk dL_law_588 (by decide) ?_
      refine k_lald_k (kk := 0) hk dL_law_589 rfl (by decide) (by decide) (by decide) ?_
      refine k_iload hk dL_law_590 0 rfl ?_
      refine k_i2l hk dL_law_592 ?_
      refine k_lcmp hk dL_law_593 ?_
      refine k_if_eq hk dL_law_594 599 (by decide) (fun g9 => ?_) (fun g9 => ?_)
      · refine k_goto hk dL_law_599 1983 (by decide) ?_
        refine k_wide (n' := n + 16) (by omega) ?_
        exact k_sub [2, 3, 4, 5, 6] rfl (hnx σ6)
      · refine k_iconst (v := 0) hk dL_law_597 (by decide) ?_
        exact k_no
  · refine k_iconst (v := 0) hk dL_law_580 (by decide) ?_
    exact k_no
def q_cell (F : Nat) (a1 : Int32) (a2 : Int32) (a3 : Int32) (a4 : Int32) (nx : kS → Option kR) (σ : kS) : Option kR := kBhi (w_cell F a1 a2 a3 a4 σ) (fun c1 σ2 => kBhi (f_X6_cell F a1 a2 a3 a4 σ2) (fun c3 σ4 => kBhi (f_X6_thrown F  σ4) (fun c5 σ6 => (if c5 = c1 then ((if c1 = 0 then ((if (lg_cmp (σ6.2 90 0 0) (c3).toInt64) = 0 then (nx σ6) else (none))) else (nx σ6))) else (none))) kNo) kNo) kNo
set_option maxRecDepth 20000 in
theorem sl_cell {l : Launch} {E : kE} (hj : kEj E) (hn : kNorm E) (hl : l.stackTraces = false) (h91 : kcnt E 91 = 0) {C : kC} {Q : kR → State → Prop} {b L : Nat} {xs : Nat → Int32} (hk : kOk (C, E, Q) cL_law RL 8) (hro : kRo C l 2048 84000 601024) (hw : kLw (C, E, Q) b L xs) (F : Nat) (i : Int32) (h1 : kin (i + 1) L) (h2 : kin (i + 2) L) (h3 : kin (i + 3) L) (h4 : kin (i + 4) L) (h5 : kin (i + 5) L) (n : Nat) (hn9 : n + 16 ≤ 601024) (nx : kS → Option kR) (hnx : ∀ σ, Sm (C, E, Q) 8 (n + 16) 1983 [(0, .ref b), (1, .ref (kad E 0 0)), (2, .ref (kad E 48 0)), (3, .ref (kad E 90 0)), (4, .int i)] [] σ (nx σ)) (σ : kS) : Sm (C, E, Q) 8 n 602 [(0, .ref b), (1, .ref (kad E 0 0)), (2, .ref (kad E 48 0)), (3, .ref (kad E 90 0)), (4, .int i)] [] σ (q_cell F (xs (i + 1).toNatClampNeg) (xs (i + 2).toNatClampNeg) (xs (i + 3).toNatClampNeg) (xs (i + 4).toNatClampNeg) nx σ) := by
  unfold q_cell
  refine k_aload_n hk dL_law_602 1 rfl ?_
  refine k_aload_n hk dL_law_603 0 rfl ?_
  refine k_iload hk dL_law_604 4 rfl ?_
  refine k_iconst (v := 1) hk dL_law_606 (by decide) ?_
  refine k_iadd hk dL_law_607 ?_
  refine k_scld hk hw h1 dL_law_608 ?_
  refine k_aload_n hk dL_law_609 0 rfl ?_
  refine k_iload hk dL_law_610 4 rfl ?_
  refine k_iconst (v := 2) hk dL_law_612 (by decide) ?_
  refine k_iadd hk dL_law_613 ?_
  refine k_scld hk hw h2 dL_law_614 ?_
  refine k_aload_n hk dL_law_615 0 rfl ?_
  refine k_iload hk dL_law_616 4 rfl ?_
  refine k_iconst (v := 3) hk dL_law_618 (by decide) ?_
  refine k_iadd hk dL_law_619 ?_
  refine k_scld hk hw h3 dL_law_620 ?_
  refine k_aload_n hk dL_law_621 0 rfl ?_
  refine k_iload hk dL_law_622 4 rfl ?_
  refine k_iconst (v := 4) hk dL_law_624 (by decide) ?_
  refine k_iadd hk dL_law_625 ?_
  refine k_scld hk hw h4 dL_law_626 ?_
  refine k_aload_n hk dL_law_627 3 rfl ?_
  refine k_callSHi (As := [.ref (kad E 0 0), .int (xs (i + 1).toNatClampNeg), .int (xs (i + 2).toNatClampNeg), .int (xs (i + 3).toNatClampNeg), .int (xs (i + 4).toNatClampNeg), .ref (kad E 90 0)]) (rest := []) hk hro (cw_cell hj hn hl F ((xs (i + 1).toNatClampNeg)) ((xs (i + 2).toNatClampNeg)) ((xs (i + 3).toNatClampNeg)) ((xs (i + 4).toNatClampNeg)) σ) dL_law_628 lc_cell ⟨Nat.le_of_ble_eq_true rfl, Nat.le_of_ble_eq_true rfl⟩ (by omega) rfl (Nat.le_of_ble_eq_true rfl) (fun c1 σ2 => ?_)
  refine k_istore (lv' := [(5, .int c1), (0, .ref b), (1, .ref (kad E 0 0)), (2, .ref (kad E 48 0)), (3, .ref (kad E 90 0)), (4, .int i)]) hk dL_law_631 (by decide) rfl ?_
  refine k_aload_n hk dL_law_633 3 rfl ?_
  refine k_aload_n hk dL_law_634 1 rfl ?_
  refine k_iload hk dL_law_635 5 rfl ?_
  refine k_iconst (v := 1) hk dL_law_637 (by decide) ?_
  refine k_iadd hk dL_law_638 ?_
  refine k_scld hk hw h1 dL_law_639 ?_
  refine k_aload_n hk dL_law_640 1 rfl ?_
  refine k_iload hk dL_law_641 5 rfl ?_
  refine k_iconst (v := 2) hk dL_law_643 (by decide) ?_
  refine k_iadd hk dL_law_644 ?_
  refine k_scld hk hw h2 dL_law_645 ?_
  refine k_aload_n hk dL_law_646 1 rfl ?_
  refine k_iload hk dL_law_647 5 rfl ?_
  refine k_iconst (v := 3) hk dL_law_649 (by decide) ?_
  refine k_iadd hk dL_law_650 ?_
  refine k_scld hk hw h3 dL_law_651 ?_
  refine k_aload_n hk dL_law_652 1 rfl ?_
  refine k_iload hk dL_law_653 5 rfl ?_
  refine k_iconst (v := 4) hk dL_law_655 (by decide) ?_
  refine k_iadd hk dL_law_656 ?_
  refine k_scld hk hw h4 dL_law_657 ?_
  refine k_callVHi (As := [.int (xs (i + 1).toNatClampNeg), .int (xs (i + 2).toNatClampNeg), .int (xs (i + 3).toNatClampNeg), .int (xs (i + 4).toNatClampNeg)]) (rest := []) hk hro (c_X6_cell hj hn hl F ((xs (i + 1).toNatClampNeg)) ((xs (i + 2).toNatClampNeg)) ((xs (i + 3).toNatClampNeg)) ((xs (i + 4).toNatClampNeg)) σ2) dL_law_658 cw_RL_134 rfl (by decide) kc6 rfl ⟨Nat.le_of_ble_eq_true rfl, Nat.le_of_ble_eq_true rfl⟩ (by omega) rfl (Nat.le_of_ble_eq_true rfl) (fun c3 σ4 => ?_) (fun _ _ => kThr_no)
  refine k_istore (lv' := [(6, .int c3), (5, .int c1), (0, .ref b), (1, .ref (kad E 0 0)), (2, .ref (kad E 48 0)), (3, .ref (kad E 90 0)), (4, .int i)]) hk dL_law_661 (by decide) rfl ?_
  refine k_aload_n hk dL_law_663 4 rfl ?_
  refine k_callVHi (As := []) (rest := []) hk hro (c_X6_thrown hj hn hl F  σ4) dL_law_664 cw_RL_109 rfl (by decide) kc6 rfl ⟨Nat.le_of_ble_eq_true rfl, Nat.le_of_ble_eq_true rfl⟩ (by omega) rfl (Nat.le_of_ble_eq_true rfl) (fun c5 σ6 => ?_) (fun _ _ => kThr_no)
  refine k_iload hk dL_law_667 1 rfl ?_
  refine k_icmp_eq hk dL_law_669 674 (by decide) (fun g7 => ?_) (fun g7 => ?_)
  · refine k_iload hk dL_law_674 1 rfl ?_
    refine k_if_ne hk dL_law_676 691 (by decide) (fun g8 => ?_) (fun g8 => ?_)
    · refine k_goto hk dL_law_691 1983 (by decide) ?_
      refine k_wide (n' := n + 16) (by omega) ?_
      exact k_sub [2, 3, 4, 5, 6] rfl (hnx σ6)
    · refine k_aload_n hk dL_law_679 5 rfl ?_
      refine k_iconst (v := 0) hk dL_law_680 (by decide) ?_
      refine k_lald_k (kk := 0) hk dL_law_681 rfl (by decide) (by decide) (by decide) ?_
      refine k_iload hk dL_law_682 0 rfl ?_
      refine k_i2l hk dL_law_684 ?_
      refine k_lcmp hk dL_law_685 ?_
      refine k_if_eq hk dL_law_686 691 (by decide) (fun g9 => ?_) (fun g9 => ?_)
      · refine k_goto hk dL_law_691 1983 (by decide) ?_
        refine k_wide (n' := n + 16) (by omega) ?_
        exact k_sub [2, 3, 4, 5, 6] rfl (hnx σ6)
      · refine k_iconst (v := 0) hk dL_law_689 (by decide) ?_
        exact k_no
  · refine k_iconst (v := 0) hk dL_law_672 (by decide) ?_
    exact k_no
def q_run (F : Nat) (a1 : Int32) (a2 : Int32) (nx : kS → Option kR) (σ : kS) : Option kR := kBhi (w_run F a1 a2 σ) (fun c1 σ2 => kBhi (f_X6_run F a1 a2 σ2) (fun c3 σ4 => kBhi (f_X6_thrown F  σ4) (fun c5 σ6 => (if c5 = c1 then ((if c1 = 0 then ((if (lg_cmp (σ6.2 90 0 0) (c3).toInt64) = 0 then (nx σ6) else (none))) else (nx σ6))) else (none))) kNo) kNo) kNo
set_option maxRecDepth 20000 in
theorem sl_run {l : Launch} {E : kE} (hj : kEj E) (hn : kNorm E) (hl : l.stackTraces = false) (h91 : kcnt E 91 = 0) {C : kC} {Q : kR → State → Prop} {b L : Nat} {xs : Nat → Int32} (hk : kOk (C, E, Q) cL_law RL 8) (hro : kRo C l 2048 84000 601024) (hw : kLw (C, E, Q) b L xs) (F : Nat) (i : Int32) (h1 : kin (i + 1) L) (h2 : kin (i + 2) L) (h3 : kin (i + 3) L) (h4 : kin (i + 4) L) (h5 : kin (i + 5) L) (n : Nat) (hn9 : n + 16 ≤ 601024) (nx : kS → Option kR) (hnx : ∀ σ, Sm (C, E, Q) 8 (n + 16) 1983 [(0, .ref b), (1, .ref (kad E 0 0)), (2, .ref (kad E 48 0)), (3, .ref (kad E 90 0)), (4, .int i)] [] σ (nx σ)) (σ : kS) : Sm (C, E, Q) 8 n 694 [(0, .ref b), (1, .ref (kad E 0 0)), (2, .ref (kad E 48 0)), (3, .ref (kad E 90 0)), (4, .int i)] [] σ (q_run F (xs (i + 1).toNatClampNeg) (xs (i + 2).toNatClampNeg) nx σ) := by
  unfold q_run
  refine k_aload_n hk dL_law_694 1 rfl ?_
  refine k_aload_n hk dL_law_695 0 rfl ?_
  refine k_iload hk dL_law_696 4 rfl ?_
  refine k_iconst (v := 1) hk dL_law_698 (by decide) ?_
  refine k_iadd hk dL_law_699 ?_
  refine k_scld hk hw h1 dL_law_700 ?_
  refine k_aload_n hk dL_law_701 0 rfl ?_
  refine k_iload hk dL_law_702 4 rfl ?_
  refine k_iconst (v := 2) hk dL_law_704 (by decide) ?_
  refine k_iadd hk dL_law_705 ?_
  refine k_scld hk hw h2 dL_law_706 ?_
  refine k_aload_n hk dL_law_707 3 rfl ?_
  refine k_callSHi (As := [.ref (kad E 0 0), .int (xs (i + 1).toNatClampNeg), .int (xs (i + 2).toNatClampNeg), .ref (kad E 90 0)]) (rest := []) hk hro (cw_run hj hn hl F ((xs (i + 1).toNatClampNeg)) ((xs (i + 2).toNatClampNeg)) σ) dL_law_708 lc_run ⟨Nat.le_of_ble_eq_true rfl, Nat.le_of_ble_eq_true rfl⟩ (by omega) rfl (Nat.le_of_ble_eq_true rfl) (fun c1 σ2 => ?_)
  refine k_istore (lv' := [(5, .int c1), (0, .ref b), (1, .ref (kad E 0 0)), (2, .ref (kad E 48 0)), (3, .ref (kad E 90 0)), (4, .int i)]) hk dL_law_711 (by decide) rfl ?_
  refine k_aload_n hk dL_law_713 3 rfl ?_
  refine k_aload_n hk dL_law_714 1 rfl ?_
  refine k_iload hk dL_law_715 5 rfl ?_
  refine k_iconst (v := 1) hk dL_law_717 (by decide) ?_
  refine k_iadd hk dL_law_718 ?_
  refine k_scld hk hw h1 dL_law_719 ?_
  refine k_aload_n hk dL_law_720 1 rfl ?_
  refine k_iload hk dL_law_721 5 rfl ?_
  refine k_iconst (v := 2) hk dL_law_723 (by decide) ?_
  refine k_iadd hk dL_law_724 ?_
  refine k_scld hk hw h2 dL_law_725 ?_
  refine k_callVHi (As := [.int (xs (i + 1).toNatClampNeg), .int (xs (i + 2).toNatClampNeg)]) (rest := []) hk hro (c_X6_run hj hn hl F ((xs (i + 1).toNatClampNeg)) ((xs (i + 2).toNatClampNeg)) σ2) dL_law_726 cw_RL_137 rfl (by decide) kc6 rfl ⟨Nat.le_of_ble_eq_true rfl, Nat.le_of_ble_eq_true rfl⟩ (by omega) rfl (Nat.le_of_ble_eq_true rfl) (fun c3 σ4 => ?_) (fun _ _ => kThr_no)
  refine k_istore (lv' := [(6, .int c3), (5, .int c1), (0, .ref b), (1, .ref (kad E 0 0)), (2, .ref (kad E 48 0)), (3, .ref (kad E 90 0)), (4, .int i)]) hk dL_law_729 (by decide) rfl ?_
  refine k_aload_n hk dL_law_731 4 rfl ?_
  refine k_callVHi (As := []) (rest := []) hk hro (c_X6_thrown hj hn hl F  σ4) dL_law_732 cw_RL_109 rfl (by decide) kc6 rfl ⟨Nat.le_of_ble_eq_true rfl, Nat.le_of_ble_eq_true rfl⟩ (by omega) rfl (Nat.le_of_ble_eq_true rfl) (fun c5 σ6 => ?_) (fun _ _ => kThr_no)
  refine k_iload hk dL_law_735 1 rfl ?_
  refine k_icmp_eq hk dL_law_737 742 (by decide) (fun g7 => ?_) (fun g7 => ?_)
  · refine k_iload hk dL_law_742 1 rfl ?_
    refine k_if_ne hk dL_law_744 759 (by decide) (fun g8 => ?_) (fun g8 => ?_)
    · refine k_goto hk dL_law_759 1983 (by decide) ?_
      refine k_wide (n' := n + 16) (by omega) ?_
      exact k_sub [2, 3, 4, 5, 6] rfl (hnx σ6)
    · refine k_aload_n hk dL_law_747 5 rfl ?_
      refine k_iconst (v := 0) hk dL_law_748 (by decide) ?_
      refine k_lald_k (kk := 0) hk dL_law_749 rfl (by decide) (by decide) (by decide) ?_
      refine k_iload hk dL_law_750 0 rfl ?_
      refine k_i2l hk dL_law_752 ?_
      refine k_lcmp hk dL_law_753 ?_
      refine k_if_eq hk dL_law_754 759 (by decide) (fun g9 => ?_) (fun g9 => ?_)
      · refine k_goto hk dL_law_759 1983 (by decide) ?_
        refine k_wide (n' := n + 16) (by omega) ?_
        exact k_sub [2, 3, 4, 5, 6] rfl (hnx σ6)
      · refine k_iconst (v := 0) hk dL_law_757 (by decide) ?_
        exact k_no
  · refine k_iconst (v := 0) hk dL_law_740 (by decide) ?_
    exact k_no
def q_row (F : Nat) (a1 : Int32) (a2 : Int32) (a3 : Int32) (a4 : Int32) (a5 : Int32) (nx : kS → Option kR) (σ : kS) : Option kR := kBhi (w_row F a1 a2 a3 a4 a5 σ) (fun c1 σ2 => kBhi (f_X6_row F a1 a2 a3 a4 a5 σ2) (fun c3 σ4 => kBhi (f_X6_thrown F  σ4) (fun c5 σ6 => (if c5 = c1 then ((if c1 = 0 then ((if (lg_cmp (σ6.2 90 0 0) (c3).toInt64) = 0 then (nx σ6) else (none))) else (nx σ6))) else (none))) kNo) kNo) kNo
set_option maxRecDepth 20000 in
theorem sl_row {l : Launch} {E : kE} (hj : kEj E) (hn : kNorm E) (hl : l.stackTraces = false) (h91 : kcnt E 91 = 0) {C : kC} {Q : kR → State → Prop} {b L : Nat} {xs : Nat → Int32} (hk : kOk (C, E, Q) cL_law RL 8) (hro : kRo C l 2048 84000 601024) (hw : kLw (C, E, Q) b L xs) (F : Nat) (i : Int32) (h1 : kin (i + 1) L) (h2 : kin (i + 2) L) (h3 : kin (i + 3) L) (h4 : kin (i + 4) L) (h5 : kin (i + 5) L) (n : Nat) (hn9 : n + 16 ≤ 601024) (nx : kS → Option kR) (hnx : ∀ σ, Sm (C, E, Q) 8 (n + 16) 1983 [(0, .ref b), (1, .ref (kad E 0 0)), (2, .ref (kad E 48 0)), (3, .ref (kad E 90 0)), (4, .int i)] [] σ (nx σ)) (σ : kS) : Sm (C, E, Q) 8 n 762 [(0, .ref b), (1, .ref (kad E 0 0)), (2, .ref (kad E 48 0)), (3, .ref (kad E 90 0)), (4, .int i)] [] σ (q_row F (xs (i + 1).toNatClampNeg) (xs (i + 2).toNatClampNeg) (xs (i + 3).toNatClampNeg) (xs (i + 4).toNatClampNeg) (xs (i + 5).toNatClampNeg) nx σ) := by
  unfold q_row
  refine k_aload_n hk dL_law_762 1 rfl ?_
  refine k_aload_n hk dL_law_763 0 rfl ?_
  refine k_iload hk dL_law_764 4 rfl ?_
  refine k_iconst (v := 1) hk dL_law_766 (by decide) ?_
  refine k_iadd hk dL_law_767 ?_
  refine k_scld hk hw h1 dL_law_768 ?_
  refine k_aload_n hk dL_law_769 0 rfl ?_
  refine k_iload hk dL_law_770 4 rfl ?_
  refine k_iconst (v := 2) hk dL_law_772 (by decide) ?_
  refine k_iadd hk dL_law_773 ?_
  refine k_scld hk hw h2 dL_law_774 ?_
  refine k_aload_n hk dL_law_775 0 rfl ?_
  refine k_iload hk dL_law_776 4 rfl ?_
  refine k_iconst (v := 3) hk dL_law_778 (by decide) ?_
  refine k_iadd hk dL_law_779 ?_
  refine k_scld hk hw h3 dL_law_780 ?_
  refine k_aload_n hk dL_law_781 0 rfl ?_
  refine k_iload hk dL_law_782 4 rfl ?_
  refine k_iconst (v := 4) hk dL_law_784 (by decide) ?_
  refine k_iadd hk dL_law_785 ?_
  refine k_scld hk hw h4 dL_law_786 ?_
  refine k_aload_n hk dL_law_787 0 rfl ?_
  refine k_iload hk dL_law_788 4 rfl ?_
  refine k_iconst (v := 5) hk dL_law_790 (by decide) ?_
  refine k_iadd hk dL_law_791 ?_
  refine k_scld hk hw h5 dL_law_792 ?_
  refine k_aload_n hk dL_law_793 3 rfl ?_
  refine k_callSHi (As := [.ref (kad E 0 0), .int (xs (i + 1).toNatClampNeg), .int (xs (i + 2).toNatClampNeg), .int (xs (i + 3).toNatClampNeg), .int (xs (i + 4).toNatClampNeg), .int (xs (i + 5).toNatClampNeg), .ref (kad E 90 0)]) (rest := []) hk hro (cw_row hj hn hl F ((xs (i + 1).toNatClampNeg)) ((xs (i + 2).toNatClampNeg)) ((xs (i + 3).toNatClampNeg)) ((xs (i + 4).toNatClampNeg)) ((xs (i + 5).toNatClampNeg)) σ) dL_law_794 lc_row ⟨Nat.le_of_ble_eq_true rfl, Nat.le_of_ble_eq_true rfl⟩ (by omega) rfl (Nat.le_of_ble_eq_true rfl) (fun c1 σ2 => ?_)
  refine k_istore (lv' := [(5, .int c1), (0, .ref b), (1, .ref (kad E 0 0)), (2, .ref (kad E 48 0)), (3, .ref (kad E 90 0)), (4, .int i)]) hk dL_law_797 (by decide) rfl ?_
  refine k_aload_n hk dL_law_799 3 rfl ?_
  refine k_aload_n hk dL_law_800 1 rfl ?_
  refine k_iload hk dL_law_801 5 rfl ?_
  refine k_iconst (v := 1) hk dL_law_803 (by decide) ?_
  refine k_iadd hk dL_law_804 ?_
  refine k_scld hk hw h1 dL_law_805 ?_
  refine k_aload_n hk dL_law_806 1 rfl ?_
  refine k_iload hk dL_law_807 5 rfl ?_
  refine k_iconst (v := 2) hk dL_law_809 (by decide) ?_
  refine k_iadd hk dL_law_810 ?_
  refine k_scld hk hw h2 dL_law_811 ?_
  refine k_aload_n hk dL_law_812 1 rfl ?_
  refine k_iload hk dL_law_813 5 rfl ?_
  refine k_iconst (v := 3) hk dL_law_815 (by decide) ?_
  refine k_iadd hk dL_law_816 ?_
  refine k_scld hk hw h3 dL_law_817 ?_
  refine k_aload_n hk dL_law_818 1 rfl ?_
  refine k_iload hk dL_law_819 5 rfl ?_
  refine k_iconst (v := 4) hk dL_law_821 (by decide) ?_
  refine k_iadd hk dL_law_822 ?_
  refine k_scld hk hw h4 dL_law_823 ?_
  refine k_aload_n hk dL_law_824 1 rfl ?_
  refine k_iload hk dL_law_825 5 rfl ?_
  refine k_iconst (v := 5) hk dL_law_827 (by decide) ?_
  refine k_iadd hk dL_law_828 ?_
  refine k_scld hk hw h5 dL_law_829 ?_
  refine k_callVHi (As := [.int (xs (i + 1).toNatClampNeg), .int (xs (i + 2).toNatClampNeg), .int (xs (i + 3).toNatClampNeg), .int (xs (i + 4).toNatClampNeg), .int (xs (i + 5).toNatClampNeg)]) (rest := []) hk hro (c_X6_row hj hn hl F ((xs (i + 1).toNatClampNeg)) ((xs (i + 2).toNatClampNeg)) ((xs (i + 3).toNatClampNeg)) ((xs (i + 4).toNatClampNeg)) ((xs (i + 5).toNatClampNeg)) σ2) dL_law_830 cw_RL_141 rfl (by decide) kc6 rfl ⟨Nat.le_of_ble_eq_true rfl, Nat.le_of_ble_eq_true rfl⟩ (by omega) rfl (Nat.le_of_ble_eq_true rfl) (fun c3 σ4 => ?_) (fun _ _ => kThr_no)
  refine k_istore (lv' := [(6, .int c3), (5, .int c1), (0, .ref b), (1, .ref (kad E 0 0)), (2, .ref (kad E 48 0)), (3, .ref (kad E 90 0)), (4, .int i)]) hk dL_law_833 (by decide) rfl ?_
  refine k_aload_n hk dL_law_835 4 rfl ?_
  refine k_callVHi (As := []) (rest := []) hk hro (c_X6_thrown hj hn hl F  σ4) dL_law_836 cw_RL_109 rfl (by decide) kc6 rfl ⟨Nat.le_of_ble_eq_true rfl, Nat.le_of_ble_eq_true rfl⟩ (by omega) rfl (Nat.le_of_ble_eq_true rfl) (fun c5 σ6 => ?_) (fun _ _ => kThr_no)
  refine k_iload hk dL_law_839 1 rfl ?_
  refine k_icmp_eq hk dL_law_841 846 (by decide) (fun g7 => ?_) (fun g7 => ?_)
  · refine k_iload hk dL_law_846 1 rfl ?_
    refine k_if_ne hk dL_law_848 863 (by decide) (fun g8 => ?_) (fun g8 => ?_)
    · refine k_goto hk dL_law_863 1983 (by decide) ?_
      refine k_wide (n' := n + 16) (by omega) ?_
      exact k_sub [2, 3, 4, 5, 6] rfl (hnx σ6)
    · refine k_aload_n hk dL_law_851 5 rfl ?_
      refine k_iconst (v := 0) hk dL_law_852 (by decide) ?_
      refine k_lald_k (kk := 0) hk dL_law_853 rfl (by decide) (by decide) (by decide) ?_
      refine k_iload hk dL_law_854 0 rfl ?_
      refine k_i2l hk dL_law_856 ?_
      refine k_lcmp hk dL_law_857 ?_
      refine k_if_eq hk dL_law_858 863 (by decide) (fun g9 => ?_) (fun g9 => ?_)
      · refine k_goto hk dL_law_863 1983 (by decide) ?_
        refine k_wide (n' := n + 16) (by omega) ?_
        exact k_sub [2, 3, 4, 5, 6] rfl (hnx σ6)
      · refine k_iconst (v := 0) hk dL_law_861 (by decide) ?_
        exact k_no
  · refine k_iconst (v := 0) hk dL_law_844 (by decide) ?_
    exact k_no
def q_asked (F : Nat) (a1 : Int32) (a2 : Int32) (nx : kS → Option kR) (σ : kS) : Option kR := kBhi (w_asked F a1 a2 σ) (fun c1 σ2 => kBhi (f_X6_asked F a1 a2 σ2) (fun c3 σ4 => kBhi (f_X6_thrown F  σ4) (fun c5 σ6 => (if c5 = c1 then ((if c1 = 0 then ((if (lg_cmp (σ6.2 90 0 0) (c3).toInt64) = 0 then (nx σ6) else (none))) else (nx σ6))) else (none))) kNo) kNo) kNo
set_option maxRecDepth 20000 in
theorem sl_asked {l : Launch} {E : kE} (hj : kEj E) (hn : kNorm E) (hl : l.stackTraces = false) (h91 : kcnt E 91 = 0) {C : kC} {Q : kR → State → Prop} {b L : Nat} {xs : Nat → Int32} (hk : kOk (C, E, Q) cL_law RL 8) (hro : kRo C l 2048 84000 601024) (hw : kLw (C, E, Q) b L xs) (F : Nat) (i : Int32) (h1 : kin (i + 1) L) (h2 : kin (i + 2) L) (h3 : kin (i + 3) L) (h4 : kin (i + 4) L) (h5 : kin (i + 5) L) (n : Nat) (hn9 : n + 16 ≤ 601024) (nx : kS → Option kR) (hnx : ∀ σ, Sm (C, E, Q) 8 (n + 16) 1983 [(0, .ref b), (1, .ref (kad E 0 0)), (2, .ref (kad E 48 0)), (3, .ref (kad E 90 0)), (4, .int i)] [] σ (nx σ)) (σ : kS) : Sm (C, E, Q) 8 n 866 [(0, .ref b), (1, .ref (kad E 0 0)), (2, .ref (kad E 48 0)), (3, .ref (kad E 90 0)), (4, .int i)] [] σ (q_asked F (xs (i + 1).toNatClampNeg) (xs (i + 2).toNatClampNeg) nx σ) := by
  unfold q_asked
  refine k_aload_n hk dL_law_866 1 rfl ?_
  refine k_aload_n hk dL_law_867 0 rfl ?_
  refine k_iload hk dL_law_868 4 rfl ?_
  refine k_iconst (v := 1) hk dL_law_870 (by decide) ?_
  refine k_iadd hk dL_law_871 ?_
  refine k_scld hk hw h1 dL_law_872 ?_
  refine k_aload_n hk dL_law_873 0 rfl ?_
  refine k_iload hk dL_law_874 4 rfl ?_
  refine k_iconst (v := 2) hk dL_law_876 (by decide) ?_
  refine k_iadd hk dL_law_877 ?_
  refine k_scld hk hw h2 dL_law_878 ?_
  refine k_aload_n hk dL_law_879 3 rfl ?_
  refine k_callSHi (As := [.ref (kad E 0 0), .int (xs (i + 1).toNatClampNeg), .int (xs (i + 2).toNatClampNeg), .ref (kad E 90 0)]) (rest := []) hk hro (cw_asked hj hn hl F ((xs (i + 1).toNatClampNeg)) ((xs (i + 2).toNatClampNeg)) σ) dL_law_880 lc_asked ⟨Nat.le_of_ble_eq_true rfl, Nat.le_of_ble_eq_true rfl⟩ (by omega) rfl (Nat.le_of_ble_eq_true rfl) (fun c1 σ2 => ?_)
  refine k_istore (lv' := [(5, .int c1), (0, .ref b), (1, .ref (kad E 0 0)), (2, .ref (kad E 48 0)), (3, .ref (kad E 90 0)), (4, .int i)]) hk dL_law_883 (by decide) rfl ?_
  refine k_aload_n hk dL_law_885 3 rfl ?_
  refine k_aload_n hk dL_law_886 1 rfl ?_
  refine k_iload hk dL_law_887 5 rfl ?_
  refine k_iconst (v := 1) hk dL_law_889 (by decide) ?_
  refine k_iadd hk dL_law_890 ?_
  refine k_scld hk hw h1 dL_law_891 ?_
  refine k_aload_n hk dL_law_892 1 rfl ?_
  refine k_iload hk dL_law_893 5 rfl ?_
  refine k_iconst (v := 2) hk dL_law_895 (by decide) ?_
  refine k_iadd hk dL_law_896 ?_
  refine k_scld hk hw h2 dL_law_897 ?_
  refine k_callVHi (As := [.int (xs (i + 1).toNatClampNeg), .int (xs (i + 2).toNatClampNeg)]) (rest := []) hk hro (c_X6_asked hj hn hl F ((xs (i + 1).toNatClampNeg)) ((xs (i + 2).toNatClampNeg)) σ2) dL_law_898 cw_RL_144 rfl (by decide) kc6 rfl ⟨Nat.le_of_ble_eq_true rfl, Nat.le_of_ble_eq_true rfl⟩ (by omega) rfl (Nat.le_of_ble_eq_true rfl) (fun c3 σ4 => ?_) (fun _ _ => kThr_no)
  refine k_istore (lv' := [(6, .int c3), (5, .int c1), (0, .ref b), (1, .ref (kad E 0 0)), (2, .ref (kad E 48 0)), (3, .ref (kad E 90 0)), (4, .int i)]) hk dL_law_901 (by decide) rfl ?_
  refine k_aload_n hk dL_law_903 4 rfl ?_
  refine k_callVHi (As := []) (rest := []) hk hro (c_X6_thrown hj hn hl F  σ4) dL_law_904 cw_RL_109 rfl (by decide) kc6 rfl ⟨Nat.le_of_ble_eq_true rfl, Nat.le_of_ble_eq_true rfl⟩ (by omega) rfl (Nat.le_of_ble_eq_true rfl) (fun c5 σ6 => ?_) (fun _ _ => kThr_no)
  refine k_iload hk dL_law_907 1 rfl ?_
  refine k_icmp_eq hk dL_law_909 914 (by decide) (fun g7 => ?_) (fun g7 => ?_)
  · refine k_iload hk dL_law_914 1 rfl ?_
    refine k_if_ne hk dL_law_916 931 (by decide) (fun g8 => ?_) (fun g8 => ?_)
    · refine k_goto hk dL_law_931 1983 (by decide) ?_
      refine k_wide (n' := n + 16) (by omega) ?_
      exact k_sub [2, 3, 4, 5, 6] rfl (hnx σ6)
    · refine k_aload_n hk dL_law_919 5 rfl ?_
      refine k_iconst (v := 0) hk dL_law_920 (by decide) ?_
      refine k_lald_k (kk := 0) hk dL_law_921 rfl (by decide) (by decide) (by decide) ?_
      refine k_iload hk dL_law_922 0 rfl ?_
      refine k_i2l hk dL_law_924 ?_
      refine k_lcmp hk dL_law_925 ?_
      refine k_if_eq hk dL_law_926 931 (by decide) (fun g9 => ?_) (fun g9 => ?_)
      · refine k_goto hk dL_law_931 1983 (by decide) ?_
        refine k_wide (n' := n + 16) (by omega) ?_
        exact k_sub [2, 3, 4, 5, 6] rfl (hnx σ6)
      · refine k_iconst (v := 0) hk dL_law_929 (by decide) ?_
        exact k_no
  · refine k_iconst (v := 0) hk dL_law_912 (by decide) ?_
    exact k_no
def q_says (F : Nat) (a1 : Int32) (a2 : Int32) (nx : kS → Option kR) (σ : kS) : Option kR := kBhi (w_says F a1 a2 σ) (fun c1 σ2 => kBhi (f_X6_says F a1 a2 σ2) (fun c3 σ4 => kBhi (f_X6_thrown F  σ4) (fun c5 σ6 => (if c5 = c1 then ((if c1 = 0 then ((if c3 = 0 then ((if (lg_cmp (σ6.2 90 0 0) (0 : Int64)) = 0 then (nx σ6) else (none))) else ((if (lg_cmp (σ6.2 90 0 0) (1 : Int64)) = 0 then (nx σ6) else (none))))) else (nx σ6))) else (none))) kNo) kNo) kNo
set_option maxRecDepth 20000 in
theorem sl_says {l : Launch} {E : kE} (hj : kEj E) (hn : kNorm E) (hl : l.stackTraces = false) (h91 : kcnt E 91 = 0) {C : kC} {Q : kR → State → Prop} {b L : Nat} {xs : Nat → Int32} (hk : kOk (C, E, Q) cL_law RL 8) (hro : kRo C l 2048 84000 601024) (hw : kLw (C, E, Q) b L xs) (F : Nat) (i : Int32) (h1 : kin (i + 1) L) (h2 : kin (i + 2) L) (h3 : kin (i + 3) L) (h4 : kin (i + 4) L) (h5 : kin (i + 5) L) (n : Nat) (hn9 : n + 16 ≤ 601024) (nx : kS → Option kR) (hnx : ∀ σ, Sm (C, E, Q) 8 (n + 16) 1983 [(0, .ref b), (1, .ref (kad E 0 0)), (2, .ref (kad E 48 0)), (3, .ref (kad E 90 0)), (4, .int i)] [] σ (nx σ)) (σ : kS) : Sm (C, E, Q) 8 n 934 [(0, .ref b), (1, .ref (kad E 0 0)), (2, .ref (kad E 48 0)), (3, .ref (kad E 90 0)), (4, .int i)] [] σ (q_says F (xs (i + 1).toNatClampNeg) (xs (i + 2).toNatClampNeg) nx σ) := by
  unfold q_says
  refine k_aload_n hk dL_law_934 1 rfl ?_
  refine k_aload_n hk dL_law_935 0 rfl ?_
  refine k_iload hk dL_law_936 4 rfl ?_
  refine k_iconst (v := 1) hk dL_law_938 (by decide) ?_
  refine k_iadd hk dL_law_939 ?_
  refine k_scld hk hw h1 dL_law_940 ?_
  refine k_aload_n hk dL_law_941 0 rfl ?_
  refine k_iload hk dL_law_942 4 rfl ?_
  refine k_iconst (v := 2) hk dL_law_944 (by decide) ?_
  refine k_iadd hk dL_law_945 ?_
  refine k_scld hk hw h2 dL_law_946 ?_
  refine k_aload_n hk dL_law_947 3 rfl ?_
  refine k_callSHi (As := [.ref (kad E 0 0), .int (xs (i + 1).toNatClampNeg), .int (xs (i + 2).toNatClampNeg), .ref (kad E 90 0)]) (rest := []) hk hro (cw_says hj hn hl F ((xs (i + 1).toNatClampNeg)) ((xs (i + 2).toNatClampNeg)) σ) dL_law_948 lc_says ⟨Nat.le_of_ble_eq_true rfl, Nat.le_of_ble_eq_true rfl⟩ (by omega) rfl (Nat.le_of_ble_eq_true rfl) (fun c1 σ2 => ?_)
  refine k_istore (lv' := [(5, .int c1), (0, .ref b), (1, .ref (kad E 0 0)), (2, .ref (kad E 48 0)), (3, .ref (kad E 90 0)), (4, .int i)]) hk dL_law_951 (by decide) rfl ?_
  refine k_aload_n hk dL_law_953 3 rfl ?_
  refine k_aload_n hk dL_law_954 1 rfl ?_
  refine k_iload hk dL_law_955 5 rfl ?_
  refine k_iconst (v := 1) hk dL_law_957 (by decide) ?_
  refine k_iadd hk dL_law_958 ?_
  refine k_scld hk hw h1 dL_law_959 ?_
  refine k_aload_n hk dL_law_960 1 rfl ?_
  refine k_iload hk dL_law_961 5 rfl ?_
  refine k_iconst (v := 2) hk dL_law_963 (by decide) ?_
  refine k_iadd hk dL_law_964 ?_
  refine k_scld hk hw h2 dL_law_965 ?_
  refine k_callVHi (As := [.int (xs (i + 1).toNatClampNeg), .int (xs (i + 2).toNatClampNeg)]) (rest := []) hk hro (c_X6_says hj hn hl F ((xs (i + 1).toNatClampNeg)) ((xs (i + 2).toNatClampNeg)) σ2) dL_law_966 cw_RL_147 rfl (by decide) kc6 rfl ⟨Nat.le_of_ble_eq_true rfl, Nat.le_of_ble_eq_true rfl⟩ (by omega) rfl (Nat.le_of_ble_eq_true rfl) (fun c3 σ4 => ?_) (fun _ _ => kThr_no)
  refine k_istore (lv' := [(6, .int c3), (5, .int c1), (0, .ref b), (1, .ref (kad E 0 0)), (2, .ref (kad E 48 0)), (3, .ref (kad E 90 0)), (4, .int i)]) hk dL_law_969 (by decide) rfl ?_
  refine k_aload_n hk dL_law_971 4 rfl ?_
  refine k_callVHi (As := []) (rest := []) hk hro (c_X6_thrown hj hn hl F  σ4) dL_law_972 cw_RL_109 rfl (by decide) kc6 rfl ⟨Nat.le_of_ble_eq_true rfl, Nat.le_of_ble_eq_true rfl⟩ (by omega) rfl (Nat.le_of_ble_eq_true rfl) (fun c5 σ6 => ?_) (fun _ _ => kThr_no)
  refine k_iload hk dL_law_975 1 rfl ?_
  refine k_icmp_eq hk dL_law_977 982 (by decide) (fun g7 => ?_) (fun g7 => ?_)
  · refine k_iload hk dL_law_982 1 rfl ?_
    refine k_if_ne hk dL_law_984 1006 (by decide) (fun g8 => ?_) (fun g8 => ?_)
    · refine k_goto hk dL_law_1006 1983 (by decide) ?_
      refine k_wide (n' := n + 16) (by omega) ?_
      exact k_sub [2, 3, 4, 5, 6] rfl (hnx σ6)
    · refine k_aload_n hk dL_law_987 5 rfl ?_
      refine k_iconst (v := 0) hk dL_law_988 (by decide) ?_
      refine k_lald_k (kk := 0) hk dL_law_989 rfl (by decide) (by decide) (by decide) ?_
      refine k_iload hk dL_law_990 0 rfl ?_
      refine k_if_eq hk dL_law_992 999 (by decide) (fun g9 => ?_) (fun g9 => ?_)
      · refine k_lconst (v := 0) hk dL_law_999 (by decide) ?_
        refine k_lcmp hk dL_law_1000 ?_
        refine k_if_eq hk dL_law_1001 1006 (by decide) (fun g10 => ?_) (fun g10 => ?_)
        · refine k_goto hk dL_law_1006 1983 (by decide) ?_
          refine k_wide (n' := n + 16) (by omega) ?_
          exact k_sub [2, 3, 4, 5, 6] rfl (hnx σ6)
        · refine k_iconst (v := 0) hk dL_law_1004 (by decide) ?_
          exact k_no
      · refine k_lconst (v := 1) hk dL_law_995 (by decide) ?_
        refine k_goto hk dL_law_996 1000 (by decide) ?_
        refine k_lcmp hk dL_law_1000 ?_
        refine k_if_eq hk dL_law_1001 1006 (by decide) (fun g11 => ?_) (fun g11 => ?_)
        · refine k_goto hk dL_law_1006 1983 (by decide) ?_
          refine k_wide (n' := n + 16) (by omega) ?_
          exact k_sub [2, 3, 4, 5, 6] rfl (hnx σ6)
        · refine k_iconst (v := 0) hk dL_law_1004 (by decide) ?_
          exact k_no
  · refine k_iconst (v := 0) hk dL_law_980 (by decide) ?_
    exact k_no
def q_odds (F : Nat) (a1 : Int32) (nx : kS → Option kR) (σ : kS) : Option kR := kBhi (w_odds F a1 σ) (fun c1 σ2 => kBhl (f_X6_odds F a1 σ2) (fun c3 σ4 => kBhi (f_X6_thrown F  σ4) (fun c5 σ6 => (if c5 = c1 then ((if c1 = 0 then ((if (lg_cmp (σ6.2 90 0 0) c3) = 0 then (nx σ6) else (none))) else (nx σ6))) else (none))) kNo) kNo) kNo
set_option maxRecDepth 20000 in
theorem sl_odds {l : Launch} {E : kE} (hj : kEj E) (hn : kNorm E) (hl : l.stackTraces = false) (h91 : kcnt E 91 = 0) {C : kC} {Q : kR → State → Prop} {b L : Nat} {xs : Nat → Int32} (hk : kOk (C, E, Q) cL_law RL 8) (hro : kRo C l 2048 84000 601024) (hw : kLw (C, E, Q) b L xs) (F : Nat) (i : Int32) (h1 : kin (i + 1) L) (h2 : kin (i + 2) L) (h3 : kin (i + 3) L) (h4 : kin (i + 4) L) (h5 : kin (i + 5) L) (n : Nat) (hn9 : n + 16 ≤ 601024) (nx : kS → Option kR) (hnx : ∀ σ, Sm (C, E, Q) 8 (n + 16) 1983 [(0, .ref b), (1, .ref (kad E 0 0)), (2, .ref (kad E 48 0)), (3, .ref (kad E 90 0)), (4, .int i)] [] σ (nx σ)) (σ : kS) : Sm (C, E, Q) 8 n 1009 [(0, .ref b), (1, .ref (kad E 0 0)), (2, .ref (kad E 48 0)), (3, .ref (kad E 90 0)), (4, .int i)] [] σ (q_odds F (xs (i + 1).toNatClampNeg) nx σ) := by
  unfold q_odds
  refine k_aload_n hk dL_law_1009 1 rfl ?_
  refine k_aload_n hk dL_law_1010 0 rfl ?_
  refine k_iload hk dL_law_1011 4 rfl ?_
  refine k_iconst (v := 1) hk dL_law_1013 (by decide) ?_
  refine k_iadd hk dL_law_1014 ?_
  refine k_scld hk hw h1 dL_law_1015 ?_
  refine k_aload_n hk dL_law_1016 3 rfl ?_
  refine k_callSHi (As := [.ref (kad E 0 0), .int (xs (i + 1).toNatClampNeg), .ref (kad E 90 0)]) (rest := []) hk hro (cw_odds hj hn hl F ((xs (i + 1).toNatClampNeg)) σ) dL_law_1017 lc_odds ⟨Nat.le_of_ble_eq_true rfl, Nat.le_of_ble_eq_true rfl⟩ (by omega) rfl (Nat.le_of_ble_eq_true rfl) (fun c1 σ2 => ?_)
  refine k_istore (lv' := [(5, .int c1), (0, .ref b), (1, .ref (kad E 0 0)), (2, .ref (kad E 48 0)), (3, .ref (kad E 90 0)), (4, .int i)]) hk dL_law_1020 (by decide) rfl ?_
  refine k_aload_n hk dL_law_1022 3 rfl ?_
  refine k_aload_n hk dL_law_1023 1 rfl ?_
  refine k_iload hk dL_law_1024 5 rfl ?_
  refine k_iconst (v := 1) hk dL_law_1026 (by decide) ?_
  refine k_iadd hk dL_law_1027 ?_
  refine k_scld hk hw h1 dL_law_1028 ?_
  refine k_callVHl (As := [.int (xs (i + 1).toNatClampNeg)]) (rest := []) hk hro (c_X6_odds hj hn hl F ((xs (i + 1).toNatClampNeg)) σ2) dL_law_1029 cw_RL_150 rfl (by decide) kc6 rfl ⟨Nat.le_of_ble_eq_true rfl, Nat.le_of_ble_eq_true rfl⟩ (by omega) rfl (Nat.le_of_ble_eq_true rfl) (fun c3 σ4 => ?_) (fun _ _ => kThr_no)
  refine k_lstore (lv' := [(6, .long c3), (5, .int c1), (0, .ref b), (1, .ref (kad E 0 0)), (2, .ref (kad E 48 0)), (3, .ref (kad E 90 0)), (4, .int i)]) hk dL_law_1032 (by decide) rfl ?_
  refine k_aload_n hk dL_law_1034 4 rfl ?_
  refine k_callVHi (As := []) (rest := []) hk hro (c_X6_thrown hj hn hl F  σ4) dL_law_1035 cw_RL_109 rfl (by decide) kc6 rfl ⟨Nat.le_of_ble_eq_true rfl, Nat.le_of_ble_eq_true rfl⟩ (by omega) rfl (Nat.le_of_ble_eq_true rfl) (fun c5 σ6 => ?_) (fun _ _ => kThr_no)
  refine k_iload hk dL_law_1038 1 rfl ?_
  refine k_icmp_eq hk dL_law_1040 1045 (by decide) (fun g7 => ?_) (fun g7 => ?_)
  · refine k_iload hk dL_law_1045 1 rfl ?_
    refine k_if_ne hk dL_law_1047 1061 (by decide) (fun g8 => ?_) (fun g8 => ?_)
    · refine k_goto hk dL_law_1061 1983 (by decide) ?_
      refine k_wide (n' := n + 16) (by omega) ?_
      exact k_sub [2, 3, 4, 5, 6] rfl (hnx σ6)
    · refine k_aload_n hk dL_law_1050 5 rfl ?_
      refine k_iconst (v := 0) hk dL_law_1051 (by decide) ?_
      refine k_lald_k (kk := 0) hk dL_law_1052 rfl (by decide) (by decide) (by decide) ?_
      refine k_lload hk dL_law_1053 0 rfl ?_
      refine k_lcmp hk dL_law_1055 ?_
      refine k_if_eq hk dL_law_1056 1061 (by decide) (fun g9 => ?_) (fun g9 => ?_)
      · refine k_goto hk dL_law_1061 1983 (by decide) ?_
        refine k_wide (n' := n + 16) (by omega) ?_
        exact k_sub [2, 3, 4, 5, 6] rfl (hnx σ6)
      · refine k_iconst (v := 0) hk dL_law_1059 (by decide) ?_
        exact k_no
  · refine k_iconst (v := 0) hk dL_law_1043 (by decide) ?_
    exact k_no
def q_share (F : Nat) (a1 : Int32) (nx : kS → Option kR) (σ : kS) : Option kR := kBhi (w_share F a1 σ) (fun c1 σ2 => kBhi (f_X6_share F a1 σ2) (fun c3 σ4 => kBhi (f_X6_thrown F  σ4) (fun c5 σ6 => (if c5 = c1 then ((if c1 = 0 then ((if (lg_cmp (σ6.2 90 0 0) (c3).toInt64) = 0 then (nx σ6) else (none))) else (nx σ6))) else (none))) kNo) kNo) kNo
set_option maxRecDepth 20000 in
theorem sl_share {l : Launch} {E : kE} (hj : kEj E) (hn : kNorm E) (hl : l.stackTraces = false) (h91 : kcnt E 91 = 0) {C : kC} {Q : kR → State → Prop} {b L : Nat} {xs : Nat → Int32} (hk : kOk (C, E, Q) cL_law RL 8) (hro : kRo C l 2048 84000 601024) (hw : kLw (C, E, Q) b L xs) (F : Nat) (i : Int32) (h1 : kin (i + 1) L) (h2 : kin (i + 2) L) (h3 : kin (i + 3) L) (h4 : kin (i + 4) L) (h5 : kin (i + 5) L) (n : Nat) (hn9 : n + 16 ≤ 601024) (nx : kS → Option kR) (hnx : ∀ σ, Sm (C, E, Q) 8 (n + 16) 1983 [(0, .ref b), (1, .ref (kad E 0 0)), (2, .ref (kad E 48 0)), (3, .ref (kad E 90 0)), (4, .int i)] [] σ (nx σ)) (σ : kS) : Sm (C, E, Q) 8 n 1064 [(0, .ref b), (1, .ref (kad E 0 0)), (2, .ref (kad E 48 0)), (3, .ref (kad E 90 0)), (4, .int i)] [] σ (q_share F (xs (i + 1).toNatClampNeg) nx σ) := by
  unfold q_share
  refine k_aload_n hk dL_law_1064 1 rfl ?_
  refine k_aload_n hk dL_law_1065 0 rfl ?_
  refine k_iload hk dL_law_1066 4 rfl ?_
  refine k_iconst (v := 1) hk dL_law_1068 (by decide) ?_
  refine k_iadd hk dL_law_1069 ?_
  refine k_scld hk hw h1 dL_law_1070 ?_
  refine k_aload_n hk dL_law_1071 3 rfl ?_
  refine k_callSHi (As := [.ref (kad E 0 0), .int (xs (i + 1).toNatClampNeg), .ref (kad E 90 0)]) (rest := []) hk hro (cw_share hj hn hl F ((xs (i + 1).toNatClampNeg)) σ) dL_law_1072 lc_share ⟨Nat.le_of_ble_eq_true rfl, Nat.le_of_ble_eq_true rfl⟩ (by omega) rfl (Nat.le_of_ble_eq_true rfl) (fun c1 σ2 => ?_)
  refine k_istore (lv' := [(5, .int c1), (0, .ref b), (1, .ref (kad E 0 0)), (2, .ref (kad E 48 0)), (3, .ref (kad E 90 0)), (4, .int i)]) hk dL_law_1075 (by decide) rfl ?_
  refine k_aload_n hk dL_law_1077 3 rfl ?_
  refine k_aload_n hk dL_law_1078 1 rfl ?_
  refine k_iload hk dL_law_1079 5 rfl ?_
  refine k_iconst (v := 1) hk dL_law_1081 (by decide) ?_
  refine k_iadd hk dL_law_1082 ?_
  refine k_scld hk hw h1 dL_law_1083 ?_
  refine k_callVHi (As := [.int (xs (i + 1).toNatClampNeg)]) (rest := []) hk hro (c_X6_share hj hn hl F ((xs (i + 1).toNatClampNeg)) σ2) dL_law_1084 cw_RL_153 rfl (by decide) kc6 rfl ⟨Nat.le_of_ble_eq_true rfl, Nat.le_of_ble_eq_true rfl⟩ (by omega) rfl (Nat.le_of_ble_eq_true rfl) (fun c3 σ4 => ?_) (fun _ _ => kThr_no)
  refine k_istore (lv' := [(6, .int c3), (5, .int c1), (0, .ref b), (1, .ref (kad E 0 0)), (2, .ref (kad E 48 0)), (3, .ref (kad E 90 0)), (4, .int i)]) hk dL_law_1087 (by decide) rfl ?_
  refine k_aload_n hk dL_law_1089 4 rfl ?_
  refine k_callVHi (As := []) (rest := []) hk hro (c_X6_thrown hj hn hl F  σ4) dL_law_1090 cw_RL_109 rfl (by decide) kc6 rfl ⟨Nat.le_of_ble_eq_true rfl, Nat.le_of_ble_eq_true rfl⟩ (by omega) rfl (Nat.le_of_ble_eq_true rfl) (fun c5 σ6 => ?_) (fun _ _ => kThr_no)
  refine k_iload hk dL_law_1093 1 rfl ?_
  refine k_icmp_eq hk dL_law_1095 1100 (by decide) (fun g7 => ?_) (fun g7 => ?_)
  · refine k_iload hk dL_law_1100 1 rfl ?_
    refine k_if_ne hk dL_law_1102 1117 (by decide) (fun g8 => ?_) (fun g8 => ?_)
    · refine k_goto hk dL_law_1117 1983 (by decide) ?_
      refine k_wide (n' := n + 16) (by omega) ?_
      exact k_sub [2, 3, 4, 5, 6] rfl (hnx σ6)
    · refine k_aload_n hk dL_law_1105 5 rfl ?_
      refine k_iconst (v := 0) hk dL_law_1106 (by decide) ?_
      refine k_lald_k (kk := 0) hk dL_law_1107 rfl (by decide) (by decide) (by decide) ?_
      refine k_iload hk dL_law_1108 0 rfl ?_
      refine k_i2l hk dL_law_1110 ?_
      refine k_lcmp hk dL_law_1111 ?_
      refine k_if_eq hk dL_law_1112 1117 (by decide) (fun g9 => ?_) (fun g9 => ?_)
      · refine k_goto hk dL_law_1117 1983 (by decide) ?_
        refine k_wide (n' := n + 16) (by omega) ?_
        exact k_sub [2, 3, 4, 5, 6] rfl (hnx σ6)
      · refine k_iconst (v := 0) hk dL_law_1115 (by decide) ?_
        exact k_no
  · refine k_iconst (v := 0) hk dL_law_1098 (by decide) ?_
    exact k_no
def q_best (F : Nat)  (nx : kS → Option kR) (σ : kS) : Option kR := kBhi (f_X5_best F  σ) (fun c1 σ2 => kBhi (f_X6_best F  σ2) (fun c3 σ4 => (if c1 = c3 then (nx σ4) else (none))) kNo) kNo
set_option maxRecDepth 20000 in
theorem sl_best {l : Launch} {E : kE} (hj : kEj E) (hn : kNorm E) (hl : l.stackTraces = false) (h91 : kcnt E 91 = 0) {C : kC} {Q : kR → State → Prop} {b L : Nat} {xs : Nat → Int32} (hk : kOk (C, E, Q) cL_law RL 8) (hro : kRo C l 2048 84000 601024) (hw : kLw (C, E, Q) b L xs) (F : Nat) (i : Int32) (h1 : kin (i + 1) L) (h2 : kin (i + 2) L) (h3 : kin (i + 3) L) (h4 : kin (i + 4) L) (h5 : kin (i + 5) L) (n : Nat) (hn9 : n + 16 ≤ 601024) (nx : kS → Option kR) (hnx : ∀ σ, Sm (C, E, Q) 8 (n + 16) 1983 [(0, .ref b), (1, .ref (kad E 0 0)), (2, .ref (kad E 48 0)), (3, .ref (kad E 90 0)), (4, .int i)] [] σ (nx σ)) (σ : kS) : Sm (C, E, Q) 8 n 1120 [(0, .ref b), (1, .ref (kad E 0 0)), (2, .ref (kad E 48 0)), (3, .ref (kad E 90 0)), (4, .int i)] [] σ (q_best F  nx σ) := by
  unfold q_best
  refine k_aload_n hk dL_law_1120 1 rfl ?_
  refine k_callVHi (As := []) (rest := []) hk hro (c_X5_best hj hn hl F  σ) dL_law_1121 cw_RL_154 rfl (by decide) kc5 rfl ⟨Nat.le_of_ble_eq_true rfl, Nat.le_of_ble_eq_true rfl⟩ (by omega) rfl (Nat.le_of_ble_eq_true rfl) (fun c1 σ2 => ?_) (fun _ _ => kThr_no)
  refine k_aload_n hk dL_law_1124 2 rfl ?_
  refine k_callVHi (As := []) (rest := [.int c1]) hk hro (c_X6_best hj hn hl F  σ2) dL_law_1125 cw_RL_157 rfl (by decide) kc6 rfl ⟨Nat.le_of_ble_eq_true rfl, Nat.le_of_ble_eq_true rfl⟩ (by omega) rfl (Nat.le_of_ble_eq_true rfl) (fun c3 σ4 => ?_) (fun _ _ => kThr_no)
  refine k_icmp_eq hk dL_law_1128 1983 (by decide) (fun g5 => ?_) (fun g5 => ?_)
  · refine k_wide (n' := n + 16) (by omega) ?_
    exact k_sub [0, 1, 2, 3, 4] rfl (hnx σ4)
  · refine k_iconst (v := 0) hk dL_law_1131 (by decide) ?_
    exact k_no
def q_moved (F : Nat) (a1 : Int32) (a2 : Int32) (nx : kS → Option kR) (σ : kS) : Option kR := kBhi (w_moved F a1 a2 σ) (fun c1 σ2 => kBhi (f_X6_moved F a1 a2 σ2) (fun c3 σ4 => kBhi (f_X6_thrown F  σ4) (fun c5 σ6 => (if c5 = c1 then ((if c1 = 0 then ((if (lg_cmp (σ6.2 90 0 0) (c3).toInt64) = 0 then (nx σ6) else (none))) else (nx σ6))) else (none))) kNo) kNo) kNo
set_option maxRecDepth 20000 in
theorem sl_moved {l : Launch} {E : kE} (hj : kEj E) (hn : kNorm E) (hl : l.stackTraces = false) (h91 : kcnt E 91 = 0) {C : kC} {Q : kR → State → Prop} {b L : Nat} {xs : Nat → Int32} (hk : kOk (C, E, Q) cL_law RL 8) (hro : kRo C l 2048 84000 601024) (hw : kLw (C, E, Q) b L xs) (F : Nat) (i : Int32) (h1 : kin (i + 1) L) (h2 : kin (i + 2) L) (h3 : kin (i + 3) L) (h4 : kin (i + 4) L) (h5 : kin (i + 5) L) (n : Nat) (hn9 : n + 16 ≤ 601024) (nx : kS → Option kR) (hnx : ∀ σ, Sm (C, E, Q) 8 (n + 16) 1983 [(0, .ref b), (1, .ref (kad E 0 0)), (2, .ref (kad E 48 0)), (3, .ref (kad E 90 0)), (4, .int i)] [] σ (nx σ)) (σ : kS) : Sm (C, E, Q) 8 n 1133 [(0, .ref b), (1, .ref (kad E 0 0)), (2, .ref (kad E 48 0)), (3, .ref (kad E 90 0)), (4, .int i)] [] σ (q_moved F (xs (i + 1).toNatClampNeg) (xs (i + 2).toNatClampNeg) nx σ) := by
  unfold q_moved
  refine k_aload_n hk dL_law_1133 1 rfl ?_
  refine k_aload_n hk dL_law_1134 0 rfl ?_
  refine k_iload hk dL_law_1135 4 rfl ?_
  refine k_iconst (v := 1) hk dL_law_1137 (by decide) ?_
  refine k_iadd hk dL_law_1138 ?_
  refine k_scld hk hw h1 dL_law_1139 ?_
  refine k_aload_n hk dL_law_1140 0 rfl ?_
  refine k_iload hk dL_law_1141 4 rfl ?_
  refine k_iconst (v := 2) hk dL_law_1143 (by decide) ?_
  refine k_iadd hk dL_law_1144 ?_
  refine k_scld hk hw h2 dL_law_1145 ?_
  refine k_aload_n hk dL_law_1146 3 rfl ?_
  refine k_callSHi (As := [.ref (kad E 0 0), .int (xs (i + 1).toNatClampNeg), .int (xs (i + 2).toNatClampNeg), .ref (kad E 90 0)]) (rest := []) hk hro (cw_moved hj hn hl F ((xs (i + 1).toNatClampNeg)) ((xs (i + 2).toNatClampNeg)) σ) dL_law_1147 lc_moved ⟨Nat.le_of_ble_eq_true rfl, Nat.le_of_ble_eq_true rfl⟩ (by omega) rfl (Nat.le_of_ble_eq_true rfl) (fun c1 σ2 => ?_)
  refine k_istore (lv' := [(5, .int c1), (0, .ref b), (1, .ref (kad E 0 0)), (2, .ref (kad E 48 0)), (3, .ref (kad E 90 0)), (4, .int i)]) hk dL_law_1150 (by decide) rfl ?_
  refine k_aload_n hk dL_law_1152 3 rfl ?_
  refine k_aload_n hk dL_law_1153 1 rfl ?_
  refine k_iload hk dL_law_1154 5 rfl ?_
  refine k_iconst (v := 1) hk dL_law_1156 (by decide) ?_
  refine k_iadd hk dL_law_1157 ?_
  refine k_scld hk hw h1 dL_law_1158 ?_
  refine k_aload_n hk dL_law_1159 1 rfl ?_
  refine k_iload hk dL_law_1160 5 rfl ?_
  refine k_iconst (v := 2) hk dL_law_1162 (by decide) ?_
  refine k_iadd hk dL_law_1163 ?_
  refine k_scld hk hw h2 dL_law_1164 ?_
  refine k_callVHi (As := [.int (xs (i + 1).toNatClampNeg), .int (xs (i + 2).toNatClampNeg)]) (rest := []) hk hro (c_X6_moved hj hn hl F ((xs (i + 1).toNatClampNeg)) ((xs (i + 2).toNatClampNeg)) σ2) dL_law_1165 cw_RL_160 rfl (by decide) kc6 rfl ⟨Nat.le_of_ble_eq_true rfl, Nat.le_of_ble_eq_true rfl⟩ (by omega) rfl (Nat.le_of_ble_eq_true rfl) (fun c3 σ4 => ?_) (fun _ _ => kThr_no)
  refine k_istore (lv' := [(6, .int c3), (5, .int c1), (0, .ref b), (1, .ref (kad E 0 0)), (2, .ref (kad E 48 0)), (3, .ref (kad E 90 0)), (4, .int i)]) hk dL_law_1168 (by decide) rfl ?_
  refine k_aload_n hk dL_law_1170 4 rfl ?_
  refine k_callVHi (As := []) (rest := []) hk hro (c_X6_thrown hj hn hl F  σ4) dL_law_1171 cw_RL_109 rfl (by decide) kc6 rfl ⟨Nat.le_of_ble_eq_true rfl, Nat.le_of_ble_eq_true rfl⟩ (by omega) rfl (Nat.le_of_ble_eq_true rfl) (fun c5 σ6 => ?_) (fun _ _ => kThr_no)
  refine k_iload hk dL_law_1174 1 rfl ?_
  refine k_icmp_eq hk dL_law_1176 1181 (by decide) (fun g7 => ?_) (fun g7 => ?_)
  · refine k_iload hk dL_law_1181 1 rfl ?_
    refine k_if_ne hk dL_law_1183 1198 (by decide) (fun g8 => ?_) (fun g8 => ?_)
    · refine k_goto hk dL_law_1198 1983 (by decide) ?_
      refine k_wide (n' := n + 16) (by omega) ?_
      exact k_sub [2, 3, 4, 5, 6] rfl (hnx σ6)
    · refine k_aload_n hk dL_law_1186 5 rfl ?_
      refine k_iconst (v := 0) hk dL_law_1187 (by decide) ?_
      refine k_lald_k (kk := 0) hk dL_law_1188 rfl (by decide) (by decide) (by decide) ?_
      refine k_iload hk dL_law_1189 0 rfl ?_
      refine k_i2l hk dL_law_1191 ?_
      refine k_lcmp hk dL_law_1192 ?_
      refine k_if_eq hk dL_law_1193 1198 (by decide) (fun g9 => ?_) (fun g9 => ?_)
      · refine k_goto hk dL_law_1198 1983 (by decide) ?_
        refine k_wide (n' := n + 16) (by omega) ?_
        exact k_sub [2, 3, 4, 5, 6] rfl (hnx σ6)
      · refine k_iconst (v := 0) hk dL_law_1196 (by decide) ?_
        exact k_no
  · refine k_iconst (v := 0) hk dL_law_1179 (by decide) ?_
    exact k_no
def q_inquiry (F : Nat) (a1 : Int32) (a2 : Int32) (nx : kS → Option kR) (σ : kS) : Option kR := kBhi (w_inquiry F a1 a2 σ) (fun c1 σ2 => kBhi (f_X6_inquiry F a1 a2 σ2) (fun c3 σ4 => kBhi (f_X6_thrown F  σ4) (fun c5 σ6 => (if c5 = c1 then ((if c1 = 0 then ((if (lg_cmp (σ6.2 90 0 0) (c3).toInt64) = 0 then (nx σ6) else (none))) else (nx σ6))) else (none))) kNo) kNo) kNo
set_option maxRecDepth 20000 in
theorem sl_inquiry {l : Launch} {E : kE} (hj : kEj E) (hn : kNorm E) (hl : l.stackTraces = false) (h91 : kcnt E 91 = 0) {C : kC} {Q : kR → State → Prop} {b L : Nat} {xs : Nat → Int32} (hk : kOk (C, E, Q) cL_law RL 8) (hro : kRo C l 2048 84000 601024) (hw : kLw (C, E, Q) b L xs) (F : Nat) (i : Int32) (h1 : kin (i + 1) L) (h2 : kin (i + 2) L) (h3 : kin (i + 3) L) (h4 : kin (i + 4) L) (h5 : kin (i + 5) L) (n : Nat) (hn9 : n + 16 ≤ 601024) (nx : kS → Option kR) (hnx : ∀ σ, Sm (C, E, Q) 8 (n + 16) 1983 [(0, .ref b), (1, .ref (kad E 0 0)), (2, .ref (kad E 48 0)), (3, .ref (kad E 90 0)), (4, .int i)] [] σ (nx σ)) (σ : kS) : Sm (C, E, Q) 8 n 1201 [(0, .ref b), (1, .ref (kad E 0 0)), (2, .ref (kad E 48 0)), (3, .ref (kad E 90 0)), (4, .int i)] [] σ (q_inquiry F (xs (i + 1).toNatClampNeg) (xs (i + 2).toNatClampNeg) nx σ) := by
  unfold q_inquiry
  refine k_aload_n hk dL_law_1201 1 rfl ?_
  refine k_aload_n hk dL_law_1202 0 rfl ?_
  refine k_iload hk dL_law_1203 4 rfl ?_
  refine k_iconst (v := 1) hk dL_law_1205 (by decide) ?_
  refine k_iadd hk dL_law_1206 ?_
  refine k_scld hk hw h1 dL_law_1207 ?_
  refine k_aload_n hk dL_law_1208 0 rfl ?_
  refine k_iload hk dL_law_1209 4 rfl ?_
  refine k_iconst (v := 2) hk dL_law_1211 (by decide) ?_
  refine k_iadd hk dL_law_1212 ?_
  refine k_scld hk hw h2 dL_law_1213 ?_
  refine k_aload_n hk dL_law_1214 3 rfl ?_
  refine k_callSHi (As := [.ref (kad E 0 0), .int (xs (i + 1).toNatClampNeg), .int (xs (i + 2).toNatClampNeg), .ref (kad E 90 0)]) (rest := []) hk hro (cw_inquiry hj hn hl F ((xs (i + 1).toNatClampNeg)) ((xs (i + 2).toNatClampNeg)) σ) dL_law_1215 lc_inquiry ⟨Nat.le_of_ble_eq_true rfl, Nat.le_of_ble_eq_true rfl⟩ (by omega) rfl (Nat.le_of_ble_eq_true rfl) (fun c1 σ2 => ?_)
  refine k_istore (lv' := [(5, .int c1), (0, .ref b), (1, .ref (kad E 0 0)), (2, .ref (kad E 48 0)), (3, .ref (kad E 90 0)), (4, .int i)]) hk dL_law_1218 (by decide) rfl ?_
  refine k_aload_n hk dL_law_1220 3 rfl ?_
  refine k_aload_n hk dL_law_1221 1 rfl ?_
  refine k_iload hk dL_law_1222 5 rfl ?_
  refine k_iconst (v := 1) hk dL_law_1224 (by decide) ?_
  refine k_iadd hk dL_law_1225 ?_
  refine k_scld hk hw h1 dL_law_1226 ?_
  refine k_aload_n hk dL_law_1227 1 rfl ?_
  refine k_iload hk dL_law_1228 5 rfl ?_
  refine k_iconst (v := 2) hk dL_law_1230 (by decide) ?_
  refine k_iadd hk dL_law_1231 ?_
  refine k_scld hk hw h2 dL_law_1232 ?_
  refine k_callVHi (As := [.int (xs (i + 1).toNatClampNeg), .int (xs (i + 2).toNatClampNeg)]) (rest := []) hk hro (c_X6_inquiry hj hn hl F ((xs (i + 1).toNatClampNeg)) ((xs (i + 2).toNatClampNeg)) σ2) dL_law_1233 cw_RL_163 rfl (by decide) kc6 rfl ⟨Nat.le_of_ble_eq_true rfl, Nat.le_of_ble_eq_true rfl⟩ (by omega) rfl (Nat.le_of_ble_eq_true rfl) (fun c3 σ4 => ?_) (fun _ _ => kThr_no)
  refine k_istore (lv' := [(6, .int c3), (5, .int c1), (0, .ref b), (1, .ref (kad E 0 0)), (2, .ref (kad E 48 0)), (3, .ref (kad E 90 0)), (4, .int i)]) hk dL_law_1236 (by decide) rfl ?_
  refine k_aload_n hk dL_law_1238 4 rfl ?_
  refine k_callVHi (As := []) (rest := []) hk hro (c_X6_thrown hj hn hl F  σ4) dL_law_1239 cw_RL_109 rfl (by decide) kc6 rfl ⟨Nat.le_of_ble_eq_true rfl, Nat.le_of_ble_eq_true rfl⟩ (by omega) rfl (Nat.le_of_ble_eq_true rfl) (fun c5 σ6 => ?_) (fun _ _ => kThr_no)
  refine k_iload hk dL_law_1242 1 rfl ?_
  refine k_icmp_eq hk dL_law_1244 1249 (by decide) (fun g7 => ?_) (fun g7 => ?_)
  · refine k_iload hk dL_law_1249 1 rfl ?_
    refine k_if_ne hk dL_law_1251 1266 (by decide) (fun g8 => ?_) (fun g8 => ?_)
    · refine k_goto hk dL_law_1266 1983 (by decide) ?_
      refine k_wide (n' := n + 16) (by omega) ?_
      exact k_sub [2, 3, 4, 5, 6] rfl (hnx σ6)
    · refine k_aload_n hk dL_law_1254 5 rfl ?_
      refine k_iconst (v := 0) hk dL_law_1255 (by decide) ?_
      refine k_lald_k (kk := 0) hk dL_law_1256 rfl (by decide) (by decide) (by decide) ?_
      refine k_iload hk dL_law_1257 0 rfl ?_
      refine k_i2l hk dL_law_1259 ?_
      refine k_lcmp hk dL_law_1260 ?_
      refine k_if_eq hk dL_law_1261 1266 (by decide) (fun g9 => ?_) (fun g9 => ?_)
      · refine k_goto hk dL_law_1266 1983 (by decide) ?_
        refine k_wide (n' := n + 16) (by omega) ?_
        exact k_sub [2, 3, 4, 5, 6] rfl (hnx σ6)
      · refine k_iconst (v := 0) hk dL_law_1264 (by decide) ?_
        exact k_no
  · refine k_iconst (v := 0) hk dL_law_1247 (by decide) ?_
    exact k_no
def q_before (F : Nat) (a1 : Int32) (a2 : Int32) (nx : kS → Option kR) (σ : kS) : Option kR := kBhi (w_before F a1 a2 σ) (fun c1 σ2 => kBhi (f_X6_before F a1 a2 σ2) (fun c3 σ4 => kBhi (f_X6_thrown F  σ4) (fun c5 σ6 => (if c5 = c1 then ((if c1 = 0 then ((if (lg_cmp (σ6.2 90 0 0) (c3).toInt64) = 0 then (nx σ6) else (none))) else (nx σ6))) else (none))) kNo) kNo) kNo
set_option maxRecDepth 20000 in
theorem sl_before {l : Launch} {E : kE} (hj : kEj E) (hn : kNorm E) (hl : l.stackTraces = false) (h91 : kcnt E 91 = 0) {C : kC} {Q : kR → State → Prop} {b L : Nat} {xs : Nat → Int32} (hk : kOk (C, E, Q) cL_law RL 8) (hro : kRo C l 2048 84000 601024) (hw : kLw (C, E, Q) b L xs) (F : Nat) (i : Int32) (h1 : kin (i + 1) L) (h2 : kin (i + 2) L) (h3 : kin (i + 3) L) (h4 : kin (i + 4) L) (h5 : kin (i + 5) L) (n : Nat) (hn9 : n + 16 ≤ 601024) (nx : kS → Option kR) (hnx : ∀ σ, Sm (C, E, Q) 8 (n + 16) 1983 [(0, .ref b), (1, .ref (kad E 0 0)), (2, .ref (kad E 48 0)), (3, .ref (kad E 90 0)), (4, .int i)] [] σ (nx σ)) (σ : kS) : Sm (C, E, Q) 8 n 1269 [(0, .ref b), (1, .ref (kad E 0 0)), (2, .ref (kad E 48 0)), (3, .ref (kad E 90 0)), (4, .int i)] [] σ (q_before F (xs (i + 1).toNatClampNeg) (xs (i + 2).toNatClampNeg) nx σ) := by
  unfold q_before
  refine k_aload_n hk dL_law_1269 1 rfl ?_
  refine k_aload_n hk dL_law_1270 0 rfl ?_
  refine k_iload hk dL_law_1271 4 rfl ?_
  refine k_iconst (v := 1) hk dL_law_1273 (by decide) ?_
  refine k_iadd hk dL_law_1274 ?_
  refine k_scld hk hw h1 dL_law_1275 ?_
  refine k_aload_n hk dL_law_1276 0 rfl ?_
  refine k_iload hk dL_law_1277 4 rfl ?_
  refine k_iconst (v := 2) hk dL_law_1279 (by decide) ?_
  refine k_iadd hk dL_law_1280 ?_
  refine k_scld hk hw h2 dL_law_1281 ?_
  refine k_aload_n hk dL_law_1282 3 rfl ?_
  refine k_callSHi (As := [.ref (kad E 0 0), .int (xs (i + 1).toNatClampNeg), .int (xs (i + 2).toNatClampNeg), .ref (kad E 90 0)]) (rest := []) hk hro (cw_before hj hn hl F ((xs (i + 1).toNatClampNeg)) ((xs (i + 2).toNatClampNeg)) σ) dL_law_1283 lc_before ⟨Nat.le_of_ble_eq_true rfl, Nat.le_of_ble_eq_true rfl⟩ (by omega) rfl (Nat.le_of_ble_eq_true rfl) (fun c1 σ2 => ?_)
  refine k_istore (lv' := [(5, .int c1), (0, .ref b), (1, .ref (kad E 0 0)), (2, .ref (kad E 48 0)), (3, .ref (kad E 90 0)), (4, .int i)]) hk dL_law_1286 (by decide) rfl ?_
  refine k_aload_n hk dL_law_1288 3 rfl ?_
  refine k_aload_n hk dL_law_1289 1 rfl ?_
  refine k_iload hk dL_law_1290 5 rfl ?_
  refine k_iconst (v := 1) hk dL_law_1292 (by decide) ?_
  refine k_iadd hk dL_law_1293 ?_
  refine k_scld hk hw h1 dL_law_1294 ?_
  refine k_aload_n hk dL_law_1295 1 rfl ?_
  refine k_iload hk dL_law_1296 5 rfl ?_
  refine k_iconst (v := 2) hk dL_law_1298 (by decide) ?_
  refine k_iadd hk dL_law_1299 ?_
  refine k_scld hk hw h2 dL_law_1300 ?_
  refine k_callVHi (As := [.int (xs (i + 1).toNatClampNeg), .int (xs (i + 2).toNatClampNeg)]) (rest := []) hk hro (c_X6_before hj hn hl F ((xs (i + 1).toNatClampNeg)) ((xs (i + 2).toNatClampNeg)) σ2) dL_law_1301 cw_RL_166 rfl (by decide) kc6 rfl ⟨Nat.le_of_ble_eq_true rfl, Nat.le_of_ble_eq_true rfl⟩ (by omega) rfl (Nat.le_of_ble_eq_true rfl) (fun c3 σ4 => ?_) (fun _ _ => kThr_no)
  refine k_istore (lv' := [(6, .int c3), (5, .int c1), (0, .ref b), (1, .ref (kad E 0 0)), (2, .ref (kad E 48 0)), (3, .ref (kad E 90 0)), (4, .int i)]) hk dL_law_1304 (by decide) rfl ?_
  refine k_aload_n hk dL_law_1306 4 rfl ?_
  refine k_callVHi (As := []) (rest := []) hk hro (c_X6_thrown hj hn hl F  σ4) dL_law_1307 cw_RL_109 rfl (by decide) kc6 rfl ⟨Nat.le_of_ble_eq_true rfl, Nat.le_of_ble_eq_true rfl⟩ (by omega) rfl (Nat.le_of_ble_eq_true rfl) (fun c5 σ6 => ?_) (fun _ _ => kThr_no)
  refine k_iload hk dL_law_1310 1 rfl ?_
  refine k_icmp_eq hk dL_law_1312 1317 (by decide) (fun g7 => ?_) (fun g7 => ?_)
  · refine k_iload hk dL_law_1317 1 rfl ?_
    refine k_if_ne hk dL_law_1319 1334 (by decide) (fun g8 => ?_) (fun g8 => ?_)
    · refine k_goto hk dL_law_1334 1983 (by decide) ?_
      refine k_wide (n' := n + 16) (by omega) ?_
      exact k_sub [2, 3, 4, 5, 6] rfl (hnx σ6)
    · refine k_aload_n hk dL_law_1322 5 rfl ?_
      refine k_iconst (v := 0) hk dL_law_1323 (by decide) ?_
      refine k_lald_k (kk := 0) hk dL_law_1324 rfl (by decide) (by decide) (by decide) ?_
      refine k_iload hk dL_law_1325 0 rfl ?_
      refine k_i2l hk dL_law_1327 ?_
      refine k_lcmp hk dL_law_1328 ?_
      refine k_if_eq hk dL_law_1329 1334 (by decide) (fun g9 => ?_) (fun g9 => ?_)
      · refine k_goto hk dL_law_1334 1983 (by decide) ?_
        refine k_wide (n' := n + 16) (by omega) ?_
        exact k_sub [2, 3, 4, 5, 6] rfl (hnx σ6)
      · refine k_iconst (v := 0) hk dL_law_1332 (by decide) ?_
        exact k_no
  · refine k_iconst (v := 0) hk dL_law_1315 (by decide) ?_
    exact k_no
def q_burnt (F : Nat) (a1 : Int32) (nx : kS → Option kR) (σ : kS) : Option kR := kBhi (w_burnt F a1 σ) (fun c1 σ2 => kBhi (f_X6_burnt F a1 σ2) (fun c3 σ4 => kBhi (f_X6_thrown F  σ4) (fun c5 σ6 => (if c5 = c1 then ((if c1 = 0 then ((if (lg_cmp (σ6.2 90 0 0) (c3).toInt64) = 0 then (nx σ6) else (none))) else (nx σ6))) else (none))) kNo) kNo) kNo
set_option maxRecDepth 20000 in
theorem sl_burnt {l : Launch} {E : kE} (hj : kEj E) (hn : kNorm E) (hl : l.stackTraces = false) (h91 : kcnt E 91 = 0) {C : kC} {Q : kR → State → Prop} {b L : Nat} {xs : Nat → Int32} (hk : kOk (C, E, Q) cL_law RL 8) (hro : kRo C l 2048 84000 601024) (hw : kLw (C, E, Q) b L xs) (F : Nat) (i : Int32) (h1 : kin (i + 1) L) (h2 : kin (i + 2) L) (h3 : kin (i + 3) L) (h4 : kin (i + 4) L) (h5 : kin (i + 5) L) (n : Nat) (hn9 : n + 16 ≤ 601024) (nx : kS → Option kR) (hnx : ∀ σ, Sm (C, E, Q) 8 (n + 16) 1983 [(0, .ref b), (1, .ref (kad E 0 0)), (2, .ref (kad E 48 0)), (3, .ref (kad E 90 0)), (4, .int i)] [] σ (nx σ)) (σ : kS) : Sm (C, E, Q) 8 n 1337 [(0, .ref b), (1, .ref (kad E 0 0)), (2, .ref (kad E 48 0)), (3, .ref (kad E 90 0)), (4, .int i)] [] σ (q_burnt F (xs (i + 1).toNatClampNeg) nx σ) := by
  unfold q_burnt
  refine k_aload_n hk dL_law_1337 1 rfl ?_
  refine k_aload_n hk dL_law_1338 0 rfl ?_
  refine k_iload hk dL_law_1339 4 rfl ?_
  refine k_iconst (v := 1) hk dL_law_1341 (by decide) ?_
  refine k_iadd hk dL_law_1342 ?_
  refine k_scld hk hw h1 dL_law_1343 ?_
  refine k_aload_n hk dL_law_1344 3 rfl ?_
  refine k_callSHi (As := [.ref (kad E 0 0), .int (xs (i + 1).toNatClampNeg), .ref (kad E 90 0)]) (rest := []) hk hro (cw_burnt hj hn hl F ((xs (i + 1).toNatClampNeg)) σ) dL_law_1345 lc_burnt ⟨Nat.le_of_ble_eq_true rfl, Nat.le_of_ble_eq_true rfl⟩ (by omega) rfl (Nat.le_of_ble_eq_true rfl) (fun c1 σ2 => ?_)
  refine k_istore (lv' := [(5, .int c1), (0, .ref b), (1, .ref (kad E 0 0)), (2, .ref (kad E 48 0)), (3, .ref (kad E 90 0)), (4, .int i)]) hk dL_law_1348 (by decide) rfl ?_
  refine k_aload_n hk dL_law_1350 3 rfl ?_
  refine k_aload_n hk dL_law_1351 1 rfl ?_
  refine k_iload hk dL_law_1352 5 rfl ?_
  refine k_iconst (v := 1) hk dL_law_1354 (by decide) ?_
  refine k_iadd hk dL_law_1355 ?_
  refine k_scld hk hw h1 dL_law_1356 ?_
  refine k_callVHi (As := [.int (xs (i + 1).toNatClampNeg)]) (rest := []) hk hro (c_X6_burnt hj hn hl F ((xs (i + 1).toNatClampNeg)) σ2) dL_law_1357 cw_RL_169 rfl (by decide) kc6 rfl ⟨Nat.le_of_ble_eq_true rfl, Nat.le_of_ble_eq_true rfl⟩ (by omega) rfl (Nat.le_of_ble_eq_true rfl) (fun c3 σ4 => ?_) (fun _ _ => kThr_no)
  refine k_istore (lv' := [(6, .int c3), (5, .int c1), (0, .ref b), (1, .ref (kad E 0 0)), (2, .ref (kad E 48 0)), (3, .ref (kad E 90 0)), (4, .int i)]) hk dL_law_1360 (by decide) rfl ?_
  refine k_aload_n hk dL_law_1362 4 rfl ?_
  refine k_callVHi (As := []) (rest := []) hk hro (c_X6_thrown hj hn hl F  σ4) dL_law_1363 cw_RL_109 rfl (by decide) kc6 rfl ⟨Nat.le_of_ble_eq_true rfl, Nat.le_of_ble_eq_true rfl⟩ (by omega) rfl (Nat.le_of_ble_eq_true rfl) (fun c5 σ6 => ?_) (fun _ _ => kThr_no)
  refine k_iload hk dL_law_1366 1 rfl ?_
  refine k_icmp_eq hk dL_law_1368 1373 (by decide) (fun g7 => ?_) (fun g7 => ?_)
  · refine k_iload hk dL_law_1373 1 rfl ?_
    refine k_if_ne hk dL_law_1375 1390 (by decide) (fun g8 => ?_) (fun g8 => ?_)
    · refine k_goto hk dL_law_1390 1983 (by decide) ?_
      refine k_wide (n' := n + 16) (by omega) ?_
      exact k_sub [2, 3, 4, 5, 6] rfl (hnx σ6)
    · refine k_aload_n hk dL_law_1378 5 rfl ?_
      refine k_iconst (v := 0) hk dL_law_1379 (by decide) ?_
      refine k_lald_k (kk := 0) hk dL_law_1380 rfl (by decide) (by decide) (by decide) ?_
      refine k_iload hk dL_law_1381 0 rfl ?_
      refine k_i2l hk dL_law_1383 ?_
      refine k_lcmp hk dL_law_1384 ?_
      refine k_if_eq hk dL_law_1385 1390 (by decide) (fun g9 => ?_) (fun g9 => ?_)
      · refine k_goto hk dL_law_1390 1983 (by decide) ?_
        refine k_wide (n' := n + 16) (by omega) ?_
        exact k_sub [2, 3, 4, 5, 6] rfl (hnx σ6)
      · refine k_iconst (v := 0) hk dL_law_1388 (by decide) ?_
        exact k_no
  · refine k_iconst (v := 0) hk dL_law_1371 (by decide) ?_
    exact k_no
def q_option (F : Nat) (a1 : Int32) (a2 : Int32) (a3 : Int32) (nx : kS → Option kR) (σ : kS) : Option kR := kBhi (w_option F a1 a2 a3 σ) (fun c1 σ2 => kBhi (f_X6_option F a1 a2 a3 σ2) (fun c3 σ4 => kBhi (f_X6_thrown F  σ4) (fun c5 σ6 => (if c5 = c1 then ((if c1 = 0 then ((if (lg_cmp (σ6.2 90 0 0) (c3).toInt64) = 0 then (nx σ6) else (none))) else (nx σ6))) else (none))) kNo) kNo) kNo
set_option maxRecDepth 20000 in
theorem sl_option {l : Launch} {E : kE} (hj : kEj E) (hn : kNorm E) (hl : l.stackTraces = false) (h91 : kcnt E 91 = 0) {C : kC} {Q : kR → State → Prop} {b L : Nat} {xs : Nat → Int32} (hk : kOk (C, E, Q) cL_law RL 8) (hro : kRo C l 2048 84000 601024) (hw : kLw (C, E, Q) b L xs) (F : Nat) (i : Int32) (h1 : kin (i + 1) L) (h2 : kin (i + 2) L) (h3 : kin (i + 3) L) (h4 : kin (i + 4) L) (h5 : kin (i + 5) L) (n : Nat) (hn9 : n + 16 ≤ 601024) (nx : kS → Option kR) (hnx : ∀ σ, Sm (C, E, Q) 8 (n + 16) 1983 [(0, .ref b), (1, .ref (kad E 0 0)), (2, .ref (kad E 48 0)), (3, .ref (kad E 90 0)), (4, .int i)] [] σ (nx σ)) (σ : kS) : Sm (C, E, Q) 8 n 1393 [(0, .ref b), (1, .ref (kad E 0 0)), (2, .ref (kad E 48 0)), (3, .ref (kad E 90 0)), (4, .int i)] [] σ (q_option F (xs (i + 1).toNatClampNeg) (xs (i + 2).toNatClampNeg) (xs (i + 3).toNatClampNeg) nx σ) := by
  unfold q_option
  refine k_aload_n hk dL_law_1393 1 rfl ?_
  refine k_aload_n hk dL_law_1394 0 rfl ?_
  refine k_iload hk dL_law_1395 4 rfl ?_
  refine k_iconst (v := 1) hk dL_law_1397 (by decide) ?_
  refine k_iadd hk dL_law_1398 ?_
  refine k_scld hk hw h1 dL_law_1399 ?_
  refine k_aload_n hk dL_law_1400 0 rfl ?_
  refine k_iload hk dL_law_1401 4 rfl ?_
  refine k_iconst (v := 2) hk dL_law_1403 (by decide) ?_
  refine k_iadd hk dL_law_1404 ?_
  refine k_scld hk hw h2 dL_law_1405 ?_
  refine k_aload_n hk dL_law_1406 0 rfl ?_
  refine k_iload hk dL_law_1407 4 rfl ?_
  refine k_iconst (v := 3) hk dL_law_1409 (by decide) ?_
  refine k_iadd hk dL_law_1410 ?_
  refine k_scld hk hw h3 dL_law_1411 ?_
  refine k_aload_n hk dL_law_1412 3 rfl ?_
  refine k_callSHi (As := [.ref (kad E 0 0), .int (xs (i + 1).toNatClampNeg), .int (xs (i + 2).toNatClampNeg), .int (xs (i + 3).toNatClampNeg), .ref (kad E 90 0)]) (rest := []) hk hro (cw_option hj hn hl F ((xs (i + 1).toNatClampNeg)) ((xs (i + 2).toNatClampNeg)) ((xs (i + 3).toNatClampNeg)) σ) dL_law_1413 lc_option ⟨Nat.le_of_ble_eq_true rfl, Nat.le_of_ble_eq_true rfl⟩ (by omega) rfl (Nat.le_of_ble_eq_true rfl) (fun c1 σ2 => ?_)
  refine k_istore (lv' := [(5, .int c1), (0, .ref b), (1, .ref (kad E 0 0)), (2, .ref (kad E 48 0)), (3, .ref (kad E 90 0)), (4, .int i)]) hk dL_law_1416 (by decide) rfl ?_
  refine k_aload_n hk dL_law_1418 3 rfl ?_
  refine k_aload_n hk dL_law_1419 1 rfl ?_
  refine k_iload hk dL_law_1420 5 rfl ?_
  refine k_iconst (v := 1) hk dL_law_1422 (by decide) ?_
  refine k_iadd hk dL_law_1423 ?_
  refine k_scld hk hw h1 dL_law_1424 ?_
  refine k_aload_n hk dL_law_1425 1 rfl ?_
  refine k_iload hk dL_law_1426 5 rfl ?_
  refine k_iconst (v := 2) hk dL_law_1428 (by decide) ?_
  refine k_iadd hk dL_law_1429 ?_
  refine k_scld hk hw h2 dL_law_1430 ?_
  refine k_aload_n hk dL_law_1431 1 rfl ?_
  refine k_iload hk dL_law_1432 5 rfl ?_
  refine k_iconst (v := 3) hk dL_law_1434 (by decide) ?_
  refine k_iadd hk dL_law_1435 ?_
  refine k_scld hk hw h3 dL_law_1436 ?_
  refine k_callVHi (As := [.int (xs (i + 1).toNatClampNeg), .int (xs (i + 2).toNatClampNeg), .int (xs (i + 3).toNatClampNeg)]) (rest := []) hk hro (c_X6_option hj hn hl F ((xs (i + 1).toNatClampNeg)) ((xs (i + 2).toNatClampNeg)) ((xs (i + 3).toNatClampNeg)) σ2) dL_law_1437 cw_RL_172 rfl (by decide) kc6 rfl ⟨Nat.le_of_ble_eq_true rfl, Nat.le_of_ble_eq_true rfl⟩ (by omega) rfl (Nat.le_of_ble_eq_true rfl) (fun c3 σ4 => ?_) (fun _ _ => kThr_no)
  refine k_istore (lv' := [(6, .int c3), (5, .int c1), (0, .ref b), (1, .ref (kad E 0 0)), (2, .ref (kad E 48 0)), (3, .ref (kad E 90 0)), (4, .int i)]) hk dL_law_1440 (by decide) rfl ?_
  refine k_aload_n hk dL_law_1442 4 rfl ?_
  refine k_callVHi (As := []) (rest := []) hk hro (c_X6_thrown hj hn hl F  σ4) dL_law_1443 cw_RL_109 rfl (by decide) kc6 rfl ⟨Nat.le_of_ble_eq_true rfl, Nat.le_of_ble_eq_true rfl⟩ (by omega) rfl (Nat.le_of_ble_eq_true rfl) (fun c5 σ6 => ?_) (fun _ _ => kThr_no)
  refine k_iload hk dL_law_1446 1 rfl ?_
  refine k_icmp_eq hk dL_law_1448 1453 (by decide) (fun g7 => ?_) (fun g7 => ?_)
  · refine k_iload hk dL_law_1453 1 rfl ?_
    refine k_if_ne hk dL_law_1455 1470 (by decide) (fun g8 => ?_) (fun g8 => ?_)
    · refine k_goto hk dL_law_1470 1983 (by decide) ?_
      refine k_wide (n' := n + 16) (by omega) ?_
      exact k_sub [2, 3, 4, 5, 6] rfl (hnx σ6)
    · refine k_aload_n hk dL_law_1458 5 rfl ?_
      refine k_iconst (v := 0) hk dL_law_1459 (by decide) ?_
      refine k_lald_k (kk := 0) hk dL_law_1460 rfl (by decide) (by decide) (by decide) ?_
      refine k_iload hk dL_law_1461 0 rfl ?_
      refine k_i2l hk dL_law_1463 ?_
      refine k_lcmp hk dL_law_1464 ?_
      refine k_if_eq hk dL_law_1465 1470 (by decide) (fun g9 => ?_) (fun g9 => ?_)
      · refine k_goto hk dL_law_1470 1983 (by decide) ?_
        refine k_wide (n' := n + 16) (by omega) ?_
        exact k_sub [2, 3, 4, 5, 6] rfl (hnx σ6)
      · refine k_iconst (v := 0) hk dL_law_1468 (by decide) ?_
        exact k_no
  · refine k_iconst (v := 0) hk dL_law_1451 (by decide) ?_
    exact k_no
def q_safe (F : Nat) (a1 : Int32) (a2 : Int32) (a3 : Int32) (nx : kS → Option kR) (σ : kS) : Option kR := kBhi (w_safe F a1 a2 a3 σ) (fun c1 σ2 => kBhi (f_X6_safe F a1 a2 a3 σ2) (fun c3 σ4 => kBhi (f_X6_thrown F  σ4) (fun c5 σ6 => (if c5 = c1 then ((if c1 = 0 then ((if c3 = 0 then ((if (lg_cmp (σ6.2 90 0 0) (0 : Int64)) = 0 then (nx σ6) else (none))) else ((if (lg_cmp (σ6.2 90 0 0) (1 : Int64)) = 0 then (nx σ6) else (none))))) else (nx σ6))) else (none))) kNo) kNo) kNo
set_option maxRecDepth 20000 in
theorem sl_safe {l : Launch} {E : kE} (hj : kEj E) (hn : kNorm E) (hl : l.stackTraces = false) (h91 : kcnt E 91 = 0) {C : kC} {Q : kR → State → Prop} {b L : Nat} {xs : Nat → Int32} (hk : kOk (C, E, Q) cL_law RL 8) (hro : kRo C l 2048 84000 601024) (hw : kLw (C, E, Q) b L xs) (F : Nat) (i : Int32) (h1 : kin (i + 1) L) (h2 : kin (i + 2) L) (h3 : kin (i + 3) L) (h4 : kin (i + 4) L) (h5 : kin (i + 5) L) (n : Nat) (hn9 : n + 16 ≤ 601024) (nx : kS → Option kR) (hnx : ∀ σ, Sm (C, E, Q) 8 (n + 16) 1983 [(0, .ref b), (1, .ref (kad E 0 0)), (2, .ref (kad E 48 0)), (3, .ref (kad E 90 0)), (4, .int i)] [] σ (nx σ)) (σ : kS) : Sm (C, E, Q) 8 n 1473 [(0, .ref b), (1, .ref (kad E 0 0)), (2, .ref (kad E 48 0)), (3, .ref (kad E 90 0)), (4, .int i)] [] σ (q_safe F (xs (i + 1).toNatClampNeg) (xs (i + 2).toNatClampNeg) (xs (i + 3).toNatClampNeg) nx σ) := by
  unfold q_safe
  refine k_aload_n hk dL_law_1473 1 rfl ?_
  refine k_aload_n hk dL_law_1474 0 rfl ?_
  refine k_iload hk dL_law_1475 4 rfl ?_
  refine k_iconst (v := 1) hk dL_law_1477 (by decide) ?_
  refine k_iadd hk dL_law_1478 ?_
  refine k_scld hk hw h1 dL_law_1479 ?_
  refine k_aload_n hk dL_law_1480 0 rfl ?_
  refine k_iload hk dL_law_1481 4 rfl ?_
  refine k_iconst (v := 2) hk dL_law_1483 (by decide) ?_
  refine k_iadd hk dL_law_1484 ?_
  refine k_scld hk hw h2 dL_law_1485 ?_
  refine k_aload_n hk dL_law_1486 0 rfl ?_
  refine k_iload hk dL_law_1487 4 rfl ?_
  refine k_iconst (v := 3) hk dL_law_1489 (by decide) ?_
  refine k_iadd hk dL_law_1490 ?_
  refine k_scld hk hw h3 dL_law_1491 ?_
  refine k_aload_n hk dL_law_1492 3 rfl ?_
  refine k_callSHi (As := [.ref (kad E 0 0), .int (xs (i + 1).toNatClampNeg), .int (xs (i + 2).toNatClampNeg), .int (xs (i + 3).toNatClampNeg), .ref (kad E 90 0)]) (rest := []) hk hro (cw_safe hj hn hl F ((xs (i + 1).toNatClampNeg)) ((xs (i + 2).toNatClampNeg)) ((xs (i + 3).toNatClampNeg)) σ) dL_law_1493 lc_safe ⟨Nat.le_of_ble_eq_true rfl, Nat.le_of_ble_eq_true rfl⟩ (by omega) rfl (Nat.le_of_ble_eq_true rfl) (fun c1 σ2 => ?_)
  refine k_istore (lv' := [(5, .int c1), (0, .ref b), (1, .ref (kad E 0 0)), (2, .ref (kad E 48 0)), (3, .ref (kad E 90 0)), (4, .int i)]) hk dL_law_1496 (by decide) rfl ?_
  refine k_aload_n hk dL_law_1498 3 rfl ?_
  refine k_aload_n hk dL_law_1499 1 rfl ?_
  refine k_iload hk dL_law_1500 5 rfl ?_
  refine k_iconst (v := 1) hk dL_law_1502 (by decide) ?_
  refine k_iadd hk dL_law_1503 ?_
  refine k_scld hk hw h1 dL_law_1504 ?_
  refine k_aload_n hk dL_law_1505 1 rfl ?_
  refine k_iload hk dL_law_1506 5 rfl ?_
  refine k_iconst (v := 2) hk dL_law_1508 (by decide) ?_
  refine k_iadd hk dL_law_1509 ?_
  refine k_scld hk hw h2 dL_law_1510 ?_
  refine k_aload_n hk dL_law_1511 1 rfl ?_
  refine k_iload hk dL_law_1512 5 rfl ?_
  refine k_iconst (v := 3) hk dL_law_1514 (by decide) ?_
  refine k_iadd hk dL_law_1515 ?_
  refine k_scld hk hw h3 dL_law_1516 ?_
  refine k_callVHi (As := [.int (xs (i + 1).toNatClampNeg), .int (xs (i + 2).toNatClampNeg), .int (xs (i + 3).toNatClampNeg)]) (rest := []) hk hro (c_X6_safe hj hn hl F ((xs (i + 1).toNatClampNeg)) ((xs (i + 2).toNatClampNeg)) ((xs (i + 3).toNatClampNeg)) σ2) dL_law_1517 cw_RL_175 rfl (by decide) kc6 rfl ⟨Nat.le_of_ble_eq_true rfl, Nat.le_of_ble_eq_true rfl⟩ (by omega) rfl (Nat.le_of_ble_eq_true rfl) (fun c3 σ4 => ?_) (fun _ _ => kThr_no)
  refine k_istore (lv' := [(6, .int c3), (5, .int c1), (0, .ref b), (1, .ref (kad E 0 0)), (2, .ref (kad E 48 0)), (3, .ref (kad E 90 0)), (4, .int i)]) hk dL_law_1520 (by decide) rfl ?_
  refine k_aload_n hk dL_law_1522 4 rfl ?_
  refine k_callVHi (As := []) (rest := []) hk hro (c_X6_thrown hj hn hl F  σ4) dL_law_1523 cw_RL_109 rfl (by decide) kc6 rfl ⟨Nat.le_of_ble_eq_true rfl, Nat.le_of_ble_eq_true rfl⟩ (by omega) rfl (Nat.le_of_ble_eq_true rfl) (fun c5 σ6 => ?_) (fun _ _ => kThr_no)
  refine k_iload hk dL_law_1526 1 rfl ?_
  refine k_icmp_eq hk dL_law_1528 1533 (by decide) (fun g7 => ?_) (fun g7 => ?_)
  · refine k_iload hk dL_law_1533 1 rfl ?_
    refine k_if_ne hk dL_law_1535 1557 (by decide) (fun g8 => ?_) (fun g8 => ?_)
    · refine k_goto hk dL_law_1557 1983 (by decide) ?_
      refine k_wide (n' := n + 16) (by omega) ?_
      exact k_sub [2, 3, 4, 5, 6] rfl (hnx σ6)
    · refine k_aload_n hk dL_law_1538 5 rfl ?_
      refine k_iconst (v := 0) hk dL_law_1539 (by decide) ?_
      refine k_lald_k (kk := 0) hk dL_law_1540 rfl (by decide) (by decide) (by decide) ?_
      refine k_iload hk dL_law_1541 0 rfl ?_
      refine k_if_eq hk dL_law_1543 1550 (by decide) (fun g9 => ?_) (fun g9 => ?_)
      · refine k_lconst (v := 0) hk dL_law_1550 (by decide) ?_
        refine k_lcmp hk dL_law_1551 ?_
        refine k_if_eq hk dL_law_1552 1557 (by decide) (fun g10 => ?_) (fun g10 => ?_)
        · refine k_goto hk dL_law_1557 1983 (by decide) ?_
          refine k_wide (n' := n + 16) (by omega) ?_
          exact k_sub [2, 3, 4, 5, 6] rfl (hnx σ6)
        · refine k_iconst (v := 0) hk dL_law_1555 (by decide) ?_
          exact k_no
      · refine k_lconst (v := 1) hk dL_law_1546 (by decide) ?_
        refine k_goto hk dL_law_1547 1551 (by decide) ?_
        refine k_lcmp hk dL_law_1551 ?_
        refine k_if_eq hk dL_law_1552 1557 (by decide) (fun g11 => ?_) (fun g11 => ?_)
        · refine k_goto hk dL_law_1557 1983 (by decide) ?_
          refine k_wide (n' := n + 16) (by omega) ?_
          exact k_sub [2, 3, 4, 5, 6] rfl (hnx σ6)
        · refine k_iconst (v := 0) hk dL_law_1555 (by decide) ?_
          exact k_no
  · refine k_iconst (v := 0) hk dL_law_1531 (by decide) ?_
    exact k_no
def q_least (F : Nat) (a1 : Int32) (a2 : Int32) (nx : kS → Option kR) (σ : kS) : Option kR := kBhi (w_least F a1 a2 σ) (fun c1 σ2 => kBhi (f_X6_least F a1 a2 σ2) (fun c3 σ4 => kBhi (f_X6_thrown F  σ4) (fun c5 σ6 => (if c5 = c1 then ((if c1 = 0 then ((if (lg_cmp (σ6.2 90 0 0) (c3).toInt64) = 0 then (nx σ6) else (none))) else (nx σ6))) else (none))) kNo) kNo) kNo
set_option maxRecDepth 20000 in
theorem sl_least {l : Launch} {E : kE} (hj : kEj E) (hn : kNorm E) (hl : l.stackTraces = false) (h91 : kcnt E 91 = 0) {C : kC} {Q : kR → State → Prop} {b L : Nat} {xs : Nat → Int32} (hk : kOk (C, E, Q) cL_law RL 8) (hro : kRo C l 2048 84000 601024) (hw : kLw (C, E, Q) b L xs) (F : Nat) (i : Int32) (h1 : kin (i + 1) L) (h2 : kin (i + 2) L) (h3 : kin (i + 3) L) (h4 : kin (i + 4) L) (h5 : kin (i + 5) L) (n : Nat) (hn9 : n + 16 ≤ 601024) (nx : kS → Option kR) (hnx : ∀ σ, Sm (C, E, Q) 8 (n + 16) 1983 [(0, .ref b), (1, .ref (kad E 0 0)), (2, .ref (kad E 48 0)), (3, .ref (kad E 90 0)), (4, .int i)] [] σ (nx σ)) (σ : kS) : Sm (C, E, Q) 8 n 1560 [(0, .ref b), (1, .ref (kad E 0 0)), (2, .ref (kad E 48 0)), (3, .ref (kad E 90 0)), (4, .int i)] [] σ (q_least F (xs (i + 1).toNatClampNeg) (xs (i + 2).toNatClampNeg) nx σ) := by
  unfold q_least
  refine k_aload_n hk dL_law_1560 1 rfl ?_
  refine k_aload_n hk dL_law_1561 0 rfl ?_
  refine k_iload hk dL_law_1562 4 rfl ?_
  refine k_iconst (v := 1) hk dL_law_1564 (by decide) ?_
  refine k_iadd hk dL_law_1565 ?_
  refine k_scld hk hw h1 dL_law_1566 ?_
  refine k_aload_n hk dL_law_1567 0 rfl ?_
  refine k_iload hk dL_law_1568 4 rfl ?_
  refine k_iconst (v := 2) hk dL_law_1570 (by decide) ?_
  refine k_iadd hk dL_law_1571 ?_
  refine k_scld hk hw h2 dL_law_1572 ?_
  refine k_aload_n hk dL_law_1573 3 rfl ?_
  refine k_callSHi (As := [.ref (kad E 0 0), .int (xs (i + 1).toNatClampNeg), .int (xs (i + 2).toNatClampNeg), .ref (kad E 90 0)]) (rest := []) hk hro (cw_least hj hn hl F ((xs (i + 1).toNatClampNeg)) ((xs (i + 2).toNatClampNeg)) σ) dL_law_1574 lc_least ⟨Nat.le_of_ble_eq_true rfl, Nat.le_of_ble_eq_true rfl⟩ (by omega) rfl (Nat.le_of_ble_eq_true rfl) (fun c1 σ2 => ?_)
  refine k_istore (lv' := [(5, .int c1), (0, .ref b), (1, .ref (kad E 0 0)), (2, .ref (kad E 48 0)), (3, .ref (kad E 90 0)), (4, .int i)]) hk dL_law_1577 (by decide) rfl ?_
  refine k_aload_n hk dL_law_1579 3 rfl ?_
  refine k_aload_n hk dL_law_1580 1 rfl ?_
  refine k_iload hk dL_law_1581 5 rfl ?_
  refine k_iconst (v := 1) hk dL_law_1583 (by decide) ?_
  refine k_iadd hk dL_law_1584 ?_
  refine k_scld hk hw h1 dL_law_1585 ?_
  refine k_aload_n hk dL_law_1586 1 rfl ?_
  refine k_iload hk dL_law_1587 5 rfl ?_
  refine k_iconst (v := 2) hk dL_law_1589 (by decide) ?_
  refine k_iadd hk dL_law_1590 ?_
  refine k_scld hk hw h2 dL_law_1591 ?_
  refine k_callVHi (As := [.int (xs (i + 1).toNatClampNeg), .int (xs (i + 2).toNatClampNeg)]) (rest := []) hk hro (c_X6_least hj hn hl F ((xs (i + 1).toNatClampNeg)) ((xs (i + 2).toNatClampNeg)) σ2) dL_law_1592 cw_RL_178 rfl (by decide) kc6 rfl ⟨Nat.le_of_ble_eq_true rfl, Nat.le_of_ble_eq_true rfl⟩ (by omega) rfl (Nat.le_of_ble_eq_true rfl) (fun c3 σ4 => ?_) (fun _ _ => kThr_no)
  refine k_istore (lv' := [(6, .int c3), (5, .int c1), (0, .ref b), (1, .ref (kad E 0 0)), (2, .ref (kad E 48 0)), (3, .ref (kad E 90 0)), (4, .int i)]) hk dL_law_1595 (by decide) rfl ?_
  refine k_aload_n hk dL_law_1597 4 rfl ?_
  refine k_callVHi (As := []) (rest := []) hk hro (c_X6_thrown hj hn hl F  σ4) dL_law_1598 cw_RL_109 rfl (by decide) kc6 rfl ⟨Nat.le_of_ble_eq_true rfl, Nat.le_of_ble_eq_true rfl⟩ (by omega) rfl (Nat.le_of_ble_eq_true rfl) (fun c5 σ6 => ?_) (fun _ _ => kThr_no)
  refine k_iload hk dL_law_1601 1 rfl ?_
  refine k_icmp_eq hk dL_law_1603 1608 (by decide) (fun g7 => ?_) (fun g7 => ?_)
  · refine k_iload hk dL_law_1608 1 rfl ?_
    refine k_if_ne hk dL_law_1610 1625 (by decide) (fun g8 => ?_) (fun g8 => ?_)
    · refine k_goto hk dL_law_1625 1983 (by decide) ?_
      refine k_wide (n' := n + 16) (by omega) ?_
      exact k_sub [2, 3, 4, 5, 6] rfl (hnx σ6)
    · refine k_aload_n hk dL_law_1613 5 rfl ?_
      refine k_iconst (v := 0) hk dL_law_1614 (by decide) ?_
      refine k_lald_k (kk := 0) hk dL_law_1615 rfl (by decide) (by decide) (by decide) ?_
      refine k_iload hk dL_law_1616 0 rfl ?_
      refine k_i2l hk dL_law_1618 ?_
      refine k_lcmp hk dL_law_1619 ?_
      refine k_if_eq hk dL_law_1620 1625 (by decide) (fun g9 => ?_) (fun g9 => ?_)
      · refine k_goto hk dL_law_1625 1983 (by decide) ?_
        refine k_wide (n' := n + 16) (by omega) ?_
        exact k_sub [2, 3, 4, 5, 6] rfl (hnx σ6)
      · refine k_iconst (v := 0) hk dL_law_1623 (by decide) ?_
        exact k_no
  · refine k_iconst (v := 0) hk dL_law_1606 (by decide) ?_
    exact k_no
def q_all (F : Nat) (a1 : Int32) (nx : kS → Option kR) (σ : kS) : Option kR := kBhi (w_all F a1 σ) (fun c1 σ2 => kBhi (f_X6_all F a1 σ2) (fun c3 σ4 => kBhi (f_X6_thrown F  σ4) (fun c5 σ6 => (if c5 = c1 then ((if c1 = 0 then ((if (lg_cmp (σ6.2 90 0 0) (c3).toInt64) = 0 then (nx σ6) else (none))) else (nx σ6))) else (none))) kNo) kNo) kNo
set_option maxRecDepth 20000 in
theorem sl_all {l : Launch} {E : kE} (hj : kEj E) (hn : kNorm E) (hl : l.stackTraces = false) (h91 : kcnt E 91 = 0) {C : kC} {Q : kR → State → Prop} {b L : Nat} {xs : Nat → Int32} (hk : kOk (C, E, Q) cL_law RL 8) (hro : kRo C l 2048 84000 601024) (hw : kLw (C, E, Q) b L xs) (F : Nat) (i : Int32) (h1 : kin (i + 1) L) (h2 : kin (i + 2) L) (h3 : kin (i + 3) L) (h4 : kin (i + 4) L) (h5 : kin (i + 5) L) (n : Nat) (hn9 : n + 16 ≤ 601024) (nx : kS → Option kR) (hnx : ∀ σ, Sm (C, E, Q) 8 (n + 16) 1983 [(0, .ref b), (1, .ref (kad E 0 0)), (2, .ref (kad E 48 0)), (3, .ref (kad E 90 0)), (4, .int i)] [] σ (nx σ)) (σ : kS) : Sm (C, E, Q) 8 n 1628 [(0, .ref b), (1, .ref (kad E 0 0)), (2, .ref (kad E 48 0)), (3, .ref (kad E 90 0)), (4, .int i)] [] σ (q_all F (xs (i + 1).toNatClampNeg) nx σ) := by
  unfold q_all
  refine k_aload_n hk dL_law_1628 1 rfl ?_
  refine k_aload_n hk dL_law_1629 0 rfl ?_
  refine k_iload hk dL_law_1630 4 rfl ?_
  refine k_iconst (v := 1) hk dL_law_1632 (by decide) ?_
  refine k_iadd hk dL_law_1633 ?_
  refine k_scld hk hw h1 dL_law_1634 ?_
  refine k_aload_n hk dL_law_1635 3 rfl ?_
  refine k_callSHi (As := [.ref (kad E 0 0), .int (xs (i + 1).toNatClampNeg), .ref (kad E 90 0)]) (rest := []) hk hro (cw_all hj hn hl F ((xs (i + 1).toNatClampNeg)) σ) dL_law_1636 lc_all ⟨Nat.le_of_ble_eq_true rfl, Nat.le_of_ble_eq_true rfl⟩ (by omega) rfl (Nat.le_of_ble_eq_true rfl) (fun c1 σ2 => ?_)
  refine k_istore (lv' := [(5, .int c1), (0, .ref b), (1, .ref (kad E 0 0)), (2, .ref (kad E 48 0)), (3, .ref (kad E 90 0)), (4, .int i)]) hk dL_law_1639 (by decide) rfl ?_
  refine k_aload_n hk dL_law_1641 3 rfl ?_
  refine k_aload_n hk dL_law_1642 1 rfl ?_
  refine k_iload hk dL_law_1643 5 rfl ?_
  refine k_iconst (v := 1) hk dL_law_1645 (by decide) ?_
  refine k_iadd hk dL_law_1646 ?_
  refine k_scld hk hw h1 dL_law_1647 ?_
  refine k_callVHi (As := [.int (xs (i + 1).toNatClampNeg)]) (rest := []) hk hro (c_X6_all hj hn hl F ((xs (i + 1).toNatClampNeg)) σ2) dL_law_1648 cw_RL_181 rfl (by decide) kc6 rfl ⟨Nat.le_of_ble_eq_true rfl, Nat.le_of_ble_eq_true rfl⟩ (by omega) rfl (Nat.le_of_ble_eq_true rfl) (fun c3 σ4 => ?_) (fun _ _ => kThr_no)
  refine k_istore (lv' := [(6, .int c3), (5, .int c1), (0, .ref b), (1, .ref (kad E 0 0)), (2, .ref (kad E 48 0)), (3, .ref (kad E 90 0)), (4, .int i)]) hk dL_law_1651 (by decide) rfl ?_
  refine k_aload_n hk dL_law_1653 4 rfl ?_
  refine k_callVHi (As := []) (rest := []) hk hro (c_X6_thrown hj hn hl F  σ4) dL_law_1654 cw_RL_109 rfl (by decide) kc6 rfl ⟨Nat.le_of_ble_eq_true rfl, Nat.le_of_ble_eq_true rfl⟩ (by omega) rfl (Nat.le_of_ble_eq_true rfl) (fun c5 σ6 => ?_) (fun _ _ => kThr_no)
  refine k_iload hk dL_law_1657 1 rfl ?_
  refine k_icmp_eq hk dL_law_1659 1664 (by decide) (fun g7 => ?_) (fun g7 => ?_)
  · refine k_iload hk dL_law_1664 1 rfl ?_
    refine k_if_ne hk dL_law_1666 1681 (by decide) (fun g8 => ?_) (fun g8 => ?_)
    · refine k_goto hk dL_law_1681 1983 (by decide) ?_
      refine k_wide (n' := n + 16) (by omega) ?_
      exact k_sub [2, 3, 4, 5, 6] rfl (hnx σ6)
    · refine k_aload_n hk dL_law_1669 5 rfl ?_
      refine k_iconst (v := 0) hk dL_law_1670 (by decide) ?_
      refine k_lald_k (kk := 0) hk dL_law_1671 rfl (by decide) (by decide) (by decide) ?_
      refine k_iload hk dL_law_1672 0 rfl ?_
      refine k_i2l hk dL_law_1674 ?_
      refine k_lcmp hk dL_law_1675 ?_
      refine k_if_eq hk dL_law_1676 1681 (by decide) (fun g9 => ?_) (fun g9 => ?_)
      · refine k_goto hk dL_law_1681 1983 (by decide) ?_
        refine k_wide (n' := n + 16) (by omega) ?_
        exact k_sub [2, 3, 4, 5, 6] rfl (hnx σ6)
      · refine k_iconst (v := 0) hk dL_law_1679 (by decide) ?_
        exact k_no
  · refine k_iconst (v := 0) hk dL_law_1662 (by decide) ?_
    exact k_no
def q_next (F : Nat) (a1 : Int32) (nx : kS → Option kR) (σ : kS) : Option kR := kBhi (w_next F a1 σ) (fun c1 σ2 => kBhi (f_X6_next F a1 σ2) (fun c3 σ4 => kBhi (f_X6_thrown F  σ4) (fun c5 σ6 => (if c5 = c1 then ((if c1 = 0 then ((if (lg_cmp (σ6.2 90 0 0) (c3).toInt64) = 0 then (nx σ6) else (none))) else (nx σ6))) else (none))) kNo) kNo) kNo
set_option maxRecDepth 20000 in
theorem sl_next {l : Launch} {E : kE} (hj : kEj E) (hn : kNorm E) (hl : l.stackTraces = false) (h91 : kcnt E 91 = 0) {C : kC} {Q : kR → State → Prop} {b L : Nat} {xs : Nat → Int32} (hk : kOk (C, E, Q) cL_law RL 8) (hro : kRo C l 2048 84000 601024) (hw : kLw (C, E, Q) b L xs) (F : Nat) (i : Int32) (h1 : kin (i + 1) L) (h2 : kin (i + 2) L) (h3 : kin (i + 3) L) (h4 : kin (i + 4) L) (h5 : kin (i + 5) L) (n : Nat) (hn9 : n + 16 ≤ 601024) (nx : kS → Option kR) (hnx : ∀ σ, Sm (C, E, Q) 8 (n + 16) 1983 [(0, .ref b), (1, .ref (kad E 0 0)), (2, .ref (kad E 48 0)), (3, .ref (kad E 90 0)), (4, .int i)] [] σ (nx σ)) (σ : kS) : Sm (C, E, Q) 8 n 1684 [(0, .ref b), (1, .ref (kad E 0 0)), (2, .ref (kad E 48 0)), (3, .ref (kad E 90 0)), (4, .int i)] [] σ (q_next F (xs (i + 1).toNatClampNeg) nx σ) := by
  unfold q_next
  refine k_aload_n hk dL_law_1684 1 rfl ?_
  refine k_aload_n hk dL_law_1685 0 rfl ?_
  refine k_iload hk dL_law_1686 4 rfl ?_
  refine k_iconst (v := 1) hk dL_law_1688 (by decide) ?_
  refine k_iadd hk dL_law_1689 ?_
  refine k_scld hk hw h1 dL_law_1690 ?_
  refine k_aload_n hk dL_law_1691 3 rfl ?_
  refine k_callSHi (As := [.ref (kad E 0 0), .int (xs (i + 1).toNatClampNeg), .ref (kad E 90 0)]) (rest := []) hk hro (cw_next hj hn hl F ((xs (i + 1).toNatClampNeg)) σ) dL_law_1692 lc_next ⟨Nat.le_of_ble_eq_true rfl, Nat.le_of_ble_eq_true rfl⟩ (by omega) rfl (Nat.le_of_ble_eq_true rfl) (fun c1 σ2 => ?_)
  refine k_istore (lv' := [(5, .int c1), (0, .ref b), (1, .ref (kad E 0 0)), (2, .ref (kad E 48 0)), (3, .ref (kad E 90 0)), (4, .int i)]) hk dL_law_1695 (by decide) rfl ?_
  refine k_aload_n hk dL_law_1697 3 rfl ?_
  refine k_aload_n hk dL_law_1698 1 rfl ?_
  refine k_iload hk dL_law_1699 5 rfl ?_
  refine k_iconst (v := 1) hk dL_law_1701 (by decide) ?_
  refine k_iadd hk dL_law_1702 ?_
  refine k_scld hk hw h1 dL_law_1703 ?_
  refine k_callVHi (As := [.int (xs (i + 1).toNatClampNeg)]) (rest := []) hk hro (c_X6_next hj hn hl h91 F ((xs (i + 1).toNatClampNeg)) σ2) dL_law_1704 cw_RL_184 rfl (by decide) kc6 rfl ⟨Nat.le_of_ble_eq_true rfl, Nat.le_of_ble_eq_true rfl⟩ (by omega) rfl (Nat.le_of_ble_eq_true rfl) (fun c3 σ4 => ?_) (fun _ _ => kThr_no)
  refine k_istore (lv' := [(6, .int c3), (5, .int c1), (0, .ref b), (1, .ref (kad E 0 0)), (2, .ref (kad E 48 0)), (3, .ref (kad E 90 0)), (4, .int i)]) hk dL_law_1707 (by decide) rfl ?_
  refine k_aload_n hk dL_law_1709 4 rfl ?_
  refine k_callVHi (As := []) (rest := []) hk hro (c_X6_thrown hj hn hl F  σ4) dL_law_1710 cw_RL_109 rfl (by decide) kc6 rfl ⟨Nat.le_of_ble_eq_true rfl, Nat.le_of_ble_eq_true rfl⟩ (by omega) rfl (Nat.le_of_ble_eq_true rfl) (fun c5 σ6 => ?_) (fun _ _ => kThr_no)
  refine k_iload hk dL_law_1713 1 rfl ?_
  refine k_icmp_eq hk dL_law_1715 1720 (by decide) (fun g7 => ?_) (fun g7 => ?_)
  · refine k_iload hk dL_law_1720 1 rfl ?_
    refine k_if_ne hk dL_law_1722 1737 (by decide) (fun g8 => ?_) (fun g8 => ?_)
    · refine k_goto hk dL_law_1737 1983 (by decide) ?_
      refine k_wide (n' := n + 16) (by omega) ?_
      exact k_sub [2, 3, 4, 5, 6] rfl (hnx σ6)
    · refine k_aload_n hk dL_law_1725 5 rfl ?_
      refine k_iconst (v := 0) hk dL_law_1726 (by decide) ?_
      refine k_lald_k (kk := 0) hk dL_law_1727 rfl (by decide) (by decide) (by decide) ?_
      refine k_iload hk dL_law_1728 0 rfl ?_
      refine k_i2l hk dL_law_1730 ?_
      refine k_lcmp hk dL_law_1731 ?_
      refine k_if_eq hk dL_law_1732 1737 (by decide) (fun g9 => ?_) (fun g9 => ?_)
      · refine k_goto hk dL_law_1737 1983 (by decide) ?_
        refine k_wide (n' := n + 16) (by omega) ?_
        exact k_sub [2, 3, 4, 5, 6] rfl (hnx σ6)
      · refine k_iconst (v := 0) hk dL_law_1735 (by decide) ?_
        exact k_no
  · refine k_iconst (v := 0) hk dL_law_1718 (by decide) ?_
    exact k_no
def q_parted (F : Nat) (a1 : Int32) (a2 : Int32) (nx : kS → Option kR) (σ : kS) : Option kR := kBhi (w_parted F a1 a2 σ) (fun c1 σ2 => kBhi (f_X6_parted F a1 a2 σ2) (fun c3 σ4 => kBhi (f_X6_thrown F  σ4) (fun c5 σ6 => (if c5 = c1 then ((if c1 = 0 then ((if (lg_cmp (σ6.2 90 0 0) (c3).toInt64) = 0 then (nx σ6) else (none))) else (nx σ6))) else (none))) kNo) kNo) kNo
set_option maxRecDepth 20000 in
theorem sl_parted {l : Launch} {E : kE} (hj : kEj E) (hn : kNorm E) (hl : l.stackTraces = false) (h91 : kcnt E 91 = 0) {C : kC} {Q : kR → State → Prop} {b L : Nat} {xs : Nat → Int32} (hk : kOk (C, E, Q) cL_law RL 8) (hro : kRo C l 2048 84000 601024) (hw : kLw (C, E, Q) b L xs) (F : Nat) (i : Int32) (h1 : kin (i + 1) L) (h2 : kin (i + 2) L) (h3 : kin (i + 3) L) (h4 : kin (i + 4) L) (h5 : kin (i + 5) L) (n : Nat) (hn9 : n + 16 ≤ 601024) (nx : kS → Option kR) (hnx : ∀ σ, Sm (C, E, Q) 8 (n + 16) 1983 [(0, .ref b), (1, .ref (kad E 0 0)), (2, .ref (kad E 48 0)), (3, .ref (kad E 90 0)), (4, .int i)] [] σ (nx σ)) (σ : kS) : Sm (C, E, Q) 8 n 1740 [(0, .ref b), (1, .ref (kad E 0 0)), (2, .ref (kad E 48 0)), (3, .ref (kad E 90 0)), (4, .int i)] [] σ (q_parted F (xs (i + 1).toNatClampNeg) (xs (i + 2).toNatClampNeg) nx σ) := by
  unfold q_parted
  refine k_aload_n hk dL_law_1740 1 rfl ?_
  refine k_aload_n hk dL_law_1741 0 rfl ?_
  refine k_iload hk dL_law_1742 4 rfl ?_
  refine k_iconst (v := 1) hk dL_law_1744 (by decide) ?_
  refine k_iadd hk dL_law_1745 ?_
  refine k_scld hk hw h1 dL_law_1746 ?_
  refine k_aload_n hk dL_law_1747 0 rfl ?_
  refine k_iload hk dL_law_1748 4 rfl ?_
  refine k_iconst (v := 2) hk dL_law_1750 (by decide) ?_
  refine k_iadd hk dL_law_1751 ?_
  refine k_scld hk hw h2 dL_law_1752 ?_
  refine k_aload_n hk dL_law_1753 3 rfl ?_
  refine k_callSHi (As := [.ref (kad E 0 0), .int (xs (i + 1).toNatClampNeg), .int (xs (i + 2).toNatClampNeg), .ref (kad E 90 0)]) (rest := []) hk hro (cw_parted hj hn hl F ((xs (i + 1).toNatClampNeg)) ((xs (i + 2).toNatClampNeg)) σ) dL_law_1754 lc_parted ⟨Nat.le_of_ble_eq_true rfl, Nat.le_of_ble_eq_true rfl⟩ (by omega) rfl (Nat.le_of_ble_eq_true rfl) (fun c1 σ2 => ?_)
  refine k_istore (lv' := [(5, .int c1), (0, .ref b), (1, .ref (kad E 0 0)), (2, .ref (kad E 48 0)), (3, .ref (kad E 90 0)), (4, .int i)]) hk dL_law_1757 (by decide) rfl ?_
  refine k_aload_n hk dL_law_1759 3 rfl ?_
  refine k_aload_n hk dL_law_1760 1 rfl ?_
  refine k_iload hk dL_law_1761 5 rfl ?_
  refine k_iconst (v := 1) hk dL_law_1763 (by decide) ?_
  refine k_iadd hk dL_law_1764 ?_
  refine k_scld hk hw h1 dL_law_1765 ?_
  refine k_aload_n hk dL_law_1766 1 rfl ?_
  refine k_iload hk dL_law_1767 5 rfl ?_
  refine k_iconst (v := 2) hk dL_law_1769 (by decide) ?_
  refine k_iadd hk dL_law_1770 ?_
  refine k_scld hk hw h2 dL_law_1771 ?_
  refine k_callVHi (As := [.int (xs (i + 1).toNatClampNeg), .int (xs (i + 2).toNatClampNeg)]) (rest := []) hk hro (c_X6_parted hj hn hl F ((xs (i + 1).toNatClampNeg)) ((xs (i + 2).toNatClampNeg)) σ2) dL_law_1772 cw_RL_187 rfl (by decide) kc6 rfl ⟨Nat.le_of_ble_eq_true rfl, Nat.le_of_ble_eq_true rfl⟩ (by omega) rfl (Nat.le_of_ble_eq_true rfl) (fun c3 σ4 => ?_) (fun _ _ => kThr_no)
  refine k_istore (lv' := [(6, .int c3), (5, .int c1), (0, .ref b), (1, .ref (kad E 0 0)), (2, .ref (kad E 48 0)), (3, .ref (kad E 90 0)), (4, .int i)]) hk dL_law_1775 (by decide) rfl ?_
  refine k_aload_n hk dL_law_1777 4 rfl ?_
  refine k_callVHi (As := []) (rest := []) hk hro (c_X6_thrown hj hn hl F  σ4) dL_law_1778 cw_RL_109 rfl (by decide) kc6 rfl ⟨Nat.le_of_ble_eq_true rfl, Nat.le_of_ble_eq_true rfl⟩ (by omega) rfl (Nat.le_of_ble_eq_true rfl) (fun c5 σ6 => ?_) (fun _ _ => kThr_no)
  refine k_iload hk dL_law_1781 1 rfl ?_
  refine k_icmp_eq hk dL_law_1783 1788 (by decide) (fun g7 => ?_) (fun g7 => ?_)
  · refine k_iload hk dL_law_1788 1 rfl ?_
    refine k_if_ne hk dL_law_1790 1805 (by decide) (fun g8 => ?_) (fun g8 => ?_)
    · refine k_goto hk dL_law_1805 1983 (by decide) ?_
      refine k_wide (n' := n + 16) (by omega) ?_
      exact k_sub [2, 3, 4, 5, 6] rfl (hnx σ6)
    · refine k_aload_n hk dL_law_1793 5 rfl ?_
      refine k_iconst (v := 0) hk dL_law_1794 (by decide) ?_
      refine k_lald_k (kk := 0) hk dL_law_1795 rfl (by decide) (by decide) (by decide) ?_
      refine k_iload hk dL_law_1796 0 rfl ?_
      refine k_i2l hk dL_law_1798 ?_
      refine k_lcmp hk dL_law_1799 ?_
      refine k_if_eq hk dL_law_1800 1805 (by decide) (fun g9 => ?_) (fun g9 => ?_)
      · refine k_goto hk dL_law_1805 1983 (by decide) ?_
        refine k_wide (n' := n + 16) (by omega) ?_
        exact k_sub [2, 3, 4, 5, 6] rfl (hnx σ6)
      · refine k_iconst (v := 0) hk dL_law_1803 (by decide) ?_
        exact k_no
  · refine k_iconst (v := 0) hk dL_law_1786 (by decide) ?_
    exact k_no
def q_order (F : Nat) (a1 : Int32) (a2 : Int32) (nx : kS → Option kR) (σ : kS) : Option kR := kBhi (w_order F a1 a2 σ) (fun c1 σ2 => kBhi (f_X6_order F a1 a2 σ2) (fun c3 σ4 => kBhi (f_X6_thrown F  σ4) (fun c5 σ6 => (if c5 = c1 then ((if c1 = 0 then ((if (lg_cmp (σ6.2 90 0 0) (c3).toInt64) = 0 then (nx σ6) else (none))) else (nx σ6))) else (none))) kNo) kNo) kNo
set_option maxRecDepth 20000 in
theorem sl_order {l : Launch} {E : kE} (hj : kEj E) (hn : kNorm E) (hl : l.stackTraces = false) (h91 : kcnt E 91 = 0) {C : kC} {Q : kR → State → Prop} {b L : Nat} {xs : Nat → Int32} (hk : kOk (C, E, Q) cL_law RL 8) (hro : kRo C l 2048 84000 601024) (hw : kLw (C, E, Q) b L xs) (F : Nat) (i : Int32) (h1 : kin (i + 1) L) (h2 : kin (i + 2) L) (h3 : kin (i + 3) L) (h4 : kin (i + 4) L) (h5 : kin (i + 5) L) (n : Nat) (hn9 : n + 16 ≤ 601024) (nx : kS → Option kR) (hnx : ∀ σ, Sm (C, E, Q) 8 (n + 16) 1983 [(0, .ref b), (1, .ref (kad E 0 0)), (2, .ref (kad E 48 0)), (3, .ref (kad E 90 0)), (4, .int i)] [] σ (nx σ)) (σ : kS) : Sm (C, E, Q) 8 n 1808 [(0, .ref b), (1, .ref (kad E 0 0)), (2, .ref (kad E 48 0)), (3, .ref (kad E 90 0)), (4, .int i)] [] σ (q_order F (xs (i + 1).toNatClampNeg) (xs (i + 2).toNatClampNeg) nx σ) := by
  unfold q_order
  refine k_aload_n hk dL_law_1808 1 rfl ?_
  refine k_aload_n hk dL_law_1809 0 rfl ?_
  refine k_iload hk dL_law_1810 4 rfl ?_
  refine k_iconst (v := 1) hk dL_law_1812 (by decide) ?_
  refine k_iadd hk dL_law_1813 ?_
  refine k_scld hk hw h1 dL_law_1814 ?_
  refine k_aload_n hk dL_law_1815 0 rfl ?_
  refine k_iload hk dL_law_1816 4 rfl ?_
  refine k_iconst (v := 2) hk dL_law_1818 (by decide) ?_
  refine k_iadd hk dL_law_1819 ?_
  refine k_scld hk hw h2 dL_law_1820 ?_
  refine k_aload_n hk dL_law_1821 3 rfl ?_
  refine k_callSHi (As := [.ref (kad E 0 0), .int (xs (i + 1).toNatClampNeg), .int (xs (i + 2).toNatClampNeg), .ref (kad E 90 0)]) (rest := []) hk hro (cw_order hj hn hl F ((xs (i + 1).toNatClampNeg)) ((xs (i + 2).toNatClampNeg)) σ) dL_law_1822 lc_order ⟨Nat.le_of_ble_eq_true rfl, Nat.le_of_ble_eq_true rfl⟩ (by omega) rfl (Nat.le_of_ble_eq_true rfl) (fun c1 σ2 => ?_)
  refine k_istore (lv' := [(5, .int c1), (0, .ref b), (1, .ref (kad E 0 0)), (2, .ref (kad E 48 0)), (3, .ref (kad E 90 0)), (4, .int i)]) hk dL_law_1825 (by decide) rfl ?_
  refine k_aload_n hk dL_law_1827 3 rfl ?_
  refine k_aload_n hk dL_law_1828 1 rfl ?_
  refine k_iload hk dL_law_1829 5 rfl ?_
  refine k_iconst (v := 1) hk dL_law_1831 (by decide) ?_
  refine k_iadd hk dL_law_1832 ?_
  refine k_scld hk hw h1 dL_law_1833 ?_
  refine k_aload_n hk dL_law_1834 1 rfl ?_
  refine k_iload hk dL_law_1835 5 rfl ?_
  refine k_iconst (v := 2) hk dL_law_1837 (by decide) ?_
  refine k_iadd hk dL_law_1838 ?_
  refine k_scld hk hw h2 dL_law_1839 ?_
  refine k_callVHi (As := [.int (xs (i + 1).toNatClampNeg), .int (xs (i + 2).toNatClampNeg)]) (rest := []) hk hro (c_X6_order hj hn hl F ((xs (i + 1).toNatClampNeg)) ((xs (i + 2).toNatClampNeg)) σ2) dL_law_1840 cw_RL_190 rfl (by decide) kc6 rfl ⟨Nat.le_of_ble_eq_true rfl, Nat.le_of_ble_eq_true rfl⟩ (by omega) rfl (Nat.le_of_ble_eq_true rfl) (fun c3 σ4 => ?_) (fun _ _ => kThr_no)
  refine k_istore (lv' := [(6, .int c3), (5, .int c1), (0, .ref b), (1, .ref (kad E 0 0)), (2, .ref (kad E 48 0)), (3, .ref (kad E 90 0)), (4, .int i)]) hk dL_law_1843 (by decide) rfl ?_
  refine k_aload_n hk dL_law_1845 4 rfl ?_
  refine k_callVHi (As := []) (rest := []) hk hro (c_X6_thrown hj hn hl F  σ4) dL_law_1846 cw_RL_109 rfl (by decide) kc6 rfl ⟨Nat.le_of_ble_eq_true rfl, Nat.le_of_ble_eq_true rfl⟩ (by omega) rfl (Nat.le_of_ble_eq_true rfl) (fun c5 σ6 => ?_) (fun _ _ => kThr_no)
  refine k_iload hk dL_law_1849 1 rfl ?_
  refine k_icmp_eq hk dL_law_1851 1856 (by decide) (fun g7 => ?_) (fun g7 => ?_)
  · refine k_iload hk dL_law_1856 1 rfl ?_
    refine k_if_ne hk dL_law_1858 1873 (by decide) (fun g8 => ?_) (fun g8 => ?_)
    · refine k_goto hk dL_law_1873 1983 (by decide) ?_
      refine k_wide (n' := n + 16) (by omega) ?_
      exact k_sub [2, 3, 4, 5, 6] rfl (hnx σ6)
    · refine k_aload_n hk dL_law_1861 5 rfl ?_
      refine k_iconst (v := 0) hk dL_law_1862 (by decide) ?_
      refine k_lald_k (kk := 0) hk dL_law_1863 rfl (by decide) (by decide) (by decide) ?_
      refine k_iload hk dL_law_1864 0 rfl ?_
      refine k_i2l hk dL_law_1866 ?_
      refine k_lcmp hk dL_law_1867 ?_
      refine k_if_eq hk dL_law_1868 1873 (by decide) (fun g9 => ?_) (fun g9 => ?_)
      · refine k_goto hk dL_law_1873 1983 (by decide) ?_
        refine k_wide (n' := n + 16) (by omega) ?_
        exact k_sub [2, 3, 4, 5, 6] rfl (hnx σ6)
      · refine k_iconst (v := 0) hk dL_law_1871 (by decide) ?_
        exact k_no
  · refine k_iconst (v := 0) hk dL_law_1854 (by decide) ?_
    exact k_no
def q_dry (F : Nat) (a1 : Int32) (nx : kS → Option kR) (σ : kS) : Option kR := kBhi (w_dry F a1 σ) (fun c1 σ2 => kBhi (f_X6_dry F a1 σ2) (fun c3 σ4 => kBhi (f_X6_thrown F  σ4) (fun c5 σ6 => (if c5 = c1 then ((if c1 = 0 then ((if (lg_cmp (σ6.2 90 0 0) (c3).toInt64) = 0 then (nx σ6) else (none))) else (nx σ6))) else (none))) kNo) kNo) kNo
set_option maxRecDepth 20000 in
theorem sl_dry {l : Launch} {E : kE} (hj : kEj E) (hn : kNorm E) (hl : l.stackTraces = false) (h91 : kcnt E 91 = 0) {C : kC} {Q : kR → State → Prop} {b L : Nat} {xs : Nat → Int32} (hk : kOk (C, E, Q) cL_law RL 8) (hro : kRo C l 2048 84000 601024) (hw : kLw (C, E, Q) b L xs) (F : Nat) (i : Int32) (h1 : kin (i + 1) L) (h2 : kin (i + 2) L) (h3 : kin (i + 3) L) (h4 : kin (i + 4) L) (h5 : kin (i + 5) L) (n : Nat) (hn9 : n + 16 ≤ 601024) (nx : kS → Option kR) (hnx : ∀ σ, Sm (C, E, Q) 8 (n + 16) 1983 [(0, .ref b), (1, .ref (kad E 0 0)), (2, .ref (kad E 48 0)), (3, .ref (kad E 90 0)), (4, .int i)] [] σ (nx σ)) (σ : kS) : Sm (C, E, Q) 8 n 1876 [(0, .ref b), (1, .ref (kad E 0 0)), (2, .ref (kad E 48 0)), (3, .ref (kad E 90 0)), (4, .int i)] [] σ (q_dry F (xs (i + 1).toNatClampNeg) nx σ) := by
  unfold q_dry
  refine k_aload_n hk dL_law_1876 1 rfl ?_
  refine k_aload_n hk dL_law_1877 0 rfl ?_
  refine k_iload hk dL_law_1878 4 rfl ?_
  refine k_iconst (v := 1) hk dL_law_1880 (by decide) ?_
  refine k_iadd hk dL_law_1881 ?_
  refine k_scld hk hw h1 dL_law_1882 ?_
  refine k_aload_n hk dL_law_1883 3 rfl ?_
  refine k_callSHi (As := [.ref (kad E 0 0), .int (xs (i + 1).toNatClampNeg), .ref (kad E 90 0)]) (rest := []) hk hro (cw_dry hj hn hl F ((xs (i + 1).toNatClampNeg)) σ) dL_law_1884 lc_dry ⟨Nat.le_of_ble_eq_true rfl, Nat.le_of_ble_eq_true rfl⟩ (by omega) rfl (Nat.le_of_ble_eq_true rfl) (fun c1 σ2 => ?_)
  refine k_istore (lv' := [(5, .int c1), (0, .ref b), (1, .ref (kad E 0 0)), (2, .ref (kad E 48 0)), (3, .ref (kad E 90 0)), (4, .int i)]) hk dL_law_1887 (by decide) rfl ?_
  refine k_aload_n hk dL_law_1889 3 rfl ?_
  refine k_aload_n hk dL_law_1890 1 rfl ?_
  refine k_iload hk dL_law_1891 5 rfl ?_
  refine k_iconst (v := 1) hk dL_law_1893 (by decide) ?_
  refine k_iadd hk dL_law_1894 ?_
  refine k_scld hk hw h1 dL_law_1895 ?_
  refine k_callVHi (As := [.int (xs (i + 1).toNatClampNeg)]) (rest := []) hk hro (c_X6_dry hj hn hl F ((xs (i + 1).toNatClampNeg)) σ2) dL_law_1896 cw_RL_193 rfl (by decide) kc6 rfl ⟨Nat.le_of_ble_eq_true rfl, Nat.le_of_ble_eq_true rfl⟩ (by omega) rfl (Nat.le_of_ble_eq_true rfl) (fun c3 σ4 => ?_) (fun _ _ => kThr_no)
  refine k_istore (lv' := [(6, .int c3), (5, .int c1), (0, .ref b), (1, .ref (kad E 0 0)), (2, .ref (kad E 48 0)), (3, .ref (kad E 90 0)), (4, .int i)]) hk dL_law_1899 (by decide) rfl ?_
  refine k_aload_n hk dL_law_1901 4 rfl ?_
  refine k_callVHi (As := []) (rest := []) hk hro (c_X6_thrown hj hn hl F  σ4) dL_law_1902 cw_RL_109 rfl (by decide) kc6 rfl ⟨Nat.le_of_ble_eq_true rfl, Nat.le_of_ble_eq_true rfl⟩ (by omega) rfl (Nat.le_of_ble_eq_true rfl) (fun c5 σ6 => ?_) (fun _ _ => kThr_no)
  refine k_iload hk dL_law_1905 1 rfl ?_
  refine k_icmp_eq hk dL_law_1907 1912 (by decide) (fun g7 => ?_) (fun g7 => ?_)
  · refine k_iload hk dL_law_1912 1 rfl ?_
    refine k_if_ne hk dL_law_1914 1929 (by decide) (fun g8 => ?_) (fun g8 => ?_)
    · refine k_goto hk dL_law_1929 1983 (by decide) ?_
      refine k_wide (n' := n + 16) (by omega) ?_
      exact k_sub [2, 3, 4, 5, 6] rfl (hnx σ6)
    · refine k_aload_n hk dL_law_1917 5 rfl ?_
      refine k_iconst (v := 0) hk dL_law_1918 (by decide) ?_
      refine k_lald_k (kk := 0) hk dL_law_1919 rfl (by decide) (by decide) (by decide) ?_
      refine k_iload hk dL_law_1920 0 rfl ?_
      refine k_i2l hk dL_law_1922 ?_
      refine k_lcmp hk dL_law_1923 ?_
      refine k_if_eq hk dL_law_1924 1929 (by decide) (fun g9 => ?_) (fun g9 => ?_)
      · refine k_goto hk dL_law_1929 1983 (by decide) ?_
        refine k_wide (n' := n + 16) (by omega) ?_
        exact k_sub [2, 3, 4, 5, 6] rfl (hnx σ6)
      · refine k_iconst (v := 0) hk dL_law_1927 (by decide) ?_
        exact k_no
  · refine k_iconst (v := 0) hk dL_law_1910 (by decide) ?_
    exact k_no
def q_image (F : Nat)  (nx : kS → Option kR) (σ : kS) : Option kR := kBhi (f_X5_image F  σ) (fun c1 σ2 => kBhi (f_X6_image F  σ2) (fun c3 σ4 => (if c1 = c3 then (nx σ4) else (none))) kNo) kNo
set_option maxRecDepth 20000 in
theorem sl_image {l : Launch} {E : kE} (hj : kEj E) (hn : kNorm E) (hl : l.stackTraces = false) (h91 : kcnt E 91 = 0) {C : kC} {Q : kR → State → Prop} {b L : Nat} {xs : Nat → Int32} (hk : kOk (C, E, Q) cL_law RL 8) (hro : kRo C l 2048 84000 601024) (hw : kLw (C, E, Q) b L xs) (F : Nat) (i : Int32) (h1 : kin (i + 1) L) (h2 : kin (i + 2) L) (h3 : kin (i + 3) L) (h4 : kin (i + 4) L) (h5 : kin (i + 5) L) (n : Nat) (hn9 : n + 16 ≤ 601024) (nx : kS → Option kR) (hnx : ∀ σ, Sm (C, E, Q) 8 (n + 16) 1983 [(0, .ref b), (1, .ref (kad E 0 0)), (2, .ref (kad E 48 0)), (3, .ref (kad E 90 0)), (4, .int i)] [] σ (nx σ)) (σ : kS) : Sm (C, E, Q) 8 n 1932 [(0, .ref b), (1, .ref (kad E 0 0)), (2, .ref (kad E 48 0)), (3, .ref (kad E 90 0)), (4, .int i)] [] σ (q_image F  nx σ) := by
  unfold q_image
  refine k_aload_n hk dL_law_1932 1 rfl ?_
  refine k_callVHi (As := []) (rest := []) hk hro (c_X5_image hj hn hl F  σ) dL_law_1933 cw_RL_194 rfl (by decide) kc5 rfl ⟨Nat.le_of_ble_eq_true rfl, Nat.le_of_ble_eq_true rfl⟩ (by omega) rfl (Nat.le_of_ble_eq_true rfl) (fun c1 σ2 => ?_) (fun _ _ => kThr_no)
  refine k_aload_n hk dL_law_1936 2 rfl ?_
  refine k_callVHi (As := []) (rest := [.int c1]) hk hro (c_X6_image hj hn hl F  σ2) dL_law_1937 cw_RL_197 rfl (by decide) kc6 rfl ⟨Nat.le_of_ble_eq_true rfl, Nat.le_of_ble_eq_true rfl⟩ (by omega) rfl (Nat.le_of_ble_eq_true rfl) (fun c3 σ4 => ?_) (fun _ _ => kThr_no)
  refine k_icmp_eq hk dL_law_1940 1983 (by decide) (fun g5 => ?_) (fun g5 => ?_)
  · refine k_wide (n' := n + 16) (by omega) ?_
    exact k_sub [0, 1, 2, 3, 4] rfl (hnx σ4)
  · refine k_iconst (v := 0) hk dL_law_1943 (by decide) ?_
    exact k_no
def q_restore (F : Nat)  (nx : kS → Option kR) (σ : kS) : Option kR := kBhi (f_X5_restore F  σ) (fun c1 σ2 => kBhi (f_X6_restore F  σ2) (fun c3 σ4 => (if c1 = c3 then (nx σ4) else (none))) kNo) kNo
set_option maxRecDepth 20000 in
theorem sl_restore {l : Launch} {E : kE} (hj : kEj E) (hn : kNorm E) (hl : l.stackTraces = false) (h91 : kcnt E 91 = 0) {C : kC} {Q : kR → State → Prop} {b L : Nat} {xs : Nat → Int32} (hk : kOk (C, E, Q) cL_law RL 8) (hro : kRo C l 2048 84000 601024) (hw : kLw (C, E, Q) b L xs) (F : Nat) (i : Int32) (h1 : kin (i + 1) L) (h2 : kin (i + 2) L) (h3 : kin (i + 3) L) (h4 : kin (i + 4) L) (h5 : kin (i + 5) L) (n : Nat) (hn9 : n + 16 ≤ 601024) (nx : kS → Option kR) (hnx : ∀ σ, Sm (C, E, Q) 8 (n + 16) 1983 [(0, .ref b), (1, .ref (kad E 0 0)), (2, .ref (kad E 48 0)), (3, .ref (kad E 90 0)), (4, .int i)] [] σ (nx σ)) (σ : kS) : Sm (C, E, Q) 8 n 1945 [(0, .ref b), (1, .ref (kad E 0 0)), (2, .ref (kad E 48 0)), (3, .ref (kad E 90 0)), (4, .int i)] [] σ (q_restore F  nx σ) := by
  unfold q_restore
  refine k_aload_n hk dL_law_1945 1 rfl ?_
  refine k_callVHi (As := []) (rest := []) hk hro (c_X5_restore hj hn hl F  σ) dL_law_1946 cw_RL_198 rfl (by decide) kc5 rfl ⟨Nat.le_of_ble_eq_true rfl, Nat.le_of_ble_eq_true rfl⟩ (by omega) rfl (Nat.le_of_ble_eq_true rfl) (fun c1 σ2 => ?_) (fun _ _ => kThr_no)
  refine k_aload_n hk dL_law_1949 2 rfl ?_
  refine k_callVHi (As := []) (rest := [.int c1]) hk hro (c_X6_restore hj hn hl F  σ2) dL_law_1950 cw_RL_201 rfl (by decide) kc6 rfl ⟨Nat.le_of_ble_eq_true rfl, Nat.le_of_ble_eq_true rfl⟩ (by omega) rfl (Nat.le_of_ble_eq_true rfl) (fun c3 σ4 => ?_) (fun _ _ => kThr_no)
  refine k_icmp_eq hk dL_law_1953 1983 (by decide) (fun g5 => ?_) (fun g5 => ?_)
  · refine k_wide (n' := n + 16) (by omega) ?_
    exact k_sub [0, 1, 2, 3, 4] rfl (hnx σ4)
  · refine k_iconst (v := 0) hk dL_law_1956 (by decide) ?_
    exact k_no
def q_count (F : Nat) (a1 : Int32) (nx : kS → Option kR) (σ : kS) : Option kR := kBhi (f_X5_count F a1 σ) (fun c1 σ2 => kBhi (f_X6_count F a1 σ2) (fun c3 σ4 => (if c1 = c3 then (nx σ4) else (none))) kNo) kNo
set_option maxRecDepth 20000 in
theorem sl_count {l : Launch} {E : kE} (hj : kEj E) (hn : kNorm E) (hl : l.stackTraces = false) (h91 : kcnt E 91 = 0) {C : kC} {Q : kR → State → Prop} {b L : Nat} {xs : Nat → Int32} (hk : kOk (C, E, Q) cL_law RL 8) (hro : kRo C l 2048 84000 601024) (hw : kLw (C, E, Q) b L xs) (F : Nat) (i : Int32) (h1 : kin (i + 1) L) (h2 : kin (i + 2) L) (h3 : kin (i + 3) L) (h4 : kin (i + 4) L) (h5 : kin (i + 5) L) (n : Nat) (hn9 : n + 16 ≤ 601024) (nx : kS → Option kR) (hnx : ∀ σ, Sm (C, E, Q) 8 (n + 16) 1983 [(0, .ref b), (1, .ref (kad E 0 0)), (2, .ref (kad E 48 0)), (3, .ref (kad E 90 0)), (4, .int i)] [] σ (nx σ)) (σ : kS) : Sm (C, E, Q) 8 n 1958 [(0, .ref b), (1, .ref (kad E 0 0)), (2, .ref (kad E 48 0)), (3, .ref (kad E 90 0)), (4, .int i)] [] σ (q_count F (xs (i + 1).toNatClampNeg) nx σ) := by
  unfold q_count
  refine k_aload_n hk dL_law_1958 1 rfl ?_
  refine k_aload_n hk dL_law_1959 0 rfl ?_
  refine k_iload hk dL_law_1960 4 rfl ?_
  refine k_iconst (v := 1) hk dL_law_1962 (by decide) ?_
  refine k_iadd hk dL_law_1963 ?_
  refine k_scld hk hw h1 dL_law_1964 ?_
  refine k_callVHi (As := [.int (xs (i + 1).toNatClampNeg)]) (rest := []) hk hro (c_X5_count hj hn hl F ((xs (i + 1).toNatClampNeg)) σ) dL_law_1965 cw_RL_202 rfl (by decide) kc5 rfl ⟨Nat.le_of_ble_eq_true rfl, Nat.le_of_ble_eq_true rfl⟩ (by omega) rfl (Nat.le_of_ble_eq_true rfl) (fun c1 σ2 => ?_) (fun _ _ => kThr_no)
  refine k_aload_n hk dL_law_1968 2 rfl ?_
  refine k_aload_n hk dL_law_1969 0 rfl ?_
  refine k_iload hk dL_law_1970 4 rfl ?_
  refine k_iconst (v := 1) hk dL_law_1972 (by decide) ?_
  refine k_iadd hk dL_law_1973 ?_
  refine k_scld hk hw h1 dL_law_1974 ?_
  refine k_callVHi (As := [.int (xs (i + 1).toNatClampNeg)]) (rest := [.int c1]) hk hro (c_X6_count hj hn hl F ((xs (i + 1).toNatClampNeg)) σ2) dL_law_1975 cw_RL_205 rfl (by decide) kc6 rfl ⟨Nat.le_of_ble_eq_true rfl, Nat.le_of_ble_eq_true rfl⟩ (by omega) rfl (Nat.le_of_ble_eq_true rfl) (fun c3 σ4 => ?_) (fun _ _ => kThr_no)
  refine k_icmp_eq hk dL_law_1978 1983 (by decide) (fun g5 => ?_) (fun g5 => ?_)
  · refine k_wide (n' := n + 16) (by omega) ?_
    exact k_sub [0, 1, 2, 3, 4] rfl (hnx σ4)
  · refine k_iconst (v := 0) hk dL_law_1981 (by decide) ?_
    exact k_no
def kCase (F : Nat) (c a1 a2 a3 a4 a5 : Int32) (nx : kS → Option kR) (σ : kS) : Option kR := if c = 0 then q_feed F a1 a2 a3 a4 a5 nx σ else (if c = 1 then q_why F a1 nx σ else (if c = 2 then q_fault F  nx σ else (if c = 3 then q_weigh F a1 a2 nx σ else (if c = 4 then q_set F a1 a2 nx σ else (if c = 5 then q_fill F a1 a2 nx σ else (if c = 6 then q_state F a1 a2 a3 nx σ else (if c = 7 then q_cell F a1 a2 a3 a4 nx σ else (if c = 8 then q_run F a1 a2 nx σ else (if c = 9 then q_row F a1 a2 a3 a4 a5 nx σ else (if c = 10 then q_asked F a1 a2 nx σ else (if c = 11 then q_says F a1 a2 nx σ else (if c = 12 then q_odds F a1 nx σ else (if c = 13 then q_share F a1 nx σ else (if c = 14 then q_best F  nx σ else (if c = 15 then q_moved F a1 a2 nx σ else (if c = 16 then q_inquiry F a1 a2 nx σ else (if c = 17 then q_before F a1 a2 nx σ else (if c = 18 then q_burnt F a1 nx σ else (if c = 19 then q_option F a1 a2 a3 nx σ else (if c = 20 then q_safe F a1 a2 a3 nx σ else (if c = 21 then q_least F a1 a2 nx σ else (if c = 22 then q_all F a1 nx σ else (if c = 23 then q_next F a1 nx σ else (if c = 24 then q_parted F a1 a2 nx σ else (if c = 25 then q_order F a1 a2 nx σ else (if c = 26 then q_dry F a1 nx σ else (if c = 27 then q_image F  nx σ else (if c = 28 then q_restore F  nx σ else (if c = 29 then q_count F a1 nx σ else (nx σ))))))))))))))))))))))))))))))
set_option maxRecDepth 20000 in
theorem sl_case {l : Launch} {E : kE} (hj : kEj E) (hn : kNorm E) (hl : l.stackTraces = false) (h91 : kcnt E 91 = 0) {C : kC} {Q : kR → State → Prop} {b L : Nat} {xs : Nat → Int32} (hk : kOk (C, E, Q) cL_law RL 8) (hro : kRo C l 2048 84000 601024) (hw : kLw (C, E, Q) b L xs) (F : Nat) (i c : Int32) (h1 : kin (i + 1) L) (h2 : kin (i + 2) L) (h3 : kin (i + 3) L) (h4 : kin (i + 4) L) (h5 : kin (i + 5) L) (n : Nat) (hn9 : n + 16 ≤ 601024) (nx : kS → Option kR) (hnx : ∀ σ, Sm (C, E, Q) 8 (n + 16) 1983 [(0, .ref b), (1, .ref (kad E 0 0)), (2, .ref (kad E 48 0)), (3, .ref (kad E 90 0)), (4, .int i)] [] σ (nx σ)) (σ : kS) : Sm (C, E, Q) 8 n 40 [(0, .ref b), (1, .ref (kad E 0 0)), (2, .ref (kad E 48 0)), (3, .ref (kad E 90 0)), (4, .int i)] [.int c] σ (kCase F c (xs (i + 1).toNatClampNeg) (xs (i + 2).toNatClampNeg) (xs (i + 3).toNatClampNeg) (xs (i + 4).toNatClampNeg) (xs (i + 5).toNatClampNeg) nx σ) := by
  unfold kCase
  refine k_ite (fun e0 => ?_) (fun e0 => ?_)
  · exact k_tin (v := 0) hk dL_law_40 e0 (by decide) (by decide) rfl 176 (by decide) (sl_feed hj hn hl h91 hk hro hw F i h1 h2 h3 h4 h5 n hn9 nx hnx σ)
  refine k_ite (fun e1 => ?_) (fun e1 => ?_)
  · exact k_tin (v := 1) hk dL_law_40 e1 (by decide) (by decide) rfl 249 (by decide) (sl_why hj hn hl h91 hk hro hw F i h1 h2 h3 h4 h5 n hn9 nx hnx σ)
  refine k_ite (fun e2 => ?_) (fun e2 => ?_)
  · exact k_tin (v := 2) hk dL_law_40 e2 (by decide) (by decide) rfl 305 (by decide) (sl_fault hj hn hl h91 hk hro hw F i h1 h2 h3 h4 h5 n hn9 nx hnx σ)
  refine k_ite (fun e3 => ?_) (fun e3 => ?_)
  · exact k_tin (v := 3) hk dL_law_40 e3 (by decide) (by decide) rfl 318 (by decide) (sl_weigh hj hn hl h91 hk hro hw F i h1 h2 h3 h4 h5 n hn9 nx hnx σ)
  refine k_ite (fun e4 => ?_) (fun e4 => ?_)
  · exact k_tin (v := 4) hk dL_law_40 e4 (by decide) (by decide) rfl 386 (by decide) (sl_set hj hn hl h91 hk hro hw F i h1 h2 h3 h4 h5 n hn9 nx hnx σ)
  refine k_ite (fun e5 => ?_) (fun e5 => ?_)
  · exact k_tin (v := 5) hk dL_law_40 e5 (by decide) (by decide) rfl 454 (by decide) (sl_fill hj hn hl h91 hk hro hw F i h1 h2 h3 h4 h5 n hn9 nx hnx σ)
  refine k_ite (fun e6 => ?_) (fun e6 => ?_)
  · exact k_tin (v := 6) hk dL_law_40 e6 (by decide) (by decide) rfl 522 (by decide) (sl_state hj hn hl h91 hk hro hw F i h1 h2 h3 h4 h5 n hn9 nx hnx σ)
  refine k_ite (fun e7 => ?_) (fun e7 => ?_)
  · exact k_tin (v := 7) hk dL_law_40 e7 (by decide) (by decide) rfl 602 (by decide) (sl_cell hj hn hl h91 hk hro hw F i h1 h2 h3 h4 h5 n hn9 nx hnx σ)
  refine k_ite (fun e8 => ?_) (fun e8 => ?_)
  · exact k_tin (v := 8) hk dL_law_40 e8 (by decide) (by decide) rfl 694 (by decide) (sl_run hj hn hl h91 hk hro hw F i h1 h2 h3 h4 h5 n hn9 nx hnx σ)
  refine k_ite (fun e9 => ?_) (fun e9 => ?_)
  · exact k_tin (v := 9) hk dL_law_40 e9 (by decide) (by decide) rfl 762 (by decide) (sl_row hj hn hl h91 hk hro hw F i h1 h2 h3 h4 h5 n hn9 nx hnx σ)
  refine k_ite (fun e10 => ?_) (fun e10 => ?_)
  · exact k_tin (v := 10) hk dL_law_40 e10 (by decide) (by decide) rfl 866 (by decide) (sl_asked hj hn hl h91 hk hro hw F i h1 h2 h3 h4 h5 n hn9 nx hnx σ)
  refine k_ite (fun e11 => ?_) (fun e11 => ?_)
  · exact k_tin (v := 11) hk dL_law_40 e11 (by decide) (by decide) rfl 934 (by decide) (sl_says hj hn hl h91 hk hro hw F i h1 h2 h3 h4 h5 n hn9 nx hnx σ)
  refine k_ite (fun e12 => ?_) (fun e12 => ?_)
  · exact k_tin (v := 12) hk dL_law_40 e12 (by decide) (by decide) rfl 1009 (by decide) (sl_odds hj hn hl h91 hk hro hw F i h1 h2 h3 h4 h5 n hn9 nx hnx σ)
  refine k_ite (fun e13 => ?_) (fun e13 => ?_)
  · exact k_tin (v := 13) hk dL_law_40 e13 (by decide) (by decide) rfl 1064 (by decide) (sl_share hj hn hl h91 hk hro hw F i h1 h2 h3 h4 h5 n hn9 nx hnx σ)
  refine k_ite (fun e14 => ?_) (fun e14 => ?_)
  · exact k_tin (v := 14) hk dL_law_40 e14 (by decide) (by decide) rfl 1120 (by decide) (sl_best hj hn hl h91 hk hro hw F i h1 h2 h3 h4 h5 n hn9 nx hnx σ)
  refine k_ite (fun e15 => ?_) (fun e15 => ?_)
  · exact k_tin (v := 15) hk dL_law_40 e15 (by decide) (by decide) rfl 1133 (by decide) (sl_moved hj hn hl h91 hk hro hw F i h1 h2 h3 h4 h5 n hn9 nx hnx σ)
  refine k_ite (fun e16 => ?_) (fun e16 => ?_)
  · exact k_tin (v := 16) hk dL_law_40 e16 (by decide) (by decide) rfl 1201 (by decide) (sl_inquiry hj hn hl h91 hk hro hw F i h1 h2 h3 h4 h5 n hn9 nx hnx σ)
  refine k_ite (fun e17 => ?_) (fun e17 => ?_)
  · exact k_tin (v := 17) hk dL_law_40 e17 (by decide) (by decide) rfl 1269 (by decide) (sl_before hj hn hl h91 hk hro hw F i h1 h2 h3 h4 h5 n hn9 nx hnx σ)
  refine k_ite (fun e18 => ?_) (fun e18 => ?_)
  · exact k_tin (v := 18) hk dL_law_40 e18 (by decide) (by decide) rfl 1337 (by decide) (sl_burnt hj hn hl h91 hk hro hw F i h1 h2 h3 h4 h5 n hn9 nx hnx σ)
  refine k_ite (fun e19 => ?_) (fun e19 => ?_)
  · exact k_tin (v := 19) hk dL_law_40 e19 (by decide) (by decide) rfl 1393 (by decide) (sl_option hj hn hl h91 hk hro hw F i h1 h2 h3 h4 h5 n hn9 nx hnx σ)
  refine k_ite (fun e20 => ?_) (fun e20 => ?_)
  · exact k_tin (v := 20) hk dL_law_40 e20 (by decide) (by decide) rfl 1473 (by decide) (sl_safe hj hn hl h91 hk hro hw F i h1 h2 h3 h4 h5 n hn9 nx hnx σ)
  refine k_ite (fun e21 => ?_) (fun e21 => ?_)
  · exact k_tin (v := 21) hk dL_law_40 e21 (by decide) (by decide) rfl 1560 (by decide) (sl_least hj hn hl h91 hk hro hw F i h1 h2 h3 h4 h5 n hn9 nx hnx σ)
  refine k_ite (fun e22 => ?_) (fun e22 => ?_)
  · exact k_tin (v := 22) hk dL_law_40 e22 (by decide) (by decide) rfl 1628 (by decide) (sl_all hj hn hl h91 hk hro hw F i h1 h2 h3 h4 h5 n hn9 nx hnx σ)
  refine k_ite (fun e23 => ?_) (fun e23 => ?_)
  · exact k_tin (v := 23) hk dL_law_40 e23 (by decide) (by decide) rfl 1684 (by decide) (sl_next hj hn hl h91 hk hro hw F i h1 h2 h3 h4 h5 n hn9 nx hnx σ)
  refine k_ite (fun e24 => ?_) (fun e24 => ?_)
  · exact k_tin (v := 24) hk dL_law_40 e24 (by decide) (by decide) rfl 1740 (by decide) (sl_parted hj hn hl h91 hk hro hw F i h1 h2 h3 h4 h5 n hn9 nx hnx σ)
  refine k_ite (fun e25 => ?_) (fun e25 => ?_)
  · exact k_tin (v := 25) hk dL_law_40 e25 (by decide) (by decide) rfl 1808 (by decide) (sl_order hj hn hl h91 hk hro hw F i h1 h2 h3 h4 h5 n hn9 nx hnx σ)
  refine k_ite (fun e26 => ?_) (fun e26 => ?_)
  · exact k_tin (v := 26) hk dL_law_40 e26 (by decide) (by decide) rfl 1876 (by decide) (sl_dry hj hn hl h91 hk hro hw F i h1 h2 h3 h4 h5 n hn9 nx hnx σ)
  refine k_ite (fun e27 => ?_) (fun e27 => ?_)
  · exact k_tin (v := 27) hk dL_law_40 e27 (by decide) (by decide) rfl 1932 (by decide) (sl_image hj hn hl h91 hk hro hw F i h1 h2 h3 h4 h5 n hn9 nx hnx σ)
  refine k_ite (fun e28 => ?_) (fun e28 => ?_)
  · exact k_tin (v := 28) hk dL_law_40 e28 (by decide) (by decide) rfl 1945 (by decide) (sl_restore hj hn hl h91 hk hro hw F i h1 h2 h3 h4 h5 n hn9 nx hnx σ)
  refine k_ite (fun e29 => ?_) (fun e29 => ?_)
  · exact k_tin (v := 29) hk dL_law_40 e29 (by decide) (by decide) rfl 1958 (by decide) (sl_count hj hn hl h91 hk hro hw F i h1 h2 h3 h4 h5 n hn9 nx hnx σ)
  refine k_tout hk dL_law_40 (by have q0 := k_neI e0 (a := 0) (by decide); have q1 := k_neI e1 (a := 1) (by decide); have q2 := k_neI e2 (a := 2) (by decide); have q3 := k_neI e3 (a := 3) (by decide); have q4 := k_neI e4 (a := 4) (by decide); have q5 := k_neI e5 (a := 5) (by decide); have q6 := k_neI e6 (a := 6) (by decide); have q7 := k_neI e7 (a := 7) (by decide); have q8 := k_neI e8 (a := 8) (by decide); have q9 := k_neI e9 (a := 9) (by decide); have q10 := k_neI e10 (a := 10) (by decide); have q11 := k_neI e11 (a := 11) (by decide); have q12 := k_neI e12 (a := 12) (by decide); have q13 := k_neI e13 (a := 13) (by decide); have q14 := k_neI e14 (a := 14) (by decide); have q15 := k_neI e15 (a := 15) (by decide); have q16 := k_neI e16 (a := 16) (by decide); have q17 := k_neI e17 (a := 17) (by decide); have q18 := k_neI e18 (a := 18) (by decide); have q19 := k_neI e19 (a := 19) (by decide); have q20 := k_neI e20 (a := 20) (by decide); have q21 := k_neI e21 (a := 21) (by decide); have q22 := k_neI e22 (a := 22) (by decide); have q23 := k_neI e23 (a := 23) (by decide); have q24 := k_neI e24 (a := 24) (by decide); have q25 := k_neI e25 (a := 25) (by decide); have q26 := k_neI e26 (a := 26) (by decide); have q27 := k_neI e27 (a := 27) (by decide); have q28 := k_neI e28 (a := 28) (by decide); have q29 := k_neI e29 (a := 29) (by decide); omega) 1983 (by decide) ?_
  exact k_wide (n' := n + 16) (by omega) (hnx σ)
def kLaw (F L : Nat) (xs : Nat → Int32) : Nat → Int32 → kS → Option kR
  | 0, _, _ => none
  | N + 1, i, σ => if Int32.ofNat L - 6 < i then some (.inl (some (.int 1)), σ) else kg (kin i L ∧ kin (i + 1) L ∧ kin (i + 2) L ∧ kin (i + 3) L ∧ kin (i + 4) L ∧ kin (i + 5) L) (kCase F (xs i.toNatClampNeg &&& 31) (xs (i + 1).toNatClampNeg) (xs (i + 2).toNatClampNeg) (xs (i + 3).toNatClampNeg) (xs (i + 4).toNatClampNeg) (xs (i + 5).toNatClampNeg) (kLaw F L xs N (i + 6)) σ)
theorem sl_loop {l : Launch} {E : kE} (hj : kEj E) (hn : kNorm E) (hl : l.stackTraces = false) (h91 : kcnt E 91 = 0) {C : kC} {Q : kR → State → Prop} {b L : Nat} {xs : Nat → Int32} (hk : kOk (C, E, Q) cL_law RL 8) (hro : kRo C l 2048 84000 601024) (hw : kLw (C, E, Q) b L xs) (F : Nat) : ∀ (N : Nat) (i : Int32) (n : Nat) (σ : kS), n + 16 * N ≤ 601024 → Sm (C, E, Q) 8 n 23 [(0, .ref b), (1, .ref (kad E 0 0)), (2, .ref (kad E 48 0)), (3, .ref (kad E 90 0)), (4, .int i)] [] σ (kLaw F L xs N i σ)
  | 0, i, n, σ, _ => k_no
  | N + 1, i, n, σ, h => by
    unfold kLaw
    refine k_iload hk dL_law_23 4 rfl ?_
    refine k_aload_n hk dL_law_25 0 rfl ?_
    refine k_sclen hk hw dL_law_26 ?_
    refine k_bipush (v := 6) hk dL_law_27 (by decide) ?_
    refine k_isub hk dL_law_29 ?_
    refine k_icmp_gt hk dL_law_30 1989 (by decide) (fun g1 => ?_) (fun g1 => ?_)
    · refine k_iconst (v := 1) hk dL_law_1989 (by decide) ?_
      exact k_lawret hk hw dL_law_1990 (by omega)
    · refine k_guard (fun hg => ?_)
      obtain ⟨h0, h1, h2, h3, h4, h5⟩ := hg
      refine k_aload_n hk dL_law_33 0 rfl ?_
      refine k_iload hk dL_law_34 4 rfl ?_
      refine k_scld hk hw h0 dL_law_36 ?_
      refine k_bipush (v := 31) hk dL_law_37 (by decide) ?_
      refine k_iand hk dL_law_39 ?_
      refine sl_case hj hn hl h91 hk hro hw F i _ h1 h2 h3 h4 h5 n (by omega) _ (fun σ2 => ?_) σ
      refine k_iinc (lv' := [(4, .int (i + 6)), (0, .ref b), (1, .ref (kad E 0 0)), (2, .ref (kad E 48 0)), (3, .ref (kad E 90 0))]) (j := 4) (y := i + 6) hk dL_law_1983 rfl rfl (by decide) rfl ?_
      refine k_goto hk dL_law_1986 23 (by decide) ?_
      exact k_sub [1, 2, 3, 4, 0] rfl (sl_loop hj hn hl h91 hk hro hw F N (i + 6) (n + 16) σ2 (by omega))
