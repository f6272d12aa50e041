theorem bc_RL_95 : bCw RL 95 yX5_init cX5_init 2 := ⟨kTB_mk (lwt1 (List.mem_of_getElem? (i := 25) rfl)) rfl, kTB_mk (lwt1 (List.mem_of_getElem? (i := 1) rfl)) rfl, kTB_mk (lwt1 (List.mem_of_getElem? (i := 24) rfl)) rfl, ⟨by decide, by decide⟩, rfl, Or.inl (kTB_mk (lwt1 (List.mem_of_getElem? (i := 23) rfl)) rfl)⟩
theorem bc_RL_98 : bCw RL 98 yX6_init cX6_init 1 := ⟨kTB_mk (lwt5 (List.mem_of_getElem? (i := 76) rfl)) rfl, kTB_mk (lwt1 (List.mem_of_getElem? (i := 9) rfl)) rfl, kTB_mk (lwt5 (List.mem_of_getElem? (i := 75) rfl)) rfl, ⟨by decide, by decide⟩, rfl, Or.inl (kTB_mk (lwt5 (List.mem_of_getElem? (i := 74) rfl)) rfl)⟩
theorem kw_all {D : va_G} {cl : Nat → ClassId} {b : Nat} {z tx tv : Nat → Nat} {H : Heap} (hT : bAt (kE0 D cl b z tx tv) b (.inl (5, bv_X5 (kE0 D cl b z tx tv) (b + 1))) H) (hL : bL (kE0 D cl b z tx tv) (b + 1) (fL (kE0 D cl b z tx tv) (b + 1)) 753 H) : kWd (kE0 D cl b z tx tv) kS0 H := by
  have h : ∀ g, g < 92 → ∀ i, i < kCnt g → kCell (kE0 D cl b z tx tv) kS0 H g i := kAllS (kAllS (kAllS (kAllS (kAllS (kAllS (kAllS (kAllS (kAllS (kAllS (kAllS (kAllS (kAllS (kAllS (kAllS (kAllS (kAllS (kAllS (kAllS (kAllS (kAllS (kAllS (kAllS (kAllS (kAllS (kAllS (kAllS (kAllS (kAllS (kAllS (kAllS (kAllS (kAllS (kAllS (kAllS (kAllS (kAllS (kAllS (kAllS (kAllS (kAllS (kAllS (kAllS (kAllS (kAllS (kAllS (kAllS (kAllS (kAllS (kAllS (kAllS (kAllS (kAllS (kAllS (kAllS (kAllS (kAllS (kAllS (kAllS (kAllS (kAllS (kAllS (kAllS (kAllS (kAllS (kAllS (kAllS (kAllS (kAllS (kAllS (kAllS (kAllS (kAllS (kAllS (kAllS (kAllS (kAllS (kAllS (kAllS (kAllS (kAllS (kAllS (kAllS (kAllS (kAllS (kAllS (kAllS (kAllS (kAllS (kAllS (kAllS (kAllS (kAll0) (kw_0 hT)) (kw_1 hL)) (kw_2 hL)) (kw_3 hL)) (kw_4 hL)) (kw_5 hL)) (kw_6 hL)) (kw_7 hL)) (kw_8 hL)) (kw_9 hL)) (kw_10 hL)) (kw_11 hL)) (kw_12 hL)) (kw_13 hL)) (kw_14 hL)) (kw_15 hL)) (kw_16 hL)) (kw_17 hL)) (kw_18 hL)) (kw_19 hL)) (kw_20 hL)) (kw_21 hL)) (kw_22 hL)) (kw_23 hL)) (kw_24 hL)) (kw_25 hL)) (kw_26 hL)) (kw_27 hL)) (kw_28 hL)) (kw_29 hL)) (kw_30 hL)) (kw_31 hL)) (kw_32 hL)) (kw_33 hL)) (kw_34 hL)) (kw_35 hL)) (kw_36 hL)) (kw_37 hL)) (kw_38 hL)) (kw_39 hL)) (kw_40 hL)) (kw_41 hL)) (kw_42 hL)) (kw_43 hL)) (kw_44 hL)) (kw_45 hL)) (kw_46 hL)) (kw_47 hL)) (kw_48 hL)) (kw_49 hL)) (kw_50 hL)) (kw_51 hL)) (kw_52 hL)) (kw_53 hL)) (kw_54 hL)) (kw_55 hL)) (kw_56 hL)) (kw_57 hL)) (kw_58 hL)) (kw_59 hL)) (kw_60 hL)) (kw_61 hL)) (kw_62 hL)) (kw_63 hL)) (kw_64 hL)) (kw_65 hL)) (kw_66 hL)) (kw_67 hL)) (kw_68 hL)) (kw_69 hL)) (kw_70 hL)) (kw_71 hL)) (kw_72 hL)) (kw_73 hL)) (kw_74 hL)) (kw_75 hL)) (kw_76 hL)) (kw_77 hL)) (kw_78 hL)) (kw_79 hL)) (kw_80 hL)) (kw_81 hL)) (kw_82 hL)) (kw_83 hL)) (kw_84 hL)) (kw_85 hL)) (kw_86 hL)) (kw_87 hL)) (kw_88 hL)) (kw_89 hL)) (kw_90 hL)) (fun i hi => absurd hi (Nat.not_lt_zero i))
  intro g i hi
  have hi : i < kCnt g := hi
  by_cases hg : g < 92
  · exact h g hg i hi
  · have e : kCnt g = 0 := by
      unfold kCnt
      rw [List.getD_eq_getElem?_getD, List.getElem?_eq_none (show kCntL.length ≤ g from by show 92 ≤ g; omega)]
      rfl
    rw [e] at hi
    exact absurd hi (Nat.not_lt_zero i)
theorem kInv_ok : ∀ g, g < 92 → ∀ i, i < kCnt g → (g = 0 ∨ kInvL.getD (kOff g i) (0, 0) = (g, i)) := by decide +kernel
theorem kcnt_lt {g i : Nat} (h : i < kCnt g) : g < 92 := by
  by_cases hg : g < 92
  · exact hg
  · have e : kCnt g = 0 := by
      unfold kCnt
      rw [List.getD_eq_getElem?_getD, List.getElem?_eq_none (show kCntL.length ≤ g from by show 92 ≤ g; omega)]
      rfl
    rw [e] at h
    exact absurd h (Nat.not_lt_zero i)
theorem kEj0 {D : va_G} {cl : Nat → ClassId} {b : Nat} {z tx tv : Nat → Nat} : kEj (kE0 D cl b z tx tv) := by
  refine ⟨fun g i g' i' hi hi' he => ?_, fun g i hi => ?_⟩
  · have hi : i < kCnt g := hi
    have hi' : i' < kCnt g' := hi'
    have he : (if g = 0 then b else b + 1 + kOff g i) = (if g' = 0 then b else b + 1 + kOff g' i') := he
    by_cases h0 : g = 0
    · subst h0
      rw [if_pos rfl] at he
      by_cases h1 : g' = 0
      · subst h1
        have a1 : i < 1 := hi
        have a2 : i' < 1 := hi'
        exact ⟨rfl, by omega⟩
      · rw [if_neg h1] at he
        omega
    · rw [if_neg h0] at he
      by_cases h1 : g' = 0
      · subst h1
        rw [if_pos rfl] at he
        omega
      · rw [if_neg h1] at he
        have e1 : kOff g i = kOff g' i' := by omega
        have e2 := (kInv_ok g (kcnt_lt hi) i hi).resolve_left h0
        have e3 := (kInv_ok g' (kcnt_lt hi') i' hi').resolve_left h1
        rw [e1, e3] at e2
        cases e2
        exact ⟨rfl, rfl⟩
  · show b ≤ (if g = 0 then b else b + 1 + kOff g i)
    by_cases h0 : g = 0
    · rw [if_pos h0]
      exact Nat.le_refl b
    · rw [if_neg h0]
      omega
theorem kNorm0 {D : va_G} {cl : Nat → ClassId} {b : Nat} {z tx tv : Nat → Nat} : kNorm (kE0 D cl b z tx tv) := ⟨fun g => Nat.le_refl _, fun g i k => rfl⟩
theorem kTi_ok : ∀ g, g < 92 → kTiL.getD g 0 < 7 ∧ (match kSh g with | .inr (ty, _) => decide (ty = bty (kTiL.getD g 0)) | _ => true) = true := by decide +kernel
theorem kEs0 {D : va_G} {cl : Nat → ClassId} {b : Nat} {z tx tv : Nat → Nat} {s : State} (hG : ∀ (ci : Nat) (q : vw_C), vwCl[ci]? = some q → u_Kn s q.1 q.2.1 q.2.2 (D.1 ci) (D.2 ci)) (hcl : ∀ t, t < 7 → va_RA s (cl t) (bty t) ∧ ArrOfT s (cl t) (bty t)) : kEs (kE0 D cl b z tx tv) s := by
  refine ⟨hG, fun g ty len hg hc => ?_⟩
  have hlt : g < 92 := kcnt_lt (i := 0) hc
  obtain ⟨h1, h2⟩ := kTi_ok g hlt
  rw [hg] at h2
  have e : ty = bty (kTiL.getD g 0) := of_decide_eq_true h2
  rw [e]
  exact (hcl _ h1).2
theorem bF0 {D : va_G} {cl : Nat → ClassId} {b : Nat} {z tx tv : Nat → Nat} {s : State} (hcl : ∀ t, t < 7 → va_RA s (cl t) (bty t) ∧ ArrOfT s (cl t) (bty t)) (h6 : ∃ kA : Class, s.vm.classes[cl 6]? = some kA ∧ kA.kind = .array (cl 0) (.array .int)) : bF (kE0 D cl b z tx tv) s := by
  refine ⟨?_, h6⟩
  exact kAllS (kAllS (kAllS (kAllS (kAllS (kAllS (kAllS kAll0 (hcl 0 (by decide)).1) (hcl 1 (by decide)).1) (hcl 2 (by decide)).1) (hcl 3 (by decide)).1) (hcl 4 (by decide)).1) (hcl 5 (by decide)).1) (hcl 6 (by decide)).1
theorem k_room {p : Program} {l : Launch} {e : Env} {R R' : Room} {s : State} {m : MethodId} {args : Array Value} {below : List Frame} {meth : Method} {c : Code} {H : Heap} {locs : List Loc} {cells slots : Nat} {Q : State → Prop} {g : JFrame} (h1 : R'.frames ≤ R.frames) (h2 : R'.locals ≤ R.locals) (h3 : R'.cells ≤ R.cells) (h4 : R'.slots ≤ R.slots) (k : W p l e R' s m args below meth c H locs cells slots Q g) : W p l e R s m args below meth c H locs cells slots Q g := by
  intro T hT X
  refine k T hT ⟨X.admits, X.cas, X.clock, X.frames, ?_, X.hears, X.method, X.code, X.here, X.tail, X.warmed, X.limits, X.bytes, X.same⟩
  have h7 := X.room
  simp only [State.hasRoom, Bool.and_eq_true, decide_eq_true_eq] at h7 ⊢
  obtain ⟨⟨⟨⟨a1, a2⟩, a3⟩, a4⟩, a5⟩ := h7
  refine ⟨⟨⟨⟨?_, ?_⟩, ?_⟩, ?_⟩, a5⟩
  · omega
  · obtain ⟨b1, b2, b3, b4, b5⟩ := a2
    exact ⟨by omega, by omega, by omega, by omega, b5⟩
  · omega
  · omega
/-- what is owed of the functions: every script is answered with 1 -/
def kPure : Prop := ∀ (L : Nat) (xs : Nat → Int32), L ≤ 3072 → ∃ σ, kLaw 2000 L xs 513 0 kS0 = some (.inl (some (.int 1)), σ)
/-- what holds at the law's entry: the machine, the code, the tables' words (any of lw_tbl by 'hts w (by decide +kernel)'), the script of L ints xs at the cell b, what the Statement gives of the start (any of its parts by flat_of_before) -/
def lw_At (p : Program) (s : State) (m : MethodId) (meth : Method) (c : Code) (b L : Nat) (xs : Nat → Int32) : Prop :=
  p.tables.exec = Jvm.exec ∧ c.code = code ∧ meth.sig.returnType = ret ∧ c.maxLocals = 8 ∧ s.vm.findClass R_law = some m.cls ∧ (∀ w ∈ lw_tbl, w.before #[Value.ref b] s = true) ∧ va_X b L xs s s.heap ∧ b < s.heap.size ∧ meth.locks = false ∧ (Jvm.Cond.and given_1 narrow_1).before #[Value.ref b] s = true
set_option maxRecDepth 20000 in
theorem ws_start {p : Program} {e : Env} {s : State} {m : MethodId} {below : List Frame} {meth : Method} {c : Code} (l : Launch) (hl9 : l.stackTraces = false) (hp : kPure) {b L : Nat} {xs : Nat → Int32} (hL : L ≤ 3072) (C0 : lw_At p s m meth c b L xs) : W p l e room_1 s m #[Value.ref b] below meth c s.heap [] 0 0 (lw_Z below #[Value.ref b] s) (entryFrame m ([Value.ref b] : List Value).toArray 8) := by
  obtain ⟨hx, hb, hr, hml, hown, hts, hX, hbl, hlk, hgv⟩ := C0
  have hA : ∀ a : Nat, a < s.heap.size → ¬ (fun q : Nat => s.heap.size ≤ q) a := fun a h q => absurd q (Nat.not_le.mpr h)
  obtain ⟨D, hG⟩ := st_cls hts
  obtain ⟨cl, hcl, hcl6⟩ := st_arr hts
  obtain ⟨z0, hz0⟩ := st_tab0 (A := fun q : Nat => s.heap.size ≤ q) hts hgv hA
  obtain ⟨z1, hz1⟩ := st_tab1 (A := fun q : Nat => s.heap.size ≤ q) hts hgv hA
  obtain ⟨z2, hz2⟩ := st_tab2 (A := fun q : Nat => s.heap.size ≤ q) hts hgv hA
  obtain ⟨tx, tv, hS, hev⟩ := st_tx (A := fun q : Nat => s.heap.size ≤ q) hts hgv hA
  have hEs := kEs0 (b := s.heap.size) (z := fun j => [z0, z1, z2].getD j 0) (tx := tx) (tv := tv) hG hcl
  have hF := bF0 (D := D) (b := s.heap.size) (z := fun j => [z0, z1, z2].getD j 0) (tx := tx) (tv := tv) hcl hcl6
  have hZ : kZ (kE0 D cl s.heap.size (fun j => [z0, z1, z2].getD j 0) tx tv) s s.heap := st_kz hts hgv hA (kAllS (kAllS (kAllS kAll0 hz0) hz1) hz2) hS (st_vr hts hev)
  have hNw : bNw s := st_nw hts
  have hkT : ∀ w ∈ kTB, w.before #[Value.ref b] s = true := fun w hw => hts w (kTB_in hw)
  generalize hz9 : (fun j => [z0, z1, z2].getD j 0) = z at hEs hF hZ
  have hkB : bOk (p, l, e, room_1, s, m, #[Value.ref b], below, meth, c) (kE0 D cl s.heap.size z tx tv) cL_law RL 8 := ⟨hx, hb, hml, hown, hkT, hEs, hZ, hF, hNw, hlk⟩
  have hroB : bRo (p, l, e, room_1, s, m, #[Value.ref b], below, meth, c) 2048 84000 601024 7293034 := rfl
  have h8 : 0 < kcnt (kE0 D cl s.heap.size z tx tv) 8 := Nat.zero_lt_one
  rw [lg_entry_eq]
  have hl := lv_entry (n := 8) [Value.ref b] (Nat.le_of_ble_eq_true rfl)
  generalize (lg_sl [Value.ref b] ++ List.replicate (8 - (lg_sl [Value.ref b]).length) Slot.unset).toArray = ls at hl ⊢
  have hl : lv_has ls 8 [(0, .ref b)] := hl
  refine W.newcK (n := 13) hx hb hown (hts _ (lwt1 (List.mem_of_getElem? (i := 21) rfl))) (hts _ (lwt1 (List.mem_of_getElem? (i := 22) rfl))) (hts _ (lwt1 (List.mem_of_getElem? (i := 1) rfl))) rfl dL_law_0 (Nat.le_of_ble_eq_true rfl) (Nat.le_of_ble_eq_true rfl) (hG 5 _ kc5.1).2.1 rfl (fun H1 kC hkC e1 e2 e3 => ?_)
  have hT0 : bAt (kE0 D cl s.heap.size z tx tv) s.heap.size (.inl (5, bV5)) H1 := (u_born tyX5 hkT kc5.2.2.1 (hG 5 _ kc5.1) hkC e1 kc5.2.2.2.1).to (by decide)
  have K : bS (p, l, e, room_1, s, m, #[Value.ref b], below, meth, c) (kE0 D cl s.heap.size z tx tv) 8 (0 + 1) (0 + 13) 3 [(0, .ref b)] [.ref s.heap.size] s.heap.size 5 bV5 (s.heap.size + 1) bNil 0 (lw_Z below #[Value.ref b] s) := by
    refine b_dup hkB dL_law_3 rfl ?_
    refine b_initT hkB rfl hroB (bm_X5 h8) dL_law_4 rfl bc_RL_95 ⟨by decide, by decide⟩ ⟨by decide, by decide⟩ (Nat.le_of_ble_eq_true rfl) ?_
    refine b_astore_n (lv' := [(1, .ref s.heap.size), (0, .ref b)]) hkB dL_law_7 (by decide) rfl ?_
    refine b_new (V2 := bV6) hkB hroB dL_law_8 kc6 (kTB_mk (lwt5 (List.mem_of_getElem? (i := 72) rfl)) rfl) (kTB_mk (lwt5 (List.mem_of_getElem? (i := 73) rfl)) rfl) (kTB_mk (lwt1 (List.mem_of_getElem? (i := 9) rfl)) rfl) (by decide) ⟨by decide, by decide⟩ ?_
    refine b_dup hkB dL_law_11 rfl ?_
    refine b_init (i := 188) hkB rfl hroB (bm_X6 h8) dL_law_12 (by decide) rfl bc_RL_98 ⟨by decide, by decide⟩ ⟨by decide, by decide⟩ (Nat.le_of_ble_eq_true rfl) ?_
    refine b_astore_n (lv' := [(2, .ref (s.heap.size + 1 + 188)), (1, .ref s.heap.size), (0, .ref b)]) hkB dL_law_15 (by decide) rfl ?_
    refine b_iconst (v := 1) hkB dL_law_16 (by decide) ?_
    refine b_newa (t := 1) (N := 1) (z := .long 0) hkB hroB dL_law_17 (by decide) (kTB_mk (lwt2 (List.mem_of_getElem? (i := 80) rfl)) rfl) (fun _ _ q => q) rfl (by decide) (by decide) (by decide) ⟨by decide, by decide⟩ ?_
    refine b_astore_n (lv' := [(3, .ref (s.heap.size + 1 + 752)), (2, .ref (s.heap.size + 1 + 188)), (1, .ref s.heap.size), (0, .ref b)]) hkB dL_law_19 (by decide) rfl ?_
    refine b_iconst (v := 0) hkB dL_law_20 (by decide) ?_
    refine b_istore (lv' := [(4, .int 0), (3, .ref (s.heap.size + 1 + 752)), (2, .ref (s.heap.size + 1 + 188)), (1, .ref s.heap.size), (0, .ref b)]) hkB dL_law_21 (by decide) rfl ?_
    intro H locs ls hT hh hLb hS2 hl2
    have hWd : kWd (kE0 D cl s.heap.size z tx tv) kS0 H := kw_all hT hLb
    obtain ⟨σ', hσ⟩ := hp L xs hL
    have hk2 : kOk ((p, l, e, kRm 2048 84000 601024, s, m, #[Value.ref b], below, meth, c), kE0 D cl s.heap.size z tx tv, fun _ => lw_Z below #[Value.ref b] s) cL_law RL 8 := ⟨hx, hb, hml, hown, hkT, hEs, hZ, Nat.le_refl _, kEj0, kNorm0, hl9, hlk⟩
    have hlp := sl_loop kEj0 kNorm0 hl9 rfl hk2 ⟨rfl, rfl⟩ (b := b) (L := L) (xs := xs) ⟨rfl, hX, hbl, rfl, hr, fun _ => rfl⟩ 2000 513 0 3300 kS0 (by decide) _ hσ H locs ls hWd (hS2.mono (fun q hq => by show s.heap.size ≤ q; omega)) (lv_sub hl2 [4, 3, 2, 1, 0] rfl)
    exact k_room (R' := kRm 2048 84000 601024) (by decide) (by decide) (by decide) (by decide) (W.widen (Nat.le_of_ble_eq_true rfl) (Nat.le_of_ble_eq_true rfl) hlp)
  exact K H1 [] ls hT0 ⟨Nat.lt_succ_self _, Nat.le_refl _⟩ ⟨by rw [e2], fun j hj => absurd hj (Nat.not_lt_zero j)⟩ ⟨by rw [e2]; omega, fun q h1 h2 => e3 q h1, fun q hq => absurd hq List.not_mem_nil⟩ hl
