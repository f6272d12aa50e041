/-! THE MAKING: the copy of the first numbers and a row filled, as rules. -/
def bFPc (E : kE) (q len : Nat) (x : Int32) (W0 : Nat → Value) : Array Value → State → Prop := fun v U => v = #[.ref q, .int x] ∧ U.heap[q]? = some (arrV (kcA E 8) len W0) ∧ ArrOfT U (kcA E 8) .int
def bFQc (E : kE) (q len : Nat) (x : Int32) : Array Value → State → Outcome → State → Prop := fun _ st o t => o = .returned none ∧ t.heap[q]? = some (arrV (kcA E 8) len (fun _ => .int x)) ∧ t.heap.size = st.heap.size ∧ ∀ z, z ≠ q → t.heap[z]? = st.heap[z]?
theorem c_bfill {l : Launch} {E : kE} (q len : Nat) (hlen : len < 1000) (x : Int32) (W0 : Nat → Value) : Met l yJ7_fill_53178 (.code yJ7_fill_53178 cJ7_fill_53178 4 none :: kTB) (bRm 0 0 0 0) (bFPc E q len x W0) (bFQc E q len x) 0 0 (fun z => z = q) := by
  refine Met.ofW (cc := cJ7_fill_53178) (maxL := 4) (ret := none) (by decide) rfl ?_
  intro p e s m args below meth c s₁ B hml hv
  obtain ⟨rfl, hA, hT⟩ := hv
  have hx := B.exec
  have hb := B.bytes
  rw [show (#[Value.ref q, Value.int x] : Array Value) = ([Value.ref q, Value.int x] : List Value).toArray from rfl, lg_entry_eq]
  have hl := lv_entry (n := 4) [Value.ref q, Value.int x] (Nat.le_of_ble_eq_true rfl)
  generalize (lg_sl [Value.ref q, Value.int x] ++ List.replicate (4 - (lg_sl [Value.ref q, Value.int x]).length) Slot.unset).toArray = ls at hl ⊢
  have hl : lv_has ls 4 [(0, .ref q), (1, .int x)] := hl
  refine lv_iconst (v := 0) hx hb dJ7_fill_53178_0 (by decide) ?_
  refine lv_istore_n (lv' := [(2, .int 0), (0, .ref q), (1, .int x)]) hx hb dJ7_fill_53178_1 rfl hl (by decide) rfl (fun ls hl => ?_)
  refine lv_aload_n hx hb dJ7_fill_53178_2 rfl (lv_at hl 1 rfl) ?_
  refine W.alen (n := nI len) hx hb hA (hT len W0) (by rw [arrV_size]; rfl) rfl rfl dJ7_fill_53178_3 ?_
  refine lv_istore_n (lv' := [(3, .int (nI len)), (2, .int 0), (0, .ref q), (1, .int x)]) hx hb dJ7_fill_53178_4 rfl hl (by decide) rfl (fun ls hl => ?_)
  exact bw_fill (W0 := W0) hx hb B.returns B.notSynchronized hT hlen (fun H' e1 e2 e3 t ht => ⟨rfl, by rw [ht]; exact e1, by rw [ht]; exact e2, fun z hz => by rw [ht]; exact e3 z hz⟩) len 0 (by omega) s.heap [] ls (by rw [hA]; exact congrArg some (arrV_congr (fun j hj => (if_neg (Nat.not_lt_zero j)).symm))) rfl (fun z hz => rfl) (fun z hz => absurd hz List.not_mem_nil) (lv_sub hl [2, 3, 1, 0] rfl)
section BF
variable {C : kC} {E : kE} {Q : State → Prop} {cc : ByteArray} {own : String} {nL nc ns pc : Nat} {lv : List (Nat × Value)} {rest : List Value} {a ci : Nat} {V : Nat → Value} {h : Nat} {f : Nat → bC} {K : Nat}
theorem b_fill {fr0 lo0 mc ms idx i len : Nat} {x : Int32} {W0 : Nat → Value} (hk : bOk C E cc own nL) (hro : bRo C fr0 lo0 mc ms) (d : decode cc pc = .ok (.invokestatic idx, 3)) (hcw : kCs own idx yJ7_fill_53178 cJ7_fill_53178 4 2 none) (hi : i < K) (hf : f i = .inr (kcA E 8, len, W0)) (hlen : len < 1000) (h8 : 0 < kcnt E 8) (hR : 1 ≤ fr0 ∧ 23 ≤ lo0) (hN : nc ≤ mc ∧ ns ≤ ms) (hcat : (rest.map fun v => v.category).sum ≤ 8)
    (k : bS C E nL nc ns (pc + 3) lv rest a ci V h (bU f i (.inr (kcA E 8, len, fun _ => .int x))) K Q) : bS C E nL nc ns pc lv (.int x :: .ref (h + i) :: rest) a ci V h f K Q := by
  obtain ⟨p, l, e, R, s, m, args, below, meth, c⟩ := C
  obtain ⟨hx, hb, hml, hown, hts, hEs, hZ, hF, hNw, hlk⟩ := hk
  have hro : R = bRm fr0 lo0 mc ms := hro
  subst hro
  obtain ⟨⟨w1, w2, w3, w4, w5, w6⟩, w7⟩ := hcw
  intro H locs ls hT hh hL hS hl
  have h1 := hL.2 i hi
  rw [hf] at h1
  have h1 : H[h + i]? = some (arrV (kcA E 8) len W0) := h1
  have run := va_runS (p := p) (l := l) (e := e) (R := bRm fr0 lo0 mc ms) (s := s) (m := m) (args := args) (below := below) (meth := meth) (c := c) (H := H) (locs := locs) (cells := nc) (slots := ns) (g := F0 m pc ls (.int x :: .ref (h + i) :: rest)) (rest := rest) (Ts := kTB) (As := [.ref (h + i), .int x]) (bytes := cJ7_fill_53178) (maxL := 4) (ret := none) (n := 2) (nL := nL) (own := own) (index := idx) ⟨hx, hb, hml, hown, hts⟩ (c_bfill (l := l) (E := E) (h + i) len hlen x W0) ⟨⟨rfl, rfl, hR.1, hR.2, kWs hts w1, List.mem_cons_self, hts _ w1, hts _ w3, ⟨w4, w5⟩, fun sig hs => by rw [hs] at w6; exact (Option.some.inj w6).symm, hts _ w2⟩, hts _ w7⟩ ⟨fun b U g mk q => ⟨q.1, q.2.1, (show ArrOfT (U.calling g mk b) (kcA E 8) .int from arrOfT_moved (Vm.Alike.refl U.vm) q.2.2)⟩, fun U hU hW => ⟨rfl, by rw [hU]; exact h1, arrOfT_moved hW.alike (hEs.2 8 .int 6 rfl h8)⟩⟩ rfl rfl hl.1 rfl (lv_room hcat) d hN
  intro T hTT X
  obtain ⟨v, st₀, t, T', L, h0, X', hLf, e1, e2, ⟨hv, q1, q2, q3⟩, st⟩ := run T hTT X
  have hv : v = none := Outcome.returned.inj hv
  subst hv
  rw [← e1] at q1 q2
  have q4 : ∀ q, q ≠ h + i → T'.heap[q]? = H[q]? := fun q z => by
    rw [e1, q3 q z, h0]
  have q5 : T'.heap.size = H.size := by rw [q2, h0]
  have w := k T'.heap (locs ++ L) ls (hT.kept (q4 a (Nat.ne_of_lt (Nat.lt_of_lt_of_le hh.1 (Nat.le_add_right h i))))) hh (hL.set hi q5 q4 q1) ⟨by rw [q5]; exact hS.1, fun q z1 z2 => (q4 q (fun z => z2 (Or.inr (by rw [z]; exact Nat.le_add_right h i)))).trans (hS.2.1 q z1 z2), fun q hq => ?_⟩ hl T' rfl X'
  · obtain ⟨t2, a1, b1⟩ := w
    exact ⟨t2, st t2 a1, b1⟩
  · rcases List.mem_append.mp hq with z | z
    · exact hS.2.2 q z
    · exact Or.inr (by rw [show q.base = h + i from hLf q z]; exact Nat.le_add_right h i)
theorem b_acopy {fr0 lo0 mc ms idx i : Nat} (hk : bOk C E cc own nL) (hro : bRo C fr0 lo0 mc ms) (d : decode cc pc = .ok (.invokestatic idx, 3)) (hw : kAc own idx) (hi : i < K) (hf : f i = .inr (kcA E 8, 10, fun _ => .int 0)) (h8 : 0 < kcnt E 8) (hR : 1 ≤ fr0 ∧ (rest.map fun v => v.category).sum + (nativeFrameWords "java/lang/System" "arraycopy" 5 + 11) ≤ lo0)
    (k : bS C E nL nc ns (pc + 3) lv rest a ci V h (bU f i (.inr (kcA E 8, 10, fun j => .int ((kZv 0).getD j 0)))) K Q) : bS C E nL nc ns pc lv (.int 10 :: .int 0 :: .ref (h + i) :: .int 0 :: .ref (kz E 0) :: rest) a ci V h f K Q := by
  obtain ⟨p, l, e, R, s, m, args, below, meth, c⟩ := C
  obtain ⟨hx, hb, hml, hown, hts, hEs, hZ, hF, hNw, hlk⟩ := hk
  have hro : R = bRm fr0 lo0 mc ms := hro
  subst hro
  intro H locs ls hT hh hL hS hl
  have h1 := hL.2 i hi
  rw [hf] at h1
  have h1 : H[h + i]? = some (arrV (kcA E 8) 10 (fun _ => .int 0)) := h1
  have hSA := hS.mono (B := kA E) (fun q hq => by show kbase E ≤ q; omega)
  obtain ⟨cs, c1, c2, c3, c4, c5, c6, c7⟩ := ((hZ.1 0 (by decide)).2.kept hSA.2.1)
  refine bw_copy (f := fun j => (kZv 0).getD j 0) (g := fun _ => 0) (n0 := 10) (n := 10) hx hb (hml.trans hl.1.symm) hown (hts _ hw.1) (hts _ hw.2.1) (hts _ hw.2.2.1) (hts _ hw.2.2.2) c1 c2 c3 c4 c6 h1 (hEs.2 8 .int 6 rfl h8) (by decide) (by decide) (by decide) hR.1 hR.2 d (fun H1 locs1 e1 e2 e3 e4 => ?_)
  refine k H1 locs1 ls (hT.kept (e3 a (Nat.ne_of_lt (Nat.lt_of_lt_of_le hh.1 (Nat.le_add_right h i))))) hh (hL.set hi e2 e3 ?_) ⟨by rw [e2]; exact hS.1, fun q z1 z2 => (e3 q (fun z => z2 (Or.inr (by rw [z]; exact Nat.le_add_right h i)))).trans (hS.2.1 q z1 z2), fun q hq => ?_⟩ hl
  · show H1[h + i]? = some (arrV (kcA E 8) 10 (fun j => .int ((kZv 0).getD j 0)))
    rw [e1]
    refine congrArg some (arrV_congr (fun j hj => ?_))
    show Value.int (va_cpy _ _ 0 0 10 j) = _
    unfold va_cpy
    rw [if_pos (by omega)]
    rw [show 0 + (j - 0) = j by omega]
  · rcases e4 q hq with z | z
    · exact hS.2.2 q z
    · exact Or.inr (by rw [z]; exact Nat.le_add_right h i)
end BF
