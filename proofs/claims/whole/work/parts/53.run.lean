/-! RUNNING: o gives back a value and a state of which P is so. -/
def Rn (o : Option kR) (P : Option Value → kS → Prop) : Prop := match o with
  | some (.inl v, σ) => P v σ
  | _ => False
abbrev RI (o : Option kR) (P : Int32 → kS → Prop) : Prop := Rn o (fun v σ => ∃ r, v = some (.int r) ∧ P r σ)
abbrev RLo (o : Option kR) (P : Int64 → kS → Prop) : Prop := Rn o (fun v σ => ∃ r, v = some (.long r) ∧ P r σ)
abbrev RV (o : Option kR) (P : kS → Prop) : Prop := Rn o (fun v σ => v = none ∧ P σ)
theorem Rn.get {o : Option kR} {P : Option Value → kS → Prop} (h : Rn o P) : ∃ v σ, o = some (.inl v, σ) ∧ P v σ := by
  match o, h with
  | some (.inl v, σ), h => exact ⟨v, σ, rfl, h⟩
theorem Rn.mono {o : Option kR} {P Q : Option Value → kS → Prop} (h : Rn o P) (hq : ∀ v σ, P v σ → Q v σ) : Rn o Q := by
  obtain ⟨v, σ, rfl, p⟩ := h.get
  exact hq v σ p
theorem ri_mono {o : Option kR} {P Q : Int32 → kS → Prop} (h : RI o P) (hq : ∀ r σ, P r σ → Q r σ) : RI o Q := Rn.mono h fun v σ ⟨r, e, p⟩ => ⟨r, e, hq r σ p⟩
theorem rl_mono {o : Option kR} {P Q : Int64 → kS → Prop} (h : RLo o P) (hq : ∀ r σ, P r σ → Q r σ) : RLo o Q := Rn.mono h fun v σ ⟨r, e, p⟩ => ⟨r, e, hq r σ p⟩
theorem rv_mono {o : Option kR} {P Q : kS → Prop} (h : RV o P) (hq : ∀ σ, P σ → Q σ) : RV o Q := Rn.mono h fun v σ ⟨e, p⟩ => ⟨e, hq σ p⟩
theorem ri_get {o : Option kR} {P : Int32 → kS → Prop} (h : RI o P) : ∃ r σ, o = some (.inl (some (.int r)), σ) ∧ P r σ := by
  obtain ⟨v, σ, rfl, r, rfl, p⟩ := Rn.get h
  exact ⟨r, σ, rfl, p⟩
theorem rl_get {o : Option kR} {P : Int64 → kS → Prop} (h : RLo o P) : ∃ r σ, o = some (.inl (some (.long r)), σ) ∧ P r σ := by
  obtain ⟨v, σ, rfl, r, rfl, p⟩ := Rn.get h
  exact ⟨r, σ, rfl, p⟩
theorem rv_get {o : Option kR} {P : kS → Prop} (h : RV o P) : ∃ σ, o = some (.inl none, σ) ∧ P σ := by
  obtain ⟨v, σ, rfl, rfl, p⟩ := Rn.get h
  exact ⟨σ, rfl, p⟩
theorem ri_eq {o : Option kR} {P : Int32 → kS → Prop} {r : Int32} {σ : kS} (e : o = some (.inl (some (.int r)), σ)) (p : P r σ) : RI o P := by
  subst e
  exact ⟨r, rfl, p⟩
theorem rl_eq {o : Option kR} {P : Int64 → kS → Prop} {r : Int64} {σ : kS} (e : o = some (.inl (some (.long r)), σ)) (p : P r σ) : RLo o P := by
  subst e
  exact ⟨r, rfl, p⟩
theorem rv_eq {o : Option kR} {P : kS → Prop} {σ : kS} (e : o = some (.inl none, σ)) (p : P σ) : RV o P := by
  subst e
  exact ⟨rfl, p⟩
theorem n_i {x : Int32} {σ : kS} {P : Int32 → kS → Prop} (h : P x σ) : RI (some (.inl (some (.int x)), σ)) P := ⟨x, rfl, h⟩
theorem n_l {x : Int64} {σ : kS} {P : Int64 → kS → Prop} (h : P x σ) : RLo (some (.inl (some (.long x)), σ)) P := ⟨x, rfl, h⟩
theorem n_v {σ : kS} {P : kS → Prop} (h : P σ) : RV (some (.inl none, σ)) P := ⟨rfl, h⟩
theorem n_bi {o : Option kR} {f : Int32 → kS → Option kR} {P : Int32 → kS → Prop} {Q : Option Value → kS → Prop} (h : RI o P) (k : ∀ r σ, P r σ → Rn (f r σ) Q) : Rn (kBi o f) Q := by
  obtain ⟨r, σ, rfl, p⟩ := ri_get h
  exact k r σ p
theorem n_bl {o : Option kR} {f : Int64 → kS → Option kR} {P : Int64 → kS → Prop} {Q : Option Value → kS → Prop} (h : RLo o P) (k : ∀ r σ, P r σ → Rn (f r σ) Q) : Rn (kBl o f) Q := by
  obtain ⟨r, σ, rfl, p⟩ := rl_get h
  exact k r σ p
theorem n_bv {o : Option kR} {f : kS → Option kR} {P : kS → Prop} {Q : Option Value → kS → Prop} (h : RV o P) (k : ∀ σ, P σ → Rn (f σ) Q) : Rn (kBv o f) Q := by
  obtain ⟨σ, rfl, p⟩ := rv_get h
  exact k σ p
theorem n_br {o : Option kR} {f : Nat → kS → Option kR} {P : Int32 → kS → Prop} {Q : Option Value → kS → Prop} (h : RI o P) (k : ∀ r σ, P r σ → kin r 6 ∧ Rn (f r.toNatClampNeg σ) Q) : Rn (kBr o f) Q := by
  obtain ⟨r, σ, rfl, p⟩ := ri_get h
  obtain ⟨h1, h2⟩ := k r σ p
  show Rn (kg (kin r 6) _) Q
  rw [kg_t h1]
  exact h2
theorem n_g {c : Prop} [Decidable c] {o : Option kR} {Q : Option Value → kS → Prop} (h : c) (k : Rn o Q) : Rn (kg c o) Q := by
  rw [kg_t h]
  exact k
theorem n_b {α : Type} {x : α} {f : α → Option kR} {Q : Option Value → kS → Prop} (k : Rn (f x) Q) : Rn (kb x f) Q := k
theorem n_if {c : Prop} [Decidable c] {a b : Option kR} {Q : Option Value → kS → Prop} (h1 : c → Rn a Q) (h2 : ¬ c → Rn b Q) : Rn (if c then a else b) Q := by
  by_cases h : c
  · rw [if_pos h]; exact h1 h
  · rw [if_neg h]; exact h2 h
theorem n_fix {α : Type} {b : (α → kS → Option kR) → α → kS → Option kR} {Q : Option Value → kS → Prop} (I : Nat → α → kS → Prop) (st : ∀ (rr : α → kS → Option kR) (n : Nat) (a : α) (σ : kS), I n a σ → (∀ n' a' σ', n' < n → I n' a' σ' → Rn (rr a' σ') Q) → Rn (b rr a σ) Q) : ∀ (N n : Nat) (a : α) (σ : kS), n < N → I n a σ → Rn (kFix b N a σ) Q
  | 0, n, a, σ, h, _ => absurd h (Nat.not_lt_zero _)
  | N + 1, n, a, σ, h, hi => st (kFix b N) n a σ hi (fun n' a' σ' h' hi' => n_fix I st N n' a' σ' (by omega) hi')
theorem s_bi {r : Int32} {σ : kS} {f : Int32 → kS → Option kR} : kBi (some (.inl (some (.int r)), σ)) f = f r σ := rfl
theorem s_bl {r : Int64} {σ : kS} {f : Int64 → kS → Option kR} : kBl (some (.inl (some (.long r)), σ)) f = f r σ := rfl
theorem s_bv {σ : kS} {f : kS → Option kR} : kBv (some (.inl none, σ)) f = f σ := rfl
theorem s_xi {x : String} {σ : kS} {f : Int32 → kS → Option kR} : kBi (some (.inr x, σ)) f = some (.inr x, σ) := rfl
theorem s_xl {x : String} {σ : kS} {f : Int64 → kS → Option kR} : kBl (some (.inr x, σ)) f = some (.inr x, σ) := rfl
theorem s_xv {x : String} {σ : kS} {f : kS → Option kR} : kBv (some (.inr x, σ)) f = some (.inr x, σ) := rfl
theorem s_xr {x : String} {σ : kS} {f : Nat → kS → Option kR} : kBr (some (.inr x, σ)) f = some (.inr x, σ) := rfl
theorem s_hi {r : Int32} {σ : kS} {f : Int32 → kS → Option kR} {g : String → kS → Option kR} : kBhi (some (.inl (some (.int r)), σ)) f g = f r σ := rfl
theorem s_hx {x : String} {σ : kS} {f : Int32 → kS → Option kR} {g : String → kS → Option kR} : kBhi (some (.inr x, σ)) f g = g x σ := rfl
theorem s_hl {r : Int64} {σ : kS} {f : Int64 → kS → Option kR} {g : String → kS → Option kR} : kBhl (some (.inl (some (.long r)), σ)) f g = f r σ := rfl
theorem s_hlx {x : String} {σ : kS} {f : Int64 → kS → Option kR} {g : String → kS → Option kR} : kBhl (some (.inr x, σ)) f g = g x σ := rfl
theorem s_b {α : Type} {x : α} {f : α → Option kR} : kb x f = f x := rfl
/-! numbers -/
theorem i_le {a b : Int32} : a ≤ b ↔ a.toInt ≤ b.toInt := Int32.le_iff_toInt_le
theorem i_lt {a b : Int32} : a < b ↔ a.toInt < b.toInt := Int32.lt_iff_toInt_lt
theorem i_eq {a b : Int32} : a = b ↔ a.toInt = b.toInt := Int32.toInt_inj.symm
theorem i_rng (a : Int32) : -2147483648 ≤ a.toInt ∧ a.toInt < 2147483648 := ⟨Int32.le_toInt a, Int32.toInt_lt a⟩
theorem i_add {a b : Int32} (h1 : -2147483648 ≤ a.toInt + b.toInt) (h2 : a.toInt + b.toInt < 2147483648) : (a + b).toInt = a.toInt + b.toInt := by
  rw [Int32.toInt_add]
  exact Int.bmod_eq_of_le (by omega) (by omega)
theorem i_sub {a b : Int32} (h1 : -2147483648 ≤ a.toInt - b.toInt) (h2 : a.toInt - b.toInt < 2147483648) : (a - b).toInt = a.toInt - b.toInt := by
  rw [Int32.toInt_sub]
  exact Int.bmod_eq_of_le (by omega) (by omega)
theorem i_mul {a b : Int32} (h1 : -2147483648 ≤ a.toInt * b.toInt) (h2 : a.toInt * b.toInt < 2147483648) : (a * b).toInt = a.toInt * b.toInt := by
  rw [Int32.toInt_mul]
  exact Int.bmod_eq_of_le (by omega) (by omega)
theorem c_of (a : Int32) : a.toNatClampNeg = a.toInt.toNat := rfl
theorem nI_inj {a b : Nat} (ha : a < 2147483648) (hb : b < 2147483648) : nI a = nI b ↔ a = b := by
  rw [i_eq, nI_toInt ha, nI_toInt hb]
  omega
theorem nJ_lt {a b : Nat} (ha : a < 2147483648) (hb : b < 2147483648) : nI a < nI b ↔ a < b := by
  rw [i_lt, nI_toInt ha, nI_toInt hb]
  omega
theorem nJ_le {a b : Nat} (ha : a < 2147483648) (hb : b < 2147483648) : nI a ≤ nI b ↔ a ≤ b := by
  rw [i_le, nI_toInt ha, nI_toInt hb]
  omega
theorem nI_kin {a n : Nat} (ha : a < 2147483648) : kin (nI a) n ↔ a < n := by
  show 0 ≤ (nI a).toInt ∧ (nI a).toInt < (n : Int) ↔ _
  rw [nI_toInt ha]
  omega
theorem nI_c {a : Nat} (ha : a < 2147483648) : (nI a).toNatClampNeg = a := by
  rw [c_of, nI_toInt ha]
  omega
theorem nI_s {a : Nat} (ha : a < 2147483647) : nI a + 1 = nI (a + 1) := by
  rw [i_eq, nI_toInt (by omega), i_add, nI_toInt (by omega)]
  · rfl
  · rw [nI_toInt (by omega)]; show _ ≤ _ + (1 : Int); omega
  · rw [nI_toInt (by omega)]; show _ + (1 : Int) < _; omega
theorem nI_ex {x : Int32} {n : Nat} (h : kin x n) : ∃ j, j < n ∧ x = nI j := by
  refine ⟨x.toInt.toNat, ?_, ?_⟩
  · have := h.1; have := h.2; omega
  · have := h.1
    have := i_rng x
    rw [i_eq, nI_toInt (by omega)]
    omega
theorem nI_ex' {x : Int32} {a b : Int} (h : rng x a b) (ha : 0 ≤ a) : ∃ j : Nat, (j : Int) ≤ b ∧ a ≤ (j : Int) ∧ x = nI j := by
  refine ⟨x.toInt.toNat, ?_, ?_, ?_⟩
  · have := h.1; have := h.2; omega
  · have := h.1; omega
  · have := h.1
    have := i_rng x
    rw [i_eq, nI_toInt (by omega)]
    omega
/-! what stays -/
def Fr (S : Nat → Nat → Bool) (σ σ' : kS) : Prop := (∀ g i k, S g k = false → σ'.1 g i k = σ.1 g i k) ∧ σ'.2 = σ.2
theorem Fr.refl {S : Nat → Nat → Bool} (σ : kS) : Fr S σ σ := ⟨fun _ _ _ _ => rfl, rfl⟩
theorem Fr.trans {S : Nat → Nat → Bool} {σ σ' σ'' : kS} (h : Fr S σ σ') (h' : Fr S σ' σ'') : Fr S σ σ'' := ⟨fun g i k q => (h'.1 g i k q).trans (h.1 g i k q), h'.2.trans h.2⟩
theorem kU_at {σ : kS} {g i k : Nat} {v : Int32} {g' i' k' : Nat} : (kU σ g i k v).1 g' i' k' = if g' = g ∧ i' = i ∧ k' = k then v else σ.1 g' i' k' := rfl
theorem kU_here {σ : kS} {g i k : Nat} {v : Int32} : (kU σ g i k v).1 g i k = v := if_pos ⟨rfl, rfl, rfl⟩
theorem Fr.u {S : Nat → Nat → Bool} {σ σ' : kS} {g i k : Nat} {v : Int32} (h : Fr S σ σ') (q : S g k = true) : Fr S σ (kU σ' g i k v) := by
  refine ⟨fun g' i' k' e => ?_, h.2⟩
  rw [kU_at, if_neg]
  · exact h.1 g' i' k' e
  · rintro ⟨rfl, -, rfl⟩
    rw [q] at e
    cases e
theorem Fr.sub {S T : Nat → Nat → Bool} {σ σ' : kS} (h : Fr S σ σ') (hs : ∀ g k, T g k = false → S g k = false) : Fr T σ σ' := ⟨fun g i k q => h.1 g i k (hs g k q), h.2⟩
/-- the class's flight -/
def sC (g _k : Nat) : Bool := Nat.beq g 6 || (Nat.ble 35 g && Nat.ble g 39)
/-- the reference's RUN -/
def sR (g k : Nat) : Bool := Nat.beq g 59 || Nat.beq g 60 || (Nat.ble 63 g && Nat.ble g 66) || Nat.beq g 68 || Nat.beq g 70 || (Nat.ble 75 g && Nat.ble g 78) || (Nat.beq g 48 && (Nat.ble 36 k && Nat.ble k 38))
theorem Inv_fr {S : Nat → Nat → Bool} {σ σ' : kS} (h : Fr S σ σ') (h1 : ∀ g ∈ iGl, ∀ k, S g k = false) (h0 : ∀ k ∈ [1, 3, 5, 8], S 0 k = false) (h48 : ∀ k ∈ [1, 3, 13, 39, 41, 42, 43, 44, 45, 46], S 48 k = false) (hi : Inv σ.1) : Inv σ'.1 :=
  Inv_congr (fun g hg => by funext i k; exact h.1 g i k (h1 g hg k)) (fun k hk => h.1 0 0 k (h0 k hk)) (fun k hk => h.1 48 0 k (h48 k hk)) hi
theorem iGl_all {p : Nat → Prop} (h : p 1 ∧ p 4 ∧ p 8 ∧ p 10 ∧ p 11 ∧ p 12 ∧ p 13 ∧ p 14 ∧ p 15 ∧ p 16 ∧ p 17 ∧ p 21 ∧ p 22 ∧ p 23 ∧ p 24 ∧ p 25 ∧ p 26 ∧ p 27 ∧ p 28 ∧ p 29 ∧ p 30 ∧ p 31 ∧ p 32 ∧ p 33 ∧ p 34 ∧ p 40 ∧ p 41 ∧ p 42 ∧ p 43 ∧ p 44 ∧ p 45 ∧ p 46 ∧ p 47 ∧ p 49 ∧ p 54 ∧ p 56 ∧ p 57 ∧ p 58 ∧ p 61 ∧ p 62 ∧ p 82 ∧ p 84 ∧ p 86 ∧ p 88) : ∀ g ∈ iGl, p g := by
  simp only [iGl, List.forall_mem_cons, List.not_mem_nil, false_implies, implies_true, and_true]
  exact h
theorem Inv_sC {σ σ' : kS} (h : Fr sC σ σ') (hi : Inv σ.1) : Inv σ'.1 :=
  Inv_fr h (iGl_all (by refine ⟨?_, ?_, ?_, ?_, ?_, ?_, ?_, ?_, ?_, ?_, ?_, ?_, ?_, ?_, ?_, ?_, ?_, ?_, ?_, ?_, ?_, ?_, ?_, ?_, ?_, ?_, ?_, ?_, ?_, ?_, ?_, ?_, ?_, ?_, ?_, ?_, ?_, ?_, ?_, ?_, ?_, ?_, ?_, ?_⟩ <;> exact fun _ => rfl)) (by decide) (by decide) hi
theorem Inv_sR {σ σ' : kS} (h : Fr sR σ σ') (hi : Inv σ.1) : Inv σ'.1 :=
  Inv_fr h (iGl_all (by refine ⟨?_, ?_, ?_, ?_, ?_, ?_, ?_, ?_, ?_, ?_, ?_, ?_, ?_, ?_, ?_, ?_, ?_, ?_, ?_, ?_, ?_, ?_, ?_, ?_, ?_, ?_, ?_, ?_, ?_, ?_, ?_, ?_, ?_, ?_, ?_, ?_, ?_, ?_, ?_, ?_, ?_, ?_, ?_, ?_⟩ <;> exact fun _ => rfl)) (by decide) (by decide) hi
