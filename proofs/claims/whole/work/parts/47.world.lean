/-! THE WORLD THAT THE CONSTRUCTORS LEAVE. -/
def kOffL : List (List Nat ⊕ Nat) := [.inl [0], .inl [0], .inl [1], .inl [13], .inl [14, 143, 158, 173], .inl [29], .inl [30], .inl [44], .inl [45], .inl [46], .inl [2, 36, 47, 63, 79, 95, 111, 127], .inl [3, 37, 48, 64, 80, 96, 112, 128], .inl [4, 38, 49, 65, 81, 97, 113, 129], .inl [5, 39, 50, 66, 82, 98, 114, 130], .inl [6, 40, 51, 67, 83, 99, 115, 131], .inl [7, 41, 52, 68, 84, 100, 116, 132], .inl [8, 42, 53, 69, 85, 101, 117, 133], .inl [9, 43, 54, 70, 86, 102, 118, 134], .inl [10], .inl [11], .inl [12], .inl [15, 144, 159, 174], .inl [16, 145, 160, 175], .inl [17, 146, 161, 176], .inl [18, 147, 162, 177], .inl [19, 148, 163, 178], .inl [20, 149, 164, 179], .inl [21, 150, 165, 180], .inl [22, 151, 166, 181], .inl [23, 152, 167, 182], .inl [24, 153, 168, 183], .inl [25, 154, 169, 184], .inl [26, 155, 170, 185], .inl [27, 156, 171, 186], .inl [28, 157, 172, 187], .inl [31], .inl [32], .inl [33], .inl [34], .inl [35], .inl [55, 71, 87, 103, 119, 135], .inl [56, 72, 88, 104, 120, 136], .inl [57, 73, 89, 105, 121, 137], .inl [58, 74, 90, 106, 122, 138], .inl [59, 75, 91, 107, 123, 139], .inl [60, 76, 92, 108, 124, 140], .inl [61, 77, 93, 109, 125, 141], .inl [62, 78, 94, 110, 126, 142], .inl [188], .inl [189], .inl [190], .inl [191], .inr 192, .inl [207], .inr 208, .inl [214], .inr 215, .inl [299], .inl [300], .inl [301], .inl [302], .inl [303], .inl [304], .inl [305], .inl [306], .inl [307], .inl [308], .inl [309], .inr 310, .inl [410], .inr 411, .inl [511], .inr 512, .inl [612], .inr 613, .inl [713], .inl [714], .inl [715], .inl [716], .inl [717], .inl [718], .inl [719], .inr 720, .inl [730], .inr 731, .inl [741], .inr 742, .inl [747], .inr 748, .inl [751], .inl [752], .inl []]
def kOff (g i : Nat) : Nat := match kOffL.getD g (.inr 0) with
  | .inl l => l.getD i 0
  | .inr b => b + i
def kTiL : List Nat := [0, 2, 0, 3, 0, 4, 0, 5, 0, 1, 0, 0, 0, 0, 0, 0, 0, 0, 0, 0, 0, 0, 0, 0, 0, 0, 0, 0, 0, 0, 0, 0, 0, 0, 0, 0, 0, 0, 0, 0, 0, 0, 0, 0, 0, 0, 0, 0, 0, 0, 0, 6, 0, 6, 0, 6, 0, 0, 0, 0, 0, 0, 0, 0, 0, 0, 0, 6, 0, 6, 0, 6, 0, 6, 0, 0, 0, 0, 0, 0, 0, 6, 0, 6, 0, 6, 0, 6, 0, 1, 1, 1]
def kadF (b : Nat) (g i : Nat) : Nat := if g = 0 then b else b + 1 + kOff g i
def kE0 (D : va_G) (cl : Nat → ClassId) (b : Nat) (z tx tv : Nat → Nat) : kE := (D, kadF b, fun g => cl (kTiL.getD g 0), kCnt, fun g i k => .ref (kadF b (kTg g k).1 (kRi (kTg g k) i k)), b, z, tx, tv)
def kInvL : List (Nat × Nat) := [(1, 0), (2, 0), (10, 0), (11, 0), (12, 0), (13, 0), (14, 0), (15, 0), (16, 0), (17, 0), (18, 0), (19, 0), (20, 0), (3, 0), (4, 0), (21, 0), (22, 0), (23, 0), (24, 0), (25, 0), (26, 0), (27, 0), (28, 0), (29, 0), (30, 0), (31, 0), (32, 0), (33, 0), (34, 0), (5, 0), (6, 0), (35, 0), (36, 0), (37, 0), (38, 0), (39, 0), (10, 1), (11, 1), (12, 1), (13, 1), (14, 1), (15, 1), (16, 1), (17, 1), (7, 0), (8, 0), (9, 0), (10, 2), (11, 2), (12, 2), (13, 2), (14, 2), (15, 2), (16, 2), (17, 2), (40, 0), (41, 0), (42, 0), (43, 0), (44, 0), (45, 0), (46, 0), (47, 0), (10, 3), (11, 3), (12, 3), (13, 3), (14, 3), (15, 3), (16, 3), (17, 3), (40, 1), (41, 1), (42, 1), (43, 1), (44, 1), (45, 1), (46, 1), (47, 1), (10, 4), (11, 4), (12, 4), (13, 4), (14, 4), (15, 4), (16, 4), (17, 4), (40, 2), (41, 2), (42, 2), (43, 2), (44, 2), (45, 2), (46, 2), (47, 2), (10, 5), (11, 5), (12, 5), (13, 5), (14, 5), (15, 5), (16, 5), (17, 5), (40, 3), (41, 3), (42, 3), (43, 3), (44, 3), (45, 3), (46, 3), (47, 3), (10, 6), (11, 6), (12, 6), (13, 6), (14, 6), (15, 6), (16, 6), (17, 6), (40, 4), (41, 4), (42, 4), (43, 4), (44, 4), (45, 4), (46, 4), (47, 4), (10, 7), (11, 7), (12, 7), (13, 7), (14, 7), (15, 7), (16, 7), (17, 7), (40, 5), (41, 5), (42, 5), (43, 5), (44, 5), (45, 5), (46, 5), (47, 5), (4, 1), (21, 1), (22, 1), (23, 1), (24, 1), (25, 1), (26, 1), (27, 1), (28, 1), (29, 1), (30, 1), (31, 1), (32, 1), (33, 1), (34, 1), (4, 2), (21, 2), (22, 2), (23, 2), (24, 2), (25, 2), (26, 2), (27, 2), (28, 2), (29, 2), (30, 2), (31, 2), (32, 2), (33, 2), (34, 2), (4, 3), (21, 3), (22, 3), (23, 3), (24, 3), (25, 3), (26, 3), (27, 3), (28, 3), (29, 3), (30, 3), (31, 3), (32, 3), (33, 3), (34, 3), (48, 0), (49, 0), (50, 0), (51, 0), (52, 0), (52, 1), (52, 2), (52, 3), (52, 4), (52, 5), (52, 6), (52, 7), (52, 8), (52, 9), (52, 10), (52, 11), (52, 12), (52, 13), (52, 14), (53, 0), (54, 0), (54, 1), (54, 2), (54, 3), (54, 4), (54, 5), (55, 0), (56, 0), (56, 1), (56, 2), (56, 3), (56, 4), (56, 5), (56, 6), (56, 7), (56, 8), (56, 9), (56, 10), (56, 11), (56, 12), (56, 13), (56, 14), (56, 15), (56, 16), (56, 17), (56, 18), (56, 19), (56, 20), (56, 21), (56, 22), (56, 23), (56, 24), (56, 25), (56, 26), (56, 27), (56, 28), (56, 29), (56, 30), (56, 31), (56, 32), (56, 33), (56, 34), (56, 35), (56, 36), (56, 37), (56, 38), (56, 39), (56, 40), (56, 41), (56, 42), (56, 43), (56, 44), (56, 45), (56, 46), (56, 47), (56, 48), (56, 49), (56, 50), (56, 51), (56, 52), (56, 53), (56, 54), (56, 55), (56, 56), (56, 57), (56, 58), (56, 59), (56, 60), (56, 61), (56, 62), (56, 63), (56, 64), (56, 65), (56, 66), (56, 67), (56, 68), (56, 69), (56, 70), (56, 71), (56, 72), (56, 73), (56, 74), (56, 75), (56, 76), (56, 77), (56, 78), (56, 79), (56, 80), (56, 81), (56, 82), (56, 83), (57, 0), (58, 0), (59, 0), (60, 0), (61, 0), (62, 0), (63, 0), (64, 0), (65, 0), (66, 0), (67, 0), (68, 0), (68, 1), (68, 2), (68, 3), (68, 4), (68, 5), (68, 6), (68, 7), (68, 8), (68, 9), (68, 10), (68, 11), (68, 12), (68, 13), (68, 14), (68, 15), (68, 16), (68, 17), (68, 18), (68, 19), (68, 20), (68, 21), (68, 22), (68, 23), (68, 24), (68, 25), (68, 26), (68, 27), (68, 28), (68, 29), (68, 30), (68, 31), (68, 32), (68, 33), (68, 34), (68, 35), (68, 36), (68, 37), (68, 38), (68, 39), (68, 40), (68, 41), (68, 42), (68, 43), (68, 44), (68, 45), (68, 46), (68, 47), (68, 48), (68, 49), (68, 50), (68, 51), (68, 52), (68, 53), (68, 54), (68, 55), (68, 56), (68, 57), (68, 58), (68, 59), (68, 60), (68, 61), (68, 62), (68, 63), (68, 64), (68, 65), (68, 66), (68, 67), (68, 68), (68, 69), (68, 70), (68, 71), (68, 72), (68, 73), (68, 74), (68, 75), (68, 76), (68, 77), (68, 78), (68, 79), (68, 80), (68, 81), (68, 82), (68, 83), (68, 84), (68, 85), (68, 86), (68, 87), (68, 88), (68, 89), (68, 90), (68, 91), (68, 92), (68, 93), (68, 94), (68, 95), (68, 96), (68, 97), (68, 98), (68, 99), (69, 0), (70, 0), (70, 1), (70, 2), (70, 3), (70, 4), (70, 5), (70, 6), (70, 7), (70, 8), (70, 9), (70, 10), (70, 11), (70, 12), (70, 13), (70, 14), (70, 15), (70, 16), (70, 17), (70, 18), (70, 19), (70, 20), (70, 21), (70, 22), (70, 23), (70, 24), (70, 25), (70, 26), (70, 27), (70, 28), (70, 29), (70, 30), (70, 31), (70, 32), (70, 33), (70, 34), (70, 35), (70, 36), (70, 37), (70, 38), (70, 39), (70, 40), (70, 41), (70, 42), (70, 43), (70, 44), (70, 45), (70, 46), (70, 47), (70, 48), (70, 49), (70, 50), (70, 51), (70, 52), (70, 53), (70, 54), (70, 55), (70, 56), (70, 57), (70, 58), (70, 59), (70, 60), (70, 61), (70, 62), (70, 63), (70, 64), (70, 65), (70, 66), (70, 67), (70, 68), (70, 69), (70, 70), (70, 71), (70, 72), (70, 73), (70, 74), (70, 75), (70, 76), (70, 77), (70, 78), (70, 79), (70, 80), (70, 81), (70, 82), (70, 83), (70, 84), (70, 85), (70, 86), (70, 87), (70, 88), (70, 89), (70, 90), (70, 91), (70, 92), (70, 93), (70, 94), (70, 95), (70, 96), (70, 97), (70, 98), (70, 99), (71, 0), (72, 0), (72, 1), (72, 2), (72, 3), (72, 4), (72, 5), (72, 6), (72, 7), (72, 8), (72, 9), (72, 10), (72, 11), (72, 12), (72, 13), (72, 14), (72, 15), (72, 16), (72, 17), (72, 18), (72, 19), (72, 20), (72, 21), (72, 22), (72, 23), (72, 24), (72, 25), (72, 26), (72, 27), (72, 28), (72, 29), (72, 30), (72, 31), (72, 32), (72, 33), (72, 34), (72, 35), (72, 36), (72, 37), (72, 38), (72, 39), (72, 40), (72, 41), (72, 42), (72, 43), (72, 44), (72, 45), (72, 46), (72, 47), (72, 48), (72, 49), (72, 50), (72, 51), (72, 52), (72, 53), (72, 54), (72, 55), (72, 56), (72, 57), (72, 58), (72, 59), (72, 60), (72, 61), (72, 62), (72, 63), (72, 64), (72, 65), (72, 66), (72, 67), (72, 68), (72, 69), (72, 70), (72, 71), (72, 72), (72, 73), (72, 74), (72, 75), (72, 76), (72, 77), (72, 78), (72, 79), (72, 80), (72, 81), (72, 82), (72, 83), (72, 84), (72, 85), (72, 86), (72, 87), (72, 88), (72, 89), (72, 90), (72, 91), (72, 92), (72, 93), (72, 94), (72, 95), (72, 96), (72, 97), (72, 98), (72, 99), (73, 0), (74, 0), (74, 1), (74, 2), (74, 3), (74, 4), (74, 5), (74, 6), (74, 7), (74, 8), (74, 9), (74, 10), (74, 11), (74, 12), (74, 13), (74, 14), (74, 15), (74, 16), (74, 17), (74, 18), (74, 19), (74, 20), (74, 21), (74, 22), (74, 23), (74, 24), (74, 25), (74, 26), (74, 27), (74, 28), (74, 29), (74, 30), (74, 31), (74, 32), (74, 33), (74, 34), (74, 35), (74, 36), (74, 37), (74, 38), (74, 39), (74, 40), (74, 41), (74, 42), (74, 43), (74, 44), (74, 45), (74, 46), (74, 47), (74, 48), (74, 49), (74, 50), (74, 51), (74, 52), (74, 53), (74, 54), (74, 55), (74, 56), (74, 57), (74, 58), (74, 59), (74, 60), (74, 61), (74, 62), (74, 63), (74, 64), (74, 65), (74, 66), (74, 67), (74, 68), (74, 69), (74, 70), (74, 71), (74, 72), (74, 73), (74, 74), (74, 75), (74, 76), (74, 77), (74, 78), (74, 79), (74, 80), (74, 81), (74, 82), (74, 83), (74, 84), (74, 85), (74, 86), (74, 87), (74, 88), (74, 89), (74, 90), (74, 91), (74, 92), (74, 93), (74, 94), (74, 95), (74, 96), (74, 97), (74, 98), (74, 99), (75, 0), (76, 0), (77, 0), (78, 0), (79, 0), (80, 0), (81, 0), (82, 0), (82, 1), (82, 2), (82, 3), (82, 4), (82, 5), (82, 6), (82, 7), (82, 8), (82, 9), (83, 0), (84, 0), (84, 1), (84, 2), (84, 3), (84, 4), (84, 5), (84, 6), (84, 7), (84, 8), (84, 9), (85, 0), (86, 0), (86, 1), (86, 2), (86, 3), (86, 4), (87, 0), (88, 0), (88, 1), (88, 2), (89, 0), (90, 0)]
def kS0 : kS := (fun g i k => if g = 0 then (if k = 3 then -1 else 0) else if g = 2 then (if k = 1 then -1 else 0) else if g = 6 then (if k = 5 then 1 else if k = 10 then -1 else if k = 11 then -1 else if k = 12 then -1 else 0) else if g = 8 then -1 else if g = 21 then (kZv 0).getD k 0 else if g = 22 then 100 else if g = 23 then 10 else if g = 40 then (if k = 8 then -1 else if k = 9 then -1 else if k = 10 then -1 else if k = 11 then -1 else 0) else if g = 48 then (if k = 3 then -1 else if k = 39 then -1 else if k = 41 then -1 else 0) else if g = 61 then (kZv 0).getD k 0 else if g = 62 then 100 else 0, fun _ _ _ => 0)
theorem kc_o {E : kE} {σ : kS} {H : Heap} {g i ci : Nat} {V : Nat → Value} (hg : kSh g = .inl ci) (h : bAt E (kad E g i) (.inl (ci, V)) H) (hv : ∀ k, k < kNf ci → V k = kV E σ g i k) : kCell E σ H g i := by
  unfold kCell
  rw [hg]
  exact t_OB.to (show t_OB (kad E g i) (E.1.1 ci) (kNf ci) (E.1.2 ci) H V from h) hv
theorem kc_a {E : kE} {σ : kS} {H : Heap} {g i len : Nat} {ty : FieldType} {V : Nat → Value} (hg : kSh g = .inr (ty, len)) (h : bAt E (kad E g i) (.inr (kcA E g, len, V)) H) (hv : ∀ k, k < len → V k = kV E σ g i k) : kCell E σ H g i := by
  unfold kCell
  rw [hg]
  exact (show H[kad E g i]? = some (arrV (kcA E g) len V) from h).trans (congrArg some (arrV_congr hv))
/-- what the law's first steps make -/
def fL (E : kE) (h : Nat) : Nat → bC := bU (bA (bU (bU (bA bNil 0 (bf_X5 E h)) 188 (.inl (6, bV6))) 188 (.inl (6, bv_X6 E (h + 189)))) 189 (bf_X6 E (h + 189))) 752 (.inr (kcA E 9, 1, fun _ => .long 0))
set_option maxRecDepth 20000 in
theorem kw_0 {D : va_G} {cl : Nat → ClassId} {b : Nat} {z tx tv : Nat → Nat} {H : Heap} (hT : bAt (kE0 D cl b z tx tv) b (.inl (5, bv_X5 (kE0 D cl b z tx tv) (b + 1))) H) : ∀ i, i < kCnt 0 → kCell (kE0 D cl b z tx tv) kS0 H 0 i := kAllS (kAll0) (kc_o rfl (hT) (kAllS (kAllS (kAllS (kAllS (kAllS (kAllS (kAllS (kAllS (kAllS (kAllS (kAllS (kAllS (kAllS (kAll0) (rfl)) (rfl)) (rfl)) (rfl)) (rfl)) (rfl)) (rfl)) (rfl)) (rfl)) (rfl)) (rfl)) (rfl)) (rfl)))
set_option maxRecDepth 20000 in
theorem kw_1 {D : va_G} {cl : Nat → ClassId} {b : Nat} {z tx tv : Nat → Nat} {H : Heap} (hL : bL (kE0 D cl b z tx tv) (b + 1) (fL (kE0 D cl b z tx tv) (b + 1)) 753 H) : ∀ i, i < kCnt 1 → kCell (kE0 D cl b z tx tv) kS0 H 1 i := kAllS (kAll0) (kc_a rfl (hL.2 0 (by decide)) (fun k _ => rfl))
set_option maxRecDepth 20000 in
theorem kw_2 {D : va_G} {cl : Nat → ClassId} {b : Nat} {z tx tv : Nat → Nat} {H : Heap} (hL : bL (kE0 D cl b z tx tv) (b + 1) (fL (kE0 D cl b z tx tv) (b + 1)) 753 H) : ∀ i, i < kCnt 2 → kCell (kE0 D cl b z tx tv) kS0 H 2 i := kAllS (kAll0) (kc_o rfl (hL.2 1 (by decide)) (kAllS (kAllS (kAllS (kAllS (kAllS (kAllS (kAllS (kAllS (kAll0) (rfl)) (rfl)) (rfl)) (rfl)) (rfl)) (rfl)) (rfl)) (rfl)))
set_option maxRecDepth 20000 in
theorem kw_3 {D : va_G} {cl : Nat → ClassId} {b : Nat} {z tx tv : Nat → Nat} {H : Heap} (hL : bL (kE0 D cl b z tx tv) (b + 1) (fL (kE0 D cl b z tx tv) (b + 1)) 753 H) : ∀ i, i < kCnt 3 → kCell (kE0 D cl b z tx tv) kS0 H 3 i := kAllS (kAll0) (kc_a rfl (hL.2 13 (by decide)) (kAllS (kAllS (kAllS (kAllS (kAllS (kAllS (kAll0) (rfl)) (rfl)) (rfl)) (rfl)) (rfl)) (rfl)))
set_option maxRecDepth 20000 in
theorem kw_4 {D : va_G} {cl : Nat → ClassId} {b : Nat} {z tx tv : Nat → Nat} {H : Heap} (hL : bL (kE0 D cl b z tx tv) (b + 1) (fL (kE0 D cl b z tx tv) (b + 1)) 753 H) : ∀ i, i < kCnt 4 → kCell (kE0 D cl b z tx tv) kS0 H 4 i := kAllS (kAllS (kAllS (kAllS (kAll0) (kc_o rfl (hL.2 14 (by decide)) (kAllS (kAllS (kAllS (kAllS (kAllS (kAllS (kAllS (kAllS (kAllS (kAllS (kAllS (kAllS (kAllS (kAllS (kAllS (kAllS (kAllS (kAll0) (rfl)) (rfl)) (rfl)) (rfl)) (rfl)) (rfl)) (rfl)) (rfl)) (rfl)) (rfl)) (rfl)) (rfl)) (rfl)) (rfl)) (rfl)) (rfl)) (rfl)))) (kc_o rfl (hL.2 143 (by decide)) (kAllS (kAllS (kAllS (kAllS (kAllS (kAllS (kAllS (kAllS (kAllS (kAllS (kAllS (kAllS (kAllS (kAllS (kAllS (kAllS (kAllS (kAll0) (rfl)) (rfl)) (rfl)) (rfl)) (rfl)) (rfl)) (rfl)) (rfl)) (rfl)) (rfl)) (rfl)) (rfl)) (rfl)) (rfl)) (rfl)) (rfl)) (rfl)))) (kc_o rfl (hL.2 158 (by decide)) (kAllS (kAllS (kAllS (kAllS (kAllS (kAllS (kAllS (kAllS (kAllS (kAllS (kAllS (kAllS (kAllS (kAllS (kAllS (kAllS (kAllS (kAll0) (rfl)) (rfl)) (rfl)) (rfl)) (rfl)) (rfl)) (rfl)) (rfl)) (rfl)) (rfl)) (rfl)) (rfl)) (rfl)) (rfl)) (rfl)) (rfl)) (rfl)))) (kc_o rfl (hL.2 173 (by decide)) (kAllS (kAllS (kAllS (kAllS (kAllS (kAllS (kAllS (kAllS (kAllS (kAllS (kAllS (kAllS (kAllS (kAllS (kAllS (kAllS (kAllS (kAll0) (rfl)) (rfl)) (rfl)) (rfl)) (rfl)) (rfl)) (rfl)) (rfl)) (rfl)) (rfl)) (rfl)) (rfl)) (rfl)) (rfl)) (rfl)) (rfl)) (rfl)))
set_option maxRecDepth 20000 in
theorem kw_5 {D : va_G} {cl : Nat → ClassId} {b : Nat} {z tx tv : Nat → Nat} {H : Heap} (hL : bL (kE0 D cl b z tx tv) (b + 1) (fL (kE0 D cl b z tx tv) (b + 1)) 753 H) : ∀ i, i < kCnt 5 → kCell (kE0 D cl b z tx tv) kS0 H 5 i := kAllS (kAll0) (kc_a rfl (hL.2 29 (by decide)) (kAllS (kAllS (kAllS (kAll0) (rfl)) (rfl)) (rfl)))
set_option maxRecDepth 20000 in
theorem kw_6 {D : va_G} {cl : Nat → ClassId} {b : Nat} {z tx tv : Nat → Nat} {H : Heap} (hL : bL (kE0 D cl b z tx tv) (b + 1) (fL (kE0 D cl b z tx tv) (b + 1)) 753 H) : ∀ i, i < kCnt 6 → kCell (kE0 D cl b z tx tv) kS0 H 6 i := kAllS (kAll0) (kc_o rfl (hL.2 30 (by decide)) (kAllS (kAllS (kAllS (kAllS (kAllS (kAllS (kAllS (kAllS (kAllS (kAllS (kAllS (kAllS (kAllS (kAll0) (rfl)) (rfl)) (rfl)) (rfl)) (rfl)) (rfl)) (rfl)) (rfl)) (rfl)) (rfl)) (rfl)) (rfl)) (rfl)))
set_option maxRecDepth 20000 in
theorem kw_7 {D : va_G} {cl : Nat → ClassId} {b : Nat} {z tx tv : Nat → Nat} {H : Heap} (hL : bL (kE0 D cl b z tx tv) (b + 1) (fL (kE0 D cl b z tx tv) (b + 1)) 753 H) : ∀ i, i < kCnt 7 → kCell (kE0 D cl b z tx tv) kS0 H 7 i := kAllS (kAll0) (kc_a rfl (hL.2 44 (by decide)) (kAllS (kAllS (kAllS (kAllS (kAllS (kAllS (kAll0) (rfl)) (rfl)) (rfl)) (rfl)) (rfl)) (rfl)))
set_option maxRecDepth 20000 in
theorem kw_8 {D : va_G} {cl : Nat → ClassId} {b : Nat} {z tx tv : Nat → Nat} {H : Heap} (hL : bL (kE0 D cl b z tx tv) (b + 1) (fL (kE0 D cl b z tx tv) (b + 1)) 753 H) : ∀ i, i < kCnt 8 → kCell (kE0 D cl b z tx tv) kS0 H 8 i := kAllS (kAll0) (kc_a rfl (hL.2 45 (by decide)) (kAllS (kAllS (kAllS (kAllS (kAllS (kAllS (kAll0) (rfl)) (rfl)) (rfl)) (rfl)) (rfl)) (rfl)))
set_option maxRecDepth 20000 in
theorem kw_9 {D : va_G} {cl : Nat → ClassId} {b : Nat} {z tx tv : Nat → Nat} {H : Heap} (hL : bL (kE0 D cl b z tx tv) (b + 1) (fL (kE0 D cl b z tx tv) (b + 1)) 753 H) : ∀ i, i < kCnt 9 → kCell (kE0 D cl b z tx tv) kS0 H 9 i := kAllS (kAll0) (kc_a rfl (hL.2 46 (by decide)) (fun k _ => rfl))
set_option maxRecDepth 20000 in
theorem kw_10 {D : va_G} {cl : Nat → ClassId} {b : Nat} {z tx tv : Nat → Nat} {H : Heap} (hL : bL (kE0 D cl b z tx tv) (b + 1) (fL (kE0 D cl b z tx tv) (b + 1)) 753 H) : ∀ i, i < kCnt 10 → kCell (kE0 D cl b z tx tv) kS0 H 10 i := kAllS (kAllS (kAllS (kAllS (kAllS (kAllS (kAllS (kAllS (kAll0) (kc_o rfl (hL.2 2 (by decide)) (kAllS (kAllS (kAllS (kAllS (kAllS (kAllS (kAllS (kAllS (kAllS (kAll0) (rfl)) (rfl)) (rfl)) (rfl)) (rfl)) (rfl)) (rfl)) (rfl)) (rfl)))) (kc_o rfl (hL.2 36 (by decide)) (kAllS (kAllS (kAllS (kAllS (kAllS (kAllS (kAllS (kAllS (kAllS (kAll0) (rfl)) (rfl)) (rfl)) (rfl)) (rfl)) (rfl)) (rfl)) (rfl)) (rfl)))) (kc_o rfl (hL.2 47 (by decide)) (kAllS (kAllS (kAllS (kAllS (kAllS (kAllS (kAllS (kAllS (kAllS (kAll0) (rfl)) (rfl)) (rfl)) (rfl)) (rfl)) (rfl)) (rfl)) (rfl)) (rfl)))) (kc_o rfl (hL.2 63 (by decide)) (kAllS (kAllS (kAllS (kAllS (kAllS (kAllS (kAllS (kAllS (kAllS (kAll0) (rfl)) (rfl)) (rfl)) (rfl)) (rfl)) (rfl)) (rfl)) (rfl)) (rfl)))) (kc_o rfl (hL.2 79 (by decide)) (kAllS (kAllS (kAllS (kAllS (kAllS (kAllS (kAllS (kAllS (kAllS (kAll0) (rfl)) (rfl)) (rfl)) (rfl)) (rfl)) (rfl)) (rfl)) (rfl)) (rfl)))) (kc_o rfl (hL.2 95 (by decide)) (kAllS (kAllS (kAllS (kAllS (kAllS (kAllS (kAllS (kAllS (kAllS (kAll0) (rfl)) (rfl)) (rfl)) (rfl)) (rfl)) (rfl)) (rfl)) (rfl)) (rfl)))) (kc_o rfl (hL.2 111 (by decide)) (kAllS (kAllS (kAllS (kAllS (kAllS (kAllS (kAllS (kAllS (kAllS (kAll0) (rfl)) (rfl)) (rfl)) (rfl)) (rfl)) (rfl)) (rfl)) (rfl)) (rfl)))) (kc_o rfl (hL.2 127 (by decide)) (kAllS (kAllS (kAllS (kAllS (kAllS (kAllS (kAllS (kAllS (kAllS (kAll0) (rfl)) (rfl)) (rfl)) (rfl)) (rfl)) (rfl)) (rfl)) (rfl)) (rfl)))
set_option maxRecDepth 20000 in
theorem kw_11 {D : va_G} {cl : Nat → ClassId} {b : Nat} {z tx tv : Nat → Nat} {H : Heap} (hL : bL (kE0 D cl b z tx tv) (b + 1) (fL (kE0 D cl b z tx tv) (b + 1)) 753 H) : ∀ i, i < kCnt 11 → kCell (kE0 D cl b z tx tv) kS0 H 11 i := kAllS (kAllS (kAllS (kAllS (kAllS (kAllS (kAllS (kAllS (kAll0) (kc_a rfl (hL.2 3 (by decide)) (fun k _ => rfl))) (kc_a rfl (hL.2 37 (by decide)) (fun k _ => rfl))) (kc_a rfl (hL.2 48 (by decide)) (fun k _ => rfl))) (kc_a rfl (hL.2 64 (by decide)) (fun k _ => rfl))) (kc_a rfl (hL.2 80 (by decide)) (fun k _ => rfl))) (kc_a rfl (hL.2 96 (by decide)) (fun k _ => rfl))) (kc_a rfl (hL.2 112 (by decide)) (fun k _ => rfl))) (kc_a rfl (hL.2 128 (by decide)) (fun k _ => rfl))
set_option maxRecDepth 20000 in
theorem kw_12 {D : va_G} {cl : Nat → ClassId} {b : Nat} {z tx tv : Nat → Nat} {H : Heap} (hL : bL (kE0 D cl b z tx tv) (b + 1) (fL (kE0 D cl b z tx tv) (b + 1)) 753 H) : ∀ i, i < kCnt 12 → kCell (kE0 D cl b z tx tv) kS0 H 12 i := kAllS (kAllS (kAllS (kAllS (kAllS (kAllS (kAllS (kAllS (kAll0) (kc_a rfl (hL.2 4 (by decide)) (fun k _ => rfl))) (kc_a rfl (hL.2 38 (by decide)) (fun k _ => rfl))) (kc_a rfl (hL.2 49 (by decide)) (fun k _ => rfl))) (kc_a rfl (hL.2 65 (by decide)) (fun k _ => rfl))) (kc_a rfl (hL.2 81 (by decide)) (fun k _ => rfl))) (kc_a rfl (hL.2 97 (by decide)) (fun k _ => rfl))) (kc_a rfl (hL.2 113 (by decide)) (fun k _ => rfl))) (kc_a rfl (hL.2 129 (by decide)) (fun k _ => rfl))
set_option maxRecDepth 20000 in
theorem kw_13 {D : va_G} {cl : Nat → ClassId} {b : Nat} {z tx tv : Nat → Nat} {H : Heap} (hL : bL (kE0 D cl b z tx tv) (b + 1) (fL (kE0 D cl b z tx tv) (b + 1)) 753 H) : ∀ i, i < kCnt 13 → kCell (kE0 D cl b z tx tv) kS0 H 13 i := kAllS (kAllS (kAllS (kAllS (kAllS (kAllS (kAllS (kAllS (kAll0) (kc_a rfl (hL.2 5 (by decide)) (fun k _ => rfl))) (kc_a rfl (hL.2 39 (by decide)) (fun k _ => rfl))) (kc_a rfl (hL.2 50 (by decide)) (fun k _ => rfl))) (kc_a rfl (hL.2 66 (by decide)) (fun k _ => rfl))) (kc_a rfl (hL.2 82 (by decide)) (fun k _ => rfl))) (kc_a rfl (hL.2 98 (by decide)) (fun k _ => rfl))) (kc_a rfl (hL.2 114 (by decide)) (fun k _ => rfl))) (kc_a rfl (hL.2 130 (by decide)) (fun k _ => rfl))
set_option maxRecDepth 20000 in
theorem kw_14 {D : va_G} {cl : Nat → ClassId} {b : Nat} {z tx tv : Nat → Nat} {H : Heap} (hL : bL (kE0 D cl b z tx tv) (b + 1) (fL (kE0 D cl b z tx tv) (b + 1)) 753 H) : ∀ i, i < kCnt 14 → kCell (kE0 D cl b z tx tv) kS0 H 14 i := kAllS (kAllS (kAllS (kAllS (kAllS (kAllS (kAllS (kAllS (kAll0) (kc_a rfl (hL.2 6 (by decide)) (fun k _ => rfl))) (kc_a rfl (hL.2 40 (by decide)) (fun k _ => rfl))) (kc_a rfl (hL.2 51 (by decide)) (fun k _ => rfl))) (kc_a rfl (hL.2 67 (by decide)) (fun k _ => rfl))) (kc_a rfl (hL.2 83 (by decide)) (fun k _ => rfl))) (kc_a rfl (hL.2 99 (by decide)) (fun k _ => rfl))) (kc_a rfl (hL.2 115 (by decide)) (fun k _ => rfl))) (kc_a rfl (hL.2 131 (by decide)) (fun k _ => rfl))
set_option maxRecDepth 20000 in
theorem kw_15 {D : va_G} {cl : Nat → ClassId} {b : Nat} {z tx tv : Nat → Nat} {H : Heap} (hL : bL (kE0 D cl b z tx tv) (b + 1) (fL (kE0 D cl b z tx tv) (b + 1)) 753 H) : ∀ i, i < kCnt 15 → kCell (kE0 D cl b z tx tv) kS0 H 15 i := kAllS (kAllS (kAllS (kAllS (kAllS (kAllS (kAllS (kAllS (kAll0) (kc_a rfl (hL.2 7 (by decide)) (fun k _ => rfl))) (kc_a rfl (hL.2 41 (by decide)) (fun k _ => rfl))) (kc_a rfl (hL.2 52 (by decide)) (fun k _ => rfl))) (kc_a rfl (hL.2 68 (by decide)) (fun k _ => rfl))) (kc_a rfl (hL.2 84 (by decide)) (fun k _ => rfl))) (kc_a rfl (hL.2 100 (by decide)) (fun k _ => rfl))) (kc_a rfl (hL.2 116 (by decide)) (fun k _ => rfl))) (kc_a rfl (hL.2 132 (by decide)) (fun k _ => rfl))
set_option maxRecDepth 20000 in
theorem kw_16 {D : va_G} {cl : Nat → ClassId} {b : Nat} {z tx tv : Nat → Nat} {H : Heap} (hL : bL (kE0 D cl b z tx tv) (b + 1) (fL (kE0 D cl b z tx tv) (b + 1)) 753 H) : ∀ i, i < kCnt 16 → kCell (kE0 D cl b z tx tv) kS0 H 16 i := kAllS (kAllS (kAllS (kAllS (kAllS (kAllS (kAllS (kAllS (kAll0) (kc_a rfl (hL.2 8 (by decide)) (fun k _ => rfl))) (kc_a rfl (hL.2 42 (by decide)) (fun k _ => rfl))) (kc_a rfl (hL.2 53 (by decide)) (fun k _ => rfl))) (kc_a rfl (hL.2 69 (by decide)) (fun k _ => rfl))) (kc_a rfl (hL.2 85 (by decide)) (fun k _ => rfl))) (kc_a rfl (hL.2 101 (by decide)) (fun k _ => rfl))) (kc_a rfl (hL.2 117 (by decide)) (fun k _ => rfl))) (kc_a rfl (hL.2 133 (by decide)) (fun k _ => rfl))
set_option maxRecDepth 20000 in
theorem kw_17 {D : va_G} {cl : Nat → ClassId} {b : Nat} {z tx tv : Nat → Nat} {H : Heap} (hL : bL (kE0 D cl b z tx tv) (b + 1) (fL (kE0 D cl b z tx tv) (b + 1)) 753 H) : ∀ i, i < kCnt 17 → kCell (kE0 D cl b z tx tv) kS0 H 17 i := kAllS (kAllS (kAllS (kAllS (kAllS (kAllS (kAllS (kAllS (kAll0) (kc_a rfl (hL.2 9 (by decide)) (fun k _ => rfl))) (kc_a rfl (hL.2 43 (by decide)) (fun k _ => rfl))) (kc_a rfl (hL.2 54 (by decide)) (fun k _ => rfl))) (kc_a rfl (hL.2 70 (by decide)) (fun k _ => rfl))) (kc_a rfl (hL.2 86 (by decide)) (fun k _ => rfl))) (kc_a rfl (hL.2 102 (by decide)) (fun k _ => rfl))) (kc_a rfl (hL.2 118 (by decide)) (fun k _ => rfl))) (kc_a rfl (hL.2 134 (by decide)) (fun k _ => rfl))
set_option maxRecDepth 20000 in
theorem kw_18 {D : va_G} {cl : Nat → ClassId} {b : Nat} {z tx tv : Nat → Nat} {H : Heap} (hL : bL (kE0 D cl b z tx tv) (b + 1) (fL (kE0 D cl b z tx tv) (b + 1)) 753 H) : ∀ i, i < kCnt 18 → kCell (kE0 D cl b z tx tv) kS0 H 18 i := kAllS (kAll0) (kc_a rfl (hL.2 10 (by decide)) (fun k _ => rfl))
set_option maxRecDepth 20000 in
theorem kw_19 {D : va_G} {cl : Nat → ClassId} {b : Nat} {z tx tv : Nat → Nat} {H : Heap} (hL : bL (kE0 D cl b z tx tv) (b + 1) (fL (kE0 D cl b z tx tv) (b + 1)) 753 H) : ∀ i, i < kCnt 19 → kCell (kE0 D cl b z tx tv) kS0 H 19 i := kAllS (kAll0) (kc_a rfl (hL.2 11 (by decide)) (fun k _ => rfl))
set_option maxRecDepth 20000 in
theorem kw_20 {D : va_G} {cl : Nat → ClassId} {b : Nat} {z tx tv : Nat → Nat} {H : Heap} (hL : bL (kE0 D cl b z tx tv) (b + 1) (fL (kE0 D cl b z tx tv) (b + 1)) 753 H) : ∀ i, i < kCnt 20 → kCell (kE0 D cl b z tx tv) kS0 H 20 i := kAllS (kAll0) (kc_a rfl (hL.2 12 (by decide)) (fun k _ => rfl))
set_option maxRecDepth 20000 in
theorem kw_21 {D : va_G} {cl : Nat → ClassId} {b : Nat} {z tx tv : Nat → Nat} {H : Heap} (hL : bL (kE0 D cl b z tx tv) (b + 1) (fL (kE0 D cl b z tx tv) (b + 1)) 753 H) : ∀ i, i < kCnt 21 → kCell (kE0 D cl b z tx tv) kS0 H 21 i := kAllS (kAllS (kAllS (kAllS (kAll0) (kc_a rfl (hL.2 15 (by decide)) (fun k _ => rfl))) (kc_a rfl (hL.2 144 (by decide)) (fun k _ => rfl))) (kc_a rfl (hL.2 159 (by decide)) (fun k _ => rfl))) (kc_a rfl (hL.2 174 (by decide)) (fun k _ => rfl))
set_option maxRecDepth 20000 in
theorem kw_22 {D : va_G} {cl : Nat → ClassId} {b : Nat} {z tx tv : Nat → Nat} {H : Heap} (hL : bL (kE0 D cl b z tx tv) (b + 1) (fL (kE0 D cl b z tx tv) (b + 1)) 753 H) : ∀ i, i < kCnt 22 → kCell (kE0 D cl b z tx tv) kS0 H 22 i := kAllS (kAllS (kAllS (kAllS (kAll0) (kc_a rfl (hL.2 16 (by decide)) (fun k _ => rfl))) (kc_a rfl (hL.2 145 (by decide)) (fun k _ => rfl))) (kc_a rfl (hL.2 160 (by decide)) (fun k _ => rfl))) (kc_a rfl (hL.2 175 (by decide)) (fun k _ => rfl))
set_option maxRecDepth 20000 in
theorem kw_23 {D : va_G} {cl : Nat → ClassId} {b : Nat} {z tx tv : Nat → Nat} {H : Heap} (hL : bL (kE0 D cl b z tx tv) (b + 1) (fL (kE0 D cl b z tx tv) (b + 1)) 753 H) : ∀ i, i < kCnt 23 → kCell (kE0 D cl b z tx tv) kS0 H 23 i := kAllS (kAllS (kAllS (kAllS (kAll0) (kc_a rfl (hL.2 17 (by decide)) (fun k _ => rfl))) (kc_a rfl (hL.2 146 (by decide)) (fun k _ => rfl))) (kc_a rfl (hL.2 161 (by decide)) (fun k _ => rfl))) (kc_a rfl (hL.2 176 (by decide)) (fun k _ => rfl))
set_option maxRecDepth 20000 in
theorem kw_24 {D : va_G} {cl : Nat → ClassId} {b : Nat} {z tx tv : Nat → Nat} {H : Heap} (hL : bL (kE0 D cl b z tx tv) (b + 1) (fL (kE0 D cl b z tx tv) (b + 1)) 753 H) : ∀ i, i < kCnt 24 → kCell (kE0 D cl b z tx tv) kS0 H 24 i := kAllS (kAllS (kAllS (kAllS (kAll0) (kc_a rfl (hL.2 18 (by decide)) (fun k _ => rfl))) (kc_a rfl (hL.2 147 (by decide)) (fun k _ => rfl))) (kc_a rfl (hL.2 162 (by decide)) (fun k _ => rfl))) (kc_a rfl (hL.2 177 (by decide)) (fun k _ => rfl))
set_option maxRecDepth 20000 in
theorem kw_25 {D : va_G} {cl : Nat → ClassId} {b : Nat} {z tx tv : Nat → Nat} {H : Heap} (hL : bL (kE0 D cl b z tx tv) (b + 1) (fL (kE0 D cl b z tx tv) (b + 1)) 753 H) : ∀ i, i < kCnt 25 → kCell (kE0 D cl b z tx tv) kS0 H 25 i := kAllS (kAllS (kAllS (kAllS (kAll0) (kc_a rfl (hL.2 19 (by decide)) (fun k _ => rfl))) (kc_a rfl (hL.2 148 (by decide)) (fun k _ => rfl))) (kc_a rfl (hL.2 163 (by decide)) (fun k _ => rfl))) (kc_a rfl (hL.2 178 (by decide)) (fun k _ => rfl))
set_option maxRecDepth 20000 in
theorem kw_26 {D : va_G} {cl : Nat → ClassId} {b : Nat} {z tx tv : Nat → Nat} {H : Heap} (hL : bL (kE0 D cl b z tx tv) (b + 1) (fL (kE0 D cl b z tx tv) (b + 1)) 753 H) : ∀ i, i < kCnt 26 → kCell (kE0 D cl b z tx tv) kS0 H 26 i := kAllS (kAllS (kAllS (kAllS (kAll0) (kc_a rfl (hL.2 20 (by decide)) (fun k _ => rfl))) (kc_a rfl (hL.2 149 (by decide)) (fun k _ => rfl))) (kc_a rfl (hL.2 164 (by decide)) (fun k _ => rfl))) (kc_a rfl (hL.2 179 (by decide)) (fun k _ => rfl))
set_option maxRecDepth 20000 in
theorem kw_27 {D : va_G} {cl : Nat → ClassId} {b : Nat} {z tx tv : Nat → Nat} {H : Heap} (hL : bL (kE0 D cl b z tx tv) (b + 1) (fL (kE0 D cl b z tx tv) (b + 1)) 753 H) : ∀ i, i < kCnt 27 → kCell (kE0 D cl b z tx tv) kS0 H 27 i := kAllS (kAllS (kAllS (kAllS (kAll0) (kc_a rfl (hL.2 21 (by decide)) (fun k _ => rfl))) (kc_a rfl (hL.2 150 (by decide)) (fun k _ => rfl))) (kc_a rfl (hL.2 165 (by decide)) (fun k _ => rfl))) (kc_a rfl (hL.2 180 (by decide)) (fun k _ => rfl))
set_option maxRecDepth 20000 in
theorem kw_28 {D : va_G} {cl : Nat → ClassId} {b : Nat} {z tx tv : Nat → Nat} {H : Heap} (hL : bL (kE0 D cl b z tx tv) (b + 1) (fL (kE0 D cl b z tx tv) (b + 1)) 753 H) : ∀ i, i < kCnt 28 → kCell (kE0 D cl b z tx tv) kS0 H 28 i := kAllS (kAllS (kAllS (kAllS (kAll0) (kc_a rfl (hL.2 22 (by decide)) (fun k _ => rfl))) (kc_a rfl (hL.2 151 (by decide)) (fun k _ => rfl))) (kc_a rfl (hL.2 166 (by decide)) (fun k _ => rfl))) (kc_a rfl (hL.2 181 (by decide)) (fun k _ => rfl))
set_option maxRecDepth 20000 in
theorem kw_29 {D : va_G} {cl : Nat → ClassId} {b : Nat} {z tx tv : Nat → Nat} {H : Heap} (hL : bL (kE0 D cl b z tx tv) (b + 1) (fL (kE0 D cl b z tx tv) (b + 1)) 753 H) : ∀ i, i < kCnt 29 → kCell (kE0 D cl b z tx tv) kS0 H 29 i := kAllS (kAllS (kAllS (kAllS (kAll0) (kc_a rfl (hL.2 23 (by decide)) (fun k _ => rfl))) (kc_a rfl (hL.2 152 (by decide)) (fun k _ => rfl))) (kc_a rfl (hL.2 167 (by decide)) (fun k _ => rfl))) (kc_a rfl (hL.2 182 (by decide)) (fun k _ => rfl))
set_option maxRecDepth 20000 in
theorem kw_30 {D : va_G} {cl : Nat → ClassId} {b : Nat} {z tx tv : Nat → Nat} {H : Heap} (hL : bL (kE0 D cl b z tx tv) (b + 1) (fL (kE0 D cl b z tx tv) (b + 1)) 753 H) : ∀ i, i < kCnt 30 → kCell (kE0 D cl b z tx tv) kS0 H 30 i := kAllS (kAllS (kAllS (kAllS (kAll0) (kc_a rfl (hL.2 24 (by decide)) (fun k _ => rfl))) (kc_a rfl (hL.2 153 (by decide)) (fun k _ => rfl))) (kc_a rfl (hL.2 168 (by decide)) (fun k _ => rfl))) (kc_a rfl (hL.2 183 (by decide)) (fun k _ => rfl))
set_option maxRecDepth 20000 in
theorem kw_31 {D : va_G} {cl : Nat → ClassId} {b : Nat} {z tx tv : Nat → Nat} {H : Heap} (hL : bL (kE0 D cl b z tx tv) (b + 1) (fL (kE0 D cl b z tx tv) (b + 1)) 753 H) : ∀ i, i < kCnt 31 → kCell (kE0 D cl b z tx tv) kS0 H 31 i := kAllS (kAllS (kAllS (kAllS (kAll0) (kc_a rfl (hL.2 25 (by decide)) (fun k _ => rfl))) (kc_a rfl (hL.2 154 (by decide)) (fun k _ => rfl))) (kc_a rfl (hL.2 169 (by decide)) (fun k _ => rfl))) (kc_a rfl (hL.2 184 (by decide)) (fun k _ => rfl))
set_option maxRecDepth 20000 in
theorem kw_32 {D : va_G} {cl : Nat → ClassId} {b : Nat} {z tx tv : Nat → Nat} {H : Heap} (hL : bL (kE0 D cl b z tx tv) (b + 1) (fL (kE0 D cl b z tx tv) (b + 1)) 753 H) : ∀ i, i < kCnt 32 → kCell (kE0 D cl b z tx tv) kS0 H 32 i := kAllS (kAllS (kAllS (kAllS (kAll0) (kc_a rfl (hL.2 26 (by decide)) (fun k _ => rfl))) (kc_a rfl (hL.2 155 (by decide)) (fun k _ => rfl))) (kc_a rfl (hL.2 170 (by decide)) (fun k _ => rfl))) (kc_a rfl (hL.2 185 (by decide)) (fun k _ => rfl))
set_option maxRecDepth 20000 in
theorem kw_33 {D : va_G} {cl : Nat → ClassId} {b : Nat} {z tx tv : Nat → Nat} {H : Heap} (hL : bL (kE0 D cl b z tx tv) (b + 1) (fL (kE0 D cl b z tx tv) (b + 1)) 753 H) : ∀ i, i < kCnt 33 → kCell (kE0 D cl b z tx tv) kS0 H 33 i := kAllS (kAllS (kAllS (kAllS (kAll0) (kc_a rfl (hL.2 27 (by decide)) (fun k _ => rfl))) (kc_a rfl (hL.2 156 (by decide)) (fun k _ => rfl))) (kc_a rfl (hL.2 171 (by decide)) (fun k _ => rfl))) (kc_a rfl (hL.2 186 (by decide)) (fun k _ => rfl))
set_option maxRecDepth 20000 in
theorem kw_34 {D : va_G} {cl : Nat → ClassId} {b : Nat} {z tx tv : Nat → Nat} {H : Heap} (hL : bL (kE0 D cl b z tx tv) (b + 1) (fL (kE0 D cl b z tx tv) (b + 1)) 753 H) : ∀ i, i < kCnt 34 → kCell (kE0 D cl b z tx tv) kS0 H 34 i := kAllS (kAllS (kAllS (kAllS (kAll0) (kc_a rfl (hL.2 28 (by decide)) (fun k _ => rfl))) (kc_a rfl (hL.2 157 (by decide)) (fun k _ => rfl))) (kc_a rfl (hL.2 172 (by decide)) (fun k _ => rfl))) (kc_a rfl (hL.2 187 (by decide)) (fun k _ => rfl))
set_option maxRecDepth 20000 in
theorem kw_35 {D : va_G} {cl : Nat → ClassId} {b : Nat} {z tx tv : Nat → Nat} {H : Heap} (hL : bL (kE0 D cl b z tx tv) (b + 1) (fL (kE0 D cl b z tx tv) (b + 1)) 753 H) : ∀ i, i < kCnt 35 → kCell (kE0 D cl b z tx tv) kS0 H 35 i := kAllS (kAll0) (kc_a rfl (hL.2 31 (by decide)) (fun k _ => rfl))
set_option maxRecDepth 20000 in
theorem kw_36 {D : va_G} {cl : Nat → ClassId} {b : Nat} {z tx tv : Nat → Nat} {H : Heap} (hL : bL (kE0 D cl b z tx tv) (b + 1) (fL (kE0 D cl b z tx tv) (b + 1)) 753 H) : ∀ i, i < kCnt 36 → kCell (kE0 D cl b z tx tv) kS0 H 36 i := kAllS (kAll0) (kc_a rfl (hL.2 32 (by decide)) (fun k _ => rfl))
set_option maxRecDepth 20000 in
theorem kw_37 {D : va_G} {cl : Nat → ClassId} {b : Nat} {z tx tv : Nat → Nat} {H : Heap} (hL : bL (kE0 D cl b z tx tv) (b + 1) (fL (kE0 D cl b z tx tv) (b + 1)) 753 H) : ∀ i, i < kCnt 37 → kCell (kE0 D cl b z tx tv) kS0 H 37 i := kAllS (kAll0) (kc_a rfl (hL.2 33 (by decide)) (fun k _ => rfl))
set_option maxRecDepth 20000 in
theorem kw_38 {D : va_G} {cl : Nat → ClassId} {b : Nat} {z tx tv : Nat → Nat} {H : Heap} (hL : bL (kE0 D cl b z tx tv) (b + 1) (fL (kE0 D cl b z tx tv) (b + 1)) 753 H) : ∀ i, i < kCnt 38 → kCell (kE0 D cl b z tx tv) kS0 H 38 i := kAllS (kAll0) (kc_a rfl (hL.2 34 (by decide)) (fun k _ => rfl))
set_option maxRecDepth 20000 in
theorem kw_39 {D : va_G} {cl : Nat → ClassId} {b : Nat} {z tx tv : Nat → Nat} {H : Heap} (hL : bL (kE0 D cl b z tx tv) (b + 1) (fL (kE0 D cl b z tx tv) (b + 1)) 753 H) : ∀ i, i < kCnt 39 → kCell (kE0 D cl b z tx tv) kS0 H 39 i := kAllS (kAll0) (kc_a rfl (hL.2 35 (by decide)) (fun k _ => rfl))
set_option maxRecDepth 20000 in
theorem kw_40 {D : va_G} {cl : Nat → ClassId} {b : Nat} {z tx tv : Nat → Nat} {H : Heap} (hL : bL (kE0 D cl b z tx tv) (b + 1) (fL (kE0 D cl b z tx tv) (b + 1)) 753 H) : ∀ i, i < kCnt 40 → kCell (kE0 D cl b z tx tv) kS0 H 40 i := kAllS (kAllS (kAllS (kAllS (kAllS (kAllS (kAll0) (kc_o rfl (hL.2 55 (by decide)) (kAllS (kAllS (kAllS (kAllS (kAllS (kAllS (kAllS (kAllS (kAllS (kAllS (kAllS (kAllS (kAll0) (rfl)) (rfl)) (rfl)) (rfl)) (rfl)) (rfl)) (rfl)) (rfl)) (rfl)) (rfl)) (rfl)) (rfl)))) (kc_o rfl (hL.2 71 (by decide)) (kAllS (kAllS (kAllS (kAllS (kAllS (kAllS (kAllS (kAllS (kAllS (kAllS (kAllS (kAllS (kAll0) (rfl)) (rfl)) (rfl)) (rfl)) (rfl)) (rfl)) (rfl)) (rfl)) (rfl)) (rfl)) (rfl)) (rfl)))) (kc_o rfl (hL.2 87 (by decide)) (kAllS (kAllS (kAllS (kAllS (kAllS (kAllS (kAllS (kAllS (kAllS (kAllS (kAllS (kAllS (kAll0) (rfl)) (rfl)) (rfl)) (rfl)) (rfl)) (rfl)) (rfl)) (rfl)) (rfl)) (rfl)) (rfl)) (rfl)))) (kc_o rfl (hL.2 103 (by decide)) (kAllS (kAllS (kAllS (kAllS (kAllS (kAllS (kAllS (kAllS (kAllS (kAllS (kAllS (kAllS (kAll0) (rfl)) (rfl)) (rfl)) (rfl)) (rfl)) (rfl)) (rfl)) (rfl)) (rfl)) (rfl)) (rfl)) (rfl)))) (kc_o rfl (hL.2 119 (by decide)) (kAllS (kAllS (kAllS (kAllS (kAllS (kAllS (kAllS (kAllS (kAllS (kAllS (kAllS (kAllS (kAll0) (rfl)) (rfl)) (rfl)) (rfl)) (rfl)) (rfl)) (rfl)) (rfl)) (rfl)) (rfl)) (rfl)) (rfl)))) (kc_o rfl (hL.2 135 (by decide)) (kAllS (kAllS (kAllS (kAllS (kAllS (kAllS (kAllS (kAllS (kAllS (kAllS (kAllS (kAllS (kAll0) (rfl)) (rfl)) (rfl)) (rfl)) (rfl)) (rfl)) (rfl)) (rfl)) (rfl)) (rfl)) (rfl)) (rfl)))
set_option maxRecDepth 20000 in
theorem kw_41 {D : va_G} {cl : Nat → ClassId} {b : Nat} {z tx tv : Nat → Nat} {H : Heap} (hL : bL (kE0 D cl b z tx tv) (b + 1) (fL (kE0 D cl b z tx tv) (b + 1)) 753 H) : ∀ i, i < kCnt 41 → kCell (kE0 D cl b z tx tv) kS0 H 41 i := kAllS (kAllS (kAllS (kAllS (kAllS (kAllS (kAll0) (kc_a rfl (hL.2 56 (by decide)) (fun k _ => rfl))) (kc_a rfl (hL.2 72 (by decide)) (fun k _ => rfl))) (kc_a rfl (hL.2 88 (by decide)) (fun k _ => rfl))) (kc_a rfl (hL.2 104 (by decide)) (fun k _ => rfl))) (kc_a rfl (hL.2 120 (by decide)) (fun k _ => rfl))) (kc_a rfl (hL.2 136 (by decide)) (fun k _ => rfl))
set_option maxRecDepth 20000 in
theorem kw_42 {D : va_G} {cl : Nat → ClassId} {b : Nat} {z tx tv : Nat → Nat} {H : Heap} (hL : bL (kE0 D cl b z tx tv) (b + 1) (fL (kE0 D cl b z tx tv) (b + 1)) 753 H) : ∀ i, i < kCnt 42 → kCell (kE0 D cl b z tx tv) kS0 H 42 i := kAllS (kAllS (kAllS (kAllS (kAllS (kAllS (kAll0) (kc_a rfl (hL.2 57 (by decide)) (fun k _ => rfl))) (kc_a rfl (hL.2 73 (by decide)) (fun k _ => rfl))) (kc_a rfl (hL.2 89 (by decide)) (fun k _ => rfl))) (kc_a rfl (hL.2 105 (by decide)) (fun k _ => rfl))) (kc_a rfl (hL.2 121 (by decide)) (fun k _ => rfl))) (kc_a rfl (hL.2 137 (by decide)) (fun k _ => rfl))
set_option maxRecDepth 20000 in
theorem kw_43 {D : va_G} {cl : Nat → ClassId} {b : Nat} {z tx tv : Nat → Nat} {H : Heap} (hL : bL (kE0 D cl b z tx tv) (b + 1) (fL (kE0 D cl b z tx tv) (b + 1)) 753 H) : ∀ i, i < kCnt 43 → kCell (kE0 D cl b z tx tv) kS0 H 43 i := kAllS (kAllS (kAllS (kAllS (kAllS (kAllS (kAll0) (kc_a rfl (hL.2 58 (by decide)) (fun k _ => rfl))) (kc_a rfl (hL.2 74 (by decide)) (fun k _ => rfl))) (kc_a rfl (hL.2 90 (by decide)) (fun k _ => rfl))) (kc_a rfl (hL.2 106 (by decide)) (fun k _ => rfl))) (kc_a rfl (hL.2 122 (by decide)) (fun k _ => rfl))) (kc_a rfl (hL.2 138 (by decide)) (fun k _ => rfl))
set_option maxRecDepth 20000 in
theorem kw_44 {D : va_G} {cl : Nat → ClassId} {b : Nat} {z tx tv : Nat → Nat} {H : Heap} (hL : bL (kE0 D cl b z tx tv) (b + 1) (fL (kE0 D cl b z tx tv) (b + 1)) 753 H) : ∀ i, i < kCnt 44 → kCell (kE0 D cl b z tx tv) kS0 H 44 i := kAllS (kAllS (kAllS (kAllS (kAllS (kAllS (kAll0) (kc_a rfl (hL.2 59 (by decide)) (fun k _ => rfl))) (kc_a rfl (hL.2 75 (by decide)) (fun k _ => rfl))) (kc_a rfl (hL.2 91 (by decide)) (fun k _ => rfl))) (kc_a rfl (hL.2 107 (by decide)) (fun k _ => rfl))) (kc_a rfl (hL.2 123 (by decide)) (fun k _ => rfl))) (kc_a rfl (hL.2 139 (by decide)) (fun k _ => rfl))
set_option maxRecDepth 20000 in
theorem kw_45 {D : va_G} {cl : Nat → ClassId} {b : Nat} {z tx tv : Nat → Nat} {H : Heap} (hL : bL (kE0 D cl b z tx tv) (b + 1) (fL (kE0 D cl b z tx tv) (b + 1)) 753 H) : ∀ i, i < kCnt 45 → kCell (kE0 D cl b z tx tv) kS0 H 45 i := kAllS (kAllS (kAllS (kAllS (kAllS (kAllS (kAll0) (kc_a rfl (hL.2 60 (by decide)) (fun k _ => rfl))) (kc_a rfl (hL.2 76 (by decide)) (fun k _ => rfl))) (kc_a rfl (hL.2 92 (by decide)) (fun k _ => rfl))) (kc_a rfl (hL.2 108 (by decide)) (fun k _ => rfl))) (kc_a rfl (hL.2 124 (by decide)) (fun k _ => rfl))) (kc_a rfl (hL.2 140 (by decide)) (fun k _ => rfl))
set_option maxRecDepth 20000 in
theorem kw_46 {D : va_G} {cl : Nat → ClassId} {b : Nat} {z tx tv : Nat → Nat} {H : Heap} (hL : bL (kE0 D cl b z tx tv) (b + 1) (fL (kE0 D cl b z tx tv) (b + 1)) 753 H) : ∀ i, i < kCnt 46 → kCell (kE0 D cl b z tx tv) kS0 H 46 i := kAllS (kAllS (kAllS (kAllS (kAllS (kAllS (kAll0) (kc_a rfl (hL.2 61 (by decide)) (fun k _ => rfl))) (kc_a rfl (hL.2 77 (by decide)) (fun k _ => rfl))) (kc_a rfl (hL.2 93 (by decide)) (fun k _ => rfl))) (kc_a rfl (hL.2 109 (by decide)) (fun k _ => rfl))) (kc_a rfl (hL.2 125 (by decide)) (fun k _ => rfl))) (kc_a rfl (hL.2 141 (by decide)) (fun k _ => rfl))
set_option maxRecDepth 20000 in
theorem kw_47 {D : va_G} {cl : Nat → ClassId} {b : Nat} {z tx tv : Nat → Nat} {H : Heap} (hL : bL (kE0 D cl b z tx tv) (b + 1) (fL (kE0 D cl b z tx tv) (b + 1)) 753 H) : ∀ i, i < kCnt 47 → kCell (kE0 D cl b z tx tv) kS0 H 47 i := kAllS (kAllS (kAllS (kAllS (kAllS (kAllS (kAll0) (kc_a rfl (hL.2 62 (by decide)) (fun k _ => rfl))) (kc_a rfl (hL.2 78 (by decide)) (fun k _ => rfl))) (kc_a rfl (hL.2 94 (by decide)) (fun k _ => rfl))) (kc_a rfl (hL.2 110 (by decide)) (fun k _ => rfl))) (kc_a rfl (hL.2 126 (by decide)) (fun k _ => rfl))) (kc_a rfl (hL.2 142 (by decide)) (fun k _ => rfl))
set_option maxRecDepth 20000 in
theorem kw_48 {D : va_G} {cl : Nat → ClassId} {b : Nat} {z tx tv : Nat → Nat} {H : Heap} (hL : bL (kE0 D cl b z tx tv) (b + 1) (fL (kE0 D cl b z tx tv) (b + 1)) 753 H) : ∀ i, i < kCnt 48 → kCell (kE0 D cl b z tx tv) kS0 H 48 i := kAllS (kAll0) (kc_o rfl (hL.2 188 (by decide)) (kAllS (kAllS (kAllS (kAllS (kAllS (kAllS (kAllS (kAllS (kAllS (kAllS (kAllS (kAllS (kAllS (kAllS (kAllS (kAllS (kAllS (kAllS (kAllS (kAllS (kAllS (kAllS (kAllS (kAllS (kAllS (kAllS (kAllS (kAllS (kAllS (kAllS (kAllS (kAllS (kAllS (kAllS (kAllS (kAllS (kAllS (kAllS (kAllS (kAllS (kAllS (kAllS (kAllS (kAllS (kAllS (kAllS (kAllS (kAllS (kAllS (kAllS (kAllS (kAllS (kAllS (kAll0) (rfl)) (rfl)) (rfl)) (rfl)) (rfl)) (rfl)) (rfl)) (rfl)) (rfl)) (rfl)) (rfl)) (rfl)) (rfl)) (rfl)) (rfl)) (rfl)) (rfl)) (rfl)) (rfl)) (rfl)) (rfl)) (rfl)) (rfl)) (rfl)) (rfl)) (rfl)) (rfl)) (rfl)) (rfl)) (rfl)) (rfl)) (rfl)) (rfl)) (rfl)) (rfl)) (rfl)) (rfl)) (rfl)) (rfl)) (rfl)) (rfl)) (rfl)) (rfl)) (rfl)) (rfl)) (rfl)) (rfl)) (rfl)) (rfl)) (rfl)) (rfl)) (rfl)) (rfl)))
set_option maxRecDepth 20000 in
theorem kw_49 {D : va_G} {cl : Nat → ClassId} {b : Nat} {z tx tv : Nat → Nat} {H : Heap} (hL : bL (kE0 D cl b z tx tv) (b + 1) (fL (kE0 D cl b z tx tv) (b + 1)) 753 H) : ∀ i, i < kCnt 49 → kCell (kE0 D cl b z tx tv) kS0 H 49 i := kAllS (kAll0) (kc_a rfl (hL.2 189 (by decide)) (fun k _ => rfl))
set_option maxRecDepth 20000 in
theorem kw_50 {D : va_G} {cl : Nat → ClassId} {b : Nat} {z tx tv : Nat → Nat} {H : Heap} (hL : bL (kE0 D cl b z tx tv) (b + 1) (fL (kE0 D cl b z tx tv) (b + 1)) 753 H) : ∀ i, i < kCnt 50 → kCell (kE0 D cl b z tx tv) kS0 H 50 i := kAllS (kAll0) (kc_a rfl (hL.2 190 (by decide)) (fun k _ => rfl))
set_option maxRecDepth 20000 in
theorem kw_51 {D : va_G} {cl : Nat → ClassId} {b : Nat} {z tx tv : Nat → Nat} {H : Heap} (hL : bL (kE0 D cl b z tx tv) (b + 1) (fL (kE0 D cl b z tx tv) (b + 1)) 753 H) : ∀ i, i < kCnt 51 → kCell (kE0 D cl b z tx tv) kS0 H 51 i := kAllS (kAll0) (kc_a rfl (hL.2 191 (by decide)) (fun k _ => congrArg Value.ref (show b + 1 + 189 + 2 + 1 + k = b + 1 + (192 + (k + 0)) by omega)))
set_option maxRecDepth 20000 in
theorem fG_52 (E : kE) (h i : Nat) (hi : i < 15) : fL E h (192 + i) = .inr (kcA E 8, 4, fun _ => .int 0) := by
  unfold fL bf_X6
  simp only [bU, bA, bM]
  repeat (first | rw [if_neg (by omega)] | rw [if_pos (by omega)])
theorem kw_52 {D : va_G} {cl : Nat → ClassId} {b : Nat} {z tx tv : Nat → Nat} {H : Heap} (hL : bL (kE0 D cl b z tx tv) (b + 1) (fL (kE0 D cl b z tx tv) (b + 1)) 753 H) : ∀ i, i < kCnt 52 → kCell (kE0 D cl b z tx tv) kS0 H 52 i := by
  intro i hi
  have hi : i < 15 := hi
  have h1 := hL.2 (192 + i) (by omega)
  rw [fG_52 _ _ _ hi] at h1
  exact kc_a rfl h1 (fun k _ => rfl)
set_option maxRecDepth 20000 in
theorem kw_53 {D : va_G} {cl : Nat → ClassId} {b : Nat} {z tx tv : Nat → Nat} {H : Heap} (hL : bL (kE0 D cl b z tx tv) (b + 1) (fL (kE0 D cl b z tx tv) (b + 1)) 753 H) : ∀ i, i < kCnt 53 → kCell (kE0 D cl b z tx tv) kS0 H 53 i := kAllS (kAll0) (kc_a rfl (hL.2 207 (by decide)) (fun k _ => congrArg Value.ref (show b + 1 + 189 + 18 + 1 + k = b + 1 + (208 + (k + 0)) by omega)))
set_option maxRecDepth 20000 in
theorem fG_54 (E : kE) (h i : Nat) (hi : i < 6) : fL E h (208 + i) = .inr (kcA E 8, 400, fun _ => .int 0) := by
  unfold fL bf_X6
  simp only [bU, bA, bM]
  repeat (first | rw [if_neg (by omega)] | rw [if_pos (by omega)])
theorem kw_54 {D : va_G} {cl : Nat → ClassId} {b : Nat} {z tx tv : Nat → Nat} {H : Heap} (hL : bL (kE0 D cl b z tx tv) (b + 1) (fL (kE0 D cl b z tx tv) (b + 1)) 753 H) : ∀ i, i < kCnt 54 → kCell (kE0 D cl b z tx tv) kS0 H 54 i := by
  intro i hi
  have hi : i < 6 := hi
  have h1 := hL.2 (208 + i) (by omega)
  rw [fG_54 _ _ _ hi] at h1
  exact kc_a rfl h1 (fun k _ => rfl)
set_option maxRecDepth 20000 in
theorem kw_55 {D : va_G} {cl : Nat → ClassId} {b : Nat} {z tx tv : Nat → Nat} {H : Heap} (hL : bL (kE0 D cl b z tx tv) (b + 1) (fL (kE0 D cl b z tx tv) (b + 1)) 753 H) : ∀ i, i < kCnt 55 → kCell (kE0 D cl b z tx tv) kS0 H 55 i := kAllS (kAll0) (kc_a rfl (hL.2 214 (by decide)) (fun k _ => congrArg Value.ref (show b + 1 + 189 + 25 + 1 + k = b + 1 + (215 + (k + 0)) by omega)))
set_option maxRecDepth 20000 in
theorem fG_56 (E : kE) (h i : Nat) (hi : i < 84) : fL E h (215 + i) = .inr (kcA E 8, 4, fun _ => .int 0) := by
  unfold fL bf_X6
  simp only [bU, bA, bM]
  repeat (first | rw [if_neg (by omega)] | rw [if_pos (by omega)])
theorem kw_56 {D : va_G} {cl : Nat → ClassId} {b : Nat} {z tx tv : Nat → Nat} {H : Heap} (hL : bL (kE0 D cl b z tx tv) (b + 1) (fL (kE0 D cl b z tx tv) (b + 1)) 753 H) : ∀ i, i < kCnt 56 → kCell (kE0 D cl b z tx tv) kS0 H 56 i := by
  intro i hi
  have hi : i < 84 := hi
  have h1 := hL.2 (215 + i) (by omega)
  rw [fG_56 _ _ _ hi] at h1
  exact kc_a rfl h1 (fun k _ => rfl)
set_option maxRecDepth 20000 in
theorem kw_57 {D : va_G} {cl : Nat → ClassId} {b : Nat} {z tx tv : Nat → Nat} {H : Heap} (hL : bL (kE0 D cl b z tx tv) (b + 1) (fL (kE0 D cl b z tx tv) (b + 1)) 753 H) : ∀ i, i < kCnt 57 → kCell (kE0 D cl b z tx tv) kS0 H 57 i := kAllS (kAll0) (kc_a rfl (hL.2 299 (by decide)) (fun k _ => rfl))
set_option maxRecDepth 20000 in
theorem kw_58 {D : va_G} {cl : Nat → ClassId} {b : Nat} {z tx tv : Nat → Nat} {H : Heap} (hL : bL (kE0 D cl b z tx tv) (b + 1) (fL (kE0 D cl b z tx tv) (b + 1)) 753 H) : ∀ i, i < kCnt 58 → kCell (kE0 D cl b z tx tv) kS0 H 58 i := kAllS (kAll0) (kc_a rfl (hL.2 300 (by decide)) (fun k _ => rfl))
set_option maxRecDepth 20000 in
theorem kw_59 {D : va_G} {cl : Nat → ClassId} {b : Nat} {z tx tv : Nat → Nat} {H : Heap} (hL : bL (kE0 D cl b z tx tv) (b + 1) (fL (kE0 D cl b z tx tv) (b + 1)) 753 H) : ∀ i, i < kCnt 59 → kCell (kE0 D cl b z tx tv) kS0 H 59 i := kAllS (kAll0) (kc_a rfl (hL.2 301 (by decide)) (fun k _ => rfl))
set_option maxRecDepth 20000 in
theorem kw_60 {D : va_G} {cl : Nat → ClassId} {b : Nat} {z tx tv : Nat → Nat} {H : Heap} (hL : bL (kE0 D cl b z tx tv) (b + 1) (fL (kE0 D cl b z tx tv) (b + 1)) 753 H) : ∀ i, i < kCnt 60 → kCell (kE0 D cl b z tx tv) kS0 H 60 i := kAllS (kAll0) (kc_a rfl (hL.2 302 (by decide)) (fun k _ => rfl))
set_option maxRecDepth 20000 in
theorem kw_61 {D : va_G} {cl : Nat → ClassId} {b : Nat} {z tx tv : Nat → Nat} {H : Heap} (hL : bL (kE0 D cl b z tx tv) (b + 1) (fL (kE0 D cl b z tx tv) (b + 1)) 753 H) : ∀ i, i < kCnt 61 → kCell (kE0 D cl b z tx tv) kS0 H 61 i := kAllS (kAll0) (kc_a rfl (hL.2 303 (by decide)) (kAllS (kAllS (kAllS (kAllS (kAllS (kAllS (kAllS (kAllS (kAllS (kAllS (kAll0) (rfl)) (rfl)) (rfl)) (rfl)) (rfl)) (rfl)) (rfl)) (rfl)) (rfl)) (rfl)))
set_option maxRecDepth 20000 in
theorem kw_62 {D : va_G} {cl : Nat → ClassId} {b : Nat} {z tx tv : Nat → Nat} {H : Heap} (hL : bL (kE0 D cl b z tx tv) (b + 1) (fL (kE0 D cl b z tx tv) (b + 1)) 753 H) : ∀ i, i < kCnt 62 → kCell (kE0 D cl b z tx tv) kS0 H 62 i := kAllS (kAll0) (kc_a rfl (hL.2 304 (by decide)) (kAllS (kAllS (kAllS (kAllS (kAllS (kAllS (kAllS (kAllS (kAll0) (rfl)) (rfl)) (rfl)) (rfl)) (rfl)) (rfl)) (rfl)) (rfl)))
set_option maxRecDepth 20000 in
theorem kw_63 {D : va_G} {cl : Nat → ClassId} {b : Nat} {z tx tv : Nat → Nat} {H : Heap} (hL : bL (kE0 D cl b z tx tv) (b + 1) (fL (kE0 D cl b z tx tv) (b + 1)) 753 H) : ∀ i, i < kCnt 63 → kCell (kE0 D cl b z tx tv) kS0 H 63 i := kAllS (kAll0) (kc_a rfl (hL.2 305 (by decide)) (fun k _ => rfl))
set_option maxRecDepth 20000 in
theorem kw_64 {D : va_G} {cl : Nat → ClassId} {b : Nat} {z tx tv : Nat → Nat} {H : Heap} (hL : bL (kE0 D cl b z tx tv) (b + 1) (fL (kE0 D cl b z tx tv) (b + 1)) 753 H) : ∀ i, i < kCnt 64 → kCell (kE0 D cl b z tx tv) kS0 H 64 i := kAllS (kAll0) (kc_a rfl (hL.2 306 (by decide)) (fun k _ => rfl))
set_option maxRecDepth 20000 in
theorem kw_65 {D : va_G} {cl : Nat → ClassId} {b : Nat} {z tx tv : Nat → Nat} {H : Heap} (hL : bL (kE0 D cl b z tx tv) (b + 1) (fL (kE0 D cl b z tx tv) (b + 1)) 753 H) : ∀ i, i < kCnt 65 → kCell (kE0 D cl b z tx tv) kS0 H 65 i := kAllS (kAll0) (kc_a rfl (hL.2 307 (by decide)) (fun k _ => rfl))
set_option maxRecDepth 20000 in
theorem kw_66 {D : va_G} {cl : Nat → ClassId} {b : Nat} {z tx tv : Nat → Nat} {H : Heap} (hL : bL (kE0 D cl b z tx tv) (b + 1) (fL (kE0 D cl b z tx tv) (b + 1)) 753 H) : ∀ i, i < kCnt 66 → kCell (kE0 D cl b z tx tv) kS0 H 66 i := kAllS (kAll0) (kc_a rfl (hL.2 308 (by decide)) (fun k _ => rfl))
set_option maxRecDepth 20000 in
theorem kw_67 {D : va_G} {cl : Nat → ClassId} {b : Nat} {z tx tv : Nat → Nat} {H : Heap} (hL : bL (kE0 D cl b z tx tv) (b + 1) (fL (kE0 D cl b z tx tv) (b + 1)) 753 H) : ∀ i, i < kCnt 67 → kCell (kE0 D cl b z tx tv) kS0 H 67 i := kAllS (kAll0) (kc_a rfl (hL.2 309 (by decide)) (fun k _ => congrArg Value.ref (show b + 1 + 189 + 120 + 1 + k = b + 1 + (310 + (k + 0)) by omega)))
set_option maxRecDepth 20000 in
theorem fG_68 (E : kE) (h i : Nat) (hi : i < 100) : fL E h (310 + i) = .inr (kcA E 8, 8, fun _ => .int 0) := by
  unfold fL bf_X6
  simp only [bU, bA, bM]
  repeat (first | rw [if_neg (by omega)] | rw [if_pos (by omega)])
theorem kw_68 {D : va_G} {cl : Nat → ClassId} {b : Nat} {z tx tv : Nat → Nat} {H : Heap} (hL : bL (kE0 D cl b z tx tv) (b + 1) (fL (kE0 D cl b z tx tv) (b + 1)) 753 H) : ∀ i, i < kCnt 68 → kCell (kE0 D cl b z tx tv) kS0 H 68 i := by
  intro i hi
  have hi : i < 100 := hi
  have h1 := hL.2 (310 + i) (by omega)
  rw [fG_68 _ _ _ hi] at h1
  exact kc_a rfl h1 (fun k _ => rfl)
set_option maxRecDepth 20000 in
theorem kw_69 {D : va_G} {cl : Nat → ClassId} {b : Nat} {z tx tv : Nat → Nat} {H : Heap} (hL : bL (kE0 D cl b z tx tv) (b + 1) (fL (kE0 D cl b z tx tv) (b + 1)) 753 H) : ∀ i, i < kCnt 69 → kCell (kE0 D cl b z tx tv) kS0 H 69 i := kAllS (kAll0) (kc_a rfl (hL.2 410 (by decide)) (fun k _ => congrArg Value.ref (show b + 1 + 189 + 221 + 1 + k = b + 1 + (411 + (k + 0)) by omega)))
set_option maxRecDepth 20000 in
theorem fG_70 (E : kE) (h i : Nat) (hi : i < 100) : fL E h (411 + i) = .inr (kcA E 8, 8, fun _ => .int 0) := by
  unfold fL bf_X6
  simp only [bU, bA, bM]
  repeat (first | rw [if_neg (by omega)] | rw [if_pos (by omega)])
theorem kw_70 {D : va_G} {cl : Nat → ClassId} {b : Nat} {z tx tv : Nat → Nat} {H : Heap} (hL : bL (kE0 D cl b z tx tv) (b + 1) (fL (kE0 D cl b z tx tv) (b + 1)) 753 H) : ∀ i, i < kCnt 70 → kCell (kE0 D cl b z tx tv) kS0 H 70 i := by
  intro i hi
  have hi : i < 100 := hi
  have h1 := hL.2 (411 + i) (by omega)
  rw [fG_70 _ _ _ hi] at h1
  exact kc_a rfl h1 (fun k _ => rfl)
set_option maxRecDepth 20000 in
theorem kw_71 {D : va_G} {cl : Nat → ClassId} {b : Nat} {z tx tv : Nat → Nat} {H : Heap} (hL : bL (kE0 D cl b z tx tv) (b + 1) (fL (kE0 D cl b z tx tv) (b + 1)) 753 H) : ∀ i, i < kCnt 71 → kCell (kE0 D cl b z tx tv) kS0 H 71 i := kAllS (kAll0) (kc_a rfl (hL.2 511 (by decide)) (fun k _ => congrArg Value.ref (show b + 1 + 189 + 322 + 1 + k = b + 1 + (512 + (k + 0)) by omega)))
set_option maxRecDepth 20000 in
theorem fG_72 (E : kE) (h i : Nat) (hi : i < 100) : fL E h (512 + i) = .inr (kcA E 8, 8, fun _ => .int 0) := by
  unfold fL bf_X6
  simp only [bU, bA, bM]
  repeat (first | rw [if_neg (by omega)] | rw [if_pos (by omega)])
theorem kw_72 {D : va_G} {cl : Nat → ClassId} {b : Nat} {z tx tv : Nat → Nat} {H : Heap} (hL : bL (kE0 D cl b z tx tv) (b + 1) (fL (kE0 D cl b z tx tv) (b + 1)) 753 H) : ∀ i, i < kCnt 72 → kCell (kE0 D cl b z tx tv) kS0 H 72 i := by
  intro i hi
  have hi : i < 100 := hi
  have h1 := hL.2 (512 + i) (by omega)
  rw [fG_72 _ _ _ hi] at h1
  exact kc_a rfl h1 (fun k _ => rfl)
set_option maxRecDepth 20000 in
theorem kw_73 {D : va_G} {cl : Nat → ClassId} {b : Nat} {z tx tv : Nat → Nat} {H : Heap} (hL : bL (kE0 D cl b z tx tv) (b + 1) (fL (kE0 D cl b z tx tv) (b + 1)) 753 H) : ∀ i, i < kCnt 73 → kCell (kE0 D cl b z tx tv) kS0 H 73 i := kAllS (kAll0) (kc_a rfl (hL.2 612 (by decide)) (fun k _ => congrArg Value.ref (show b + 1 + 189 + 423 + 1 + k = b + 1 + (613 + (k + 0)) by omega)))
set_option maxRecDepth 20000 in
theorem fG_74 (E : kE) (h i : Nat) (hi : i < 100) : fL E h (613 + i) = .inr (kcA E 8, 8, fun _ => .int 0) := by
  unfold fL bf_X6
  simp only [bU, bA, bM]
  repeat (first | rw [if_neg (by omega)] | rw [if_pos (by omega)])
theorem kw_74 {D : va_G} {cl : Nat → ClassId} {b : Nat} {z tx tv : Nat → Nat} {H : Heap} (hL : bL (kE0 D cl b z tx tv) (b + 1) (fL (kE0 D cl b z tx tv) (b + 1)) 753 H) : ∀ i, i < kCnt 74 → kCell (kE0 D cl b z tx tv) kS0 H 74 i := by
  intro i hi
  have hi : i < 100 := hi
  have h1 := hL.2 (613 + i) (by omega)
  rw [fG_74 _ _ _ hi] at h1
  exact kc_a rfl h1 (fun k _ => rfl)
set_option maxRecDepth 20000 in
theorem kw_75 {D : va_G} {cl : Nat → ClassId} {b : Nat} {z tx tv : Nat → Nat} {H : Heap} (hL : bL (kE0 D cl b z tx tv) (b + 1) (fL (kE0 D cl b z tx tv) (b + 1)) 753 H) : ∀ i, i < kCnt 75 → kCell (kE0 D cl b z tx tv) kS0 H 75 i := kAllS (kAll0) (kc_a rfl (hL.2 713 (by decide)) (fun k _ => rfl))
set_option maxRecDepth 20000 in
theorem kw_76 {D : va_G} {cl : Nat → ClassId} {b : Nat} {z tx tv : Nat → Nat} {H : Heap} (hL : bL (kE0 D cl b z tx tv) (b + 1) (fL (kE0 D cl b z tx tv) (b + 1)) 753 H) : ∀ i, i < kCnt 76 → kCell (kE0 D cl b z tx tv) kS0 H 76 i := kAllS (kAll0) (kc_a rfl (hL.2 714 (by decide)) (fun k _ => rfl))
set_option maxRecDepth 20000 in
theorem kw_77 {D : va_G} {cl : Nat → ClassId} {b : Nat} {z tx tv : Nat → Nat} {H : Heap} (hL : bL (kE0 D cl b z tx tv) (b + 1) (fL (kE0 D cl b z tx tv) (b + 1)) 753 H) : ∀ i, i < kCnt 77 → kCell (kE0 D cl b z tx tv) kS0 H 77 i := kAllS (kAll0) (kc_a rfl (hL.2 715 (by decide)) (fun k _ => rfl))
set_option maxRecDepth 20000 in
theorem kw_78 {D : va_G} {cl : Nat → ClassId} {b : Nat} {z tx tv : Nat → Nat} {H : Heap} (hL : bL (kE0 D cl b z tx tv) (b + 1) (fL (kE0 D cl b z tx tv) (b + 1)) 753 H) : ∀ i, i < kCnt 78 → kCell (kE0 D cl b z tx tv) kS0 H 78 i := kAllS (kAll0) (kc_a rfl (hL.2 716 (by decide)) (fun k _ => rfl))
set_option maxRecDepth 20000 in
theorem kw_79 {D : va_G} {cl : Nat → ClassId} {b : Nat} {z tx tv : Nat → Nat} {H : Heap} (hL : bL (kE0 D cl b z tx tv) (b + 1) (fL (kE0 D cl b z tx tv) (b + 1)) 753 H) : ∀ i, i < kCnt 79 → kCell (kE0 D cl b z tx tv) kS0 H 79 i := kAllS (kAll0) (kc_a rfl (hL.2 717 (by decide)) (fun k _ => rfl))
set_option maxRecDepth 20000 in
theorem kw_80 {D : va_G} {cl : Nat → ClassId} {b : Nat} {z tx tv : Nat → Nat} {H : Heap} (hL : bL (kE0 D cl b z tx tv) (b + 1) (fL (kE0 D cl b z tx tv) (b + 1)) 753 H) : ∀ i, i < kCnt 80 → kCell (kE0 D cl b z tx tv) kS0 H 80 i := kAllS (kAll0) (kc_a rfl (hL.2 718 (by decide)) (fun k _ => rfl))
set_option maxRecDepth 20000 in
theorem kw_81 {D : va_G} {cl : Nat → ClassId} {b : Nat} {z tx tv : Nat → Nat} {H : Heap} (hL : bL (kE0 D cl b z tx tv) (b + 1) (fL (kE0 D cl b z tx tv) (b + 1)) 753 H) : ∀ i, i < kCnt 81 → kCell (kE0 D cl b z tx tv) kS0 H 81 i := kAllS (kAll0) (kc_a rfl (hL.2 719 (by decide)) (fun k _ => congrArg Value.ref (show b + 1 + 189 + 530 + 1 + k = b + 1 + (720 + (k + 0)) by omega)))
set_option maxRecDepth 20000 in
theorem fG_82 (E : kE) (h i : Nat) (hi : i < 10) : fL E h (720 + i) = .inr (kcA E 8, 6, fun _ => .int 0) := by
  unfold fL bf_X6
  simp only [bU, bA, bM]
  repeat (first | rw [if_neg (by omega)] | rw [if_pos (by omega)])
theorem kw_82 {D : va_G} {cl : Nat → ClassId} {b : Nat} {z tx tv : Nat → Nat} {H : Heap} (hL : bL (kE0 D cl b z tx tv) (b + 1) (fL (kE0 D cl b z tx tv) (b + 1)) 753 H) : ∀ i, i < kCnt 82 → kCell (kE0 D cl b z tx tv) kS0 H 82 i := by
  intro i hi
  have hi : i < 10 := hi
  have h1 := hL.2 (720 + i) (by omega)
  rw [fG_82 _ _ _ hi] at h1
  exact kc_a rfl h1 (fun k _ => rfl)
set_option maxRecDepth 20000 in
theorem kw_83 {D : va_G} {cl : Nat → ClassId} {b : Nat} {z tx tv : Nat → Nat} {H : Heap} (hL : bL (kE0 D cl b z tx tv) (b + 1) (fL (kE0 D cl b z tx tv) (b + 1)) 753 H) : ∀ i, i < kCnt 83 → kCell (kE0 D cl b z tx tv) kS0 H 83 i := kAllS (kAll0) (kc_a rfl (hL.2 730 (by decide)) (fun k _ => congrArg Value.ref (show b + 1 + 189 + 541 + 1 + k = b + 1 + (731 + (k + 0)) by omega)))
set_option maxRecDepth 20000 in
theorem fG_84 (E : kE) (h i : Nat) (hi : i < 10) : fL E h (731 + i) = .inr (kcA E 8, 2, fun _ => .int 0) := by
  unfold fL bf_X6
  simp only [bU, bA, bM]
  repeat (first | rw [if_neg (by omega)] | rw [if_pos (by omega)])
theorem kw_84 {D : va_G} {cl : Nat → ClassId} {b : Nat} {z tx tv : Nat → Nat} {H : Heap} (hL : bL (kE0 D cl b z tx tv) (b + 1) (fL (kE0 D cl b z tx tv) (b + 1)) 753 H) : ∀ i, i < kCnt 84 → kCell (kE0 D cl b z tx tv) kS0 H 84 i := by
  intro i hi
  have hi : i < 10 := hi
  have h1 := hL.2 (731 + i) (by omega)
  rw [fG_84 _ _ _ hi] at h1
  exact kc_a rfl h1 (fun k _ => rfl)
set_option maxRecDepth 20000 in
theorem kw_85 {D : va_G} {cl : Nat → ClassId} {b : Nat} {z tx tv : Nat → Nat} {H : Heap} (hL : bL (kE0 D cl b z tx tv) (b + 1) (fL (kE0 D cl b z tx tv) (b + 1)) 753 H) : ∀ i, i < kCnt 85 → kCell (kE0 D cl b z tx tv) kS0 H 85 i := kAllS (kAll0) (kc_a rfl (hL.2 741 (by decide)) (fun k _ => congrArg Value.ref (show b + 1 + 189 + 552 + 1 + k = b + 1 + (742 + (k + 0)) by omega)))
set_option maxRecDepth 20000 in
theorem fG_86 (E : kE) (h i : Nat) (hi : i < 5) : fL E h (742 + i) = .inr (kcA E 8, 3, fun _ => .int 0) := by
  unfold fL bf_X6
  simp only [bU, bA, bM]
  repeat (first | rw [if_neg (by omega)] | rw [if_pos (by omega)])
theorem kw_86 {D : va_G} {cl : Nat → ClassId} {b : Nat} {z tx tv : Nat → Nat} {H : Heap} (hL : bL (kE0 D cl b z tx tv) (b + 1) (fL (kE0 D cl b z tx tv) (b + 1)) 753 H) : ∀ i, i < kCnt 86 → kCell (kE0 D cl b z tx tv) kS0 H 86 i := by
  intro i hi
  have hi : i < 5 := hi
  have h1 := hL.2 (742 + i) (by omega)
  rw [fG_86 _ _ _ hi] at h1
  exact kc_a rfl h1 (fun k _ => rfl)
set_option maxRecDepth 20000 in
theorem kw_87 {D : va_G} {cl : Nat → ClassId} {b : Nat} {z tx tv : Nat → Nat} {H : Heap} (hL : bL (kE0 D cl b z tx tv) (b + 1) (fL (kE0 D cl b z tx tv) (b + 1)) 753 H) : ∀ i, i < kCnt 87 → kCell (kE0 D cl b z tx tv) kS0 H 87 i := kAllS (kAll0) (kc_a rfl (hL.2 747 (by decide)) (fun k _ => congrArg Value.ref (show b + 1 + 189 + 558 + 1 + k = b + 1 + (748 + (k + 0)) by omega)))
set_option maxRecDepth 20000 in
theorem fG_88 (E : kE) (h i : Nat) (hi : i < 3) : fL E h (748 + i) = .inr (kcA E 8, 160, fun _ => .int 0) := by
  unfold fL bf_X6
  simp only [bU, bA, bM]
  repeat (first | rw [if_neg (by omega)] | rw [if_pos (by omega)])
theorem kw_88 {D : va_G} {cl : Nat → ClassId} {b : Nat} {z tx tv : Nat → Nat} {H : Heap} (hL : bL (kE0 D cl b z tx tv) (b + 1) (fL (kE0 D cl b z tx tv) (b + 1)) 753 H) : ∀ i, i < kCnt 88 → kCell (kE0 D cl b z tx tv) kS0 H 88 i := by
  intro i hi
  have hi : i < 3 := hi
  have h1 := hL.2 (748 + i) (by omega)
  rw [fG_88 _ _ _ hi] at h1
  exact kc_a rfl h1 (fun k _ => rfl)
set_option maxRecDepth 20000 in
theorem kw_89 {D : va_G} {cl : Nat → ClassId} {b : Nat} {z tx tv : Nat → Nat} {H : Heap} (hL : bL (kE0 D cl b z tx tv) (b + 1) (fL (kE0 D cl b z tx tv) (b + 1)) 753 H) : ∀ i, i < kCnt 89 → kCell (kE0 D cl b z tx tv) kS0 H 89 i := kAllS (kAll0) (kc_a rfl (hL.2 751 (by decide)) (fun k _ => rfl))
set_option maxRecDepth 20000 in
theorem kw_90 {D : va_G} {cl : Nat → ClassId} {b : Nat} {z tx tv : Nat → Nat} {H : Heap} (hL : bL (kE0 D cl b z tx tv) (b + 1) (fL (kE0 D cl b z tx tv) (b + 1)) 753 H) : ∀ i, i < kCnt 90 → kCell (kE0 D cl b z tx tv) kS0 H 90 i := kAllS (kAll0) (kc_a rfl (hL.2 752 (by decide)) (fun k _ => rfl))
