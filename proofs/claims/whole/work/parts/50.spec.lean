/-! WHAT CLASS AND REFERENCE BOTH DO, as plain functions; and what holds between their cells. -/
abbrev kM : Type := Nat → Nat → Nat → Int32
def up (f : Nat → Int32) (k : Nat) (v : Int32) : Nat → Int32 := fun j => if j = k then v else f j
/-! a WHY: its clauses' number, kinds, targets, amounts, froms, starts, ends; its code -/
abbrev yD : Type := Int32 × (Nat → Int32) × (Nat → Int32) × (Nat → Int32) × (Nat → Int32) × (Nat → Int32) × (Nat → Int32) × (Nat → Int32)
def yOf (m : kM) (i : Nat) : yD := (m 10 i 0, m 11 i, m 12 i, m 13 i, m 14 i, m 15 i, m 16 i, m 17 i)
def yn (y : yD) : Nat := y.1.toNatClampNeg
def yk (y : yD) : Nat → Int32 := y.2.1
def yt (y : yD) (j : Nat) : Nat := (y.2.2.1 j).toNatClampNeg
def ya (y : yD) : Nat → Int32 := y.2.2.2.1
def yf (y : yD) : Nat → Int32 := y.2.2.2.2.1
def ys (y : yD) (j : Nat) : Nat := (y.2.2.2.2.2.1 j).toNatClampNeg
def ye (y : yD) (j : Nat) : Nat := (y.2.2.2.2.2.2.1 j).toNatClampNeg
def yc (y : yD) : Nat → Int32 := y.2.2.2.2.2.2.2
/-! conditions: a machine of a stack -/
def joinS (c l r : Int32) : Int32 := if c = -9 then l &&& r else if c = -10 then l ||| r else if c = -11 then (if l < r then 1 else 0) else if c = -12 then (if r < l then 1 else 0) else if c = -13 then (if l = r then 1 else 0) else if c = -14 then l + r else if c = -15 then l - r else l * r
def opS (nm : Int32 → Int32) (c : Int32) (st : List Int32) : List Int32 :=
  if -7 ≤ c then (if 0 ≤ c then c else nm c) :: st else if c = -8 then (match st with
    | x :: t => (1 - x) :: t
    | [] => []) else (match st with
    | y :: x :: t => joinS c x y :: t
    | t => t)
def evS (nm : Int32 → Int32) (st : List Int32) (cs : List Int32) : List Int32 := cs.foldl (fun s c => opS nm c s) st
def codeOf (f : Nat → Int32) (a b : Nat) : List Int32 := (List.range (b - a)).map (fun k => f (a + k))
def condS (nm : Int32 → Int32) (cs : List Int32) : Bool := match evS nm [] cs with
  | x :: _ => decide (x = 1)
  | [] => false
/-- a code that pushes one value, and never more than d beyond what lies there -/
def wfS (d : Nat) (cs : List Int32) : Prop := ∀ nm : Int32 → Int32, ∃ v, ∀ st, evS nm st cs = v :: st ∧ ∀ i, i ≤ cs.length → (evS nm st (cs.take i)).length ≤ st.length + d ∧ (i < cs.length → st.length + (if -7 ≤ cs.getD i 0 then 0 else if cs.getD i 0 = -8 then 1 else 2) ≤ (evS nm st (cs.take i)).length)
/-! a RUN: wet, skin, frame, height; gas, mixed, fire; first SECOND, first CELL, down -/
abbrev rS : Type := (Int32 × Int32 × Int32 × Int32) × (Nat → Int32) × (Nat → Int32) × (Nat → Int32) × Int32 × Int32 × Int32
def leakS (y : yD) (sec : Int32) : Nat → (Nat → Int32) × (Nat → Int32) → (Nat → Int32) × (Nat → Int32)
  | 0, p => p
  | j + 1, p => (fun q : (Nat → Int32) × (Nat → Int32) => if yk y j = -17 ∧ ¬ sec < yf y j then (up q.1 (yt y j) (q.1 (yt y j) - kmin (ya y j) (q.1 (yt y j))), up q.2 (yt y j) (q.2 (yt y j) + kmin (ya y j) (q.1 (yt y j)))) else q) (leakS y sec j p)
def nmS (sec gap wet hgt : Int32) (gas mixed fire : Nat → Int32) (c : Nat) (k : Int32) : Int32 := if k = -1 then sec else if k = -2 then gap else if k = -3 then wet else if k = -4 then hgt else if k = -5 then mixed c else if k = -6 then gas c else if fire c = -1 then 0 else 1
/-- what the sparks do: fire, first SECOND, first CELL -/
def sparkS (y : yD) (sec gap wet hgt : Int32) (gas mixed : Nat → Int32) : Nat → (Nat → Int32) × Int32 × Int32 → (Nat → Int32) × Int32 × Int32
  | 0, p => p
  | j + 1, p => (fun q : (Nat → Int32) × Int32 × Int32 => if yk y j = -18 ∧ q.1 (yt y j) = -1 ∧ 0 < mixed (yt y j) ∧ condS (nmS sec gap wet hgt gas mixed q.1 (yt y j)) (codeOf (yc y) (ys y j) (ye y j)) = true then (up q.1 (yt y j) sec, if q.2.1 = -1 ∨ q.2.1 = sec ∧ nI (yt y j) < q.2.2 then (sec, nI (yt y j)) else q.2) else q) (sparkS y sec gap wet hgt gas mixed j p)
def litS (fire : Nat → Int32) (sp sec : Int32) (c : Nat) : Prop := fire c ≠ -1 ∧ sp ≤ sec - fire c
def spreadS (sp sec : Int32) : Nat → (Nat → Int32) → Nat → Int32
  | 0, f => f
  | c + 1, f => (fun q : Nat → Int32 => if q c = -1 ∧ ((0 < c ∧ q (c - 1) ≠ -1 ∧ sp ≤ sec - q (c - 1)) ∨ (c < 7 ∧ q (c + 1) ≠ -1 ∧ sp ≤ sec - q (c + 1))) then up q c sec else q) (spreadS sp sec c f)
def burnG (fire : Nat → Int32) (b : Int32) (gas : Nat → Int32) : Nat → Int32 := fun c => if c < 8 ∧ fire c ≠ -1 then kmax 0 (gas c - b) else gas c
def burnM (fire : Nat → Int32) (mixed : Nat → Int32) : Nat → Int32 := fun c => if c < 8 ∧ fire c ≠ -1 then 0 else mixed c
def sumS (f : Nat → Int32) : Nat → Int32
  | 0 => 0
  | c + 1 => sumS f c + f c
/-- one SECOND -/
def passS (n : Nat → Int32) (y : yD) (sec : Int32) (r : rS) : rS :=
  kb (r.1.1 + n 0) fun wet =>
  kb (if n 1 ≤ wet then (kmax 0 (r.1.2.1 - n 4), kmax 0 (r.1.2.2.1 - n 3)) else (r.1.2.1, r.1.2.2.1)) fun sf =>
  kb (leakS y sec (yn y) (r.2.1, r.2.2.1)) fun gm =>
  kb (sparkS y sec (sf.1 - sf.2) wet r.1.2.2.2 gm.1 gm.2 (yn y) (r.2.2.2.1, r.2.2.2.2.1, r.2.2.2.2.2.1)) fun p =>
  kb (if p.2.1 = -1 then p.1 else spreadS (n 5) sec 8 p.1) fun fire =>
  kb (if p.2.1 = -1 then gm.1 else burnG fire (n 6) gm.1) fun gas =>
  kb (if p.2.1 = -1 then gm.2 else burnM fire gm.2) fun mixed =>
  kb (if sumS gas 8 < n 7 then kmax 0 (r.1.2.2.2 - n 8) else r.1.2.2.2) fun hgt =>
  ((wet, sf.1, sf.2, hgt), gas, mixed, fire, p.2.1, p.2.2, if sumS gas 8 < n 7 ∧ hgt = 0 ∧ r.2.2.2.2.2.2 = -1 then sec else r.2.2.2.2.2.2)
/-- the numbers with the WHY's own -/
def setS (y : yD) : Nat → (Nat → Int32) → Nat → Int32
  | 0, n => n
  | j + 1, n => (fun q : Nat → Int32 => if yk y j = -19 then up q (yt y j) (ya y j) else q) (setS y j n)
def begS (n gas : Nat → Int32) : rS := ((0, n 2, n 2, n 9), gas, fun _ => 0, fun _ => -1, -1, -1, -1)
/-- behind s SECONDS, by the numbers n as they are behind the sets -/
def runN (n gas : Nat → Int32) (y : yD) : Nat → rS
  | 0 => begS n gas
  | s + 1 => passS n y (nI s) (runN n gas y s)
def runS (n gas : Nat → Int32) (y : yD) (s : Nat) : rS := runN (setS y (yn y) n) gas y s
def lastS (r : rS) : Int32 := if r.2.2.2.2.1 = -1 ∨ r.2.2.2.2.2.2 = -1 ∨ r.2.2.2.2.2.2 < r.2.2.2.2.1 then -1 else r.2.2.2.2.2.2 - r.2.2.2.2.1
/-- how many BEFOREs burnt -/
def burntS (n gas : Nat → Int32) (y : yD) (rain charge : Nat → Int32) : Nat → Int32
  | 0 => 0
  | b + 1 => burntS n gas y rain charge b + (if (runS (up (up n 0 (rain b)) 2 (charge b)) gas y 100).2.2.2.2.1 = -1 then 0 else 1)
/-! what holds between the cells -/
def rng (x : Int32) (a b : Int) : Prop := a ≤ x.toInt ∧ x.toInt ≤ b
def leastN (k : Nat) : Int := if k = 5 then 1 else 0
def mostN (k : Nat) : Int := [99, 999, 999, 99, 99, 20, 99, 9999, 99, 999].getD k 0
def papR (m : kM) (p : Nat) (num gas : Nat → Int32) (row bef opt : Nat → Nat → Int32) (rows befs opts : Int32) : Prop := m 4 p 3 = rows ∧ m 4 p 10 = befs ∧ m 4 p 13 = opts ∧ (∀ k, k < 10 → m 21 p k = num k) ∧ (∀ k, k < 8 → m 22 p k = gas k) ∧ (∀ r, r < 10 → m 24 p r = row r 0 ∧ m 25 p r = row r 1 ∧ m 26 p r = row r 2 ∧ m 27 p r = row r 3 ∧ m 28 p r = row r 4 ∧ m 29 p r = row r 5) ∧ (∀ r, r < 10 → m 30 p r = bef r 0 ∧ m 31 p r = bef r 1) ∧ ∀ r, r < 5 → m 32 p r = opt r 0 ∧ m 33 p r = opt r 1 ∧ m 34 p r = opt r 2
def papK (num gas : Nat → Int32) (row bef opt : Nat → Nat → Int32) (rows befs opts : Int32) : Prop := rng rows 0 10 ∧ rng befs 0 10 ∧ rng opts 0 5 ∧ (∀ k, k < 10 → rng (num k) (leastN k) (mostN k)) ∧ (∀ k, k < 8 → rng (gas k) 0 999) ∧ (∀ r, r < 10 → rng (row r 0) 0 5 ∧ rng (row r 1) 0 99 ∧ rng (row r 2) 0 7 ∧ rng (row r 3) (-9999) 9999 ∧ rng (row r 4) 0 8 ∧ rng (row r 5) 0 99) ∧ (∀ r, r < 10 → rng (bef r 0) 0 99 ∧ rng (bef r 1) 0 999) ∧ ∀ r, r < 5 → rng (opt r 0) 0 9 ∧ rng (opt r 1) (leastN (opt r 0).toNatClampNeg) (mostN (opt r 0).toNatClampNeg) ∧ rng (opt r 2) 0 999
/-- the papers, and their images -/
def iP (m : kM) : Prop := papR m 0 (m 61 0) (m 62 0) (m 82) (m 84) (m 86) (m 48 0 43) (m 48 0 44) (m 48 0 45) ∧ papK (m 61 0) (m 62 0) (m 82) (m 84) (m 86) (m 48 0 43) (m 48 0 44) (m 48 0 45)
def iW (told : Int32) (wc wl : Nat → Int32) : Prop := rng told 0 6 ∧ ∀ w, w < 6 → rng (wc w) 1 99 ∧ (if nI w < told then wc w = wl w else wc w = 10)
def iI (m : kM) : Prop := m 0 0 8 = m 48 0 46 ∧ rng (m 48 0 46) 0 3 ∧ ∀ k, k < 3 → nI k < m 48 0 46 → papR m (k + 1) (fun j => m 88 k (4 + j)) (fun j => m 88 k (14 + j)) (fun r i => m 88 k (28 + 6 * r + i)) (fun r i => m 88 k (88 + 2 * r + i)) (fun r i => m 88 k (108 + 3 * r + i)) (m 88 k 0) (m 88 k 1) (m 88 k 2) ∧ papK (fun j => m 88 k (4 + j)) (fun j => m 88 k (14 + j)) (fun r i => m 88 k (28 + 6 * r + i)) (fun r i => m 88 k (88 + 2 * r + i)) (fun r i => m 88 k (108 + 3 * r + i)) (m 88 k 0) (m 88 k 1) (m 88 k 2) ∧ iW (m 88 k 3) (m 23 (k + 1)) (fun j => m 88 k (22 + j)) ∧ m 88 k 3 ≤ m 48 0 13
/-- the tape -/
def iT (taped tape : Int32) (bc bl : Nat → Int32) : Prop := taped = tape ∧ rng tape 0 300 ∧ ∀ k, k < 300 → nI k < tape → rng (bl k) 0 255 ∧ bc k = (bl k).toInt8.toInt32
/-- the reference's code of a class's -/
def trC (c : Int32) : Int32 := if 0 ≤ c then c else if -7 ≤ c then 9999 - c else if c = -8 then 10033 else if c = -9 then 10034 else if c = -10 then 10035 else if c = -11 then 10030 else if c = -12 then 10031 else if c = -13 then 10032 else if c = -14 then 10020 else if c = -15 then 10021 else 10022
/-- one WHY: y the class's, many, rows and code the reference's -/
def whyR (y : yD) (many : Int32) (row : Nat → Nat → Int32) (code : Nat → Int32) : Prop := y.1 = many ∧ rng many 0 14 ∧ ∀ j, j < 14 → nI j < many → row j 1 = y.2.2.1 j ∧
  ((yk y j = -17 ∧ row j 0 = 0 ∧ row j 2 = ya y j ∧ row j 3 = yf y j ∧ rng (row j 1) 0 7 ∧ rng (row j 2) 0 99 ∧ rng (row j 3) 0 99) ∨
   (yk y j = -18 ∧ row j 0 = 1 ∧ row j 2 = y.2.2.2.2.2.1 j ∧ row j 3 = y.2.2.2.2.2.2.1 j ∧ rng (row j 1) 0 7 ∧ 0 ≤ (row j 2).toInt ∧ (row j 2).toInt ≤ (row j 3).toInt ∧ (row j 3).toInt ≤ 300 ∧ (∀ k, ys y j ≤ k → k < ye y j → code k = trC (yc y k) ∧ rng (yc y k) (-16) 9999) ∧ wfS 18 (codeOf (yc y) (ys y j) (ye y j))) ∨
   (yk y j = -19 ∧ row j 0 = 2 ∧ row j 2 = ya y j ∧ rng (row j 1) 0 9 ∧ rng (row j 2) (leastN (yt y j)) (mostN (yt y j))))
def iY (m : kM) : Prop := m 0 0 5 = m 48 0 13 ∧ ∀ w, w < 6 → nI w < m 48 0 13 → whyR (yOf m (w + 2)) (m 57 0 w) (fun j => m 56 (14 * w + j)) (m 54 w)
/-- a film that is made shows the RUN -/
def filmR (ob wet skin frame hgt gas mixed began : Nat → Int32) (n g : Nat → Int32) (y : yD) : Prop := (∀ s, s < 100 → wet s = (runS n g y (s + 1)).1.1 ∧ skin s = (runS n g y (s + 1)).1.2.1 ∧ frame s = (runS n g y (s + 1)).1.2.2.1 ∧ hgt s = (runS n g y (s + 1)).1.2.2.2 ∧ ∀ c, c < 8 → gas (8 * s + c) = (runS n g y (s + 1)).2.1 c ∧ mixed (8 * s + c) = (runS n g y (s + 1)).2.2.1 c) ∧ (∀ c, c < 8 → began c = (runS n g y 100).2.2.2.1 c) ∧ ob 8 = (runS n g y 100).2.2.2.2.1 ∧ ob 9 = (runS n g y 100).2.2.2.2.2.1 ∧ ob 10 = (runS n g y 100).2.2.2.2.2.2 ∧ ob 11 = lastS (runS n g y 100)
def iF (m : kM) : Prop := ∀ w, w < 6 → m 40 w 0 = 0 ∨ m 40 w 0 = 1 ∧ nI w < m 0 0 5 ∧ filmR (m 40 w) (m 41 w) (m 42 w) (m 43 w) (m 44 w) (m 45 w) (m 46 w) (m 47 w) (m 61 0) (m 62 0) (yOf m (w + 2))
def iK (m : kM) : Prop := ∀ w, w < 6 → m 8 0 w = -1 ∨ nI w < m 0 0 5 ∧ m 8 0 w = burntS (m 61 0) (m 62 0) (yOf m (w + 2)) (fun b => m 84 b 0) (fun b => m 84 b 1) (m 48 0 44).toNatClampNeg
def iX (m : kM) : Prop := m 48 0 39 = -1 ∧ m 48 0 41 = -1 ∧ m 48 0 42 = 0 ∧ m 0 0 3 = m 48 0 3
def Inv (m : kM) : Prop := iP m ∧ iW (m 0 0 5) (m 23 0) (m 58 0) ∧ iI m ∧ iT (m 0 0 1) (m 48 0 1) (m 1 0) (m 49 0) ∧ iY m ∧ iF m ∧ iK m ∧ iX m
def Good (q : (kS → Option kR) → kS → Option kR) : Prop := ∀ (nx : kS → Option kR) (σ : kS), Inv σ.1 → ∃ σ' : kS, Inv σ'.1 ∧ q nx σ = nx σ'
