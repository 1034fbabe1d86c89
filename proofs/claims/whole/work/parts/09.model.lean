/-! THE MODEL: a game is six rows of numbers g (0 lives; 1 clock, seed, active, turns, how many on the pile; 2 the pile; 3 where cards are; 4 ages; 5 bases) and the cards on the table, the oldest first -/
abbrev Gm : Type := Nat → Nat → Int32
def up2 (g : Gm) (s j : Nat) (x : Int32) : Gm := fun a b => if a = s ∧ b = j then x else g a b
def heldF (v a b : Int32) : Int32 := if v < a then a else if b < v then b else v
theorem held_within {v a b : Int32} (h : a ≤ b) : heldF v a b = withinF v a b := by
  simp only [Int32.le_iff_toInt_le] at h
  unfold heldF withinF
  simp only [Int32.lt_iff_toInt_lt, Int32.le_iff_toInt_le]
  split <;> split <;> (try split) <;> first | rfl | omega | (split <;> first | rfl | omega)
def pix (p : Int32) : Nat := p.toNatClampNeg
def chg (g : Gm) (p by_ : Int32) : Gm := up2 g 0 (pix p) (withinF (g 0 (pix p) + by_) (-99) 99)
def isL (cd : Nat → Nat → Int32) (c : Nat) : Bool := decide (cd 0 c ≤ 4)
def isR (cd : Nat → Nat → Int32) (c : Nat) : Bool := decide (5 ≤ cd 0 c) && decide (cd 0 c ≤ 8)
/-- does layer c hang on layer o -/
def hng (cd : Nat → Nat → Int32) (c o : Nat) : Bool := decide (c ≠ o) && (decide (cd 0 c = 3) || decide (cd 0 c = 4)) && decide (cd 3 c = cd 2 o)
def fre (cd : Nat → Nat → Int32) (op : List Nat) (c : Nat) : Bool := !op.any (fun o => hng cd c o)
def nxt (cd : Nat → Nat → Int32) (op : List Nat) : Option Nat := (op.find? (fre cd op)).or op.head?
def ordr (cd : Nat → Nat → Int32) : Nat → List Nat → List Nat
  | 0, _ => []
  | k + 1, op => match nxt cd op with
    | none => []
    | some c => c :: ordr cd k (op.erase c)
def uselay (cd : Nat → Nat → Int32) (vs : Nat → Int32) (c : Nat) : Nat → Int32 := upd vs (pix (cd 2 c)) (layF (cd 0 c) (cd 4 c) (vs (pix (cd 2 c))) (vs (pix (cd 3 c))))
def order (cd : Nat → Nat → Int32) (tb : List Nat) : List Nat := ordr cd (tb.filter (isL cd)).length (tb.filter (isL cd))
def vals (cd : Nat → Nat → Int32) (g : Gm) (tb : List Nat) : Nat → Int32 := (order cd tb).foldl (uselay cd) (fun v => g 5 v)
/-- events: type, player, amount -/
def fitR (cd : Nat → Nat → Int32) (t p : Int32) (c : Nat) : Bool := isR cd c && decide (cd 2 c = t) && (decide (cd 0 c = 5) || decide (cd 0 c = 8) || decide (cd 1 c = p))
def useR (cd : Nat → Nat → Int32) (e : Int32 × Int32 × Int32) (c : Nat) : Int32 × Int32 × Int32 :=
  (if cd 0 c = 8 then remF (cd 3 c) 3 else e.1, if cd 0 c = 6 then 1 - e.2.1 else e.2.1, withinF (repF (cd 0 c) (cd 4 c) e.2.2) 0 99)
def repl (cd : Nat → Nat → Int32) : Nat → List Nat → Int32 × Int32 × Int32 → (Int32 × Int32 × Int32) × List Nat
  | 0, _, e => (e, [])
  | k + 1, un, e => match un.find? (fitR cd e.1 e.2.1) with
    | none => (e, [])
    | some c => ((repl cd k (un.erase c) (useR cd e c)).1, c :: (repl cd k (un.erase c) (useR cd e c)).2)
def rep (cd : Nat → Nat → Int32) (tb : List Nat) (t p a : Int32) : (Int32 × Int32 × Int32) × List Nat := repl cd tb.length tb (t, p, withinF a 0 99)
/-- cards of a player in a place, by numbers -/
def atP (cd : Nat → Nat → Int32) (n : Nat) (g : Gm) (p pl : Int32) : List Nat := (List.range n).filter (fun c => decide (g 3 c = pl) && decide (cd 1 c = p))
def draw1 (cd : Nat → Nat → Int32) (n : Nat) (p : Int32) (g : Gm) : Gm :=
  if (atP cd n g p 0).length = 0 then chg g p (-1)
  else up2 (up2 g 1 1 (seedF (g 1 1))) 3 ((atP cd n g p 0).getD (drawnF (nI (atP cd n g p 0).length) (seedF (g 1 1))).toNatClampNeg 0) 1
def psh (g : Gm) (x : Int32) : Gm := if g 1 4 < 64 then up2 (up2 g 2 (g 1 4).toNatClampNeg x) 1 4 (g 1 4 + 1) else g
def shdw (cd : Nat → Nat → Int32) (c : Nat) : Int32 := 10000 + codeF (remF (cd 3 c) 3) (if cd 4 c &&& 1 = 1 then cd 1 c else 1 - cd 1 c) (if cd 4 c < 0 then 0 else cd 4 c)
def echo (cd : Nat → Nat → Int32) (tb : List Nat) (t : Int32) (g : Gm) : Gm := (tb.filter (fun c => decide (cd 0 c = 14) && decide (cd 2 c = t))).foldl (fun g c => psh g (shdw cd c)) g
def rpt {α : Type} (f : α → α) : Nat → α → α
  | 0, x => x
  | k + 1, x => rpt f k (f x)
def happ (cd : Nat → Nat → Int32) (n : Nat) (tb : List Nat) (e : Int32 × Int32 × Int32) (g : Gm) : Gm :=
  let g1 := if e.1 = 1 then chg g e.2.1 (-e.2.2) else if e.1 = 2 then chg g e.2.1 e.2.2 else rpt (draw1 cd n e.2.1) e.2.2.toNatClampNeg g
  if 1 ≤ e.2.2 then echo cd tb e.1 g1 else g1
def evt (cd : Nat → Nat → Int32) (n : Nat) (tb : List Nat) (t p a : Int32) (g : Gm) : Gm := happ cd n tb (rep cd tb t p a).1 g
def evc (cd : Nat → Nat → Int32) (tb : List Nat) (t p a : Int32) : Int32 := codeF (rep cd tb t p a).1.1 (rep cd tb t p a).1.2.1 (rep cd tb t p a).1.2.2
/-- a thing resolved: the game, the table, what happened -/
def top (g : Gm) : Int32 := g 2 (g 1 4 - 1).toNatClampNeg
def popd (g : Gm) : Gm := up2 g 1 4 (g 1 4 - 1)
def put4 (g : Gm) (c : Nat) : Gm := up2 g 3 c 4
def stp (g : Gm) : Gm := if g 1 4 ≤ 0 then g else if 10000 ≤ top g then popd g else put4 (popd g) (top g).toNatClampNeg
def yng (cd : Nat → Nat → Int32) (tb : List Nat) (p : Int32) : Option Nat := tb.reverse.find? (fun c => decide (cd 1 c = p))
def clr (cd : Nat → Nat → Int32) (p : Int32) (s : Gm × List Nat) : Gm × List Nat := match yng cd s.2 p with
  | none => s
  | some c => (put4 s.1 c, s.2.erase c)
def shT (x : Int32) : Int32 := (x - 10000) / 1000
def shP (x : Int32) : Int32 := remF (x - 10000) 1000 / 100
def shA (x : Int32) : Int32 := remF (x - 10000) 100
def answ (cd : Nat → Nat → Int32) (n c : Nat) (s : Gm × List Nat) : (Gm × List Nat) × List Int32 :=
  let g := put4 s.1 c
  let p := cd 1 c
  if cd 0 c = 9 then ((evt cd n s.2 1 (1 - p) (vals cd g s.2 1 + cd 4 c) g, s.2), [evc cd s.2 1 (1 - p) (vals cd g s.2 1 + cd 4 c)])
  else if cd 0 c = 10 then ((evt cd n s.2 2 p (vals cd g s.2 2 + cd 4 c) g, s.2), [evc cd s.2 2 p (vals cd g s.2 2 + cd 4 c)])
  else if cd 0 c = 11 then ((evt cd n s.2 0 p (vals cd g s.2 0 + cd 4 c) g, s.2), [evc cd s.2 0 p (vals cd g s.2 0 + cd 4 c)])
  else if cd 0 c = 12 then ((stp g, s.2), [])
  else (clr cd (1 - p) (g, s.2), [])
def rsv (cd : Nat → Nat → Int32) (n : Nat) (s : Gm × List Nat) : (Gm × List Nat) × List Int32 :=
  let x := top s.1
  let g := popd s.1
  if 10000 ≤ x then ((evt cd n s.2 (shT x) (shP x) (shA x) g, s.2), [evc cd s.2 (shT x) (shP x) (shA x)])
  else
    let c := x.toNatClampNeg
    if 9 ≤ cd 0 c ∧ cd 0 c ≤ 13 then answ cd n c (g, s.2)
    else ((up2 (up2 (up2 g 3 c 3) 4 c (g 1 0)) 1 0 (g 1 0 + 1), s.2 ++ [c]), [])
def lost (g : Gm) : Bool := decide (g 0 0 ≤ 0) || decide (g 0 1 ≤ 0)
/-- the states ahead of each time of a run, and what was told up to there -/
def runS (cd : Nat → Nat → Int32) (n : Nat) (s : Gm × List Nat) : Nat → Gm × List Nat
  | 0 => s
  | t + 1 => (rsv cd n (runS cd n s t)).1
def older (n : Nat) (g : Gm) (c : Nat) : Nat := ((List.range n).filter (fun q => decide (g 3 q = 3) && decide (g 4 q < g 4 c))).length
def same (n : Nat) (g h : Gm) : Prop := g 0 0 = h 0 0 ∧ g 0 1 = h 0 1 ∧ g 1 1 = h 1 1 ∧ g 1 4 = h 1 4 ∧ (∀ i, i < (g 1 4).toNatClampNeg → g 2 i = h 2 i) ∧ (∀ c, c < n → g 3 c = h 3 c) ∧ ∀ c, c < n → g 3 c = 3 → older n g c = older n h c
/-- the run stops at time t: lost 1, empty 0, a loop 2 (with the earlier one), 200 times 3 -/
def stops (cd : Nat → Nat → Int32) (n : Nat) (s : Gm × List Nat) (t : Nat) (how : Int32) (e b : Int32) : Prop :=
  (lost (runS cd n s t).1 = true ∧ how = 1 ∧ e = -2 ∧ b = -2) ∨
  (lost (runS cd n s t).1 = false ∧ (runS cd n s t).1 1 4 = 0 ∧ how = 0 ∧ e = -2 ∧ b = -2) ∨
  (lost (runS cd n s t).1 = false ∧ (runS cd n s t).1 1 4 ≠ 0 ∧ (∃ q, q < t ∧ same n (runS cd n s q).1 (runS cd n s t).1 ∧ e = nI q ∧ b = nI (t - q)) ∧ how = 2) ∨
  (lost (runS cd n s t).1 = false ∧ (runS cd n s t).1 1 4 ≠ 0 ∧ (∀ q, q < t → ¬ same n (runS cd n s q).1 (runS cd n s t).1) ∧ t = 200 ∧ how = 3 ∧ e = -2 ∧ b = -2)
def goesOn (cd : Nat → Nat → Int32) (n : Nat) (s : Gm × List Nat) (t : Nat) : Prop :=
  lost (runS cd n s t).1 = false ∧ (runS cd n s t).1 1 4 ≠ 0 ∧ (∀ q, q < t → ¬ same n (runS cd n s q).1 (runS cd n s t).1) ∧ t < 200
/-- a run: how many times, how it ended, the earlier one, how many lie between -/
def Run (cd : Nat → Nat → Int32) (n : Nat) (s : Gm × List Nat) (t : Nat) (how e b : Int32) : Prop := (∀ q, q < t → goesOn cd n s q) ∧ stops cd n s t how e b
/-- what was resolved, and what happened, ahead of time t -/
def told (s0 : Nat → Gm × List Nat) : Nat → List Int32
  | 0 => []
  | t + 1 => told s0 t ++ [top (s0 t).1]
def hapd (cd : Nat → Nat → Int32) (n : Nat) (s0 : Nat → Gm × List Nat) : Nat → List Int32
  | 0 => []
  | t + 1 => hapd cd n s0 t ++ (rsv cd n (s0 t)).2
theorem stops_one {cd : Nat → Nat → Int32} {n : Nat} {s : Gm × List Nat} {t : Nat} {a b c a' b' c' : Int32} (hq : ∀ q, q < t → goesOn cd n s q) (h : stops cd n s t a b c) (h' : stops cd n s t a' b' c') (h2 : ∀ q r, q < r → r < t → ¬ same n (runS cd n s q).1 (runS cd n s r).1)
    (hsym : ∀ q r, q < r → r < t → same n (runS cd n s q).1 (runS cd n s t).1 → same n (runS cd n s r).1 (runS cd n s t).1 → same n (runS cd n s q).1 (runS cd n s r).1) : a = a' ∧ b = b' ∧ c = c' := by
  rcases h with ⟨h1, rfl, rfl, rfl⟩ | ⟨h1, h3, rfl, rfl, rfl⟩ | ⟨h1, h3, ⟨q, hq1, hq2, rfl, rfl⟩, rfl⟩ | ⟨h1, h3, h4, h5, rfl, rfl, rfl⟩ <;>
  rcases h' with ⟨g1, rfl, rfl, rfl⟩ | ⟨g1, g3, rfl, rfl, rfl⟩ | ⟨g1, g3, ⟨r, gq1, gq2, rfl, rfl⟩, rfl⟩ | ⟨g1, g3, g4, g5, rfl, rfl, rfl⟩ <;>
  first
    | exact ⟨rfl, rfl, rfl⟩
    | (rw [h1] at g1; cases g1; done)
    | exact absurd h3 g3
    | exact absurd g3 h3
    | exact absurd hq2 (g4 q hq1)
    | exact absurd gq2 (h4 r gq1)
    | (rcases Nat.lt_trichotomy q r with z | z | z
       · exact absurd (hsym q r z gq1 hq2 gq2) (h2 q r z gq1)
       · subst z; exact ⟨rfl, rfl, rfl⟩
       · exact absurd (hsym r q z hq1 gq2 hq2) (h2 r q z hq1))
