section SPEC
/-- what is at hand: -1 at a LINE's end -/
def hd : List Int → Int
  | [] => -1
  | c :: _ => if c = 10 then -1 else c
def skb : List Int → List Int
  | [] => []
  | c :: r => if c = 32 then skb r else c :: r
/-- PLAIN signs, k at most -/
def plK : Nat → List Int → Option (List Int × List Int)
  | 0, r => if isPln (hd r) then none else some ([], r)
  | k + 1, r => if isPln (hd r) then (plK k r.tail).map (fun q => (hd r :: q.1, q.2)) else some ([], r)
/-- signs of a QUOTED NAME behind its first quote, k at most, and its last quote -/
def quK : Nat → List Int → Option (List Int × List Int)
  | 0, r => if hd r = 34 then some ([], r.tail) else none
  | k + 1, r => if hd r = 34 then some ([], r.tail) else if ¬ isPrn (hd r) then none else if hd r = 92 then (if hd r.tail = 34 ∨ hd r.tail = 92 then (quK k r.tail.tail).map (fun q => (hd r.tail :: q.1, q.2)) else none) else (quK k r.tail).map (fun q => (hd r :: q.1, q.2))
def nmS (r : List Int) : Option (List Int × List Int) := if hd r = 34 then (if hd r.tail = 34 then none else quK 8 r.tail) else if isPln (hd r) then plK 8 r else none
/-- figures, k at most -/
def fgK : Nat → List Int → Option (List Int × List Int)
  | 0, r => if isFig (hd r) then none else some ([], r)
  | k + 1, r => if isFig (hd r) then (fgK k r.tail).map (fun q => (hd r :: q.1, q.2)) else some ([], r)
def dvF (v : Int) (ds : List Int) : Int := ds.foldl (fun v c => 10 * v + (c - 48)) v
def dv (ds : List Int) : Int := dvF 0 ds
/-- is the WORD at its end -/
abbrev isE (r : List Int) : Prop := hd r = 32 ∨ hd r = -1
/-- the NUMBER of a COUNT -/
def nuS (r : List Int) : Option (Int × List Int) := if isFig (hd r) then (fgK 2 r).map (fun q => (dv q.1, q.2)) else none
def gpS (r : List Int) : Option (List Int) := if hd r = 32 then some (skb r) else none
def leS (r : List Int) : Option (List Int) := if hd (skb r) = -1 then some (skb r) else none
/-- a VALUE: its sort, its thousandths, its signs; what is left -/
abbrev vT : Type := Int × Int × List Int
/-- behind the figures ds (with m, the signs ahead of them) a point -/
def frS (m ds : List Int) (r : List Int) : Option (vT × List Int) := if 3 < ds.length then none else if isFig (hd r.tail) then (fgK 3 r.tail).map (fun q => ((2, (if m = [] then 1 else -1) * (1000 * dv ds + dv q.1 * 10 ^ (3 - q.1.length)), m ++ ds ++ 46 :: q.1), q.2)) else none
/-- a number, behind its - (m = [45]) or without (m = []) -/
def numS (told : Int) (m : List Int) (r : List Int) : Option (vT × List Int) := if ¬ isFig (hd r) then none else if hd r = 48 ∧ m ≠ [] ∧ told = 0 then none else
  (if hd r = 48 then fgK 1 r else fgK 6 r).bind fun q => if hd q.2 = 46 ∧ told ≠ 0 then frS m q.1 q.2 else if hd r = 48 ∧ m ≠ [] then none else some ((1, (if m = [] then 1 else -1) * (1000 * dv q.1), m ++ q.1), q.2)
def gsS (r : List Int) : Option (vT × List Int) := if ¬ isPln (hd r) then none else (plK 8 r).bind fun q => if (∀ c ∈ q.1, isFig c) ∧ hd q.2 = 46 then (if 1 < q.1.length ∧ hd r = 48 then none else frS [] q.1 q.2) else if (∀ c ∈ q.1, isFig c) ∧ ¬ (1 < q.1.length ∧ hd r = 48) ∧ q.1.length ≤ 6 then some ((1, 1000 * dv q.1, q.1), q.2) else some ((3, 0, q.1), q.2)
def vlS (told : Int) (r : List Int) : Option (vT × List Int) := if hd r = 45 then (if isE r.tail then some ((0, 0, []), r.tail) else if told = 2 then none else numS told [45] r.tail) else if told = 2 ∨ (told = 3 ∧ hd r = 34) then (nmS r).map (fun q => ((3, 0, q.1), q.2)) else if told = 3 then gsS r else numS told [] r
/-- the VALUES of an ARC -/
def vsS : List Int → List Int → Option (List vT × List Int)
  | [], r => some ([], r)
  | k :: ks, r => (gpS r).bind fun r1 => (vlS k r1).bind fun q => (vsS ks q.2).map fun p => (q.1 :: p.1, p.2)
/-- what is read so far: NODES, HEADS, COMMENTS, ARCS (from, to, LINE, VALUES), LINES, how many were LEFT OUT, the COUNT, was an ARC read -/
abbrev gT : Type := List (List Int) × List (List Int × Int) × List (List Int) × List (Int × Int × Int × List vT) × List Int × Int × Option (Int × Int) × Bool
def gNo (G : gT) : List (List Int) := G.1
def gHe (G : gT) : List (List Int × Int) := G.2.1
def gCo (G : gT) : List (List Int) := G.2.2.1
def gAr (G : gT) : List (Int × Int × Int × List vT) := G.2.2.2.1
def gLi (G : gT) : List Int := G.2.2.2.2.1
def gLo (G : gT) : Int := G.2.2.2.2.2.1
def gCt (G : gT) : Option (Int × Int) := G.2.2.2.2.2.2.1
def gWa (G : gT) : Bool := G.2.2.2.2.2.2.2
def g0 : gT := ([], [], [], [], [], 0, none, false)
/-- where a list has it first, or its length -/
def ixO (l : List (List Int)) (x : List Int) : Nat := l.findIdx (fun y => y == x)
/-- a COMMENT's bytes, k at most -/
def cmK : Nat → List Int → Option (List Int × List Int)
  | 0, r => if hd r = -1 then some ([], r) else none
  | k + 1, r => if hd r = -1 then some ([], r) else if isPrn (hd r) then (cmK k r.tail).map (fun q => (hd r :: q.1, q.2)) else none
def cmL (G : gT) (r : List Int) : Option (gT × List Int) := (cmK 20 r.tail).map fun q => ((G.1, G.2.1, gCo G ++ [q.1], G.2.2.2.1, gLi G ++ [0], G.2.2.2.2.2), q.2)
def ctL (G : gT) (r : List Int) : Option (gT × List Int) := if (gCt G).isSome then none else (gpS r.tail).bind fun r1 => (nuS r1).bind fun a => (gpS a.2).bind fun r2 => (nuS r2).bind fun b => (leS b.2).map fun r3 => ((G.1, G.2.1, G.2.2.1, G.2.2.2.1, gLi G ++ [1], gLo G, some (a.1, b.1), gWa G), r3)
def kdS (c : Int) : Int := if c = 119 then 0 else if c = 100 then 1 else if c = 116 then 2 else if c = 103 then 3 else -1
def heL (G : gT) (r : List Int) : Option (gT × List Int) := if gWa G = true ∨ 3 ≤ (gHe G).length then none else (gpS r.tail).bind fun r1 => (nmS r1).bind fun a => if a.1 ∈ (gHe G).map (fun h => h.1) then none else (gpS a.2).bind fun r2 => if kdS (hd r2) = -1 then none else (leS r2.tail).map fun r3 => ((G.1, gHe G ++ [(a.1, kdS (hd r2))], G.2.2.1, G.2.2.2.1, gLi G ++ [2], G.2.2.2.2.2), r3)
/-- the NODES with a NAME more, if it is new; none if there are too many -/
def ndS (l : List (List Int)) (x : List Int) : Option (List (List Int)) := if x ∈ l then some l else if 30 ≤ l.length then none else some (l ++ [x])
def dbS (l : List (Int × Int × Int × List vT)) (f t : Int) : Bool := l.any (fun x => x.1 == f && x.2.1 == t)
def arE (man ln : Int) (G : gT) (N : List (List Int)) (f t : Int) (r : List Int) : Option (gT × List Int) := if dbS (gAr G) f t = true ∧ man = 2 then none else (vsS ((gHe G).map (fun h => h.2)) r).bind fun v => (leS v.2).bind fun r3 => if dbS (gAr G) f t = true ∧ man = 1 then some ((N, gHe G, gCo G, gAr G, gLi G, gLo G + 1, gCt G, true), r3) else if 40 ≤ (gAr G).length then none else some ((N, gHe G, gCo G, gAr G ++ [(f, t, ln, v.1)], gLi G ++ [3], gLo G, gCt G, true), r3)
def arL (man ln : Int) (G : gT) (r : List Int) : Option (gT × List Int) := (nmS r).bind fun a => (ndS (gNo G) a.1).bind fun N1 => (gpS a.2).bind fun r1 => (nmS r1).bind fun b => (ndS N1 b.1).bind fun N2 => arE man ln G N2 (ixO N2 a.1) (ixO N2 b.1) b.2
def liS (man ln : Int) (G : gT) (r : List Int) : Option (gT × List Int) := if hd (skb r) = -1 then some (G, skb r) else if hd (skb r) = 35 then cmL G (skb r) else if hd (skb r) = 33 then ctL G (skb r) else if hd (skb r) = 37 then heL G (skb r) else arL man ln G (skb r)
/-- all LINES -/
def tx : Nat → Int → Int → gT → List Int → Option gT
  | 0, _, _, G, r => if r = [] then some G else none
  | k + 1, man, ln, G, r => if r = [] then some G else (liS man ln G r).bind fun q => tx k man (ln + 1) q.1 q.2.tail
def gsK (vs : List Int) : Int := if 3 ∈ vs then 2 else if 2 ∈ vs then 1 else 0
/-- the kinds that were guessed -/
def stG (G : gT) : gT := (G.1, (gHe G).mapIdx (fun i h => (h.1, if h.2 = 3 then gsK ((gAr G).map (fun x => (x.2.2.2.getD i (0, 0, [])).1)) else h.2)), G.2.2)
def rdS (man : Int) (t : List Int) : Option gT := (tx 600 man 1 g0 t).bind fun G => match gCt G with
  | none => some (stG G)
  | some c => if c.1 = (gNo G).length ∧ c.2 = (gAr G).length then some (stG G) else none
end SPEC
