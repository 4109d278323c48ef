/-! THE PURE PICTURE OF A RUN -/
/-- bit l of a mask -/
def bt (m : Int32) (l : Nat) : Bool := m.toBitVec.getLsbD l
def bs (m : Int32) (l : Nat) : Int32 := m ||| (1 <<< Int32.ofNat l)
/-- what has been read: mask, values, versions -/
abbrev rdT : Type := Int32 × (Nat → Int64) × (Nat → Int32)
/-- the world: values, versions -/
abbrev wdT : Type := (Nat → Int64) × (Nat → Int32)
/-- a cell that is read has another version now -/
def stale (w : wdT) (r : rdT) : Bool := (List.range 16).any (fun l => bt r.1 l && !(decide (r.2.2 l = w.2 l)))
/-- what a run has made: mask, written, locals, number of rules -/
abbrev mkT : Type := Int32 × (Nat → Int64) × (Nat → Int64) × Int
/-- a run: place, what it has made, rules, marks -/
abbrev sgT : Type := Int × mkT × (Nat → Int) × (Nat → mkT)
/-- a letter: its value and what is read then; none: cut -/
def lval (w : wdT) (m : mkT) (r : rdT) (z : Int) : Option (Int64 × rdT) :=
  if 0 ≤ z ∧ z < 16 then
    (if bt m.1 z.toNat then some (m.2.1 z.toNat, r)
    else if bt r.1 z.toNat then some (r.2.1 z.toNat, r)
    else if stale w r then none
    else some (w.1 z.toNat, (bs r.1 z.toNat, va_up r.2.1 z.toNat (w.1 z.toNat), va_up r.2.2 z.toNat (w.2 z.toNat))))
  else if 16 ≤ z ∧ z < 26 then some (m.2.2.1 (z.toNat - 16), r)
  else some (0, r)
/-- two numbers joined; none: by zero -/
def jn (o : Int) (a b : Int64) : Option Int64 :=
  if o = 60 then some (if a < b then 1 else 0)
  else if o = 61 then some (if a = b then 1 else 0)
  else if o = 43 then some (a + b)
  else if o = 45 then some (a - b)
  else if o = 42 then some (a * b)
  else if o = 47 then (if b = 0 then none else some (a / b))
  else if o = 37 then (if b = 0 then none else some (a - a / b * b))
  else some (if a = b then 0 else 1)
/-- code: operation, operand. An exp is worked: 0 value, 1 cut, 2 by zero; what is read then -/
def evc (O A : Nat → Int) (w : wdT) (m : mkT) : Nat → Nat → List Int64 → rdT → (Nat × Int64) × rdT
  | 0, _, _, r => ((0, 0), r)
  | f + 1, i, st, r =>
    if O i = 0 then ((0, st.getLastD 0), r)
    else if O i = 1 then evc O A w m f (i + 1) ((Int32.ofInt (A i)).toInt64 :: st) r
    else if O i = 2 then (match lval w m r (A i) with
      | none => ((1, 0), r)
      | some q => evc O A w m f (i + 1) (q.1 :: st) q.2)
    else if O i = 3 then evc O A w m f (i + 1) ((-(st.headD 0)) :: st.tail) r
    else (match jn (O i) (st.tail.headD 0) (st.headD 0) with
      | none => ((2, 0), r)
      | some v => evc O A w m f (i + 1) (v :: st.tail.tail) r)
/-- a text: fields of statements (0 kind, 1 letter, 2 code, 3 parent, 4 part, 5 depth, 6 sibling, 7 first, 8 second), operations, operands -/
abbrev txT : Type := (Nat → Nat → Int) × (Nat → Int) × (Nat → Int)
/-- where it goes on behind s -/
def bhd (X : txT) : Nat → Int → Int
  | 0, _ => -1
  | f + 1, s => if s < 0 then -1 else if 0 ≤ X.1 6 s.toNat then X.1 6 s.toNat else
    (if 0 ≤ X.1 3 s.toNat ∧ X.1 0 (X.1 3 s.toNat).toNat = 12 then X.1 3 s.toNat else bhd X f (X.1 3 s.toNat))
def gin (X : txT) (s first : Int) : Int := if 0 ≤ first then first else if X.1 0 s.toNat = 12 then s else bhd X 9 s
/-- the innermost statement of that kind whose first body s is in -/
def ard (X : txT) (kind : Int) : Nat → Int → Int
  | 0, _ => -1
  | f + 1, s => if s < 0 then -1 else (if 0 ≤ X.1 3 s.toNat ∧ X.1 0 (X.1 3 s.toNat).toNat = kind ∧ X.1 4 s.toNat = 0 then X.1 3 s.toNat else ard X kind f (X.1 3 s.toNat))
/-- a letter gets a value -/
def asg (m : mkT) (l : Int) (v : Int64) : mkT :=
  if 0 ≤ l ∧ l < 16 then (bs m.1 l.toNat, va_up m.2.1 l.toNat v, m.2.2)
  else if 16 ≤ l ∧ l < 26 then (m.1, m.2.1, va_up m.2.2.1 (l.toNat - 16) v, m.2.2.2)
  else m
/-- something is thrown at s: gone on (none) or it ends so -/
def tss (X : txT) (s : Int) (v : Int64) (g : sgT) : Option sgT :=
  if ard X 17 9 s < 0 then none else some (gin X (ard X 17 9 s) (X.1 8 (ard X 17 9 s).toNat), asg (g.2.2.2 (ard X 17 9 s).toNat) (X.1 1 (ard X 17 9 s).toNat) v, g.2.2.1, g.2.2.2)
/-- behind an exp that came to e -/
def stpx (X : txT) (g : sgT) (s : Nat) (e : (Nat × Int64) × rdT) : (Nat × Int64) × sgT × rdT :=
  if e.1.1 = 1 then ((3, 0), g, e.2)
  else if e.1.1 = 2 then (match tss X g.1 (-1) g with | none => ((2, -1), g, e.2) | some g' => ((0, 0), g', e.2))
  else if X.1 0 s = 14 then (match tss X g.1 e.1.2 g with | none => ((2, e.1.2), g, e.2) | some g' => ((0, 0), g', e.2))
  else if X.1 0 s = 10 then ((0, 0), (gin X g.1 (if e.1.2 = 0 then X.1 8 s else X.1 7 s), g.2), e.2)
  else if X.1 0 s = 12 then ((0, 0), (if e.1.2 = 0 then bhd X 9 g.1 else gin X g.1 (X.1 7 s), g.2), e.2)
  else ((0, 0), (bhd X 9 g.1, asg g.2.1 (X.1 1 s) e.1.2, g.2.2), e.2)
/-- a step: outcome 0 stepped, 1 ends, 2 throws (value), 3 cut, 4 retries; the run, what is read -/
def stepp (X : txT) (w : wdT) (g : sgT) (r : rdT) : (Nat × Int64) × sgT × rdT :=
  if g.1 < 0 then ((1, 0), g, r)
  else if X.1 0 g.1.toNat = 15 ∨ X.1 0 g.1.toNat = 17 then ((0, 0), (gin X g.1 (X.1 7 g.1.toNat), g.2.1, g.2.2.1, va_up g.2.2.2 g.1.toNat g.2.1), r)
  else if X.1 0 g.1.toNat = 19 then ((0, 0), (bhd X 9 g.1, (g.2.1.1, g.2.1.2.1, g.2.1.2.2.1, g.2.1.2.2.2 + 1), va_up g.2.2.1 g.2.1.2.2.2.toNat g.1, g.2.2.2), r)
  else if X.1 0 g.1.toNat = 13 then (if ard X 15 9 g.1 < 0 then ((4, 0), g, r) else ((0, 0), (gin X (ard X 15 9 g.1) (X.1 8 (ard X 15 9 g.1).toNat), g.2.2.2 (ard X 15 9 g.1).toNat, g.2.2.1, g.2.2.2), r))
  else stpx X g g.1.toNat (evc X.2.1 X.2.2 w g.2.1 161 (X.1 2 g.1.toNat).toNat [] r)
