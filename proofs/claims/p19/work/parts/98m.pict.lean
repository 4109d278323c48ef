/-! THE PURE PICTURE OF A RUN -/
/-- bit l of a mask -/
def bt (m : Int32) (l : Nat) : Bool := m.toBitVec.getLsbD l
def bs (m : Int32) (l : Nat) : Int32 := m ||| (1 <<< Int32.ofNat l)
/-- what has been read: mask, values, versions -/
abbrev rdT : Type := Int32 × (Nat → Int64) × (Nat → Int32)
/-- the world: values, versions -/
abbrev wdT : Type := (Nat → Int64) × (Nat → Int32)
/-- a cell that is read has another version now -/
def stale (w : wdT) (r : rdT) : Bool := (List.range 16).any (fun l => bt r.1 l && !(decide (r.2.2 l = w.2 l)))
/-- what a run has made: mask, written, locals, number of rules -/
abbrev mkT : Type := Int32 × (Nat → Int64) × (Nat → Int64) × Int
/-- a run: place, what it has made, rules, marks -/
abbrev sgT : Type := Int × mkT × (Nat → Int) × (Nat → mkT)
/-- a letter: its value and what is read then; none: cut -/
def lval (w : wdT) (m : mkT) (r : rdT) (z : Int) : Option (Int64 × rdT) :=
  if 0 ≤ z ∧ z < 16 then
    (if bt m.1 z.toNat then some (m.2.1 z.toNat, r)
    else if bt r.1 z.toNat then some (r.2.1 z.toNat, r)
    else if stale w r then none
    else some (w.1 z.toNat, (bs r.1 z.toNat, va_up r.2.1 z.toNat (w.1 z.toNat), va_up r.2.2 z.toNat (w.2 z.toNat))))
  else if 16 ≤ z ∧ z < 26 then some (m.2.2.1 (z.toNat - 16), r)
  else some (0, r)
/-- two numbers joined; none: by zero -/
def jn (o : Int) (a b : Int64) : Option Int64 :=
  if o = 60 then some (if a < b then 1 else 0)
  else if o = 61 then some (if a = b then 1 else 0)
  else if o = 43 then some (a + b)
  else if o = 45 then some (a - b)
  else if o = 42 then some (a * b)
  else if o = 47 then (if b = 0 then none else some (a / b))
  else if o = 37 then (if b = 0 then none else some (a - a / b * b))
  else some (if a = b then 0 else 1)
/-- code: operation, operand. An exp is worked: 0 value, 1 cut, 2 by zero; what is read then -/
def evc (O A : Nat → Int) (w : wdT) (m : mkT) : Nat → Nat → List Int64 → rdT → (Nat × Int64) × rdT
  | 0, _, _, r => ((0, 0), r)
  | f + 1, i, st, r =>
    if O i = 0 then ((0, st.getLastD 0), r)
    else if O i = 1 then evc O A w m f (i + 1) ((Int32.ofInt (A i)).toInt64 :: st) r
    else if O i = 2 then (match lval w m r (A i) with
      | none => ((1, 0), r)
      | some q => evc O A w m f (i + 1) (q.1 :: st) q.2)
    else if O i = 3 then evc O A w m f (i + 1) ((-(st.headD 0)) :: st.tail) r
    else (match jn (O i) (st.tail.headD 0) (st.headD 0) with
      | none => ((2, 0), r)
      | some v => evc O A w m f (i + 1) (v :: st.tail.tail) r)
/-- a text: fields of statements (0 kind, 1 letter, 2 code, 3 parent, 4 part, 5 depth, 6 sibling, 7 first, 8 second), operations, operands -/
abbrev txT : Type := (Nat → Nat → Int) × (Nat → Int) × (Nat → Int)
/-- where it goes on behind s -/
def bhd (X : txT) : Nat → Int → Int
  | 0, _ => -1
  | f + 1, s => if s < 0 then -1 else if 0 ≤ X.1 6 s.toNat then X.1 6 s.toNat else
    (if 0 ≤ X.1 3 s.toNat ∧ X.1 0 (X.1 3 s.toNat).toNat = 12 then X.1 3 s.toNat else bhd X f (X.1 3 s.toNat))
def gin (X : txT) (s first : Int) : Int := if 0 ≤ first then first else if X.1 0 s.toNat = 12 then s else bhd X 9 s
/-- the innermost statement of that kind whose first body s is in -/
def ard (X : txT) (kind : Int) : Nat → Int → Int
  | 0, _ => -1
  | f + 1, s => if s < 0 then -1 else (if 0 ≤ X.1 3 s.toNat ∧ X.1 0 (X.1 3 s.toNat).toNat = kind ∧ X.1 4 s.toNat = 0 then X.1 3 s.toNat else ard X kind f (X.1 3 s.toNat))
/-- a letter gets a value -/
def asg (m : mkT) (l : Int) (v : Int64) : mkT :=
  if 0 ≤ l ∧ l < 16 then (bs m.1 l.toNat, va_up m.2.1 l.toNat v, m.2.2)
  else if 16 ≤ l ∧ l < 26 then (m.1, m.2.1, va_up m.2.2.1 (l.toNat - 16) v, m.2.2.2)
  else m
/-- something is thrown at s: gone on (none) or it ends so -/
def tss (X : txT) (s : Int) (v : Int64) (g : sgT) : Option sgT :=
  if ard X 17 9 s < 0 then none else some (gin X (ard X 17 9 s) (X.1 8 (ard X 17 9 s).toNat), asg (g.2.2.2 (ard X 17 9 s).toNat) (X.1 1 (ard X 17 9 s).toNat) v, g.2.2.1, g.2.2.2)
/-- behind an exp that came to e -/
def stpx (X : txT) (g : sgT) (s : Nat) (e : (Nat × Int64) × rdT) : (Nat × Int64) × sgT × rdT :=
  if e.1.1 = 1 then ((3, 0), g, e.2)
  else if e.1.1 = 2 then (match tss X g.1 (-1) g with | none => ((2, -1), g, e.2) | some g' => ((0, 0), g', e.2))
  else if X.1 0 s = 14 then (match tss X g.1 e.1.2 g with | none => ((2, e.1.2), g, e.2) | some g' => ((0, 0), g', e.2))
  else if X.1 0 s = 10 then ((0, 0), (gin X g.1 (if e.1.2 = 0 then X.1 8 s else X.1 7 s), g.2), e.2)
  else if X.1 0 s = 12 then ((0, 0), (if e.1.2 = 0 then bhd X 9 g.1 else gin X g.1 (X.1 7 s), g.2), e.2)
  else ((0, 0), (bhd X 9 g.1, asg g.2.1 (X.1 1 s) e.1.2, g.2.2), e.2)
/-- a step: outcome 0 stepped, 1 ends, 2 throws (value), 3 cut, 4 retries; the run, what is read -/
def stepp (X : txT) (w : wdT) (g : sgT) (r : rdT) : (Nat × Int64) × sgT × rdT :=
  if g.1 < 0 then ((1, 0), g, r)
  else if X.1 0 g.1.toNat = 15 ∨ X.1 0 g.1.toNat = 17 then ((0, 0), (gin X g.1 (X.1 7 g.1.toNat), g.2.1, g.2.2.1, va_up g.2.2.2 g.1.toNat g.2.1), r)
  else if X.1 0 g.1.toNat = 19 then ((0, 0), (bhd X 9 g.1, (g.2.1.1, g.2.1.2.1, g.2.1.2.2.1, g.2.1.2.2.2 + 1), va_up g.2.2.1 g.2.1.2.2.2.toNat g.1, g.2.2.2), r)
  else if X.1 0 g.1.toNat = 13 then (if ard X 15 9 g.1 < 0 then ((4, 0), g, r) else ((0, 0), (gin X (ard X 15 9 g.1) (X.1 8 (ard X 15 9 g.1).toNat), g.2.2.2 (ard X 15 9 g.1).toNat, g.2.2.1, g.2.2.2), r))
  else stpx X g g.1.toNat (evc X.2.1 X.2.2 w g.2.1 161 (X.1 2 g.1.toNat).toNat [] r)
/-! more that is read does no harm -/
def rsub (r r' : rdT) : Prop := ∀ l, l < 16 → bt r.1 l = true → bt r'.1 l = true ∧ r'.2.1 l = r.2.1 l ∧ r'.2.2 l = r.2.2 l
theorem rsub.rfl' (r : rdT) : rsub r r := fun _ _ h => ⟨h, rfl, rfl⟩
theorem rsub.trans {r r' r'' : rdT} (h : rsub r r') (h' : rsub r' r'') : rsub r r'' := fun l q b => by
  obtain ⟨a1, a2, a3⟩ := h l q b
  obtain ⟨b1, b2, b3⟩ := h' l q a1
  exact ⟨b1, b2.trans a2, b3.trans a3⟩
theorem bt_bs {m : Int32} {l j : Nat} (hl : l < 16) (hj : j < 16) : bt (bs m l) j = (bt m j || decide (j = l)) := by
  have h : ∀ l, l < 16 → ∀ j, j < 16 → ((1 : Int32) <<< Int32.ofNat l).toBitVec.getLsbD j = decide (j = l) := by decide
  show (m.toBitVec ||| ((1 : Int32) <<< Int32.ofNat l).toBitVec).getLsbD j = _
  rw [BitVec.getLsbD_or, h l hl j hj]
  rfl
theorem lval_mono {w : wdT} {m : mkT} {r : rdT} {l : Int} {q : Int64 × rdT} (h : lval w m r l = some q) : rsub r q.2 := by
  unfold lval at h
  by_cases c1 : 0 ≤ l ∧ l < 16
  · rw [if_pos c1] at h
    by_cases c2 : bt m.1 l.toNat = true
    · rw [if_pos c2] at h; injection h with h; rw [← h]; exact rsub.rfl' r
    · rw [if_neg c2] at h
      by_cases c3 : bt r.1 l.toNat = true
      · rw [if_pos c3] at h; injection h with h; rw [← h]; exact rsub.rfl' r
      · rw [if_neg c3] at h
        by_cases c4 : stale w r = true
        · rw [if_pos c4] at h; cases h
        · rw [if_neg c4] at h
          injection h with h
          rw [← h]
          intro j hj b
          have hne : j ≠ l.toNat := fun e => c3 (e ▸ b)
          refine ⟨?_, va_up_of hne, va_up_of hne⟩
          show bt (bs r.1 l.toNat) j = true
          rw [bt_bs (by omega) hj, b]; rfl
  · rw [if_neg c1] at h
    split at h
    · injection h with h; rw [← h]; exact rsub.rfl' r
    · injection h with h; rw [← h]; exact rsub.rfl' r
theorem lval_sub {w w' : wdT} {m : mkT} {r r' : rdT} {l : Int} {q : Int64 × rdT} (h : lval w m r l = some q) (hs : rsub q.2 r') : lval w' m r' l = some (q.1, r') := by
  unfold lval at h ⊢
  by_cases c1 : 0 ≤ l ∧ l < 16
  · rw [if_pos c1] at h ⊢
    by_cases c2 : bt m.1 l.toNat = true
    · rw [if_pos c2] at h ⊢; injection h with h; rw [← h]
    · rw [if_neg c2] at h ⊢
      by_cases c3 : bt r.1 l.toNat = true
      · rw [if_pos c3] at h
        injection h with h
        rw [← h] at hs ⊢
        have := hs l.toNat (by omega) c3
        rw [if_pos this.1, this.2.1]
      · rw [if_neg c3] at h
        by_cases c4 : stale w r = true
        · rw [if_pos c4] at h; cases h
        · rw [if_neg c4] at h
          injection h with h
          rw [← h] at hs ⊢
          have := hs l.toNat (by omega) (by
            show bt (bs r.1 l.toNat) l.toNat = true
            rw [bt_bs (by omega) (by omega)]; simp)
          rw [if_pos this.1, this.2.1]
          show some (va_up r.2.1 l.toNat (w.1 l.toNat) l.toNat, r') = _
          rw [va_up_at]
  · rw [if_neg c1] at h ⊢
    by_cases c2 : 16 ≤ l ∧ l < 26
    · rw [if_pos c2] at h ⊢; injection h with h; rw [← h]
    · rw [if_neg c2] at h ⊢; injection h with h; rw [← h]
section EV
variable {O A : Nat → Int} {w w' : wdT} {m : mkT}
theorem evc_mono : ∀ (f i : Nat) (st : List Int64) (r : rdT), rsub r (evc O A w m f i st r).2
  | 0, _, _, r => rsub.rfl' r
  | f + 1, i, st, r => by
    unfold evc
    split
    · exact rsub.rfl' r
    · split
      · exact evc_mono f _ _ r
      · split
        · split
          · exact rsub.rfl' r
          · rename_i q hq
            exact (lval_mono hq).trans (evc_mono f _ _ q.2)
        · split
          · exact evc_mono f _ _ r
          · split
            · exact rsub.rfl' r
            · exact evc_mono f _ _ r
theorem evc_sub : ∀ (f i : Nat) (st : List Int64) (r r' : rdT), (evc O A w m f i st r).1.1 ≠ 1 → rsub (evc O A w m f i st r).2 r' → evc O A w' m f i st r' = ((evc O A w m f i st r).1, r')
  | 0, _, _, _, _, _, _ => rfl
  | f + 1, i, st, r, r', h1, h2 => by
    unfold evc at h1 h2 ⊢
    by_cases c0 : O i = 0
    · rw [if_pos c0, if_pos c0]
    · rw [if_neg c0] at h1 h2 ⊢
      rw [if_neg c0]
      by_cases c1 : O i = 1
      · rw [if_pos c1] at h1 h2 ⊢
        rw [if_pos c1]
        exact evc_sub f _ _ r r' h1 h2
      · rw [if_neg c1] at h1 h2 ⊢
        rw [if_neg c1]
        by_cases c2 : O i = 2
        · rw [if_pos c2] at h1 h2 ⊢
          rw [if_pos c2]
          cases hq : lval w m r (A i) with
          | none => rw [hq] at h1; exact absurd rfl h1
          | some q =>
            rw [hq] at h1 h2
            dsimp only at h1 h2 ⊢
            rw [lval_sub hq ((evc_mono f _ _ q.2).trans h2)]
            exact evc_sub f _ _ q.2 r' h1 h2
        · rw [if_neg c2] at h1 h2 ⊢
          rw [if_neg c2]
          by_cases c3 : O i = 3
          · rw [if_pos c3] at h1 h2 ⊢
            rw [if_pos c3]
            exact evc_sub f _ _ r r' h1 h2
          · rw [if_neg c3] at h1 h2 ⊢
            rw [if_neg c3]
            cases hj : jn (O i) (st.tail.headD 0) (st.headD 0) with
            | none => rfl
            | some v =>
              rw [hj] at h1 h2
              exact evc_sub f _ _ r r' h1 h2
end EV
section WK
variable {X : txT} {w w' : wdT} {g : sgT} {r r' : rdT}
theorem stepp_mono (X : txT) (w : wdT) (g : sgT) (r : rdT) : rsub r (stepp X w g r).2.2 := by
  unfold stepp stpx
  split
  · exact rsub.rfl' r
  · split
    · exact rsub.rfl' r
    · split
      · exact rsub.rfl' r
      · split
        · split <;> exact rsub.rfl' r
        · have e := evc_mono (O := X.2.1) (A := X.2.2) (w := w) (m := g.2.1) 161 (X.1 2 g.1.toNat).toNat [] r
          split
          · exact e
          · split
            · split <;> exact e
            · split
              · split <;> exact e
              · split
                · exact e
                · split <;> exact e
theorem stepp_sub (h1 : (stepp X w g r).1.1 ≠ 3) (h2 : rsub (stepp X w g r).2.2 r') : stepp X w' g r' = ((stepp X w g r).1, (stepp X w g r).2.1, r') := by
  unfold stepp stpx at h1 h2 ⊢
  by_cases c0 : g.1 < 0
  · rw [if_pos c0, if_pos c0]
  · rw [if_neg c0] at h1 h2 ⊢
    rw [if_neg c0]
    by_cases c1 : X.1 0 g.1.toNat = 15 ∨ X.1 0 g.1.toNat = 17
    · rw [if_pos c1, if_pos c1]
    · rw [if_neg c1] at h1 h2 ⊢
      rw [if_neg c1]
      by_cases c2 : X.1 0 g.1.toNat = 19
      · rw [if_pos c2, if_pos c2]
      · rw [if_neg c2] at h1 h2 ⊢
        rw [if_neg c2]
        by_cases c3 : X.1 0 g.1.toNat = 13
        · rw [if_pos c3, if_pos c3]
          split <;> rfl
        · rw [if_neg c3] at h1 h2 ⊢
          rw [if_neg c3]
          by_cases d1 : (evc X.2.1 X.2.2 w g.2.1 161 (X.1 2 g.1.toNat).toNat [] r).1.1 = 1
          · rw [if_pos d1] at h1; exact absurd rfl h1
          · have hs : rsub (evc X.2.1 X.2.2 w g.2.1 161 (X.1 2 g.1.toNat).toNat [] r).2 r' := by
              rw [if_neg d1] at h2
              split at h2
              · split at h2 <;> exact h2
              · split at h2
                · split at h2 <;> exact h2
                · split at h2
                  · exact h2
                  · split at h2 <;> exact h2
            rw [evc_sub (w' := w') 161 _ [] r r' d1 hs]
            dsimp only
            rw [if_neg d1, if_neg d1]
            split
            · split <;> rfl
            · split
              · split <;> rfl
              · split
                · rfl
                · split <;> rfl
/-- k steps, all of which go on -/
def wit (X : txT) (w : wdT) (g : sgT) (r : rdT) : Nat → Option (sgT × rdT)
  | 0 => some (g, r)
  | k + 1 => (wit X w g r k).bind (fun q => if (stepp X w q.1 q.2).1.1 = 0 then some (stepp X w q.1 q.2).2 else none)
/-- the beginning of a run -/
def mk0 : mkT := (0, fun _ => 0, fun _ => 0, 0)
def run0 (en : Int) : sgT := (en, mk0, fun _ => 0, fun _ => mk0)
def rd0 : rdT := (0, fun _ => 0, fun _ => 0)
/-- with what is read, or more, and whatever the world is, k steps come to g -/
def wkd (X : txT) (g0 : sgT) (k : Nat) (g : sgT) (r : rdT) : Prop := ∀ w r', rsub r r' → wit X w g0 r' k = some (g, r')
theorem wkd_0 (X : txT) (g0 : sgT) (r : rdT) : wkd X g0 0 g0 r := fun _ _ _ => rfl
theorem wkd_s {g0 : sgT} {k : Nat} (h : wkd X g0 k g r) (hs : (stepp X w g r).1.1 = 0) : wkd X g0 (k + 1) (stepp X w g r).2.1 (stepp X w g r).2.2 := by
  intro w' r' hr
  have e := h w' r' ((stepp_mono X w g r).trans hr)
  show (wit X w' g0 r' k).bind _ = _
  rw [e]
  show (if (stepp X w' g r').1.1 = 0 then some (stepp X w' g r').2 else none) = _
  rw [stepp_sub (w := w) (w' := w') (r := r) (r' := r') (by rw [hs]; decide) hr]
  exact if_pos hs
end WK
/-! IN ONE GO: what was read is as it is now, so it comes to the same -/
/-- what is read is as the world is -/
def frsh (w : wdT) (r : rdT) : Prop := ∀ l, l < 16 → bt r.1 l = true → r.2.1 l = w.1 l ∧ r.2.2 l = w.2 l
def msub (r r' : rdT) : Prop := ∀ l, l < 16 → bt r.1 l = true → bt r'.1 l = true
theorem frsh_stale {w : wdT} {r : rdT} (h : frsh w r) : stale w r = false := by
  unfold stale
  rw [List.any_eq_false]
  intro l hl
  rw [List.mem_range] at hl
  cases hb : bt r.1 l with
  | false => simp
  | true => simp [(h l hl hb).2]
theorem lval_one {w w0 : wdT} {m : mkT} {r ρ : rdT} {l : Int} {q : Int64 × rdT} (h : lval w0 m r l = some q) {rF : rdT} (hF : rsub q.2 rF) (hw : frsh w rF) (hρ : frsh w ρ) (hs : msub ρ rF) : ∃ ρ', lval w m ρ l = some (q.1, ρ') ∧ frsh w ρ' ∧ msub ρ' rF := by
  have h' := lval_sub (w' := w) h hF
  unfold lval at h' ⊢
  by_cases c1 : 0 ≤ l ∧ l < 16
  · rw [if_pos c1] at h' ⊢
    by_cases c2 : bt m.1 l.toNat = true
    · rw [if_pos c2] at h' ⊢; injection h' with h'; exact ⟨ρ, by rw [← (Prod.mk.inj h').1], hρ, hs⟩
    · rw [if_neg c2] at h' ⊢
      have hr : bt rF.1 l.toNat = true := by
        by_cases c3 : bt rF.1 l.toNat = true
        · exact c3
        · rw [if_neg c3, frsh_stale hw, if_neg (by decide)] at h'
          injection h' with h'
          have e := congrArg (fun z : rdT => bt z.1 l.toNat) (Prod.mk.inj h').2
          have e : bt (bs rF.1 l.toNat) l.toNat = bt rF.1 l.toNat := e
          rw [bt_bs (by omega) (by omega)] at e
          simp at e
          exact e
      rw [if_pos hr] at h'
      injection h' with h'
      have hv : q.1 = w.1 l.toNat := (Prod.mk.inj h').1.symm.trans (hw l.toNat (by omega) hr).1
      by_cases c3 : bt ρ.1 l.toNat = true
      · rw [if_pos c3]
        exact ⟨ρ, by rw [hv, (hρ l.toNat (by omega) c3).1], hρ, hs⟩
      · rw [if_neg c3, frsh_stale hρ, if_neg (by decide)]
        refine ⟨_, by rw [hv], ?_, ?_⟩
        · intro j hj b
          by_cases e : j = l.toNat
          · subst e
            exact ⟨va_up_at _ _ _, va_up_at _ _ _⟩
          · have b : bt (bs ρ.1 l.toNat) j = true := b
            rw [bt_bs (by omega) hj] at b
            have b : bt ρ.1 j = true := by simpa [e] using b
            have := hρ j hj b
            exact ⟨(va_up_of e).trans this.1, (va_up_of e).trans this.2⟩
        · intro j hj b
          have b : bt (bs ρ.1 l.toNat) j = true := b
          rw [bt_bs (by omega) hj] at b
          by_cases e : j = l.toNat
          · subst e; exact hr
          · have b : bt ρ.1 j = true := by simpa [e] using b
            exact hs j hj b
  · rw [if_neg c1] at h' ⊢
    by_cases c2 : 16 ≤ l ∧ l < 26
    · rw [if_pos c2] at h' ⊢; injection h' with h'; exact ⟨ρ, by rw [← (Prod.mk.inj h').1], hρ, hs⟩
    · rw [if_neg c2] at h' ⊢; injection h' with h'; exact ⟨ρ, by rw [← (Prod.mk.inj h').1], hρ, hs⟩
section ONE
variable {O A : Nat → Int} {w w0 : wdT} {m : mkT} {rF : rdT}
theorem evc_one (hw : frsh w rF) : ∀ (f i : Nat) (st : List Int64) (r ρ : rdT), (evc O A w0 m f i st r).1.1 ≠ 1 → rsub (evc O A w0 m f i st r).2 rF → frsh w ρ → msub ρ rF → ∃ ρ', evc O A w m f i st ρ = ((evc O A w0 m f i st r).1, ρ') ∧ frsh w ρ' ∧ msub ρ' rF
  | 0, _, _, _, ρ, _, _, h3, h4 => ⟨ρ, rfl, h3, h4⟩
  | f + 1, i, st, r, ρ, h1, h2, h3, h4 => by
    unfold evc at h1 h2 ⊢
    by_cases c0 : O i = 0
    · rw [if_pos c0, if_pos c0]; exact ⟨ρ, rfl, h3, h4⟩
    · rw [if_neg c0] at h1 h2 ⊢
      rw [if_neg c0]
      by_cases c1 : O i = 1
      · rw [if_pos c1] at h1 h2 ⊢
        rw [if_pos c1]
        exact evc_one hw f _ _ r ρ h1 h2 h3 h4
      · rw [if_neg c1] at h1 h2 ⊢
        rw [if_neg c1]
        by_cases c2 : O i = 2
        · rw [if_pos c2] at h1 h2 ⊢
          rw [if_pos c2]
          cases hq : lval w0 m r (A i) with
          | none => rw [hq] at h1; exact absurd rfl h1
          | some q =>
            rw [hq] at h1 h2
            dsimp only at h1 h2 ⊢
            obtain ⟨ρ1, e1, e2, e3⟩ := lval_one hq ((evc_mono f _ _ q.2).trans h2) hw h3 h4
            rw [e1]
            exact evc_one hw f _ _ q.2 ρ1 h1 h2 e2 e3
        · rw [if_neg c2] at h1 h2 ⊢
          rw [if_neg c2]
          by_cases c3 : O i = 3
          · rw [if_pos c3] at h1 h2 ⊢
            rw [if_pos c3]
            exact evc_one hw f _ _ r ρ h1 h2 h3 h4
          · rw [if_neg c3] at h1 h2 ⊢
            rw [if_neg c3]
            cases hj : jn (O i) (st.tail.headD 0) (st.headD 0) with
            | none => exact ⟨ρ, rfl, h3, h4⟩
            | some v =>
              rw [hj] at h1 h2
              exact evc_one hw f _ _ r ρ h1 h2 h3 h4
end ONE
section ONE2
variable {X : txT} {w w0 : wdT} {g : sgT} {r ρ rF : rdT}
theorem stepp_one (hw : frsh w rF) (h1 : (stepp X w0 g r).1.1 ≠ 3) (h2 : rsub (stepp X w0 g r).2.2 rF) (h3 : frsh w ρ) (h4 : msub ρ rF) : ∃ ρ', stepp X w g ρ = ((stepp X w0 g r).1, (stepp X w0 g r).2.1, ρ') ∧ frsh w ρ' ∧ msub ρ' rF := by
  unfold stepp stpx at h1 h2 ⊢
  by_cases c0 : g.1 < 0
  · rw [if_pos c0, if_pos c0]; exact ⟨ρ, rfl, h3, h4⟩
  · rw [if_neg c0] at h1 h2 ⊢
    rw [if_neg c0]
    by_cases c1 : X.1 0 g.1.toNat = 15 ∨ X.1 0 g.1.toNat = 17
    · rw [if_pos c1, if_pos c1]; exact ⟨ρ, rfl, h3, h4⟩
    · rw [if_neg c1] at h1 h2 ⊢
      rw [if_neg c1]
      by_cases c2 : X.1 0 g.1.toNat = 19
      · rw [if_pos c2, if_pos c2]; exact ⟨ρ, rfl, h3, h4⟩
      · rw [if_neg c2] at h1 h2 ⊢
        rw [if_neg c2]
        by_cases c3 : X.1 0 g.1.toNat = 13
        · rw [if_pos c3, if_pos c3]
          split <;> exact ⟨ρ, rfl, h3, h4⟩
        · rw [if_neg c3] at h1 h2 ⊢
          rw [if_neg c3]
          by_cases d1 : (evc X.2.1 X.2.2 w0 g.2.1 161 (X.1 2 g.1.toNat).toNat [] r).1.1 = 1
          · rw [if_pos d1] at h1; exact absurd rfl h1
          · have hs : rsub (evc X.2.1 X.2.2 w0 g.2.1 161 (X.1 2 g.1.toNat).toNat [] r).2 rF := by
              rw [if_neg d1] at h2
              split at h2
              · split at h2 <;> exact h2
              · split at h2
                · split at h2 <;> exact h2
                · split at h2
                  · exact h2
                  · split at h2 <;> exact h2
            obtain ⟨ρ1, e1, e2, e3⟩ := evc_one (O := X.2.1) (A := X.2.2) (m := g.2.1) hw 161 (X.1 2 g.1.toNat).toNat [] r ρ d1 hs h3 h4
            rw [e1]
            dsimp only
            rw [if_neg d1, if_neg d1]
            refine ⟨ρ1, ?_, e2, e3⟩
            split
            · split <;> rfl
            · split
              · split <;> rfl
              · split
                · rfl
                · split <;> rfl
/-- k steps in one go -/
theorem wit_one {g0 : sgT} (hw : frsh w rF) (h3 : frsh w ρ) (h4 : msub ρ rF) : ∀ (k : Nat) (g : sgT) (r1 : rdT), wit X w0 g0 r k = some (g, r1) → rsub r1 rF → ∃ ρ', wit X w g0 ρ k = some (g, ρ') ∧ frsh w ρ' ∧ msub ρ' rF
  | 0, g, r1, h, _ => by
    injection h with h
    exact ⟨ρ, by rw [← (Prod.mk.inj h).1]; rfl, h3, h4⟩
  | k + 1, g, r1, h, hr => by
    have h : (wit X w0 g0 r k).bind (fun q => if (stepp X w0 q.1 q.2).1.1 = 0 then some (stepp X w0 q.1 q.2).2 else none) = some (g, r1) := h
    cases hk : wit X w0 g0 r k with
    | none => rw [hk] at h; cases h
    | some q =>
      rw [hk] at h
      have h : (if (stepp X w0 q.1 q.2).1.1 = 0 then some (stepp X w0 q.1 q.2).2 else none) = some (g, r1) := h
      split at h
      · rename_i hz
        injection h with h
        have hr1 : rsub (stepp X w0 q.1 q.2).2.2 rF := by rw [h]; exact hr
        obtain ⟨ρ1, e1, e2, e3⟩ := wit_one hw h3 h4 k q.1 q.2 hk ((stepp_mono X w0 q.1 q.2).trans hr1)
        obtain ⟨ρ2, f1, f2, f3⟩ := stepp_one (X := X) (w := w) (w0 := w0) (g := q.1) (r := q.2) (ρ := ρ1) hw (by rw [hz]; decide) hr1 e2 e3
        refine ⟨ρ2, ?_, f2, f3⟩
        show (wit X w g0 ρ k).bind _ = _
        rw [e1]
        show (if (stepp X w q.1 ρ1).1.1 = 0 then some (stepp X w q.1 ρ1).2 else none) = _
        rw [f1]
        dsimp only
        rw [if_pos hz, h]
      · cases h
end ONE2
/-! bits as the code reads them -/
theorem bv_1 (x : BitVec 32) : x &&& 1#32 = if x.getLsbD 0 = true then 1#32 else 0#32 := by
  rw [BitVec.and_one_eq_setWidth_ofBool_getLsbD]
  cases x.getLsbD 0 <;> rfl
theorem i32_1 (x : Int32) : (x &&& Int32.ofInt 1).toInt = if x.toBitVec.getLsbD 0 = true then 1 else 0 := by
  have e : (x &&& Int32.ofInt 1).toBitVec = if x.toBitVec.getLsbD 0 = true then 1#32 else 0#32 := by
    show x.toBitVec &&& (Int32.ofInt 1).toBitVec = _
    exact bv_1 x.toBitVec
  show (x &&& Int32.ofInt 1).toBitVec.toInt = _
  rw [e]
  split <;> rfl
theorem sh_lit : ∀ l, l < 16 → ((Int32.ofInt (l : Nat) &&& 31).toBitVec.smod 32).toNat = l := by decide
theorem ush_lit : ∀ l, l < 16 → (((Int32.ofInt (l : Nat)).toUInt32 &&& Int32.toUInt32 31).toBitVec % 32).toNat = l := by decide
theorem bt_shr (m : Int32) {l : Nat} (hl : l < 16) : (m >>> (Int32.ofInt (l : Int) &&& 31)).toBitVec.getLsbD 0 = bt m l := by
  show (m.toBitVec.sshiftRight ((Int32.ofInt (l : Nat) &&& 31).toBitVec.smod 32).toNat).getLsbD 0 = _
  rw [sh_lit l hl, BitVec.getLsbD_sshiftRight]
  simp [bt]
  omega
theorem bt_ushr (m : Int32) {l : Nat} (hl : l < 16) : (m.toUInt32 >>> ((Int32.ofInt (l : Int)).toUInt32 &&& Int32.toUInt32 31)).toInt32.toBitVec.getLsbD 0 = bt m l := by
  show (m.toBitVec >>> (((Int32.ofInt (l : Nat)).toUInt32 &&& Int32.toUInt32 31).toBitVec % 32).toNat).getLsbD 0 = _
  rw [ush_lit l hl, BitVec.getLsbD_ushiftRight]
  simp [bt]
/-! THE REFERENCE'S RUN: what is read, the world -/
theorem or_lit : ∀ l, l < 16 → (Int32.ofInt 1 <<< (Int32.ofInt (l : Nat) &&& 31)) = (1 : Int32) <<< Int32.ofNat l := by decide
/-- the reference's reads, its world -/
def rR (M : rf_M) : rdT := (M.1 353 52, fun l => M.2.1 389 l, fun l => M.1 390 l)
def wR (M : rf_M) (d : Nat) : wdT := (fun l => M.2.1 376 (16 * d + l), fun l => M.1 377 (16 * d + l))
theorem gi_ofi (M : rf_M) (a k : Nat) : Int32.ofInt (gi M a k) = M.1 a k := ofi_ti _
theorem gi_eq {M M' : rf_M} {a k a' k' : Nat} : gi M a k = gi M' a' k' ↔ M.1 a k = M'.1 a' k' := ⟨fun h => Int32.toInt_inj.mp h, fun h => congrArg Int32.toInt h⟩
theorem x_isChanged {M : rf_M} {d : Nat} {K : Int → rf_M → Prop} (hd : gi M 353 42 = d) (h2 : d < 2) (kk : K (if stale (wR M d) (rR M) = true then 1 else 0) M) : em_W_isChanged M K := by
  refine ⟨fun v M' => M' = M ∧ 0 ≤ v ∧ v ≤ 16 ∧ ∀ l : Nat, (l : Int) < v → (bt (rR M).1 l && !(decide ((rR M).2.2 l = (wR M d).2 l))) = false, ⟨rfl, by omega, by omega, fun l hl => absurd hl (by omega)⟩, ?_⟩
  rintro v M' - ⟨rfl, v0, v16, hv⟩
  obtain ⟨l, rfl⟩ : ∃ l : Nat, v = (l : Int) := ⟨v.toNat, by omega⟩
  have tst : l < 16 → (Int32.ofInt (Int32.ofInt (gi M' 353 52) >>> (Int32.ofInt (l : Int) &&& 31)).toInt &&& Int32.ofInt 1).toInt = if bt (rR M').1 l = true then 1 else 0 := fun hl => by
    rw [i32_1, ofi_ti, gi_ofi, bt_shr _ hl]; rfl
  have nxt : l < 16 → (bt (rR M').1 l && !(decide ((rR M').2.2 l = (wR M' d).2 l))) = false → e_W_isChanged_45 (l : Int) M' (fun v M'' => M'' = M' ∧ 0 ≤ v ∧ v ≤ 16 ∧ ∀ l : Nat, (l : Int) < v → (bt (rR M').1 l && !(decide ((rR M').2.2 l = (wR M' d).2 l))) = false) K := fun hl hb => by
    refine ⟨⟨by omega, by omega⟩, rfl, by omega, by omega, fun l' hl' => ?_⟩
    by_cases e : l' = l
    · rw [e]; exact hb
    · exact hv l' (by omega)
  refine ⟨fun h => ?_, fun h => ⟨fun h1 _ => ⟨by rw [hd]; exact ⟨by omega, by omega⟩, fun _ => ⟨fun h3 => nxt (by omega) ?_, fun h3 => ?_⟩⟩, fun h1 => nxt (by omega) ?_⟩⟩
  · have e : stale (wR M' d) (rR M') = false := by
      unfold stale
      rw [List.any_eq_false]
      intro l' hl'
      rw [List.mem_range] at hl'
      rw [hv l' (by omega)]
      decide
    rw [e] at kk
    exact kk
  · rw [hd] at h3
    have h3 := gi_eq.mp h3
    have e : (16 * (d : Int) + (l : Int)).toNat = 16 * d + l := by omega
    rw [e] at h3
    have h3 : (rR M').2.2 l = (wR M' d).2 l := h3
    rw [decide_eq_true h3]; simp
  · have e : stale (wR M' d) (rR M') = true := by
      unfold stale
      rw [List.any_eq_true]
      refine ⟨l, List.mem_range.mpr (by omega), ?_⟩
      rw [tst (by omega)] at h1
      have hb : bt (rR M').1 l = true := by
        by_cases q : bt (rR M').1 l = true
        · exact q
        · rw [if_neg q] at h1; exact absurd h1 (by decide)
      have hne : ¬ (rR M').2.2 l = (wR M' d).2 l := fun q => h3 (by
        rw [hd]
        have e : (16 * (d : Int) + (l : Int)).toNat = 16 * d + l := by omega
        rw [e]
        exact gi_eq.mpr q)
      rw [hb, decide_eq_false hne]; rfl
    rw [e] at kk
    exact kk
  · rw [tst (by omega)] at h1
    have hb : bt (rR M').1 l = false := by
      cases q : bt (rR M').1 l with
      | false => rfl
      | true => rw [if_pos q] at h1; exact absurd rfl h1
    rw [hb]; rfl
/-! TEXTS THAT ARE WELL MADE; the marks of the statements around a place -/
def lnk (n : Nat) (z : Int) (P : Nat → Prop) : Prop := z = -1 ∨ ∃ x : Nat, z = (x : Int) ∧ x < n ∧ P x
def opk (o : Int) : Prop := o = 0 ∨ o = 1 ∨ o = 2 ∨ o = 3 ∨ o = 35 ∨ o = 37 ∨ o = 42 ∨ o = 43 ∨ o = 45 ∨ o = 47 ∨ o = 60 ∨ o = 61
def psh (O : Nat → Int) : Nat → Nat
  | 0 => 0
  | i + 1 => psh O i + (if O i = 1 ∨ O i = 2 then 1 else 0)
/-- code from e on ends before cc -/
def cdo (X : txT) (cc : Nat) (e : Int) : Prop := 0 ≤ e ∧ (X.2.1 e.toNat = 1 ∨ X.2.1 e.toNat = 2) ∧ ∃ k, k ≤ 160 ∧ X.2.1 (e.toNat + k) = 0 ∧ e.toNat + k < cc
def knd (k : Int) : Prop := k = 1 ∨ k = 10 ∨ k = 12 ∨ k = 13 ∨ k = 14 ∨ k = 15 ∨ k = 17 ∨ k = 19
def kxp (k : Int) : Prop := k = 1 ∨ k = 10 ∨ k = 12 ∨ k = 14 ∨ k = 19
def wst (X : txT) (n cc s : Nat) : Prop :=
  ((X.1 3 s = -1 ∧ X.1 5 s = 0) ∨ ∃ p : Nat, X.1 3 s = (p : Int) ∧ p < n ∧ X.1 5 s = X.1 5 p + 1) ∧
  (X.1 4 s = 0 ∨ X.1 4 s = 1) ∧ (0 ≤ X.1 5 s ∧ X.1 5 s ≤ 8) ∧
  lnk n (X.1 6 s) (fun x => X.1 3 x = X.1 3 s ∧ X.1 4 x = X.1 4 s) ∧
  lnk n (X.1 7 s) (fun x => X.1 3 x = (s : Int) ∧ X.1 4 x = 0) ∧
  lnk n (X.1 8 s) (fun x => X.1 3 x = (s : Int) ∧ X.1 4 x = 1) ∧
  knd (X.1 0 s) ∧ (X.1 0 s = 15 ∨ X.1 0 s = 17 → X.1 5 s ≤ 7) ∧
  (X.1 0 s = 17 → 16 ≤ X.1 1 s ∧ X.1 1 s < 26) ∧ (X.1 0 s = 1 → 0 ≤ X.1 1 s ∧ X.1 1 s < 26) ∧
  (kxp (X.1 0 s) → cdo X cc (X.1 2 s))
/-- n statements, cc pieces of code, the entry -/
def wfx (X : txT) (n cc : Nat) (en : Int) : Prop := n ≤ 40 ∧ cc ≤ 160 ∧ psh X.2.1 cc ≤ 60 ∧ (∀ i, i < cc → opk (X.2.1 i) ∧ (X.2.1 i = 2 → 0 ≤ X.2.2 i ∧ X.2.2 i < 26)) ∧ lnk n en (fun x => X.1 3 x = -1) ∧ ∀ s, s < n → wst X n cc s
def plz (n : Nat) (z : Int) : Prop := z = -1 ∨ ∃ x : Nat, z = (x : Int) ∧ x < n
/-- P holds of the statements around s in whose first body s lies -/
def pok (X : txT) (P : Nat → Prop) (s : Int) : Prop := ∃ A : Nat → Prop, (∀ x : Nat, s = (x : Int) → A x) ∧ ∀ y, A y → ∀ p : Nat, X.1 3 y = (p : Int) → A p ∧ (X.1 4 y = 0 → P p)
theorem psh_mono (O : Nat → Int) {i j : Nat} (h : i ≤ j) : psh O i ≤ psh O j := by
  induction j with
  | zero => rw [Nat.le_zero.mp h]; exact Nat.le_refl _
  | succ j ih =>
    by_cases e : i = j + 1
    · rw [e]; exact Nat.le_refl _
    · exact Nat.le_trans (ih (by omega)) (Nat.le_add_right _ _)
section PT
variable {X : txT} {n cc : Nat} {en : Int} {P Q : Nat → Prop} {s : Nat}
theorem pok_neg {z : Int} (h : z < 0) : pok X P z := ⟨fun _ => False, fun x e => by omega, fun y h => h.elim⟩
theorem pok_up {p : Nat} (h : pok X P (s : Int)) (hp : X.1 3 s = (p : Int)) : pok X P (p : Int) ∧ (X.1 4 s = 0 → P p) := by
  obtain ⟨A, h1, h2⟩ := h
  obtain ⟨h3, h4⟩ := h2 s (h1 s rfl) p hp
  exact ⟨⟨A, fun x e => by rw [← Int.ofNat_inj.mp e]; exact h3, h2⟩, h4⟩
theorem pok_of {x : Nat} (h : ∀ p : Nat, X.1 3 x = (p : Int) → pok X P (p : Int) ∧ (X.1 4 x = 0 → P p)) : pok X P (x : Int) := by
  by_cases hp : ∃ p : Nat, X.1 3 x = (p : Int)
  · obtain ⟨p, hp⟩ := hp
    obtain ⟨⟨A, h1, h2⟩, h3⟩ := h p hp
    refine ⟨fun y => y = x ∨ A y, fun y e => Or.inl (Int.ofNat_inj.mp e).symm, fun y hy q hq => ?_⟩
    rcases hy with rfl | hy
    · have e : q = p := Int.ofNat_inj.mp (hq.symm.trans hp)
      subst e
      exact ⟨Or.inr (h1 q rfl), h3⟩
    · obtain ⟨a, b⟩ := h2 y hy q hq
      exact ⟨Or.inr a, b⟩
  · exact ⟨fun y => y = x, fun y e => (Int.ofNat_inj.mp e).symm, fun y hy q hq => by subst hy; exact absurd ⟨q, hq⟩ hp⟩
theorem pok_sib {x : Nat} (h : pok X P (s : Int)) (h3 : X.1 3 x = X.1 3 s) (h4 : X.1 4 x = X.1 4 s) : pok X P (x : Int) := pok_of (fun p hp => by
  rw [h3] at hp
  have := pok_up h hp
  exact ⟨this.1, fun q => this.2 (by rw [← h4]; exact q)⟩)
theorem pok_in {x : Nat} (h : pok X P (s : Int)) (h3 : X.1 3 x = (s : Int)) (h4 : X.1 4 x = 0 → P s) : pok X P (x : Int) := pok_of (fun p hp => by
  have e : p = s := Int.ofNat_inj.mp (hp.symm.trans h3)
  subst e
  exact ⟨h, h4⟩)
theorem pok_mono {z : Int} (h : pok X P z) (i : ∀ x, P x → Q x) : pok X Q z := by
  obtain ⟨A, h1, h2⟩ := h
  exact ⟨A, h1, fun y hy p hp => ⟨(h2 y hy p hp).1, fun q => i p ((h2 y hy p hp).2 q)⟩⟩
/-- what is around lies less deep -/
theorem pok_dep (hX : wfx X n cc en) (hs : s < n) (h : pok X P (s : Int)) : pok X (fun x => P x ∧ x < n ∧ X.1 5 x < X.1 5 s) (s : Int) := by
  obtain ⟨A, h1, h2⟩ := h
  refine ⟨fun y => A y ∧ y < n ∧ X.1 5 y ≤ X.1 5 s, fun x e => ?_, fun y hy p hp => ?_⟩
  · have e := Int.ofNat_inj.mp e
    subst e
    exact ⟨h1 _ rfl, hs, Int.le_refl _⟩
  · obtain ⟨a, b⟩ := h2 y hy.1 p hp
    have w := (hX.2.2.2.2.2 y hy.2.1).1
    rcases w with w | ⟨p', w1, w2, w3⟩
    · omega
    · have e : p = p' := Int.ofNat_inj.mp (hp.symm.trans w1)
      subst e
      have := hy.2.2
      exact ⟨⟨a, w2, by omega⟩, fun q => ⟨b q, w2, by omega⟩⟩
theorem plz_par (hX : wfx X n cc en) (hs : s < n) : plz n (X.1 3 s) := by
  rcases (hX.2.2.2.2.2 s hs).1 with w | ⟨p, w1, w2, _⟩
  · exact Or.inl w.1
  · exact Or.inr ⟨p, w1, w2⟩
theorem tn_ (x : Nat) : ((x : Nat) : Int).toNat = x := by omega
theorem pok_bhd (hX : wfx X n cc en) : ∀ (f : Nat) (z : Int), plz n z → pok X P z → plz n (bhd X f z) ∧ pok X P (bhd X f z)
  | 0, z, _, _ => ⟨Or.inl rfl, pok_neg (by show (-1 : Int) < 0; omega)⟩
  | f + 1, z, hz, hp => by
    unfold bhd
    rcases hz with rfl | ⟨x, rfl, hx⟩
    · rw [if_pos (by omega)]
      exact ⟨Or.inl rfl, pok_neg (by omega)⟩
    · rw [if_neg (by omega), tn_]
      have w := hX.2.2.2.2.2 x hx
      rcases w.2.2.2.1 with w6 | ⟨y, w6, hy, w7⟩
      · rw [if_neg (by omega)]
        have hup : plz n (X.1 3 x) ∧ pok X P (X.1 3 x) := by
          rcases w.1 with w1 | ⟨p, w1, w2, _⟩
          · rw [w1.1]; exact ⟨Or.inl rfl, pok_neg (by omega)⟩
          · rw [w1]; exact ⟨Or.inr ⟨p, rfl, w2⟩, (pok_up hp w1).1⟩
        split
        · exact hup
        · exact pok_bhd hX f _ hup.1 hup.2
      · rw [if_pos (by omega), w6]
        exact ⟨Or.inr ⟨y, rfl, hy⟩, pok_sib hp w7.1 w7.2⟩
theorem pok_gin (hX : wfx X n cc en) {z : Int} (hs : s < n) (hp : pok X P (s : Int)) (hz : lnk n z (fun x => X.1 3 x = (s : Int) ∧ (X.1 4 x = 0 → P s))) : plz n (gin X (s : Int) z) ∧ pok X P (gin X (s : Int) z) := by
  unfold gin
  rcases hz with rfl | ⟨x, rfl, hx, h3, h4⟩
  · rw [if_neg (by omega), tn_]
    split
    · exact ⟨Or.inr ⟨s, rfl, hs⟩, hp⟩
    · exact pok_bhd hX 9 _ (Or.inr ⟨s, rfl, hs⟩) hp
  · rw [if_pos (by omega)]
    exact ⟨Or.inr ⟨x, rfl, hx⟩, pok_in hp h3 h4⟩
theorem pok_ard (hX : wfx X n cc en) {k : Int} : ∀ (f : Nat) (z : Int), plz n z → pok X P z → (ard X k f z = -1 ∨ ∃ x : Nat, ard X k f z = (x : Int) ∧ x < n ∧ X.1 0 x = k ∧ pok X P (x : Int) ∧ P x)
  | 0, z, _, _ => Or.inl rfl
  | f + 1, z, hz, hp => by
    unfold ard
    rcases hz with rfl | ⟨x, rfl, hx⟩
    · rw [if_pos (by omega)]
      exact Or.inl rfl
    · rw [if_neg (by omega), tn_]
      rcases (hX.2.2.2.2.2 x hx).1 with w1 | ⟨p, w1, w2, _⟩
      · rw [w1.1, if_neg (by omega)]
        exact pok_ard hX f _ (Or.inl rfl) (pok_neg (by omega))
      · have hu := pok_up hp w1
        rw [w1, tn_]
        split
        · rename_i q
          exact Or.inr ⟨p, rfl, w2, q.2.1, hu.1, hu.2 q.2.2⟩
        · exact pok_ard hX f _ (Or.inr ⟨p, rfl, w2⟩) hu.1
end PT
/-! the same as far as it shows -/
def meq (m m' : mkT) : Prop := m'.1 = m.1 ∧ (∀ l, l < 16 → bt m.1 l = true → m'.2.1 l = m.2.1 l) ∧ (∀ l, l < 10 → m'.2.2.1 l = m.2.2.1 l) ∧ m'.2.2.2 = m.2.2.2
def req (r r' : rdT) : Prop := r'.1 = r.1 ∧ ∀ l, l < 16 → bt r.1 l = true → r'.2.1 l = r.2.1 l ∧ r'.2.2 l = r.2.2 l
theorem meq.rfl' (m : mkT) : meq m m := ⟨rfl, fun _ _ _ => rfl, fun _ _ => rfl, rfl⟩
theorem req.rfl' (r : rdT) : req r r := ⟨rfl, fun _ _ _ => ⟨rfl, rfl⟩⟩
theorem meq.trans {m m' m'' : mkT} (h : meq m m') (h' : meq m' m'') : meq m m'' := ⟨h'.1.trans h.1, fun l hl b => (h'.2.1 l hl (by rw [h.1]; exact b)).trans (h.2.1 l hl b), fun l hl => (h'.2.2.1 l hl).trans (h.2.2.1 l hl), h'.2.2.2.trans h.2.2.2⟩
theorem req.trans {m m' m'' : rdT} (h : req m m') (h' : req m' m'') : req m m'' := ⟨h'.1.trans h.1, fun l hl b => ⟨((h'.2 l hl (by rw [h.1]; exact b)).1).trans (h.2 l hl b).1, ((h'.2 l hl (by rw [h.1]; exact b)).2).trans (h.2 l hl b).2⟩⟩
theorem meq_asg {m m' : mkT} (h : meq m m') (l : Int) (v : Int64) : meq (asg m l v) (asg m' l v) := by
  unfold asg
  by_cases c : 0 ≤ l ∧ l < 16
  · rw [if_pos c, if_pos c]
    refine ⟨by rw [h.1], fun j hj b => ?_, h.2.2⟩
    by_cases e : j = l.toNat
    · subst e; exact (va_up_at _ _ _).trans (va_up_at _ _ _).symm
    · have b : bt (bs m.1 l.toNat) j = true := b
      rw [bt_bs (by omega) hj] at b
      have b : bt m.1 j = true := by simpa [e] using b
      exact (va_up_of e).trans ((h.2.1 j hj b).trans (va_up_of e).symm)
  · rw [if_neg c, if_neg c]
    split
    · refine ⟨h.1, h.2.1, fun j hj => ?_, h.2.2.2⟩
      by_cases e : j = l.toNat - 16
      · subst e; exact (va_up_at _ _ _).trans (va_up_at _ _ _).symm
      · exact (va_up_of e).trans ((h.2.2.1 j hj).trans (va_up_of e).symm)
    · exact h
/-- a statement that marks -/
def kmk (X : txT) (h : Nat) : Prop := X.1 0 h = 15 ∨ X.1 0 h = 17
/-- what a side holds of a run: what it has made, its rules' row, its marks -/
abbrev vwT : Type := mkT × (Nat → Int) × (Nat → mkT)
/-- it is the run g: f is how the side writes a rule, hw how many places of the rules' row are used -/
def grl (X : txT) (f : Int → Int) (hw : Nat) (g : sgT) (v : vwT) : Prop := meq g.2.1 v.1 ∧ (0 ≤ g.2.1.2.2.2 ∧ g.2.1.2.2.2 ≤ (hw : Int)) ∧ (∀ j, j < hw → v.2.1 j = f (g.2.2.1 j)) ∧ pok X (fun h => kmk X h → meq (g.2.2.2 h) (v.2.2 h) ∧ 0 ≤ (g.2.2.2 h).2.2.2 ∧ (g.2.2.2 h).2.2.2 ≤ (hw : Int)) g.1
section GR
variable {X : txT} {n cc : Nat} {en : Int} {f : Int → Int} {hw s : Nat} {g : sgT} {v v' : vwT}
/-- the side's cells change, but not what shows -/
theorem grl_v (h : grl X f hw g v) (h1 : meq v.1 v'.1) (h2 : ∀ j, j < hw → v'.2.1 j = v.2.1 j) (h3 : ∀ x, meq (v.2.2 x) (v'.2.2 x)) : grl X f hw g v' := ⟨h.1.trans h1, h.2.1, fun j hj => (h2 j hj).trans (h.2.2.1 j hj), pok_mono h.2.2.2 (fun x hx hk => ⟨(hx hk).1.trans (h3 x), (hx hk).2⟩)⟩
/-- nothing but the place changes -/
theorem grl_move {z : Int} (h : grl X f hw g v) (hz : ∀ P : Nat → Prop, (∀ h, ¬ kmk X h → P h) → pok X P g.1 → pok X P z) : grl X f hw (z, g.2) v := ⟨h.1, h.2.1, h.2.2.1, hz _ (fun h q k => absurd k q) h.2.2.2⟩
theorem grl_mark {z : Int} (hX : wfx X n cc en) (hs : s < n) (e : g.1 = (s : Int)) (h : grl X f hw g v) (h1 : meq v.1 v'.1) (h2 : ∀ j, j < hw → v'.2.1 j = v.2.1 j) (h3 : meq v.1 (v'.2.2 s)) (h4 : ∀ x, x < n → X.1 5 x < X.1 5 s → meq (v.2.2 x) (v'.2.2 x)) (hz : lnk n z (fun x => X.1 3 x = (s : Int))) : grl X f hw (gin X g.1 z, g.2.1, g.2.2.1, va_up g.2.2.2 s g.2.1) v' ∧ plz n (gin X g.1 z) := by
  obtain ⟨a1, a2, a3, a4⟩ := h
  rw [e] at a4 ⊢
  have b := pok_dep hX hs a4
  have b' : pok X (fun h => kmk X h → meq (va_up g.2.2.2 s g.2.1 h) (v'.2.2 h) ∧ 0 ≤ (va_up g.2.2.2 s g.2.1 h).2.2.2 ∧ (va_up g.2.2.2 s g.2.1 h).2.2.2 ≤ (hw : Int)) (s : Int) := pok_mono b (fun x hx hk => by
    have ne : x ≠ s := fun q => by have := hx.2.2; rw [q] at this; omega
    rw [va_up_of ne]
    exact ⟨(hx.1 hk).1.trans (h4 x hx.2.1 hx.2.2), (hx.1 hk).2⟩)
  have q := pok_gin hX (z := z) hs b' (Or.imp id (fun ⟨x, x1, x2, x3⟩ => ⟨x, x1, x2, x3, fun _ _ => by rw [va_up_at]; exact ⟨a1.trans h3, a2⟩⟩) hz)
  exact ⟨⟨a1.trans h1, a2, fun j hj => (h2 j hj).trans (a3 j hj), q.2⟩, q.1⟩
theorem grl_rule {z : Int} {c : Nat} (hc : g.2.1.2.2.2 = (c : Int)) (h : grl X f hw g v) (e1 : meq (v.1.1, v.1.2.1, v.1.2.2.1, v.1.2.2.2 + 1) v'.1) (e2 : v'.2.1 c = f g.1) (e3 : ∀ j, j < hw → j ≠ c → v'.2.1 j = v.2.1 j) (e4 : ∀ x, meq (v.2.2 x) (v'.2.2 x)) (hz : ∀ P : Nat → Prop, (∀ h, ¬ kmk X h → P h) → pok X P g.1 → pok X P z) : grl X f (max hw (c + 1)) (z, (g.2.1.1, g.2.1.2.1, g.2.1.2.2.1, g.2.1.2.2.2 + 1), va_up g.2.2.1 g.2.1.2.2.2.toNat g.1, g.2.2.2) v' := by
  obtain ⟨a1, a2, a3, a4⟩ := h
  refine ⟨?_, ⟨?_, ?_⟩, fun j hj => ?_, ?_⟩
  · refine meq.trans ?_ e1
    exact ⟨a1.1, a1.2.1, a1.2.2.1, congrArg (· + 1) a1.2.2.2⟩
  · show (0 : Int) ≤ g.2.1.2.2.2 + 1
    omega
  · show g.2.1.2.2.2 + 1 ≤ ((max hw (c + 1) : Nat) : Int)
    omega
  · show v'.2.1 j = f (va_up g.2.2.1 g.2.1.2.2.2.toNat g.1 j)
    have ec : g.2.1.2.2.2.toNat = c := by omega
    rw [ec]
    by_cases e : j = c
    · rw [e, va_up_at]; exact e2
    · rw [va_up_of e, e3 j (by omega) e]
      exact a3 j (by omega)
  · refine hz _ (fun h q k => absurd k q) (pok_mono a4 (fun x hx hk => ⟨(hx hk).1.trans (e4 x), (hx hk).2.1, ?_⟩))
    have := (hx hk).2.2
    show (g.2.2.2 x).2.2.2 ≤ ((max hw (c + 1) : Nat) : Int)
    omega
theorem grl_asg {z l : Int} {x : Int64} (h : grl X f hw g v) (hz : ∀ P : Nat → Prop, (∀ h, ¬ kmk X h → P h) → pok X P g.1 → pok X P z) : grl X f hw (z, asg g.2.1 l x, g.2.2) (asg v.1 l x, v.2) := by
  obtain ⟨a1, a2, a3, a4⟩ := h
  refine ⟨meq_asg a1 l x, ?_, a3, hz _ (fun h q k => absurd k q) a4⟩
  show 0 ≤ (asg g.2.1 l x).2.2.2 ∧ (asg g.2.1 l x).2.2.2 ≤ (hw : Int)
  unfold asg
  split
  · exact a2
  · split <;> exact a2
/-- back to the mark of x -/
theorem grl_back {z : Int} {x : Nat} (h : grl X f hw g v) (hx : meq (g.2.2.2 x) (v.2.2 x) ∧ 0 ≤ (g.2.2.2 x).2.2.2 ∧ (g.2.2.2 x).2.2.2 ≤ (hw : Int)) (hz : ∀ P : Nat → Prop, (∀ h, ¬ kmk X h → P h) → pok X P g.1 → pok X P z) : grl X f hw (z, g.2.2.2 x, g.2.2) (v.2.2 x, v.2) := by
  obtain ⟨a1, a2, a3, a4⟩ := h
  exact ⟨hx.1, hx.2, a3, hz _ (fun h q k => absurd k q) a4⟩
end GR
/-! FRAMES of ints and longs; small methods of the program's runs -/
def eqy (P : Nat → Nat → Prop) (M M' : rf_M) : Prop := (∀ a k, ¬ P a k → M'.1 a k = M.1 a k ∧ M'.2.1 a k = M.2.1 a k) ∧ M'.2.2 = M.2.2
section EQY

variable {P Q : Nat → Nat → Prop} {M M' M'' : rf_M} {a k : Nat}

theorem eqy.rfl' (M : rf_M) : eqy P M M := ⟨fun _ _ _ => ⟨rfl, rfl⟩, rfl⟩
theorem eqy.trans (h : eqy P M M') (h' : eqy P M' M'') : eqy P M M'' := ⟨fun a k q => ⟨(h'.1 a k q).1.trans (h.1 a k q).1, (h'.1 a k q).2.trans (h.1 a k q).2⟩, h'.2.trans h.2⟩
theorem eqy.mono (h : eqy P M M') (i : ∀ a k, P a k → Q a k) : eqy Q M M' := ⟨fun a k q => h.1 a k (fun w => q (i a k w)), h.2⟩
theorem ne_of_P {a' k' : Nat} (hp : P a k) (q : ¬ P a' k') : a' ≠ a ∨ k' ≠ k := by
  by_cases e : a' = a
  · exact Or.inr (fun e2 => q (by rw [e, e2]; exact hp))
  · exact Or.inl e
theorem eqy.wi {z : Int} (h : eqy P M M') (hp : P a k) : eqy P M (wi M' a k z) := ⟨fun a' k' q => ⟨(rf_wi_of M' _ (ne_of_P hp q)).trans (h.1 a' k' q).1, (h.1 a' k' q).2⟩, h.2⟩
theorem eqy.wl {x : Int64} (h : eqy P M M') (hp : P a k) : eqy P M (wl M' a k x) := ⟨fun a' k' q => ⟨(h.1 a' k' q).1, (gl_of (M := M') (ne_of_P hp q)).trans (h.1 a' k' q).2⟩, h.2⟩
theorem eqy.cpl {a2 sp dp n : Nat} (h : eqy P M M') (hp : ∀ k, P a k) : eqy P M (cpl M' a2 sp a dp n) := ⟨fun a' k' q => ⟨(h.1 a' k' q).1, by
  have ne : a' ≠ a := fun e => q (by rw [e]; exact hp k')
  show va_up M'.2.1 a _ a' k' = _
  rw [va_up_of ne]
  exact (h.1 a' k' q).2⟩, h.2⟩
theorem eqy.cpi {a2 sp dp n : Nat} (h : eqy P M M') (hp : ∀ k, P a k) : eqy P M (cpi M' a2 sp a dp n) := ⟨fun a' k' q => ⟨by
  have ne : a' ≠ a := fun e => q (by rw [e]; exact hp k')
  show va_up M'.1 a _ a' k' = _
  rw [va_up_of ne]
  exact (h.1 a' k' q).1, (h.1 a' k' q).2⟩, h.2⟩
theorem eqy.i (h : eqy P M M') (q : ¬ P a k) : gi M' a k = gi M a k := congrArg Int32.toInt (h.1 a k q).1
theorem eqy.l (h : eqy P M M') (q : ¬ P a k) : gl M' a k = gl M a k := (h.1 a k q).2
theorem gl_cpl {a2 sp dp n j : Nat} (h : j < n) : gl (cpl M a2 sp a dp n) a (dp + j) = gl M a2 (sp + j) := by
  show va_up M.2.1 a _ a (dp + j) = _
  rw [va_up_at, pk_cpy_in (by omega) (by omega), Nat.add_sub_cancel_left]
  rfl
theorem gl_cplo {a2 sp dp n j : Nat} (h : j < dp ∨ dp + n ≤ j) : gl (cpl M a2 sp a dp n) a j = gl M a j := by
  show va_up M.2.1 a _ a j = _
  rw [va_up_at, pk_cpy_out h]
  rfl
theorem gl_cpln {a2 sp dp n a' j : Nat} (h : a' ≠ a) : gl (cpl M a2 sp a dp n) a' j = gl M a' j := by
  show va_up M.2.1 a _ a' j = _
  rw [va_up_of h]
  rfl
theorem gi_cpi {a2 sp dp n j : Nat} (h : j < n) : gi (cpi M a2 sp a dp n) a (dp + j) = gi M a2 (sp + j) := by
  show (va_up M.1 a _ a (dp + j)).toInt = _
  rw [va_up_at, pk_cpy_in (by omega) (by omega), Nat.add_sub_cancel_left]
  rfl
end EQY

theorem lgc0 (x y : Int64) : (lg_cmp x y).toInt = 0 ↔ x = y := by
  unfold lg_cmp
  split
  · rename_i h
    exact ⟨fun q => absurd q (by decide), fun q => absurd (q ▸ h) Int64.lt_irrefl⟩
  · split
    · rename_i h; exact ⟨fun _ => h, fun _ => rfl⟩
    · rename_i h; exact ⟨fun q => absurd q (by decide), fun q => absurd q h⟩
theorem lgcn (x y : Int64) : 0 ≤ (lg_cmp x y).toInt ↔ ¬ x < y := by
  unfold lg_cmp
  split
  · rename_i h
    exact ⟨fun _ q => Int64.lt_asymm h q, fun _ => by decide⟩
  · rename_i h0
    split
    · rename_i h; exact ⟨fun _ q => absurd (h ▸ q) Int64.lt_irrefl, fun _ => by decide⟩
    · rename_i h
      refine ⟨fun q => absurd q (by decide), fun q => ?_⟩
      rw [Int64.lt_iff_toInt_lt] at q
      have h0 : ¬ y < x := h0
      rw [Int64.lt_iff_toInt_lt] at h0
      exact absurd (Int64.toInt_inj.mp (by omega)) h
theorem lgz (x : Int64) : (lg_cmp x (Int64.ofNat 0)).toInt = 0 ↔ x = 0 := lgc0 x 0
theorem dv1 (a : Int64) : a / (-1) = -a := Int64.toInt_inj.mp (by
  rw [Int64.toInt_div]
  show (a.toInt.tdiv (-1)).bmod _ = _
  rw [Int.tdiv_neg, Int.tdiv_one, Int64.toInt_neg])
theorem md1 (a : Int64) : a - a / (-1) * (-1) = 0 := by
  rw [dv1, Int64.neg_mul_neg, Int64.mul_one, Int64.sub_self]
theorem m1_lit : Int64.ofNat 18446744073709551615 = -1 := by decide
theorem tst_u (x : Int) {l : Nat} (hl : l < 16) : (Int32.ofInt ((Int32.ofInt x).toUInt32 >>> ((Int32.ofInt (l : Int)).toUInt32 &&& Int32.toUInt32 31)).toInt32.toInt &&& Int32.ofInt 1).toInt = if bt (Int32.ofInt x) l = true then 1 else 0 := by
  rw [i32_1, ofi_ti, bt_ushr _ hl]
theorem tst_s (x : Int) {l : Nat} (hl : l < 16) : (Int32.ofInt (Int32.ofInt x >>> (Int32.ofInt (l : Int) &&& 31)).toInt &&& Int32.ofInt 1).toInt = if bt (Int32.ofInt x) l = true then 1 else 0 := by
  rw [i32_1, ofi_ti, bt_shr _ hl]
theorem bs_lit (x : Int) {l : Nat} (hl : l < 16) : Int32.ofInt (Int32.ofInt x ||| Int32.ofInt (Int32.ofInt 1 <<< (Int32.ofInt (l : Int) &&& 31)).toInt).toInt = bs (Int32.ofInt x) l := by
  rw [ofi_ti, ofi_ti, or_lit l hl]
  rfl
/-- two worlds, the same as far as it shows -/
def weq (w w' : wdT) : Prop := ∀ l, l < 16 → w'.1 l = w.1 l ∧ w'.2 l = w.2 l
theorem weq.rfl' (w : wdT) : weq w w := fun _ _ => ⟨rfl, rfl⟩
theorem stale_eq {w w' : wdT} {r r' : rdT} (hw : ∀ l, l < 16 → w'.2 l = w.2 l) (hm : r'.1 = r.1) (hr : ∀ l, l < 16 → bt r.1 l = true → r'.2.2 l = r.2.2 l) : stale w' r' = stale w r := by
  have e : ∀ l, l < 16 → (bt r'.1 l && !(decide (r'.2.2 l = w'.2 l))) = (bt r.1 l && !(decide (r.2.2 l = w.2 l))) := fun l hl => by
    rw [hm]
    cases hb : bt r.1 l with
    | false => rfl
    | true => rw [hr l hl hb, hw l hl]
  cases h : stale w r with
  | true =>
    unfold stale at h ⊢
    rw [List.any_eq_true] at h ⊢
    obtain ⟨l, hl, q⟩ := h
    exact ⟨l, hl, by rw [e l (List.mem_range.mp hl)]; exact q⟩
  | false =>
    unfold stale at h ⊢
    rw [List.any_eq_false] at h ⊢
    intro l hl
    rw [e l (List.mem_range.mp hl)]
    exact h l hl
/-- the program's run at a: what is read, what it has made, its marks; a store's world -/
def rP (M : rf_M) (a : Nat) : rdT := (M.1 a 2, fun l => gl M (a + 10) l, fun l => M.1 (a + 1) l)
def mP (M : rf_M) (a : Nat) : mkT := (M.1 (a + 2) 0, fun l => gl M (a + 3) l, fun l => gl M (a + 4) l, gi M (a + 2) 3)
def kP (M : rf_M) (a lv : Nat) : mkT := (M.1 (a + 6) lv, fun l => gl M (a + 7) (lv * 16 + l), fun l => gl M (a + 8) (lv * 10 + l), gi M (a + 9) lv)
def wS (M : rf_M) (st : Nat) : wdT := (fun l => gl M (st + 1) l, fun l => M.1 (st + 2) l)
/-- the program's text at p -/
def ptx (M : rf_M) (p : Nat) (X : txT) (n cc : Nat) (en : Int) : Prop := (gi M p 0 = (n : Int) ∧ gi M p 3 = (cc : Int) ∧ gi M p 4 = en) ∧ (∀ s, s < n → gi M (p + 1) s = X.1 0 s ∧ gi M (p + 2) s = X.1 1 s ∧ gi M (p + 3) s = X.1 2 s ∧ gi M (p + 4) s = X.1 3 s ∧ gi M (p + 5) s = X.1 4 s ∧ gi M (p + 6) s = X.1 5 s ∧ gi M (p + 7) s = X.1 6 s ∧ gi M (p + 8) s = X.1 7 s ∧ gi M (p + 9) s = X.1 8 s) ∧ ∀ i, i < cc → gi M (p + 10) i = X.2.1 i ∧ gi M (p + 11) i = X.2.2 i
section PR1

variable {M M' : rf_M} {p a n cc : Nat} {X : txT} {en : Int} {K : Int → rf_M → Prop}

theorem ptx.eq {P : Nat → Nat → Prop} (h : ptx M p X n cc en) (e : eqy P M M') (q : ∀ b k, p ≤ b → b ≤ p + 11 → ¬ P b k) : ptx M' p X n cc en := by
  obtain ⟨⟨h1, h2, h3⟩, h4, h5⟩ := h
  have qq : ∀ b k, p ≤ b → b ≤ p + 11 → gi M' b k = gi M b k := fun b k h1 h2 => e.i (q b k h1 h2)
  refine ⟨⟨(qq _ _ (by omega) (by omega)).trans h1, (qq _ _ (by omega) (by omega)).trans h2, (qq _ _ (by omega) (by omega)).trans h3⟩, fun s hs => ?_, fun i hi => ?_⟩
  · obtain ⟨a0, a1, a2, a3, a4, a5, a6, a7, a8⟩ := h4 s hs
    exact ⟨(qq _ _ (by omega) (by omega)).trans a0, (qq _ _ (by omega) (by omega)).trans a1, (qq _ _ (by omega) (by omega)).trans a2, (qq _ _ (by omega) (by omega)).trans a3, (qq _ _ (by omega) (by omega)).trans a4, (qq _ _ (by omega) (by omega)).trans a5, (qq _ _ (by omega) (by omega)).trans a6, (qq _ _ (by omega) (by omega)).trans a7, (qq _ _ (by omega) (by omega)).trans a8⟩
  · exact ⟨(qq _ _ (by omega) (by omega)).trans (h5 i hi).1, (qq _ _ (by omega) (by omega)).trans (h5 i hi).2⟩
theorem x_has {z : Int} (hn : gi M p 0 = (n : Int)) (h1 : 0 ≤ z ∧ z < (n : Int) → K 1 M) (h0 : ¬ (0 ≤ z ∧ z < (n : Int)) → K 0 M) : em_P_has p z M K :=
  ⟨fun h => ⟨Or.inl rfl, h0 (by omega)⟩, fun h => ⟨fun g => ⟨Or.inl rfl, h0 (by omega)⟩, fun g => ⟨Or.inr rfl, h1 (by omega)⟩⟩⟩
theorem x_isCell {z : Int} (h1 : 0 ≤ z ∧ z < 16 → K 1 M) (h0 : ¬ (0 ≤ z ∧ z < 16) → K 0 M) : em_M_isCell z M K :=
  ⟨fun h => ⟨Or.inl rfl, h0 (by omega)⟩, fun h => ⟨fun g => ⟨Or.inl rfl, h0 (by omega)⟩, fun g => ⟨Or.inr rfl, h1 (by omega)⟩⟩⟩
theorem x_behind (hX : wfx X n cc en) (ht : ptx M p X n cc en) {z : Int} (hz : plz n z) (kk : K (bhd X 9 z) M) : em_P_behind p z M K := by
  refine ⟨fun v0 v2 v3 M' => v0 = p ∧ M' = M ∧ plz n v2 ∧ ∃ f : Nat, bhd X f v2 = bhd X 9 z ∧ (f : Int) + v3 = 9 ∧ 0 ≤ v3, ⟨rfl, rfl, hz, 9, rfl, by omega, by omega⟩, ?_⟩
  rintro v0 v2 v3 M' - - ⟨rfl, rfl, hv, f, hf, hf3, hv3⟩
  refine ⟨fun h => ?_, fun h => ?_⟩
  · obtain rfl : f = 0 := by omega
    have hf : (-1 : Int) = _ := hf
    show K (-1) M'
    rw [hf]; exact kk
  obtain ⟨f, rfl⟩ : ∃ g, f = g + 1 := ⟨f - 1, by omega⟩
  unfold bhd at hf
  refine x_has ht.1.1 (fun hr => ⟨fun w => absurd w (by decide), fun _ _ => ?_⟩) (fun hr => ⟨fun _ => ?_, fun w => absurd rfl w⟩)
  · rcases hv with rfl | ⟨x, rfl, hx⟩
    · omega
    rw [if_neg (by omega), tn_] at hf
    obtain ⟨a0, a1, a2, a3, a4, a5, a6, a7, a8⟩ := ht.2.1 x hx
    obtain ⟨w1, -, -, w6, -⟩ := hX.2.2.2.2.2 x hx
    rw [tn_, a6, a3]
    refine ⟨fun e => fun _ => ?_, fun e => fun _ => ?_⟩
    · rw [if_neg (by omega)] at hf
      refine x_has ht.1.1 (fun hr2 => ⟨fun w => absurd w (by decide), fun _ _ => ?_⟩) (fun hr2 => ⟨fun _ => ?_, fun w => absurd rfl w⟩)
      · obtain ⟨q, hq⟩ : ∃ q : Nat, X.1 3 x = (q : Int) := ⟨(X.1 3 x).toNat, by omega⟩
        rw [hq] at hr2 hf ⊢
        rw [tn_] at hf ⊢
        rw [(ht.2.1 q (by omega)).1]
        refine ⟨fun e2 => ?_, fun e2 => ?_⟩
        · rw [if_pos ⟨by omega, e2⟩] at hf
          rw [hf]; exact kk
        · rw [if_neg (fun z => e2 z.2)] at hf
          exact ⟨inr_z (by omega) (by omega), rfl, rfl, Or.inr ⟨q, rfl, by omega⟩, f, hf, by omega, by omega⟩
      · have hp := plz_par hX hx
        have e3 : X.1 3 x = -1 := by
          rcases hp with q | ⟨q, q1, q2⟩
          · exact q
          · omega
        rw [e3, if_neg (by omega)] at hf
        rw [e3]
        exact ⟨inr_z (by omega) (by omega), rfl, rfl, Or.inl rfl, f, hf, by omega, by omega⟩
    · have : 0 ≤ X.1 6 x := by
        rcases w6 with q | ⟨q, q1, q2⟩
        · exact absurd q e
        · omega
      rw [if_pos this] at hf
      rw [hf]; exact kk
  · have e : v2 = -1 := by
      rcases hv with q | ⟨q, q1, q2⟩
      · exact q
      · omega
    rw [e, if_pos (by omega)] at hf
    show K (-1) M'
    rw [hf]; exact kk
theorem x_into (hX : wfx X n cc en) (ht : ptx M p X n cc en) {s : Nat} {z : Int} (hs : s < n) (hz : lnk n z (fun _ => True)) (kk : K (gin X (s : Int) z) M) : em_P_into p (s : Int) z M K := by
  unfold gin at kk
  rw [tn_] at kk
  refine ⟨fun e => x_has ht.1.1 (fun hr => ⟨fun w => absurd w (by decide), fun _ _ => ?_⟩) (fun hr => ⟨fun _ => absurd ⟨by omega, by omega⟩ hr, fun w => absurd rfl w⟩), fun e => ?_⟩
  · rw [if_neg (by omega)] at kk
    rw [tn_, (ht.2.1 s hs).1]
    refine ⟨fun e2 => ?_, fun e2 => ?_⟩
    · rw [if_pos e2] at kk; exact kk
    · rw [if_neg e2] at kk
      exact x_behind hX ht (Or.inr ⟨s, rfl, hs⟩) kk
  · rw [if_pos (by rcases hz with q | ⟨q, q1, q2⟩ <;> omega)] at kk
    exact kk
theorem x_around (hX : wfx X n cc en) (ht : ptx M p X n cc en) {z k : Int} (hz : plz n z) (kk : K (ard X k 9 z) M) : em_P_around p z k M K := by
  refine ⟨fun v0 v2 v3 v4 M' => v0 = p ∧ v2 = k ∧ M' = M ∧ plz n v3 ∧ ∃ f : Nat, ard X k f v3 = ard X k 9 z ∧ (f : Int) + v4 = 9 ∧ 0 ≤ v4, ⟨rfl, rfl, rfl, hz, 9, rfl, by omega, by omega⟩, ?_⟩
  rintro v0 v2 v3 v4 M' - - - ⟨rfl, rfl, rfl, hv, f, hf, hf3, hv3⟩
  refine ⟨fun h => ?_, fun h => ?_⟩
  · obtain rfl : f = 0 := by omega
    have hf : (-1 : Int) = _ := hf
    show K (-1) M'
    rw [hf]; exact kk
  obtain ⟨f, rfl⟩ : ∃ g, f = g + 1 := ⟨f - 1, by omega⟩
  unfold ard at hf
  refine x_has ht.1.1 (fun hr => ⟨fun w => absurd w (by decide), fun _ _ => ?_⟩) (fun hr => ⟨fun _ => ?_, fun w => absurd rfl w⟩)
  · rcases hv with rfl | ⟨x, rfl, hx⟩
    · omega
    rw [if_neg (by omega), tn_] at hf
    obtain ⟨a0, a1, a2, a3, a4, a5, a6, a7, a8⟩ := ht.2.1 x hx
    rw [tn_, a3]
    refine x_has ht.1.1 (fun hr2 => ⟨fun w => absurd w (by decide), fun _ _ => ?_⟩) (fun hr2 => ⟨fun _ => ?_, fun w => absurd rfl w⟩)
    · obtain ⟨q, hq⟩ : ∃ q : Nat, X.1 3 x = (q : Int) := ⟨(X.1 3 x).toNat, by omega⟩
      rw [hq] at hr2 hf ⊢
      rw [tn_] at hf ⊢
      rw [(ht.2.1 q (by omega)).1, a4]
      have nx : ¬ ((0 : Int) ≤ (q : Int) ∧ X.1 0 q = v2 ∧ X.1 4 x = 0) → e_P_around_60 v0 v2 v4 (q : Int) M' (fun v0' v2' v3 v4 M'' => v0' = v0 ∧ v2' = v2 ∧ M'' = M' ∧ plz n v3 ∧ ∃ f : Nat, ard X v2 f v3 = ard X v2 9 z ∧ (f : Int) + v4 = 9 ∧ 0 ≤ v4) K := fun ne => by
        rw [if_neg ne] at hf
        exact ⟨inr_z (by omega) (by omega), rfl, rfl, rfl, Or.inr ⟨q, rfl, by omega⟩, f, hf, by omega, by omega⟩
      refine ⟨fun e1 _ => ⟨fun e2 => ?_, fun e2 => nx (fun z => e2 z.2.1)⟩, fun e1 => nx (fun z => e1 z.2.2)⟩
      rw [if_pos ⟨by omega, e2, e1⟩] at hf
      rw [hf]; exact kk
    · have e3 : X.1 3 x = -1 := by
        rcases plz_par hX hx with q | ⟨q, q1, q2⟩
        · exact q
        · omega
      rw [e3, if_neg (by omega)] at hf
      rw [e3]
      exact ⟨inr_z (by omega) (by omega), rfl, rfl, rfl, Or.inl rfl, f, hf, by omega, by omega⟩
  · have e : v3 = -1 := by
      rcases hv with q | ⟨q, q1, q2⟩
      · exact q
      · omega
    rw [e, if_pos (by omega)] at hf
    show K (-1) M'
    rw [hf]; exact kk
theorem x_differs {st b : Nat} {x : Int} (kk : K (if stale (wS M st) (Int32.ofInt x, fun _ => 0, fun l => M.1 b l) = true then 1 else 0) M) : em_S_differs st x b M K := by
  refine ⟨fun v0 v1 v2 v3 M' => v0 = st ∧ v1 = x ∧ v2 = b ∧ M' = M ∧ 0 ≤ v3 ∧ v3 ≤ 16 ∧ ∀ l : Nat, (l : Int) < v3 → (bt (Int32.ofInt x) l && !(decide (M.1 b l = (wS M st).2 l))) = false, ⟨rfl, rfl, rfl, rfl, by omega, by omega, fun l hl => absurd hl (by omega)⟩, ?_⟩
  rintro v0 v1 v2 v3 M' - - ⟨rfl, rfl, rfl, rfl, v0', v16, hv⟩
  obtain ⟨l, rfl⟩ : ∃ l : Nat, v3 = (l : Int) := ⟨v3.toNat, by omega⟩
  have fin : 16 ≤ (l : Int) → K 0 M' := fun h => by
    have e : stale (wS M' v0) (Int32.ofInt v1, fun _ => 0, fun l => M'.1 v2 l) = false := by
      unfold stale
      rw [List.any_eq_false]
      intro l' hl'
      rw [List.mem_range] at hl'
      rw [hv l' (by omega)]
      decide
    rw [e] at kk
    exact kk
  have nxt : l < 16 → (bt (Int32.ofInt v1) l && !(decide (M'.1 v2 l = (wS M' v0).2 l))) = false → e_S_differs_36 v0 v1 v2 (l : Int) M' (fun v0' v1' v2' v3 M'' => v0' = v0 ∧ v1' = v1 ∧ v2' = v2 ∧ M'' = M' ∧ 0 ≤ v3 ∧ v3 ≤ 16 ∧ ∀ l : Nat, (l : Int) < v3 → (bt (Int32.ofInt v1) l && !(decide (M'.1 v2 l = (wS M' v0).2 l))) = false) K := fun hl hb => by
    refine ⟨inr_z (by omega) (by omega), rfl, rfl, rfl, rfl, by omega, by omega, fun l' hl' => ?_⟩
    by_cases e : l' = l
    · rw [e]; exact hb
    · exact hv l' (by omega)
  refine ⟨fun h => fin h, fun h => ⟨fun h => fin h, fun h => ⟨fun h1 => nxt (by omega) ?_, fun h1 _ _ => ⟨fun h3 => nxt (by omega) ?_, fun h3 => ?_⟩⟩⟩⟩
  · rw [tst_u _ (by omega)] at h1
    cases q : bt (Int32.ofInt v1) l with
    | false => rfl
    | true => rw [if_pos q] at h1; exact absurd h1 (by decide)
  · rw [tn_] at h3
    have h3 : M'.1 (v0 + 2) l = M'.1 v2 l := gi_eq.mp h3
    rw [decide_eq_true (show M'.1 v2 l = (wS M' v0).2 l from h3.symm)]; simp
  · have e : stale (wS M' v0) (Int32.ofInt v1, fun _ => 0, fun l => M'.1 v2 l) = true := by
      unfold stale
      rw [List.any_eq_true]
      refine ⟨l, List.mem_range.mpr (by omega), ?_⟩
      rw [tst_u _ (by omega)] at h1
      have hb : bt (Int32.ofInt v1) l = true := by
        by_cases q : bt (Int32.ofInt v1) l = true
        · exact q
        · rw [if_neg q] at h1; exact absurd rfl h1
      have hne : ¬ M'.1 v2 l = (wS M' v0).2 l := fun q => h3 (by rw [tn_]; exact gi_eq.mpr q.symm)
      show (bt (Int32.ofInt v1) l && !(decide (M'.1 v2 l = (wS M' v0).2 l))) = true
      rw [hb, decide_eq_false hne]; rfl
    rw [e] at kk
    exact kk
theorem x_isStale {w : wdT} {r : rdT} (hw : weq w (wS M (stR a))) (hr : req r (rP M a)) (kk : K (if stale w r = true then 1 else 0) M) : em_R_isStale a M K := by
  refine x_differs ?_
  rw [gi_ofi, stale_eq (w := w) (r := r) (r' := (M.1 a 2, fun _ => 0, fun l => M.1 (a + 1) l)) (fun l hl => (hw l hl).2) hr.1 (fun l hl b => (hr.2 l hl b).2)]
  refine ⟨?_, kk⟩
  split
  · exact Or.inr rfl
  · exact Or.inl rfl
end PR1
/-! THE PROGRAM'S RUN: letters, exps -/
def fdP (a b k : Nat) : Prop := (b = a ∧ (k = 2 ∨ k = 10)) ∨ b = a + 1 ∨ b = a + 10
def wkP (a b k : Nat) : Prop := (b = a ∧ (k = 2 ∨ k = 10)) ∨ b = a + 1 ∨ b = a + 10 ∨ b = a + 11 ∨ b = a + 12
/-- what a letter shows -/
def shw (w : wdT) (m : mkT) (r : rdT) (z : Int) : Int64 := if 0 ≤ z ∧ z < 16 then (if bt m.1 z.toNat then m.2.1 z.toNat else if bt r.1 z.toNat then r.2.1 z.toNat else w.1 z.toNat) else if 16 ≤ z ∧ z < 26 then m.2.2.1 (z.toNat - 16) else 0
def stkL (M : rf_M) (b : Nat) : List Int64 → Prop
  | [] => True
  | x :: st => gl M b st.length = x ∧ stkL M b st
def stk2 (M : rf_M) (c : Nat) (st : List Int64) : Prop := gi M c 1 = (st.length : Int) ∧ stkL M (c + 1) st
theorem stkL.eq {M M' : rf_M} {b : Nat} : ∀ {st : List Int64}, stkL M b st → (∀ k, k < st.length → gl M' b k = gl M b k) → stkL M' b st
  | [], _, _ => trivial
  | x :: st, h, q => ⟨(q st.length (by simp)).trans h.1, stkL.eq h.2 (fun k hk => q k (by simp; omega))⟩
theorem stkL.last {M : rf_M} {b : Nat} : ∀ {st : List Int64}, stkL M b st → st ≠ [] → gl M b 0 = st.getLastD 0
  | [], _, h => absurd rfl h
  | [x], h, _ => h.1
  | x :: y :: st, h, _ => by
    have := stkL.last h.2 (by simp)
    rw [this]
    rfl
section PR2
variable {M M' : rf_M} {p a n cc : Nat} {X : txT} {en : Int} {K : Int → rf_M → Prop} {w : wdT} {m : mkT} {r : rdT}
theorem x_hasWritten {d l : Nat} (hl : l < 16) (h1 : bt (M.1 d 0) l = true → K 1 M) (h0 : bt (M.1 d 0) l = false → K 0 M) : em_D_hasWritten d (l : Int) M K := by
  refine ⟨fun e => ⟨Or.inl rfl, h0 ?_⟩, fun e => ⟨Or.inr rfl, h1 ?_⟩⟩
  · rw [tst_u _ hl, gi_ofi] at e
    cases q : bt (M.1 d 0) l with
    | false => rfl
    | true => rw [if_pos q] at e; exact absurd e (by decide)
  · rw [tst_u _ hl, gi_ofi] at e
    cases q : bt (M.1 d 0) l with
    | true => rfl
    | false => rw [if_neg (by rw [q]; decide)] at e; exact absurd rfl e
theorem x_hasRead {d l : Nat} (hl : l < 16) (h1 : bt (M.1 d 2) l = true → K 1 M) (h0 : bt (M.1 d 2) l = false → K 0 M) : em_R_hasRead d (l : Int) M K := by
  refine ⟨fun e => ⟨Or.inl rfl, h0 ?_⟩, fun e => ⟨Or.inr rfl, h1 ?_⟩⟩
  · rw [tst_u _ hl, gi_ofi] at e
    cases q : bt (M.1 d 2) l with
    | false => rfl
    | true => rw [if_pos q] at e; exact absurd e (by decide)
  · rw [tst_u _ hl, gi_ofi] at e
    cases q : bt (M.1 d 2) l with
    | true => rfl
    | false => rw [if_neg (by rw [q]; decide)] at e; exact absurd rfl e
theorem x_shows {z : Int} {K : Int64 → rf_M → Prop} (hw : weq w (wS M (stR a))) (hm : meq m (mP M a)) (hr : req r (rP M a)) (kk : K (shw w m r z) M) : em_R_shows a z M K := by
  unfold shw at kk
  have h25 : ¬ (16 ≤ z ∧ z < 26) → e_R_shows_25 a z M K := fun ne => by
    refine x_isCell (fun hc => ⟨fun q => absurd q (by decide), fun _ => ?_⟩) (fun hc => ⟨fun _ => ?_, fun q => absurd rfl q⟩)
    · rw [if_pos hc] at kk
      obtain ⟨l, rfl⟩ : ∃ l : Nat, z = (l : Int) := ⟨z.toNat, by omega⟩
      rw [tn_] at kk
      refine x_hasWritten (by omega) (fun hb => ⟨fun q => absurd q (by decide), fun _ _ => ?_⟩) (fun hb => ⟨fun _ => ?_, fun q => absurd rfl q⟩)
      · have hb : bt m.1 l = true := by rw [← hm.1]; exact hb
        rw [if_pos hb] at kk
        rw [tn_, show gl M (a + 3) l = m.2.1 l from hm.2.1 l (by omega) hb]
        exact kk
      · have hb : ¬ bt m.1 l = true := by rw [← hm.1]; show ¬ bt (M.1 (a + 2) 0) l = true; rw [hb]; decide
        rw [if_neg hb] at kk
        refine x_hasRead (by omega) (fun hb => ⟨fun q => absurd q (by decide), fun _ _ => ?_⟩) (fun hb => ⟨fun _ _ => ?_, fun q => absurd rfl q⟩)
        · have hb : bt r.1 l = true := by rw [← hr.1]; exact hb
          rw [if_pos hb] at kk
          rw [tn_, show gl M (a + 10) l = r.2.1 l from (hr.2 l (by omega) hb).1]
          exact kk
        · have hb : ¬ bt r.1 l = true := by rw [← hr.1]; show ¬ bt (M.1 a 2) l = true; rw [hb]; decide
          rw [if_neg hb] at kk
          rw [tn_, show gl M (stR a + 1) l = w.1 l from (hw l (by omega)).1]
          exact kk
    · rw [if_neg hc, if_neg ne] at kk
      exact kk
  refine ⟨fun h => h25 (by omega), fun h => ⟨fun h' => h25 (by omega), fun h' => ⟨inr_z (by omega) (by omega), fun _ => ?_⟩⟩⟩
  rw [if_neg (by omega), if_pos (by omega)] at kk
  rw [show (z - 16).toNat = z.toNat - 16 by omega, show gl M (a + 4) (z.toNat - 16) = m.2.2.1 (z.toNat - 16) from hm.2.2.1 _ (by omega)]
  exact kk
theorem meq.eqP {P : Nat → Nat → Prop} (h : meq m (mP M a)) (e : eqy P M M') (q : ∀ b k, a + 2 ≤ b → b ≤ a + 4 → ¬ P b k) : meq m (mP M' a) := by
  exact ⟨(e.1 _ _ (q _ _ (by omega) (by omega))).1.trans h.1, fun l hl b => (e.l (q _ _ (by omega) (by omega))).trans (h.2.1 l hl b), fun l hl => (e.l (q _ _ (by omega) (by omega))).trans (h.2.2.1 l hl), (e.i (q _ _ (by omega) (by omega))).trans h.2.2.2⟩
theorem req.eqP {P : Nat → Nat → Prop} (h : req r (rP M a)) (e : eqy P M M') (q : ∀ b k, (b = a ∧ k = 2) ∨ b = a + 1 ∨ b = a + 10 → ¬ P b k) : req r (rP M' a) := by
  refine ⟨(e.1 _ _ (q _ _ (by omega))).1.trans h.1, fun l hl b => ⟨(e.l (q _ _ (by omega))).trans (h.2 l hl b).1, (e.1 _ _ (q _ _ (by omega))).1.trans (h.2 l hl b).2⟩⟩
theorem weq.eqP {P : Nat → Nat → Prop} {st : Nat} (h : weq w (wS M st)) (e : eqy P M M') (q : ∀ b k, b = st + 1 ∨ b = st + 2 → ¬ P b k) : weq w (wS M' st) := fun l hl => ⟨(e.l (q _ _ (by omega))).trans (h l hl).1, (e.1 _ _ (q _ _ (by omega))).1.trans (h l hl).2⟩
theorem x_find {z : Int} (hst : stR a + 7 < a) (hw : weq w (wS M (stR a))) (hm : meq m (mP M a)) (hr : req r (rP M a)) (h0 : lval w m r z = none → K 0 M) (h1 : ∀ v r' M', lval w m r z = some (v, r') → eqy (fdP a) M M' → req r' (rP M' a) → gl M' a 10 = v → K 1 M') : em_R_find a z M K := by
  have sh : (lval w m r z = some (shw w m r z, r)) → e_R_find_26 a z M K := fun hl => x_shows hw hm hr (fun M2 e2 => by
    have e : eqy (fdP a) M M2 := by rw [e2]; exact (eqy.rfl' M).wl (Or.inl ⟨rfl, Or.inr rfl⟩)
    refine h1 _ r M2 hl e ?_ (by rw [e2]; exact gl_at _ _ _ _)
    have e' : eqy (fun b k => b = a ∧ k = 10) M M2 := by rw [e2]; exact (eqy.rfl' M).wl ⟨rfl, rfl⟩
    exact hr.eqP e' (fun b k => by omega))
  refine x_isCell (fun hc => ⟨fun q => absurd q (by decide), fun _ => ?_⟩) (fun hc => ⟨fun _ => sh ?_, fun q => absurd rfl q⟩)
  · obtain ⟨l, rfl⟩ : ∃ l : Nat, z = (l : Int) := ⟨z.toNat, by omega⟩
    have hl : l < 16 := by omega
    refine x_hasWritten hl (fun hb => ⟨fun q => absurd q (by decide), fun _ => sh ?_⟩) (fun hb => ⟨fun _ => x_hasRead hl (fun hb2 => ⟨fun q => absurd q (by decide), fun _ => sh ?_⟩) (fun hb2 => ⟨fun _ => ?_, fun q => absurd rfl q⟩), fun q => absurd rfl q⟩)
    · have hb : bt m.1 l = true := by rw [← hm.1]; exact hb
      unfold lval shw
      rw [if_pos hc, if_pos hc, tn_, if_pos hb, if_pos hb]
    · have hb : ¬ bt m.1 l = true := by rw [← hm.1]; show ¬ bt (M.1 (a + 2) 0) l = true; rw [hb]; decide
      have hb2 : bt r.1 l = true := by rw [← hr.1]; exact hb2
      unfold lval shw
      rw [if_pos hc, if_pos hc, tn_, if_neg hb, if_neg hb, if_pos hb2, if_pos hb2]
    · have hb : ¬ bt m.1 l = true := by rw [← hm.1]; show ¬ bt (M.1 (a + 2) 0) l = true; rw [hb]; decide
      have hb2 : ¬ bt r.1 l = true := by rw [← hr.1]; show ¬ bt (M.1 a 2) l = true; rw [hb2]; decide
      unfold lval at h0 h1
      rw [if_pos hc, tn_, if_neg hb, if_neg hb2] at h0
      rw [if_pos hc, tn_, if_neg hb, if_neg hb2] at h1
      refine x_isStale hw hr ⟨fun hz => ?_, fun hz => ?_⟩
      · have hs : ¬ stale w r = true := fun q => by rw [if_pos q] at hz; exact absurd hz (by decide)
        rw [if_neg hs] at h1
        intro M5 e5 _ _ M6 e6 _ _ M7 e7 _ M8 e8
        rw [tn_] at e6 e7 e8
        have y5 : eqy (fdP a) M M5 := by rw [e5]; exact (eqy.rfl' M).wi (Or.inl ⟨rfl, Or.inl rfl⟩)
        have y6 : eqy (fdP a) M M6 := by rw [e6]; exact y5.wl (Or.inr (Or.inr rfl))
        have y7 : eqy (fdP a) M M7 := by rw [e7]; exact y6.wi (Or.inr (Or.inl rfl))
        have y8 : eqy (fdP a) M M8 := by rw [e8]; exact y7.wl (Or.inl ⟨rfl, Or.inr rfl⟩)
        have nw : ∀ b k, b = stR a + 1 ∨ b = stR a + 2 → ¬ fdP a b k := fun b k h => by unfold fdP; omega
        have v10 : gl M8 (a + 10) l = w.1 l := by
          rw [e8, gl_of (Or.inl (by omega)), e7]
          show gl M6 (a + 10) l = _
          rw [e6, gl_at]
          exact (y5.l (nw _ _ (Or.inl rfl))).trans (hw l hl).1
        have v1 : M8.1 (a + 1) l = w.2 l := by
          rw [e8]
          show M7.1 (a + 1) l = _
          rw [e7]
          show (rf_wi M6 (a + 1) l (Int32.ofInt (gi M6 (stR a + 2) l))).1 (a + 1) l = _
          rw [rf_wi_at, gi_ofi]
          exact (y6.1 _ _ (nw _ _ (Or.inr rfl))).1.trans (hw l hl).2
        have vm : M8.1 a 2 = bs r.1 l := by
          rw [e8]
          show M7.1 a 2 = _
          rw [e7]
          show (rf_wi M6 (a + 1) l _).1 a 2 = _
          rw [rf_wi_of _ _ (Or.inl (by omega)), e6]
          show M5.1 a 2 = _
          rw [e5]
          show (rf_wi M a 2 _).1 a 2 = _
          rw [rf_wi_at, bs_lit _ hl, gi_ofi]
          exact congrArg (fun x => bs x l) hr.1
        refine h1 _ _ M8 rfl y8 ⟨vm, fun j hj b => ?_⟩ ?_
        · by_cases e : j = l
          · subst e
            exact ⟨v10.trans (va_up_at _ _ _).symm, v1.trans (va_up_at _ _ _).symm⟩
          · have b : bt (bs r.1 l) j = true := b
            rw [bt_bs hl hj] at b
            have b : bt r.1 j = true := by simpa [e] using b
            have q := hr.2 j hj b
            constructor
            · show gl M8 (a + 10) j = va_up r.2.1 l _ j
              rw [va_up_of e, e8, gl_of (Or.inl (by omega)), e7]
              show gl M6 (a + 10) j = _
              rw [e6, gl_of (Or.inr e), e5]
              exact q.1
            · show M8.1 (a + 1) j = va_up r.2.2 l _ j
              rw [va_up_of e, e8]
              show M7.1 (a + 1) j = _
              rw [e7]
              show (rf_wi M6 (a + 1) l _).1 (a + 1) j = _
              rw [rf_wi_of _ _ (Or.inr e), e6]
              show M5.1 (a + 1) j = _
              rw [e5]
              show (rf_wi M a 2 _).1 (a + 1) j = _
              rw [rf_wi_of _ _ (Or.inl (by omega))]
              exact q.2
        · rw [e8, gl_at, e7]
          show gl M6 (a + 10) l = _
          rw [e6, gl_at]
          exact (y5.l (nw _ _ (Or.inl rfl))).trans (hw l hl).1
      · have hs : stale w r = true := by
          by_cases q : stale w r = true
          · exact q
          · rw [if_neg q] at hz; exact absurd rfl hz
        exact h0 (if_pos hs)
  · unfold lval shw
    rw [if_neg hc, if_neg hc]
    split <;> rfl
def cuP (c b k : Nat) : Prop := (b = c ∧ k = 1) ∨ b = c + 1
theorem x_push {c : Nat} {v : Int64} {st : List Int64} {K : rf_M → Prop} (hs : stk2 M c st) (hl : st.length < 60) (kk : ∀ M', eqy (cuP c) M M' → stk2 M' c (v :: st) → K M') : em_A_push c v M K := by
  refine ⟨fun h => absurd h (by rw [hs.1]; omega), fun _ _ M1 e1 M2 e2 => ?_⟩
  rw [hs.1, tn_] at e1
  have g1 : gi M1 c 1 = (st.length : Int) := by rw [e1]; exact hs.1
  rw [g1] at e2
  refine kk M2 ?_ ⟨?_, ?_, ?_⟩
  · rw [e2, e1]
    exact ((eqy.rfl' M).wl (Or.inr rfl)).wi (Or.inl ⟨rfl, rfl⟩)
  · rw [e2, gi_at (inr_z (by omega) (by omega))]
    simp
  · rw [e2, gl_wi, e1, gl_at]
  · refine hs.2.eq (fun k hk => ?_)
    rw [e2, gl_wi, e1, gl_of (Or.inr (by omega))]
theorem x_pop {c : Nat} {st : List Int64} {K : Int64 → rf_M → Prop} (hs : stk2 M c st) (hl : st.length ≤ 60) (kk : ∀ M', eqy (cuP c) M M' → stk2 M' c st.tail → K (st.headD 0) M') : em_A_pop c M K := by
  refine ⟨fun h M1 e1 => ?_, fun h => ?_⟩
  · cases st with
    | nil => rw [hs.1] at h; exact absurd h (by simp)
    | cons x st =>
      have hl : st.length + 1 ≤ 60 := hl
      have g0 : gi M c 1 = (st.length : Int) + 1 := by rw [hs.1]; simp
      have g1 : gi M1 c 1 = (st.length : Int) := by
        rw [e1, gi_at (inr_z (by omega) (by omega))]
        omega
      rw [g1, tn_]
      refine fun _ => ?_
      have e : gl M1 (c + 1) st.length = x := by rw [e1]; exact hs.2.1
      rw [e]
      refine kk M1 (by rw [e1]; exact (eqy.rfl' M).wi (Or.inl ⟨rfl, rfl⟩)) ⟨g1, ?_⟩
      refine hs.2.2.eq (fun k hk => ?_)
      rw [e1, gl_wi]
  · cases st with
    | nil => exact kk M (eqy.rfl' M) hs
    | cons x st => rw [hs.1] at h; exact absurd (by simp) h
theorem x_join {o : Int} {x y : Int64} {K : Int64 → rf_M → Prop} (hz : ¬ (y = 0 ∧ (o = 47 ∨ o = 37))) (kk : ∀ v, jn o x y = some v → K v M) : em_A_join o x y M K := by
  unfold jn at kk
  refine ⟨fun e => ⟨fun h => ?_, fun h hne => ?_⟩, fun e => ?_, fun e => ?_, fun e => ?_, fun e => ⟨fun h => ?_, fun h hne => ?_⟩, fun e => ⟨fun h => ?_, fun h => ?_⟩, fun e => ⟨fun h => ?_, fun h => ?_⟩, fun e => ⟨fun h => ?_, fun h => ?_⟩⟩
  · exact absurd ⟨(lgc0 _ _).mp h, Or.inr e⟩ hz
  · subst e
    refine kk _ ?_
    rw [if_neg (by decide), if_neg (by decide), if_neg (by decide), if_neg (by decide), if_neg (by decide), if_neg (by decide), if_pos rfl, if_neg hne]
  · subst e; exact kk _ rfl
  · subst e; exact kk _ rfl
  · subst e; exact kk _ rfl
  · exact absurd ⟨(lgc0 _ _).mp h, Or.inl e⟩ hz
  · subst e
    refine kk _ ?_
    rw [if_neg (by decide), if_neg (by decide), if_neg (by decide), if_neg (by decide), if_neg (by decide), if_pos rfl, if_neg hne]
  · subst e
    refine kk _ ?_
    rw [if_pos rfl, if_neg ((lgcn _ _).mp h)]
    rfl
  · subst e
    refine kk _ ?_
    rw [if_pos rfl, if_pos (Classical.not_not.mp (fun q => h ((lgcn _ _).mpr q)))]
    rfl
  · subst e
    refine kk _ ?_
    rw [if_neg (by decide), if_pos rfl, if_pos ((lgc0 _ _).mp h)]
    rfl
  · subst e
    refine kk _ ?_
    rw [if_neg (by decide), if_pos rfl, if_neg (fun q => h ((lgc0 _ _).mpr q))]
    rfl
  · refine kk _ ?_
    rw [if_neg e.2.2.2.2.2.1, if_neg e.2.2.2.2.2.2, if_neg e.2.2.1, if_neg e.2.2.2.1, if_neg e.2.1, if_neg e.2.2.2.2.1, if_neg e.1, if_pos ((lgc0 _ _).mp h)]
    rfl
  · refine kk _ ?_
    rw [if_neg e.2.2.2.2.2.1, if_neg e.2.2.2.2.2.2, if_neg e.2.2.1, if_neg e.2.2.2.1, if_neg e.2.1, if_neg e.2.2.2.2.1, if_neg e.1, if_neg (fun q => h ((lgc0 _ _).mpr q))]
    rfl
theorem x_workR {e : Int} (hst : stR a + 7 < a) (hpa : p + 11 < a) (hX : wfx X n cc en) (ht : ptx M p X n cc en) (hc : cdo X cc e) (hw : weq w (wS M (stR a))) (hm : meq m (mP M a)) (hr : req r (rP M a)) (kk : ∀ M', eqy (wkP a) M M' → req (evc X.2.1 X.2.2 w m 161 e.toNat [] r).2 (rP M' a) → ((evc X.2.1 X.2.2 w m 161 e.toNat [] r).1.1 ≠ 1 → (evc X.2.1 X.2.2 w m 161 e.toNat [] r).1.1 ≠ 2 → 0 < gi M' (a + 11) 1 ∧ gl M' (a + 12) 0 = (evc X.2.1 X.2.2 w m 161 e.toNat [] r).1.2) → K (evc X.2.1 X.2.2 w m 161 e.toNat [] r).1.1 M') : em_A_workR (a + 11) p e a M K := by
  obtain ⟨c0, c1, k, ck, c2, c3⟩ := hc
  obtain ⟨e, rfl⟩ : ∃ x : Nat, e = (x : Int) := ⟨e.toNat, by omega⟩
  rw [tn_] at c1 c2 c3 kk
  generalize hE : evc X.2.1 X.2.2 w m 161 e [] r = E at kk
  intro M1 e1
  have y1 : eqy (wkP a) M M1 := by rw [e1]; exact (eqy.rfl' M).wi (Or.inr (Or.inr (Or.inr (Or.inl rfl))))
  refine ⟨fun v0 v1 v3 v4 M' => v0 = a + 11 ∧ v1 = p ∧ v3 = a ∧ ∃ (i f : Nat) (st : List Int64) (r' : rdT), v4 = (i : Int) ∧ eqy (wkP a) M M' ∧ req r' (rP M' a) ∧ stk2 M' (a + 11) st ∧ evc X.2.1 X.2.2 w m f i st r' = E ∧ (e ≤ i ∧ i ≤ e + k ∧ e + k < i + f) ∧ (st ≠ [] ∨ i = e) ∧ st.length ≤ psh X.2.1 i, ⟨rfl, rfl, rfl, e, 161, [], r, rfl, y1, ?_, ⟨by rw [e1, gi_at (inr_z (by omega) (by omega))]; rfl, trivial⟩, hE, ⟨by omega, by omega, by omega⟩, Or.inr rfl, Nat.zero_le _⟩, ?_⟩
  · have y1' : eqy (fun b k => b = a + 11 ∧ k = 1) M M1 := by rw [e1]; exact (eqy.rfl' M).wi ⟨rfl, rfl⟩
    exact hr.eqP y1' (fun b k => by omega)
  rintro v0 v1 v3 v4 M' - ⟨rfl, rfl, rfl, i, f, st, r', rfl, y, hr', hs, hev, ⟨hi0, hi1, hi2⟩, hne, hlen⟩
  have nP : ∀ b k, v1 ≤ b → b ≤ v1 + 11 → ¬ wkP v3 b k := fun b k h1 h2 => by unfold wkP; omega
  have ht' := ht.eq y nP
  have hm' : meq m (mP M' v3) := hm.eqP y (fun b k h1 h2 => by unfold wkP; omega)
  have hw' : weq w (wS M' (stR v3)) := hw.eqP y (fun b k h => by unfold wkP; omega)
  have hicc : i < cc := by omega
  have hps : psh X.2.1 (i + 1) ≤ 60 := Nat.le_trans (psh_mono _ (by omega)) hX.2.2.1
  have hpi : psh X.2.1 i ≤ 60 := Nat.le_trans (psh_mono _ (by omega)) hX.2.2.1
  obtain ⟨f, rfl⟩ : ∃ g, f = g + 1 := ⟨f - 1, by omega⟩
  have cu : ∀ b k, cuP (v3 + 11) b k → wkP v3 b k := fun b k h => by unfold cuP at h; unfold wkP; omega
  have rcu : ∀ {r0 : rdT} {N N' : rf_M}, req r0 (rP N v3) → eqy (cuP (v3 + 11)) N N' → req r0 (rP N' v3) := fun h e => h.eqP e (fun b k q => by unfold cuP; omega)
  refine ⟨fun h => absurd h (by omega), fun _ => ⟨fun h => absurd h (by rw [ht'.1.2.1]; omega), fun _ h160 => ?_⟩⟩
  rw [tn_, (ht'.2.2 i hicc).1, (ht'.2.2 i hicc).2]
  unfold evc at hev
  have nxt : ∀ (N : rf_M) (st2 : List Int64) (r2 : rdT), eqy (wkP v3) M N → req r2 (rP N v3) → stk2 N (v3 + 11) st2 → evc X.2.1 X.2.2 w m f (i + 1) st2 r2 = E → ¬ X.2.1 i = 0 → st2 ≠ [] → st2.length ≤ psh X.2.1 (i + 1) → e_A_workR_158 (v3 + 11) v1 v3 (i : Int) N (fun v0 v1' v3' v4 M' => v0 = v3 + 11 ∧ v1' = v1 ∧ v3' = v3 ∧ ∃ (i f : Nat) (st : List Int64) (r' : rdT), v4 = (i : Int) ∧ eqy (wkP v3) M M' ∧ req r' (rP M' v3) ∧ stk2 M' (v3 + 11) st ∧ evc X.2.1 X.2.2 w m f i st r' = E ∧ (e ≤ i ∧ i ≤ e + k ∧ e + k < i + f) ∧ (st ≠ [] ∨ i = e) ∧ st.length ≤ psh X.2.1 i) K := fun N st2 r2 q1 q2 q3 q4 q5 q6 q7 => by
    refine ⟨inr_z (by omega) (by omega), rfl, rfl, rfl, i + 1, f, st2, r2, by omega, q1, q2, q3, q4, ⟨by omega, ?_, by omega⟩, Or.inl q6, q7⟩
    by_cases e3 : i = e + k
    · rw [e3] at q5; exact absurd c2 q5
    · omega
  refine ⟨fun z0 => ?_, fun z0 => ⟨fun z1 _ => ?_, fun z1 => ⟨fun z2 _ => ?_, fun z2 => ⟨fun z3 => ?_, fun z3 => ?_⟩⟩⟩⟩
  · rw [if_pos z0] at hev
    have hst2 : st ≠ [] := by
      rcases hne with q | q
      · exact q
      · rw [q] at z0; omega
    have := kk M' y (by rw [← hev]; exact hr') (fun _ _ => by
      rw [← hev]
      refine ⟨?_, hs.2.last hst2⟩
      rw [hs.1]
      have : 0 < st.length := List.length_pos_iff.mpr hst2
      omega)
    rw [← hev] at this
    exact this
  · rw [if_neg z0, if_pos z1] at hev
    have e4 : psh X.2.1 (i + 1) = psh X.2.1 i + 1 := by show psh X.2.1 i + (if _ then 1 else 0) = _; rw [if_pos (Or.inl z1)]
    refine x_push hs (by omega) (fun N q1 q2 => nxt N _ r' (y.trans (q1.mono cu)) (rcu hr' q1) q2 hev z0 (by simp) (by simp; omega))
  · rw [if_neg z0, if_neg z1, if_pos z2] at hev
    have e4 : psh X.2.1 (i + 1) = psh X.2.1 i + 1 := by show psh X.2.1 i + (if _ then 1 else 0) = _; rw [if_pos (Or.inr z2)]
    refine x_find hst hw' hm' hr' (fun hn => ⟨fun _ => ?_, fun q => absurd rfl q⟩) (fun v r2 N hl q1 q2 q3 => ⟨fun q => absurd q (by decide), fun _ => ?_⟩)
    · rw [hn] at hev
      have := kk M' y (by rw [← hev]; exact hr') (fun q _ => by rw [← hev] at q; exact absurd rfl q)
      rw [← hev] at this
      exact this
    · rw [hl] at hev
      rw [q3]
      have hs' : stk2 N (v3 + 11) st := by
        refine ⟨(q1.i (by unfold fdP; omega)).trans hs.1, hs.2.eq (fun k hk => q1.l (by unfold fdP; omega))⟩
      exact x_push hs' (by omega) (fun N' q4 q5 => nxt N' _ r2 ((y.trans (q1.mono (fun b k h => by unfold fdP at h; unfold wkP; omega))).trans (q4.mono cu)) (rcu q2 q4) q5 hev z0 (by simp) (by simp; omega))
  · rw [if_neg z0, if_neg z1, if_neg z2, if_pos z3] at hev
    have hne' : st ≠ [] := by
      rcases hne with q | q
      · exact q
      · rw [q] at z1 z2; omega
    have e4 : psh X.2.1 i ≤ psh X.2.1 (i + 1) := psh_mono _ (by omega)
    have hl1 : 0 < st.length := List.length_pos_iff.mpr hne'
    refine x_pop hs (by omega) (fun N q1 q2 => x_push q2 (by simp; omega) (fun N' q4 q5 => nxt N' _ r' ((y.trans (q1.mono cu)).trans (q4.mono cu)) (rcu (rcu hr' q1) q4) q5 hev z0 (by simp) (by simp; omega)))
  · rw [if_neg z0, if_neg z1, if_neg z2, if_neg z3] at hev
    have hne' : st ≠ [] := by
      rcases hne with q | q
      · exact q
      · rw [q] at z1 z2; omega
    have e4 : psh X.2.1 i ≤ psh X.2.1 (i + 1) := psh_mono _ (by omega)
    have hl1 : 0 < st.length := List.length_pos_iff.mpr hne'
    refine x_pop hs (by omega) (fun N q1 q2 => x_pop q2 (by simp; omega) (fun N2 q3 q4 => ?_))
    have yN2 : eqy (wkP v3) M N2 := (y.trans (q1.mono cu)).trans (q3.mono cu)
    have rN2 : req r' (rP N2 v3) := rcu (rcu hr' q1) q3
    have go : ¬ (st.headD 0 = 0 ∧ (X.2.1 i = 47 ∨ X.2.1 i = 37)) → e_A_workR_145 (v3 + 11) v1 v3 (i : Int) (X.2.1 i) (st.headD 0) (st.tail.headD 0) N2 (fun v0 v1' v3' v4 M' => v0 = v3 + 11 ∧ v1' = v1 ∧ v3' = v3 ∧ ∃ (i f : Nat) (st : List Int64) (r' : rdT), v4 = (i : Int) ∧ eqy (wkP v3) M M' ∧ req r' (rP M' v3) ∧ stk2 M' (v3 + 11) st ∧ evc X.2.1 X.2.2 w m f i st r' = E ∧ (e ≤ i ∧ i ≤ e + k ∧ e + k < i + f) ∧ (st ≠ [] ∨ i = e) ∧ st.length ≤ psh X.2.1 i) K := fun hz => by
      refine x_join hz (fun v hv => ?_)
      rw [hv] at hev
      exact x_push q4 (by simp; omega) (fun N' q5 q6 => nxt N' _ r' (yN2.trans (q5.mono cu)) (rcu rN2 q5) q6 hev z0 (by simp) (by simp; omega))
    have bz : st.headD 0 = 0 → (X.2.1 i = 47 ∨ X.2.1 i = 37) → K 2 N2 := fun h1 h2 => by
      have hj : jn (X.2.1 i) (st.tail.headD 0) (st.headD 0) = none := by
        unfold jn
        rcases h2 with h2 | h2
        · rw [h2, if_neg (by decide), if_neg (by decide), if_neg (by decide), if_neg (by decide), if_neg (by decide), if_pos rfl, if_pos h1]
        · rw [h2, if_neg (by decide), if_neg (by decide), if_neg (by decide), if_neg (by decide), if_neg (by decide), if_neg (by decide), if_pos rfl, if_pos h1]
      rw [hj] at hev
      have := kk N2 yN2 (by rw [← hev]; exact rN2) (fun _ q => by rw [← hev] at q; exact absurd rfl q)
      rw [← hev] at this
      exact this
    refine ⟨fun h => ⟨fun h47 => bz ((lgc0 _ _).mp h) (Or.inl h47), fun h47 => ⟨fun h37 => bz ((lgc0 _ _).mp h) (Or.inr h37), fun h37 => go (fun q => q.2.elim h47 h37)⟩⟩, fun h => go (fun q => h ((lgc0 _ _).mpr q.1))⟩
end PR2
/-! THE PROGRAM'S RUN: a step -/
def vP (M : rf_M) (a : Nat) (X : txT) : vwT := (mP M a, fun j => gi M (a + 5) j, fun h => kP M a (X.1 5 h).toNat)
/-- the run at a, of the text at p, is g with what is read r -/
def rn0 (M : rf_M) (a p : Nat) (X : txT) (n cc : Nat) (en : Int) (hw : Nat) (g : sgT) (r : rdT) : Prop := M.2.2 a 0 = some p ∧ ptx M p X n cc en ∧ gi M a 6 = g.1 ∧ plz n g.1 ∧ grl X (fun z => z) hw g (vP M a X) ∧ req r (rP M a)
def stP (a b k : Nat) : Prop := a ≤ b ∧ b ≤ a + 12 ∧ ¬ (b = a ∧ k = 1)
section PR3
variable {M M' : rf_M} {p a n cc hw : Nat} {X : txT} {en : Int} {K : Int → rf_M → Prop} {w : wdT} {m : mkT} {r : rdT} {g : sgT}
theorem vP_eq {P : Nat → Nat → Prop} (e : eqy P M M') (q : ∀ b k, a + 2 ≤ b → b ≤ a + 9 → ¬ P b k) : vP M' a X = vP M a X := by
  have e1 : ∀ b k, a + 2 ≤ b → b ≤ a + 9 → M'.1 b k = M.1 b k := fun b k h1 h2 => (e.1 b k (q b k h1 h2)).1
  have e2 : ∀ b k, a + 2 ≤ b → b ≤ a + 9 → gl M' b k = gl M b k := fun b k h1 h2 => (e.1 b k (q b k h1 h2)).2
  have e3 : ∀ b k, a + 2 ≤ b → b ≤ a + 9 → gi M' b k = gi M b k := fun b k h1 h2 => e.i (q b k h1 h2)
  unfold vP mP kP
  rw [e1 (a + 2) 0 (by omega) (by omega), e3 (a + 2) 3 (by omega) (by omega)]
  have f3 : (fun l => gl M' (a + 3) l) = fun l => gl M (a + 3) l := funext (fun l => e2 _ _ (by omega) (by omega))
  have f4 : (fun l => gl M' (a + 4) l) = fun l => gl M (a + 4) l := funext (fun l => e2 _ _ (by omega) (by omega))
  have f5 : (fun l => gi M' (a + 5) l) = fun l => gi M (a + 5) l := funext (fun l => e3 _ _ (by omega) (by omega))
  have f6 : ∀ h : Nat, ((M'.1 (a + 6) (X.1 5 h).toNat, fun l => gl M' (a + 7) ((X.1 5 h).toNat * 16 + l), fun l => gl M' (a + 8) ((X.1 5 h).toNat * 10 + l), gi M' (a + 9) (X.1 5 h).toNat) : mkT) = (M.1 (a + 6) (X.1 5 h).toNat, fun l => gl M (a + 7) ((X.1 5 h).toNat * 16 + l), fun l => gl M (a + 8) ((X.1 5 h).toNat * 10 + l), gi M (a + 9) (X.1 5 h).toNat) := fun h => by
    rw [e1 _ _ (by omega) (by omega), e3 _ _ (by omega) (by omega), show (fun l => gl M' (a + 7) ((X.1 5 h).toNat * 16 + l)) = fun l => gl M (a + 7) ((X.1 5 h).toNat * 16 + l) from funext (fun l => e2 _ _ (by omega) (by omega)), show (fun l => gl M' (a + 8) ((X.1 5 h).toNat * 10 + l)) = fun l => gl M (a + 8) ((X.1 5 h).toNat * 10 + l) from funext (fun l => e2 _ _ (by omega) (by omega))]
  rw [f3, f4, f5]
  exact congrArg (fun z => (_, _, z)) (funext f6)
theorem rn0_at {z : Int} {g' : mkT × (Nat → Int) × (Nat → mkT)} (hpa : p + 11 < a) (h0 : M.2.2 a 0 = some p) (ht : ptx M p X n cc en) (hn : n ≤ 40) (hz : plz n z) (hg : grl X (fun z => z) hw (z, g') (vP M a X)) (hr : req r (rP M a)) (e : M' = wi M a 6 z) : rn0 M' a p X n cc en hw (z, g') r := by
  have y : eqy (fun b k => b = a ∧ k = 6) M M' := by rw [e]; exact (eqy.rfl' M).wi ⟨rfl, rfl⟩
  refine ⟨by rw [y.2]; exact h0, ht.eq y (fun b k h1 h2 => by omega), ?_, hz, ?_, hr.eqP y (fun b k h => by omega)⟩
  · rw [e]
    exact gi_at (by rcases hz with q | ⟨x, q1, q2⟩ <;> exact inr_z (by omega) (by omega))
  · rw [vP_eq y (fun b k h1 h2 => by omega)]
    exact hg
/-- marking -/
theorem x_mark {lv : Nat} {K : rf_M → Prop} (hl : lv < 8) (kk : ∀ M', eqy (fun b k => a + 6 ≤ b ∧ b ≤ a + 9) M M' → meq (mP M a) (kP M' a lv) → (∀ x, x ≠ lv → x < 8 → meq (kP M a x) (kP M' a x)) → K M') : em_D_mark (a + 2) (lv : Int) M K := by
  refine ⟨fun h => absurd h (by omega), fun _ => ⟨fun _ _ M1 e1 _ M2 e2 => ⟨inr_z (by omega) (by omega), fun _ M3 e3 => ⟨inr_z (by omega) (by omega), fun _ M4 e4 => ?_⟩⟩, fun h => absurd (by omega) h⟩⟩
  rw [tn_] at e1 e2
  have n16 : ((lv : Int) * 16).toNat = lv * 16 := by omega
  have n10 : ((lv : Int) * 10).toNat = lv * 10 := by omega
  rw [n16] at e3
  rw [n10] at e4
  have e1 : M1 = wi M (a + 6) lv (gi M (a + 2) 0) := e1
  have e2 : M2 = wi M1 (a + 9) lv (gi M1 (a + 2) 3) := e2
  have e3 : M3 = cpl M2 (a + 3) 0 (a + 7) (lv * 16) 16 := e3
  have e4 : M4 = cpl M3 (a + 4) 0 (a + 8) (lv * 10) 10 := e4
  have g1 : gi M1 (a + 2) 3 = gi M (a + 2) 3 := by rw [e1, gi_of (Or.inl (by omega))]
  rw [g1] at e2
  have i4 : ∀ b k, M4.1 b k = M2.1 b k := fun b k => by rw [e4, e3]; rfl
  have m6 : ∀ k, M4.1 (a + 6) k = if k = lv then M.1 (a + 2) 0 else M.1 (a + 6) k := fun k => by
    rw [i4, e2]
    show (rf_wi M1 (a + 9) lv _).1 (a + 6) k = _
    rw [rf_wi_of _ _ (Or.inl (by omega)), e1]
    show (rf_wi M (a + 6) lv _).1 (a + 6) k = _
    by_cases e : k = lv
    · rw [if_pos e, e, rf_wi_at, gi_ofi]
    · rw [if_neg e, rf_wi_of _ _ (Or.inr e)]
  have m9 : ∀ k, gi M4 (a + 9) k = if k = lv then gi M (a + 2) 3 else gi M (a + 9) k := fun k => by
    rw [show gi M4 (a + 9) k = gi M2 (a + 9) k from congrArg Int32.toInt (i4 _ _), e2]
    by_cases e : k = lv
    · rw [if_pos e, e, gi_at (inr_gi _ _ _)]
    · rw [if_neg e, gi_of (Or.inr e), e1, gi_of (Or.inl (by omega))]
  have l2 : ∀ b k, gl M2 b k = gl M b k := fun b k => by rw [e2, e1]; rfl
  have m7 : ∀ j, j < 16 → gl M4 (a + 7) (lv * 16 + j) = gl M (a + 3) j := fun j hj => by
    rw [e4, gl_cpln (by omega), e3, gl_cpl hj, l2, Nat.zero_add]
  have m7o : ∀ k, k < lv * 16 ∨ lv * 16 + 16 ≤ k → gl M4 (a + 7) k = gl M (a + 7) k := fun k hk => by
    rw [e4, gl_cpln (by omega), e3, gl_cplo hk, l2]
  have m8 : ∀ j, j < 10 → gl M4 (a + 8) (lv * 10 + j) = gl M (a + 4) j := fun j hj => by
    rw [e4, gl_cpl hj, e3, gl_cpln (by omega), l2, Nat.zero_add]
  have m8o : ∀ k, k < lv * 10 ∨ lv * 10 + 10 ≤ k → gl M4 (a + 8) k = gl M (a + 8) k := fun k hk => by
    rw [e4, gl_cplo hk, e3, gl_cpln (by omega), l2]
  refine kk M4 ?_ ⟨?_, fun l hl' _ => m7 l hl', fun l hl' => m8 l hl', ?_⟩ (fun x hx h8 => ⟨?_, fun l hl' _ => m7o _ (by omega), fun l hl' => m8o _ (by omega), ?_⟩)
  · rw [e4, e3, e2, e1]
    exact ((((eqy.rfl' M).wi ⟨by omega, by omega⟩).wi ⟨by omega, by omega⟩).cpl (fun k => ⟨by omega, by omega⟩)).cpl (fun k => ⟨by omega, by omega⟩)
  · exact (m6 lv).trans (if_pos rfl)
  · exact (m9 lv).trans (if_pos rfl)
  · exact (m6 x).trans (if_neg hx)
  · exact (m9 x).trans (if_neg hx)
theorem x_takeBack {lv : Nat} {K : rf_M → Prop} (hl : lv < 8) (kk : ∀ M', eqy (fun b k => a + 2 ≤ b ∧ b ≤ a + 4) M M' → meq (kP M a lv) (mP M' a) → K M') : em_D_takeBack (a + 2) (lv : Int) M K := by
  refine ⟨fun h => absurd h (by omega), fun _ => ⟨fun _ _ M1 e1 _ M2 e2 => ⟨inr_z (by omega) (by omega), fun _ M3 e3 => ⟨inr_z (by omega) (by omega), fun _ M4 e4 => ?_⟩⟩, fun h => absurd (by omega) h⟩⟩
  rw [tn_] at e1 e2
  have n16 : ((lv : Int) * 16).toNat = lv * 16 := by omega
  have n10 : ((lv : Int) * 10).toNat = lv * 10 := by omega
  rw [n16] at e3
  rw [n10] at e4
  have e1 : M1 = wi M (a + 2) 0 (gi M (a + 6) lv) := e1
  have e2 : M2 = wi M1 (a + 2) 3 (gi M1 (a + 9) lv) := e2
  have e3 : M3 = cpl M2 (a + 7) (lv * 16) (a + 3) 0 16 := e3
  have e4 : M4 = cpl M3 (a + 8) (lv * 10) (a + 4) 0 10 := e4
  have g1 : gi M1 (a + 9) lv = gi M (a + 9) lv := by rw [e1, gi_of (Or.inl (by omega))]
  rw [g1] at e2
  have i4 : ∀ b k, M4.1 b k = M2.1 b k := fun b k => by rw [e4, e3]; rfl
  have l2 : ∀ b k, gl M2 b k = gl M b k := fun b k => by rw [e2, e1]; rfl
  refine kk M4 ?_ ⟨?_, fun l hl' _ => ?_, fun l hl' => ?_, ?_⟩
  · rw [e4, e3, e2, e1]
    exact ((((eqy.rfl' M).wi ⟨by omega, by omega⟩).wi ⟨by omega, by omega⟩).cpl (fun k => ⟨by omega, by omega⟩)).cpl (fun k => ⟨by omega, by omega⟩)
  · show M4.1 (a + 2) 0 = M.1 (a + 6) lv
    rw [i4, e2]
    show (rf_wi M1 (a + 2) 3 _).1 (a + 2) 0 = _
    rw [rf_wi_of _ _ (Or.inr (by omega)), e1]
    show (rf_wi M (a + 2) 0 _).1 (a + 2) 0 = _
    rw [rf_wi_at, gi_ofi]
  · show gl M4 (a + 3) l = gl M (a + 7) (lv * 16 + l)
    have := gl_cpl (M := M2) (a := a + 3) (a2 := a + 7) (sp := lv * 16) (dp := 0) hl'
    rw [Nat.zero_add] at this
    rw [e4, gl_cpln (by omega), e3, this, l2]
  · show gl M4 (a + 4) l = gl M (a + 8) (lv * 10 + l)
    have := gl_cpl (M := M3) (a := a + 4) (a2 := a + 8) (sp := lv * 10) (dp := 0) hl'
    rw [Nat.zero_add] at this
    rw [e4, this, e3, gl_cpln (by omega), l2]
  · show gi M4 (a + 2) 3 = gi M (a + 9) lv
    rw [show gi M4 (a + 2) 3 = gi M2 (a + 2) 3 from congrArg Int32.toInt (i4 _ _), e2, gi_at (inr_gi _ _ _)]
theorem x_assign {z : Int} {v : Int64} {K : rf_M → Prop} (kk : ∀ M', eqy (fun b k => a + 2 ≤ b ∧ b ≤ a + 4) M M' → meq (asg (mP M a) z v) (mP M' a) → K M') : em_D_assign (a + 2) z v M K := by
  unfold asg at kk
  refine x_isCell (fun hc => ⟨fun q => absurd q (by decide), fun _ _ M3 e3 M4 e4 => ?_⟩) (fun hc => ⟨fun _ => ⟨fun h => ?_, fun h => ⟨fun h' => ?_, fun h' => ⟨inr_z (by omega) (by omega), fun _ M2 e2 => ?_⟩⟩⟩, fun q => absurd rfl q⟩)
  · rw [if_pos hc] at kk
    obtain ⟨l, rfl⟩ : ∃ l : Nat, z = (l : Int) := ⟨z.toNat, by omega⟩
    have hl : l < 16 := by omega
    rw [tn_] at kk e3
    have e3 : M3 = wl M (a + 3) l v := e3
    have e4 : M4 = wi M3 (a + 2) 0 (Int32.ofInt (gi M3 (a + 2) 0) ||| Int32.ofInt (Int32.ofInt 1 <<< (Int32.ofInt (l : Int) &&& 31)).toInt).toInt := e4
    refine kk M4 ?_ ⟨?_, fun j hj b => ?_, fun j hj => ?_, ?_⟩
    · rw [e4, e3]
      exact ((eqy.rfl' M).wl ⟨by omega, by omega⟩).wi ⟨by omega, by omega⟩
    · show M4.1 (a + 2) 0 = bs (M.1 (a + 2) 0) l
      rw [e4]
      show (rf_wi M3 (a + 2) 0 _).1 (a + 2) 0 = _
      rw [rf_wi_at, bs_lit _ hl, gi_ofi, e3]
      rfl
    · show gl M4 (a + 3) j = va_up (fun l => gl M (a + 3) l) l v j
      rw [e4, gl_wi, e3]
      by_cases e : j = l
      · rw [e, gl_at, va_up_at]
      · rw [gl_of (Or.inr e), va_up_of e]
    · show gl M4 (a + 4) j = gl M (a + 4) j
      rw [e4, gl_wi, e3, gl_of (Or.inl (by omega))]
    · show gi M4 (a + 2) 3 = gi M (a + 2) 3
      rw [e4, gi_of (Or.inr (by omega)), e3]
      rfl
  · rw [if_neg hc, if_neg (by omega)] at kk
    exact kk M (eqy.rfl' M) (meq.rfl' _)
  · rw [if_neg hc, if_neg (by omega)] at kk
    exact kk M (eqy.rfl' M) (meq.rfl' _)
  · rw [if_neg hc, if_pos (by omega)] at kk
    rw [show (z - 16).toNat = z.toNat - 16 by omega] at e2
    have e2 : M2 = wl M (a + 4) (z.toNat - 16) v := e2
    refine kk M2 ?_ ⟨?_, fun j hj b => ?_, fun j hj => ?_, ?_⟩
    · rw [e2]
      exact (eqy.rfl' M).wl ⟨by omega, by omega⟩
    · rw [e2]; rfl
    · show gl M2 (a + 3) j = gl M (a + 3) j
      rw [e2, gl_of (Or.inl (by omega))]
    · show gl M2 (a + 4) j = va_up (fun l => gl M (a + 4) l) (z.toNat - 16) v j
      rw [e2]
      by_cases e : j = z.toNat - 16
      · rw [e, gl_at, va_up_at]
      · rw [gl_of (Or.inr e), va_up_of e]
    · rw [e2]; rfl
theorem isP_ (h : M.2.2 a 0 = some p) (hp : p ∈ k1) : isP M a 0 := by
  have e : gr M a 0 = p := by unfold gr; rw [h]; rfl
  exact ⟨by rw [e]; exact h, by rw [e]; exact hp⟩
theorem gr_ (h : M.2.2 a 0 = some p) : gr M a 0 = p := by unfold gr; rw [h]; rfl
/-- into a second body, behind taking back (and giving the letter its value) -/
theorem x_retry (ha : 199 ≤ a) (hp : p ∈ k1) (hX : wfx X n cc en) (R : rn0 M a p X n cc en hw g r) (h4 : ard X 15 9 g.1 < 0 → K 4 M) (h0 : ∀ x : Nat, ard X 15 9 g.1 = (x : Int) → ∀ M', eqy (stP a) M M' → rn0 M' a p X n cc en hw (gin X (x : Int) (X.1 8 x), g.2.2.2 x, g.2.2) r → K 0 M') : em_R_retry a M K := by
  obtain ⟨r1, r2, r3, r4, r5, r6⟩ := R
  have hk1 := k1_or hp
  refine ⟨isP_ r1 hp, ?_⟩
  rw [gr_ r1, r3]
  refine x_around hX r2 r4 ⟨fun e => h4 (by omega), fun e => ⟨isP_ r1 hp, fun _ => ?_⟩⟩
  rcases pok_ard hX (k := 15) 9 g.1 r4 r5.2.2.2 with q | ⟨x, q1, q2, q3, q4, q5⟩
  · exact absurd q e
  rw [q1, gr_ r1, tn_, (r2.2.1 x q2).2.2.2.2.2.1]
  have wx := hX.2.2.2.2.2 x q2
  have hd7 := wx.2.2.2.2.2.2.2.1 (Or.inl q3)
  obtain ⟨lv, hlv⟩ : ∃ lv : Nat, X.1 5 x = (lv : Int) := ⟨(X.1 5 x).toNat, by have := wx.2.2.1; omega⟩
  rw [hlv]
  refine x_takeBack (by omega) (fun M2 y2 m2 => ?_)
  have p2 : M2.2.2 a 0 = some p := by rw [y2.2]; exact r1
  have t2 := r2.eq y2 (fun b k _ _ => by omega)
  refine ⟨isP_ p2 hp, isP_ p2 hp, fun _ => ?_⟩
  rw [gr_ p2, (t2.2.1 x q2).2.2.2.2.2.2.2.2]
  have l8 := wx.2.2.2.2.2.1
  have hgin := fun (P : Nat → Prop) (hP : pok X P g.1) => pok_gin hX (P := P) (z := X.1 8 x) q2 (by
    rcases pok_ard hX (k := 15) 9 g.1 r4 hP with q | ⟨x', q1', q2', q3', q4', q5'⟩
    · omega
    · have : x' = x := by omega
      subst this; exact q4') (l8.imp id (fun ⟨y, y1, y2, y3, y4⟩ => ⟨y, y1, y2, y3, fun z => by omega⟩))
  refine x_into hX t2 q2 (l8.imp id (fun ⟨y, y1, y2, _⟩ => ⟨y, y1, y2, trivial⟩)) (fun M4 e4 => h0 x q1 M4 ?_ ?_)
  · rw [e4]
    exact (y2.mono (fun b k h => ⟨by omega, by omega, by omega⟩)).wi ⟨by omega, by omega, by omega⟩
  · have b := grl_back (z := gin X (x : Int) (X.1 8 x)) r5 (q5 (Or.inl q3)) (fun P _ hP => (hgin P hP).2)
    refine rn0_at (by omega) p2 t2 hX.1 (hgin _ r5.2.2.2).1 (grl_v b ?_ (fun j _ => ?_) (fun h => ?_)) (r6.eqP y2 (fun b k h => by omega)) e4
    · show meq (kP M a (X.1 5 x).toNat) (mP M2 a)
      rw [hlv, tn_]; exact m2
    · exact y2.i (by omega)
    · refine ⟨(y2.1 _ _ (by omega)).1, fun l _ _ => y2.l (by omega), fun l _ => y2.l (by omega), y2.i (by omega)⟩
theorem x_toss {v : Int64} (ha : 199 ≤ a) (hp : p ∈ k1) (hX : wfx X n cc en) (R : rn0 M a p X n cc en hw g r) (h2 : tss X g.1 v g = none → ∀ M', eqy (fun b k => b = a ∧ k = 3) M M' → gl M' a 3 = v → K 2 M') (h0 : ∀ g', tss X g.1 v g = some g' → ∀ M', eqy (stP a) M M' → rn0 M' a p X n cc en hw g' r → K 0 M') : em_R_toss a v M K := by
  obtain ⟨r1, r2, r3, r4, r5, r6⟩ := R
  have hk1 := k1_or hp
  unfold tss at h2 h0
  refine ⟨isP_ r1 hp, ?_⟩
  rw [gr_ r1, r3]
  refine x_around hX r2 r4 ⟨fun e M6 e6 => h2 (if_pos (by omega)) M6 (by rw [e6]; exact (eqy.rfl' M).wl ⟨rfl, rfl⟩) (by rw [e6]; exact gl_at _ _ _ _), fun e => ⟨isP_ r1 hp, fun _ => ?_⟩⟩
  rcases pok_ard hX (k := 17) 9 g.1 r4 r5.2.2.2 with q | ⟨x, q1, q2, q3, q4, q5⟩
  · exact absurd q e
  rw [q1, if_neg (by omega), tn_] at h0
  rw [q1, gr_ r1, tn_, (r2.2.1 x q2).2.2.2.2.2.1]
  have wx := hX.2.2.2.2.2 x q2
  have hd7 := wx.2.2.2.2.2.2.2.1 (Or.inr q3)
  obtain ⟨lv, hlv⟩ : ∃ lv : Nat, X.1 5 x = (lv : Int) := ⟨(X.1 5 x).toNat, by have := wx.2.2.1; omega⟩
  rw [hlv]
  refine x_takeBack (by omega) (fun M2 y2 m2 => ?_)
  have p2 : M2.2.2 a 0 = some p := by rw [y2.2]; exact r1
  have t2 := r2.eq y2 (fun b k _ _ => by omega)
  refine ⟨isP_ p2 hp, fun _ => ?_⟩
  rw [gr_ p2, (t2.2.1 x q2).2.1]
  refine x_assign (fun M3 y3 m3 => ?_)
  have y23 := y2.trans y3
  have p3 : M3.2.2 a 0 = some p := by rw [y3.2]; exact p2
  have t3 := t2.eq y3 (fun b k _ _ => by omega)
  refine ⟨isP_ p3 hp, isP_ p3 hp, fun _ => ?_⟩
  rw [gr_ p3, (t3.2.1 x q2).2.2.2.2.2.2.2.2]
  have l8 := wx.2.2.2.2.2.1
  have hgin := fun (P : Nat → Prop) (hP : pok X P g.1) => pok_gin hX (P := P) (z := X.1 8 x) q2 (by
    rcases pok_ard hX (k := 17) 9 g.1 r4 hP with q | ⟨x', q1', q2', q3', q4', q5'⟩
    · omega
    · have : x' = x := by omega
      subst this; exact q4') (l8.imp id (fun ⟨y, y1, y2, y3, y4⟩ => ⟨y, y1, y2, y3, fun z => by omega⟩))
  refine x_into hX t3 q2 (l8.imp id (fun ⟨y, y1, y2, _⟩ => ⟨y, y1, y2, trivial⟩)) (fun M4 e4 => h0 _ rfl M4 ?_ ?_)
  · rw [e4]
    exact (y23.mono (fun b k h => ⟨by omega, by omega, by omega⟩)).wi ⟨by omega, by omega, by omega⟩
  · have b := grl_back (z := gin X (x : Int) (X.1 8 x)) r5 (q5 (Or.inr q3)) (fun P _ hP => (hgin P hP).2)
    have b2 := grl_asg (z := gin X (x : Int) (X.1 8 x)) (l := X.1 1 x) (x := v) b (fun P _ hP => hP)
    refine rn0_at (by omega) p3 t3 hX.1 (hgin _ r5.2.2.2).1 (grl_v b2 ?_ (fun j _ => ?_) (fun h => ?_)) (r6.eqP y23 (fun b k h => by omega)) e4
    · show meq (asg (kP M a (X.1 5 x).toNat) (X.1 1 x) v) (mP M3 a)
      rw [hlv, tn_]; exact (meq_asg m2 _ _).trans m3
    · exact y23.i (by omega)
    · refine ⟨(y23.1 _ _ (by omega)).1, fun l _ _ => y23.l (by omega), fun l _ => y23.l (by omega), y23.i (by omega)⟩
theorem rn0.eqR {P : Nat → Nat → Prop} {r' : rdT} (hpa : p + 11 < a) (R : rn0 M a p X n cc en hw g r) (e : eqy P M M') (q : ∀ b k, (b ≤ p + 11 ∨ (a + 2 ≤ b ∧ b ≤ a + 9) ∨ (b = a ∧ k = 6)) → ¬ P b k) (hr : req r' (rP M' a)) : rn0 M' a p X n cc en hw g r' := by
  obtain ⟨r1, r2, r3, r4, r5, r6⟩ := R
  exact ⟨by rw [e.2]; exact r1, r2.eq e (fun b k _ h => q b k (by omega)), (e.i (q _ _ (by omega))).trans r3, r4, by rw [vP_eq e (fun b k h1 h2 => q b k (by omega))]; exact r5, hr⟩
theorem x_result {z : Int64} {K : Int64 → rf_M → Prop} (h : 0 < gi M (a + 11) 1) (e : gl M (a + 12) 0 = z) (kk : K z M) : em_A_result (a + 11) M K := by
  refine ⟨fun q => absurd h (by omega), fun _ _ => ?_⟩
  show K (gl M (a + 12) 0) M
  rw [e]; exact kk
/-- an exp, and what comes of it -/
theorem x_walkExp {s : Nat} (ha : 199 ≤ a) (hst : stR a + 7 < a) (hp : p ∈ k1) (hX : wfx X n cc en) (R : rn0 M a p X n cc en hw g r) (hs : g.1 = (s : Int)) (hsn : s < n) (hk : X.1 0 s = 1 ∨ X.1 0 s = 10 ∨ X.1 0 s = 12 ∨ X.1 0 s = 14) (hW : weq w (wS M (stR a))) (kk : ∀ M', eqy (stP a) M M' → rn0 M' a p X n cc en hw (stepp X w g r).2.1 (stepp X w g r).2.2 → ((stepp X w g r).1.1 = 2 → gl M' a 3 = (stepp X w g r).1.2) → K (stepp X w g r).1.1 M') : em_R_walkExp a M K := by
  have hk1 := k1_or hp
  have hpa : p + 11 < a := by omega
  have ho : stepp X w g r = stpx X g s (evc X.2.1 X.2.2 w g.2.1 161 (X.1 2 s).toNat [] r) := by
    unfold stepp
    have e : g.1.toNat = s := by omega
    rw [if_neg (by omega), e, if_neg (by omega), if_neg (by omega), if_neg (by omega)]
  rw [ho] at kk
  obtain ⟨r1, r2, r3, r4, r5, r6⟩ := R
  have wx := hX.2.2.2.2.2 s hsn
  have hc : cdo X cc (X.1 2 s) := wx.2.2.2.2.2.2.2.2.2.2 (by unfold kxp; omega)
  refine ⟨isP_ r1 hp, isP_ r1 hp, fun _ => ?_⟩
  rw [gr_ r1, r3, hs, tn_, (r2.2.1 s hsn).2.2.1]
  refine x_workR hst hpa hX r2 hc hW r5.1 r6 (fun M1 y1 q1 v1 => ?_)
  generalize evc X.2.1 X.2.2 w g.2.1 161 (X.1 2 s).toNat [] r = E at q1 v1 kk ⊢
  have R1 : rn0 M1 a p X n cc en hw g E.2 := rn0.eqR hpa ⟨r1, r2, r3, r4, r5, r6⟩ y1 (fun b k h => by unfold wkP; omega) q1
  have y1' : eqy (stP a) M M1 := y1.mono (fun b k h => by unfold wkP at h; unfold stP; omega)
  unfold stpx at kk
  have toss : ∀ (v : Int64) (M2 : rf_M), M2 = M1 → (∀ M', eqy (stP a) M M' → rn0 M' a p X n cc en hw (match tss X g.1 v g with | none => (((2, v), g, E.2) : (Nat × Int64) × sgT × rdT) | some g' => ((0, 0), g', E.2)).2.1 (match tss X g.1 v g with | none => (((2, v), g, E.2) : (Nat × Int64) × sgT × rdT) | some g' => ((0, 0), g', E.2)).2.2 → ((match tss X g.1 v g with | none => (((2, v), g, E.2) : (Nat × Int64) × sgT × rdT) | some g' => ((0, 0), g', E.2)).1.1 = 2 → gl M' a 3 = (match tss X g.1 v g with | none => (((2, v), g, E.2) : (Nat × Int64) × sgT × rdT) | some g' => ((0, 0), g', E.2)).1.2) → K ((match tss X g.1 v g with | none => (((2, v), g, E.2) : (Nat × Int64) × sgT × rdT) | some g' => ((0, 0), g', E.2)).1.1 : Nat) M') → em_R_toss a v M2 (fun z9 M9 => K z9 M9) := by
    rintro v M2 rfl kt
    refine x_toss ha hp hX R1 (fun hn M' y v' => ?_) (fun g' hg M' y R' => ?_)
    · rw [hn] at kt
      have y' : eqy (stP a) M M' := y1'.trans (y.mono (fun b k h => by unfold stP; omega))
      exact kt M' y' (rn0.eqR hpa R1 y (fun b k h => by omega) (R1.2.2.2.2.2.eqP y (fun b k h => by omega))) (fun _ => v')
    · rw [hg] at kt
      exact kt M' (y1'.trans y) R' (fun (q : (0 : Nat) = 2) => absurd q (by decide))
  refine ⟨fun z1 => ?_, fun z1 => ⟨fun z2 => ?_, fun z2 => ?_⟩⟩
  · have z1 : E.1.1 = 1 := by omega
    rw [if_pos z1] at kk
    exact kk M1 y1' R1 (fun (q : (3 : Nat) = 2) => absurd q (by decide))
  · have z2 : E.1.1 = 2 := by omega
    rw [if_neg (by omega), if_pos z2] at kk
    rw [m1_lit]
    exact toss (-1) M1 rfl kk
  · rw [if_neg (by omega), if_neg (by omega)] at kk
    obtain ⟨p1, t1, i1, l1, G1, rr1⟩ := R1
    have v2 := v1 (by omega) (by omega)
    refine x_result v2.1 v2.2 ⟨isP_ p1 hp, fun _ => ?_⟩
    rw [gr_ p1, i1, hs, tn_, (t1.2.1 s hsn).1]
    obtain ⟨u0, u1, u2, u3, u4, u5, u6, u7, u8⟩ := t1.2.1 s hsn
    have fin : ∀ (z : Int) (g' : mkT × (Nat → Int) × (Nat → mkT)) (M3 : rf_M), eqy (stP a) M M3 → M3.2.2 a 0 = some p → ptx M3 p X n cc en → plz n z → grl X (fun z => z) hw (z, g') (vP M3 a X) → req E.2 (rP M3 a) → ∀ M4, M4 = wi M3 a 6 z → eqy (stP a) M M4 ∧ rn0 M4 a p X n cc en hw (z, g') E.2 := fun z g' M3 y3 p3 t3 z3 G3 r3 M4 e4 => ⟨by rw [e4]; exact y3.wi ⟨by omega, by omega, by omega⟩, rn0_at hpa p3 t3 hX.1 z3 G3 r3 e4⟩
    have bh := fun (P : Nat → Prop) (hP : pok X P g.1) => pok_bhd hX (P := P) 9 g.1 r4 hP
    have gf := fun (hns : ¬ kmk X s) (P : Nat → Prop) (hk : ∀ h, ¬ kmk X h → P h) (hP : pok X P g.1) => pok_gin hX (P := P) (z := X.1 7 s) hsn (by rw [← hs]; exact hP) (wx.2.2.2.2.1.imp id (fun ⟨y, y1, y2, y3, y4⟩ => ⟨y, y1, y2, y3, fun _ => hk s hns⟩))
    have gs := fun (P : Nat → Prop) (hP : pok X P g.1) => pok_gin hX (P := P) (z := X.1 8 s) hsn (by rw [← hs]; exact hP) (wx.2.2.2.2.2.1.imp id (fun ⟨y, y1, y2, y3, y4⟩ => ⟨y, y1, y2, y3, fun z => by omega⟩))
    have l7 : lnk n (X.1 7 s) (fun _ => True) := wx.2.2.2.2.1.imp id (fun ⟨y, y1, y2, _⟩ => ⟨y, y1, y2, trivial⟩)
    have l8 : lnk n (X.1 8 s) (fun _ => True) := wx.2.2.2.2.2.1.imp id (fun ⟨y, y1, y2, _⟩ => ⟨y, y1, y2, trivial⟩)
    refine ⟨fun k10 => ⟨isP_ p1 hp, fun c => ⟨isP_ p1 hp, fun _ => ?_⟩, fun c => ⟨isP_ p1 hp, fun _ => ?_⟩⟩, fun k12 => ⟨fun c => ⟨isP_ p1 hp, ?_⟩, fun c => ⟨isP_ p1 hp, isP_ p1 hp, fun _ => ?_⟩⟩, fun k14 => ?_, fun k1 => ⟨isP_ p1 hp, fun _ => ?_⟩⟩
    · have nk : ¬ kmk X s := by unfold kmk; omega
      rw [if_neg (by omega), if_pos k10, if_pos ((lgz _).mp c), hs] at kk
      rw [u8]
      refine x_into hX t1 hsn l8 (fun M4 e4 => ?_)
      have q := fin _ g.2 M1 y1' p1 t1 (gs _ G1.2.2.2).1 (grl_move G1 (fun P _ hP => (gs P hP).2)) rr1 M4 e4
      exact kk M4 q.1 q.2 (fun (q : (0 : Nat) = 2) => absurd q (by decide))
    · have nk : ¬ kmk X s := by unfold kmk; omega
      rw [if_neg (by omega), if_pos k10, if_neg (fun q => c ((lgz _).mpr q)), hs] at kk
      rw [u7]
      refine x_into hX t1 hsn l7 (fun M4 e4 => ?_)
      have q := fin _ g.2 M1 y1' p1 t1 (gf nk _ (fun h q k => absurd k q) G1.2.2.2).1 (grl_move G1 (fun P hk hP => (gf nk P hk hP).2)) rr1 M4 e4
      exact kk M4 q.1 q.2 (fun (q : (0 : Nat) = 2) => absurd q (by decide))
    · rw [if_neg (by omega), if_neg (by omega), if_pos k12, if_pos ((lgz _).mp c)] at kk
      rw [← hs]
      refine x_behind hX t1 r4 (fun M4 e4 => ?_)
      have q := fin _ g.2 M1 y1' p1 t1 (bh _ G1.2.2.2).1 (grl_move G1 (fun P _ hP => (bh P hP).2)) rr1 M4 e4
      exact kk M4 q.1 q.2 (fun (q : (0 : Nat) = 2) => absurd q (by decide))
    · have nk : ¬ kmk X s := by unfold kmk; omega
      rw [if_neg (by omega), if_neg (by omega), if_pos k12, if_neg (fun q => c ((lgz _).mpr q)), hs] at kk
      rw [u7]
      refine x_into hX t1 hsn l7 (fun M4 e4 => ?_)
      have q := fin _ g.2 M1 y1' p1 t1 (gf nk _ (fun h q k => absurd k q) G1.2.2.2).1 (grl_move G1 (fun P hk hP => (gf nk P hk hP).2)) rr1 M4 e4
      exact kk M4 q.1 q.2 (fun (q : (0 : Nat) = 2) => absurd q (by decide))
    · rw [if_pos k14] at kk
      exact toss E.1.2 M1 rfl kk
    · rw [if_neg (by omega), if_neg (by omega), if_neg (by omega)] at kk
      rw [u1]
      refine x_assign (fun M3 y3 m3 => ?_)
      have p3 : M3.2.2 a 0 = some p := by rw [y3.2]; exact p1
      have t3 := t1.eq y3 (fun b k _ _ => by omega)
      refine ⟨isP_ p3 hp, ?_⟩
      rw [gr_ p3, y3.i (by omega), i1]
      refine x_behind hX t3 r4 (fun M4 e4 => ?_)
      have G3 := grl_asg (z := bhd X 9 g.1) (l := X.1 1 s) (x := E.1.2) G1 (fun P _ hP => (bh P hP).2)
      have q := fin _ _ M3 (y1'.trans (y3.mono (fun b k h => ⟨by omega, by omega, by omega⟩))) p3 t3 (bh _ G1.2.2.2).1 (grl_v G3 m3 (fun j _ => y3.i (by omega)) (fun h => ⟨(y3.1 _ _ (by omega)).1, fun l _ _ => y3.l (by omega), fun l _ => y3.l (by omega), y3.i (by omega)⟩)) (rr1.eqP y3 (fun b k h => by omega)) M4 e4
      exact kk M4 q.1 q.2 (fun (q : (0 : Nat) = 2) => absurd q (by decide))
theorem x_addRule {c z : Nat} {K : rf_M → Prop} (hc : gi M (a + 2) 3 = (c : Int)) (hc3 : c < 300) (hz : z < 40) (kk : ∀ M', eqy (fun b k => (b = a + 2 ∧ k = 3) ∨ (b = a + 5 ∧ k = c)) M M' → gi M' (a + 2) 3 = (c : Int) + 1 → gi M' (a + 5) c = (z : Int) → K M') : em_D_addRule (a + 2) (z : Int) M K := by
  refine ⟨fun h => absurd h (by rw [hc]; omega), fun _ _ M1 e1 M2 e2 => ?_⟩
  rw [hc, tn_] at e1
  have e1 : M1 = wi M (a + 5) c (z : Int) := e1
  have g1 : gi M1 (a + 2) 3 = (c : Int) := by rw [e1, gi_of (Or.inl (by omega)), hc]
  rw [g1] at e2
  refine kk M2 ?_ ?_ ?_
  · rw [e2, e1]
    exact ((eqy.rfl' M).wi (Or.inr ⟨rfl, rfl⟩)).wi (Or.inl ⟨rfl, rfl⟩)
  · rw [e2, gi_at (inr_z (by omega) (by omega))]
  · rw [e2, gi_of (Or.inl (by omega)), e1, gi_at (inr_z (by omega) (by omega))]
/-- the run at a is g behind k steps -/
def rnR (M : rf_M) (a p : Nat) (X : txT) (n cc : Nat) (en : Int) (g : sgT) (r : rdT) (k : Nat) : Prop := gi M a 1 = (k : Int) ∧ ∃ hw, hw ≤ k ∧ rn0 M a p X n cc en hw g r
theorem x_rstep {k : Nat} (ha : 199 ≤ a) (hst : stR a + 7 < a) (hp : p ∈ k1) (hX : wfx X n cc en) (R : rnR M a p X n cc en g r k) (hk : k < 300) (hW : weq w (wS M (stR a))) (kk : ∀ M', eqy (fun b _ => a ≤ b ∧ b ≤ a + 12) M M' → rnR M' a p X n cc en (stepp X w g r).2.1 (stepp X w g r).2.2 (if (stepp X w g r).1.1 = 0 then k + 1 else k) → ((stepp X w g r).1.1 = 2 → gl M' a 3 = (stepp X w g r).1.2) → K (stepp X w g r).1.1 M') : em_R_step a M K := by
  have hk1 := k1_or hp
  have hpa : p + 11 < a := by omega
  obtain ⟨hk0, hw, hhw, R⟩ := R
  have R' := R
  obtain ⟨r1, r2, r3, r4, r5, r6⟩ := R
  -- what ends a step
  have fin : ∀ (o : (Nat × Int64) × sgT × rdT) (hw' : Nat) (M' : rf_M), stepp X w g r = o → eqy (stP a) M M' → hw' ≤ k + 1 → (o.1.1 ≠ 0 → hw' ≤ k) → rn0 M' a p X n cc en hw' o.2.1 o.2.2 → (o.1.1 = 2 → gl M' a 3 = o.1.2) → e_R_step_183 a o.1.1 M' K := fun o hw' M' ho y h1 h2 R2 h3 => by
    rw [ho] at kk
    have gk : gi M' a 1 = (k : Int) := (y.i (by unfold stP; omega)).trans hk0
    refine ⟨fun z M1 e1 => ?_, fun z => ?_⟩
    · have z : o.1.1 = 0 := by omega
      rw [gk] at e1
      rw [if_pos z] at kk
      have y1 : eqy (fun b k => b = a ∧ k = 1) M' M1 := by rw [e1]; exact (eqy.rfl' M').wi ⟨rfl, rfl⟩
      refine kk M1 ((y.mono (fun b k h => ⟨h.1, h.2.1⟩)).trans (y1.mono (fun b k h => by omega))) ⟨?_, hw', h1, ?_⟩ (fun q => by omega)
      · rw [e1, gi_at (inr_z (by omega) (by omega))]; omega
      · exact rn0.eqR hpa R2 y1 (fun b k h => by omega) (R2.2.2.2.2.2.eqP y1 (fun b k h => by omega))
    · have z : ¬ o.1.1 = 0 := by omega
      rw [if_neg z] at kk
      exact kk M' (y.mono (fun b k h => ⟨h.1, h.2.1⟩)) ⟨gk, hw', h2 z, R2⟩ h3
  refine ⟨fun _ => ⟨isP_ r1 hp, ?_⟩, fun h => absurd (by omega) h⟩
  rw [gr_ r1, r3]
  refine x_has r2.1.1 (fun hr => ⟨fun w => absurd w (by decide), fun _ => ⟨isP_ r1 hp, fun _ => ?_⟩⟩) (fun hr => ⟨fun _ => ?_, fun w => absurd rfl w⟩)
  · obtain ⟨s, hs⟩ : ∃ s : Nat, g.1 = (s : Int) := ⟨g.1.toNat, by omega⟩
    have hsn : s < n := by omega
    have wx := hX.2.2.2.2.2 s hsn
    have hknd := wx.2.2.2.2.2.2.1
    obtain ⟨u0, u1, u2, u3, u4, u5, u6, u7, u8⟩ := r2.2.1 s hsn
    rw [gr_ r1, r3, hs, tn_, u0]
    have es : g.1.toNat = s := by omega
    have mark : kmk X s → em_D_mark (a + 2) (gi M (p + 6) s) M (fun M3 => isP M3 a 0 ∧ (isP M3 a 0 ∧ ((0 ≤ gi M3 a 6 ∧ gi M3 a 6 < 40) → em_P_into (gr M3 a 0) (gi M3 a 6) (gi M3 (gr M3 a 0 + 8) (gi M3 a 6).toNat) M3 (fun z4 M4 => ∀ M5 : rf_M, M5 = wi M4 a 6 z4 → e_R_step_183 a 0 M5 K)))) := fun hm => by
      have ho : stepp X w g r = ((0, 0), (gin X g.1 (X.1 7 s), g.2.1, g.2.2.1, va_up g.2.2.2 s g.2.1), r) := by
        unfold stepp
        rw [if_neg (by omega), es, if_pos (show X.1 0 s = 15 ∨ X.1 0 s = 17 from hm)]
      have hd7 := wx.2.2.2.2.2.2.2.1 hm
      obtain ⟨lv, hlv⟩ : ∃ lv : Nat, X.1 5 s = (lv : Int) := ⟨(X.1 5 s).toNat, by have := wx.2.2.1; omega⟩
      rw [u5, hlv]
      refine x_mark (by omega) (fun M3 y3 m3 o3 => ?_)
      have p3 : M3.2.2 a 0 = some p := by rw [y3.2]; exact r1
      have t3 := r2.eq y3 (fun b k _ _ => by omega)
      refine ⟨isP_ p3 hp, isP_ p3 hp, fun _ => ?_⟩
      rw [gr_ p3, y3.i (by omega), r3, hs, tn_, (t3.2.1 s hsn).2.2.2.2.2.2.2.1]
      refine x_into hX t3 hsn (wx.2.2.2.2.1.imp id (fun ⟨y, y1, y2, _⟩ => ⟨y, y1, y2, trivial⟩)) (fun M5 e5 => ?_)
      have G := grl_mark (v' := vP M3 a X) hX hsn hs r5 ⟨(y3.1 _ _ (by omega)).1, fun l _ _ => y3.l (by omega), fun l _ => y3.l (by omega), y3.i (by omega)⟩ (fun j _ => y3.i (by omega)) (by show meq (mP M a) (kP M3 a (X.1 5 s).toNat); rw [hlv, tn_]; exact m3) (fun x hx hd => by
        have hx5 := (hX.2.2.2.2.2 x hx).2.2.1
        exact o3 (X.1 5 x).toNat (by omega) (by omega)) (wx.2.2.2.2.1.imp id (fun ⟨y, y1, y2, y3, _⟩ => ⟨y, y1, y2, y3⟩))
      rw [hs] at G ho
      have R3 := rn0_at (g' := (g.2.1, g.2.2.1, va_up g.2.2.2 s g.2.1)) hpa p3 t3 hX.1 G.2 G.1 (r6.eqP y3 (fun b k h => by omega)) e5
      refine fin _ hw M5 ho ?_ (by omega) (fun q => absurd rfl q) R3 (fun (q : (0 : Nat) = 2) => absurd q (by decide))
      rw [e5]
      exact (y3.mono (fun b k h => ⟨by omega, by omega, by omega⟩)).wi ⟨by omega, by omega, by omega⟩
    refine ⟨fun k13 => ?_, fun k15 => ⟨isP_ r1 hp, fun _ => mark (Or.inl k15)⟩, fun k17 => ⟨isP_ r1 hp, fun _ => mark (Or.inr k17)⟩, fun k19 => ?_, fun ko => ?_⟩
    · have ho : stepp X w g r = (if ard X 15 9 g.1 < 0 then ((4, 0), g, r) else ((0, 0), (gin X (ard X 15 9 g.1) (X.1 8 (ard X 15 9 g.1).toNat), g.2.2.2 (ard X 15 9 g.1).toNat, g.2.2.1, g.2.2.2), r)) := by
        unfold stepp
        rw [if_neg (by omega), es, if_neg (by omega), if_neg (by omega), if_pos k13]
      refine x_retry ha hp hX R' (fun q => ?_) (fun x q M2 y2 R2 => ?_)
      · rw [if_pos q] at ho
        exact fin _ hw M ho (eqy.rfl' M) (by omega) (fun _ => hhw) R' (fun (q : (4 : Nat) = 2) => absurd q (by decide))
      · rw [if_neg (by omega), q, tn_] at ho
        exact fin _ hw M2 ho y2 (by omega) (fun q => absurd rfl q) R2 (fun (q : (0 : Nat) = 2) => absurd q (by decide))
    · have ho : stepp X w g r = ((0, 0), (bhd X 9 g.1, (g.2.1.1, g.2.1.2.1, g.2.1.2.2.1, g.2.1.2.2.2 + 1), va_up g.2.2.1 g.2.1.2.2.2.toNat g.1, g.2.2.2), r) := by
        unfold stepp
        rw [if_neg (by omega), es, if_neg (by omega), if_pos k19]
      obtain ⟨c, hc⟩ : ∃ c : Nat, g.2.1.2.2.2 = (c : Int) := ⟨g.2.1.2.2.2.toNat, by have := r5.2.1; omega⟩
      have hch : c ≤ hw := by have := r5.2.1.2; omega
      have hcm : gi M (a + 2) 3 = (c : Int) := r5.1.2.2.2.trans hc
      refine x_addRule hcm (by omega) (by have := hX.1; omega) (fun M2 y2 c2 z2 => ?_)
      have p2 : M2.2.2 a 0 = some p := by rw [y2.2]; exact r1
      have t2 := r2.eq y2 (fun b k _ _ => by omega)
      refine ⟨isP_ p2 hp, ?_⟩
      rw [gr_ p2, y2.i (by omega), r3]
      have bh := fun (P : Nat → Prop) (hP : pok X P g.1) => pok_bhd hX (P := P) 9 g.1 r4 hP
      refine x_behind hX t2 r4 (fun M5 e5 => ?_)
      have G := grl_rule (v' := vP M2 a X) (z := bhd X 9 g.1) hc r5 ⟨(y2.1 _ _ (by omega)).1, fun l _ _ => y2.l (by omega), fun l _ => y2.l (by omega), by show gi M2 (a + 2) 3 = gi M (a + 2) 3 + 1; rw [c2, hcm]⟩ (by show gi M2 (a + 5) c = g.1; rw [z2, hs]) (fun j _ hj => y2.i (by omega)) (fun x => ⟨(y2.1 _ _ (by omega)).1, fun l _ _ => y2.l (by omega), fun l _ => y2.l (by omega), y2.i (by omega)⟩) (fun P _ hP => (bh P hP).2)
      have R3 := rn0_at hpa p2 t2 hX.1 (bh _ r5.2.2.2).1 G (r6.eqP y2 (fun b k h => by omega)) e5
      refine fin _ _ M5 ho ?_ (by omega) (fun q => absurd rfl q) R3 (fun (q : (0 : Nat) = 2) => absurd q (by decide))
      rw [e5]
      exact (y2.mono (fun b k h => ⟨by omega, by omega, by omega⟩)).wi ⟨by omega, by omega, by omega⟩
    · refine x_walkExp ha hst hp hX R' hs hsn (by unfold knd at hknd; omega) hW (fun M2 y2 R2 h2 => ?_)
      exact fin _ hw M2 rfl y2 (by omega) (fun _ => hhw) R2 h2
  · have hneg : g.1 < 0 := by
      rcases r4 with q | ⟨x, q1, q2⟩
      · omega
      · omega
    have ho : stepp X w g r = ((1, 0), g, r) := by
      unfold stepp
      rw [if_pos hneg]
    rw [ho] at kk
    exact kk M (eqy.rfl' M) ⟨hk0, hw, hhw, R'⟩ (fun (q : (1 : Nat) = 2) => absurd q (by decide))
end PR3
/-! THE REFERENCE'S RUN: its texts, letters, exps -/
def lf (t : Nat) (z : Int) : Int := if z < 0 then -1 else 40 * (t : Int) + z
def kf (k : Int) : Int := if k = 1 then 20 else k - 10
def af (o : Int) : Int := if o = 0 then 4 else o
/-- the reference's text t -/
def rtx (M : rf_M) (t : Nat) (X : txT) (n cc : Nat) (en : Int) : Prop := gi M 358 t = lf t en ∧ (∀ s, s < n → gi M 360 (40 * t + s) = kf (X.1 0 s) ∧ gi M 361 (40 * t + s) = lf t (X.1 6 s) ∧ gi M 362 (40 * t + s) = lf t (X.1 3 s) ∧ gi M 363 (40 * t + s) = X.1 4 s ∧ (kxp (X.1 0 s) → gi M 364 (40 * t + s) = 200 * (t : Int) + X.1 2 s) ∧ (¬ kxp (X.1 0 s) → gi M 364 (40 * t + s) = -1) ∧ gi M 365 (40 * t + s) = lf t (X.1 7 s) ∧ gi M 366 (40 * t + s) = lf t (X.1 8 s) ∧ (X.1 0 s = 1 ∨ X.1 0 s = 17 → gi M 367 (40 * t + s) = X.1 1 s)) ∧ ∀ i, i < cc → gi M 368 (200 * t + i) = af (X.2.1 i) ∧ (X.2.1 i = 2 → gi M 369 (200 * t + i) = X.2.2 i) ∧ (X.2.1 i = 1 → gl M 370 (200 * t + i) = (Int32.ofInt (X.2.2 i)).toInt64)
theorem rtx.eq {M M' : rf_M} {t n cc : Nat} {X : txT} {en : Int} {P : Nat → Nat → Prop} (h : rtx M t X n cc en) (e : eqy P M M') (q : ∀ b k, 358 ≤ b → b ≤ 370 → ¬ P b k) : rtx M' t X n cc en := by
  obtain ⟨h1, h2, h3⟩ := h
  have qq : ∀ b k, 358 ≤ b → b ≤ 370 → gi M' b k = gi M b k := fun b k h1 h2 => e.i (q b k h1 h2)
  refine ⟨(qq _ _ (by omega) (by omega)).trans h1, fun s hs => ?_, fun i hi => ?_⟩
  · obtain ⟨a0, a1, a2, a3, a4, a5, a6, a7, a8⟩ := h2 s hs
    exact ⟨(qq _ _ (by omega) (by omega)).trans a0, (qq _ _ (by omega) (by omega)).trans a1, (qq _ _ (by omega) (by omega)).trans a2, (qq _ _ (by omega) (by omega)).trans a3, fun z => (qq _ _ (by omega) (by omega)).trans (a4 z), fun z => (qq _ _ (by omega) (by omega)).trans (a5 z), (qq _ _ (by omega) (by omega)).trans a6, (qq _ _ (by omega) (by omega)).trans a7, fun z => (qq _ _ (by omega) (by omega)).trans (a8 z)⟩
  · obtain ⟨a0, a1, a2⟩ := h3 i hi
    exact ⟨(qq _ _ (by omega) (by omega)).trans a0, fun z => (qq _ _ (by omega) (by omega)).trans (a1 z), fun z => (e.l (q _ _ (by omega) (by omega))).trans (a2 z)⟩
theorem lf_neg {t : Nat} {z : Int} (h : z < 0) : lf t z = -1 := if_pos h
theorem lf_nat (t x : Nat) : lf t (x : Int) = ((40 * t + x : Nat) : Int) := by
  unfold lf
  rw [if_neg (by omega)]
  omega
theorem bhd_neg (X : txT) : ∀ f, bhd X f (-1) = -1
  | 0 => rfl
  | f + 1 => by unfold bhd; rw [if_pos (by omega)]
theorem ard_neg (X : txT) (k : Int) : ∀ f, ard X k f (-1) = -1
  | 0 => rfl
  | f + 1 => by unfold ard; rw [if_pos (by omega)]
theorem kf_iff {k : Int} (h : knd k) : (kf k = 0 ↔ k = 10) ∧ (kf k = 2 ↔ k = 12) ∧ (kf k = 3 ↔ k = 13) ∧ (kf k = 4 ↔ k = 14) ∧ (kf k = 5 ↔ k = 15) ∧ (kf k = 7 ↔ k = 17) ∧ (kf k = 9 ↔ k = 19) ∧ (kf k = 20 ↔ k = 1) := by
  unfold knd at h
  unfold kf
  split <;> omega
section WR1
variable {M M' : rf_M} {t n cc : Nat} {X : txT} {en : Int} {K : Int → rf_M → Prop} {w : wdT} {m : mkT} {r : rdT}
theorem y_behind (hX : wfx X n cc en) (ht : rtx M t X n cc en) (ht12 : t < 12) {z : Int} (hz : plz n z) (kk : K (lf t (bhd X 9 z)) M) : em_W_behind (lf t z) M K := by
  have d9 : ∀ x : Nat, z = (x : Int) → X.1 5 x < 9 := fun x e => by
    rcases hz with q | ⟨y, q1, q2⟩
    · omega
    · have : x = y := by omega
      have w := (hX.2.2.2.2.2 x (by omega)).2.2.1
      omega
  generalize hR : bhd X 9 z = R at kk
  refine ⟨fun v M' => M' = M ∧ ∃ (y : Int) (f : Nat), v = lf t y ∧ plz n y ∧ bhd X f y = R ∧ ∀ x : Nat, y = (x : Int) → X.1 5 x < (f : Int), ⟨rfl, z, 9, rfl, hz, hR, d9⟩, ?_⟩
  rintro v M' - ⟨rfl, y, f, rfl, hy, hf, hd⟩
  rcases hy with rfl | ⟨x, rfl, hx⟩
  · rw [bhd_neg] at hf
    rw [lf_neg (by omega)]
    refine ⟨fun _ => ⟨fun q => absurd q (by omega), fun _ => ?_⟩, fun q => absurd (by omega) q⟩
    rw [← hf, lf_neg (by omega)] at kk
    exact kk
  · have hdx := hd x rfl
    have wx := hX.2.2.2.2.2 x hx
    obtain ⟨f, rfl⟩ : ∃ g, f = g + 1 := ⟨f - 1, by have := wx.2.2.1; omega⟩
    unfold bhd at hf
    rw [if_neg (by omega), tn_] at hf
    rw [lf_nat]
    obtain ⟨a0, a1, a2, a3, a4, a5, a6, a7, a8⟩ := ht.2.1 x hx
    have h0 : ¬ (((40 * t + x : Nat) : Int) < 0) := by omega
    refine ⟨fun q => absurd q h0, fun _ _ => ?_⟩
    rw [tn_, a1, a2]
    rcases wx.2.2.2.1 with w6 | ⟨y6, w6, w6n, w6p⟩
    · rw [if_neg (by omega)] at hf
      rw [w6, lf_neg (by omega)]
      refine ⟨fun q => absurd q (by omega), fun _ _ => ?_⟩
      rcases wx.1 with w1 | ⟨p, w1, w2, w3⟩
      · rw [w1.1, if_neg (by omega)] at hf
        rw [w1.1, lf_neg (by omega)]
        refine ⟨fun _ => ⟨rfl, -1, f, (lf_neg (by omega)).symm, Or.inl rfl, hf, fun x q => by omega⟩, fun q => absurd (by omega) q⟩
      · rw [w1, tn_] at hf
        rw [w1, lf_nat, tn_, (ht.2.1 p w2).1]
        refine ⟨fun q => absurd q (by omega), fun _ _ => ⟨fun e2 => ?_, fun e2 => ?_⟩⟩
        · rw [if_pos ⟨by omega, (kf_iff (hX.2.2.2.2.2 p w2).2.2.2.2.2.2.1).2.1.mp e2⟩] at hf
          rw [← hf, lf_nat] at kk
          exact kk
        · rw [if_neg (fun q => e2 ((kf_iff (hX.2.2.2.2.2 p w2).2.2.2.2.2.2.1).2.1.mpr q.2))] at hf
          exact ⟨rfl, (p : Int), f, (lf_nat t p).symm, Or.inr ⟨p, rfl, w2⟩, hf, fun x q => by rw [show x = p by omega]; omega⟩
    · rw [w6, if_pos (by omega)] at hf
      rw [w6, lf_nat]
      refine ⟨fun _ => ⟨fun _ _ => ?_, fun q => absurd (by omega) q⟩, fun q => absurd (by omega) q⟩
      rw [tn_, a1, w6]
      rw [← hf] at kk
      exact kk
theorem y_goIn {K : rf_M → Prop} (hX : wfx X n cc en) (ht : rtx M t X n cc en) (ht12 : t < 12) {s : Nat} {z : Int} (hs : s < n) (hz : lnk n z (fun _ => True)) (kk : ∀ M', M' = wi M 353 60 (lf t (gin X (s : Int) z)) → K M') : em_W_goIn ((40 * t + s : Nat) : Int) (lf t z) M K := by
  unfold gin at kk
  rw [tn_] at kk
  rcases hz with rfl | ⟨x, rfl, hx, -⟩
  · rw [if_neg (by omega)] at kk
    rw [lf_neg (by omega)]
    refine ⟨fun _ _ => ?_, fun q => absurd (by omega) q⟩
    rw [tn_, (ht.2.1 s hs).1]
    refine ⟨fun e M1 e1 => kk M1 ?_, fun e => ?_⟩
    · rw [if_pos ((kf_iff (hX.2.2.2.2.2 s hs).2.2.2.2.2.2.1).2.1.mp e), lf_nat]; exact e1
    · rw [if_neg (fun q => e ((kf_iff (hX.2.2.2.2.2 s hs).2.2.2.2.2.2.1).2.1.mpr q))] at kk
      have := y_behind (K := fun z1 M1 => e_W_goIn_28 z1 M1 K) hX ht ht12 (z := (s : Int)) (Or.inr ⟨s, rfl, hs⟩) (fun M1 e1 => kk M1 e1)
      rw [lf_nat] at this
      exact this
  · rw [if_pos (by omega)] at kk
    rw [lf_nat] at kk ⊢
    exact ⟨fun q => absurd q (by omega), fun _ M1 e1 => kk M1 e1⟩
theorem y_around (hX : wfx X n cc en) (ht : rtx M t X n cc en) (ht12 : t < 12) {z k k' : Int} (hk : ∀ p, p < n → (kf (X.1 0 p) = k' ↔ X.1 0 p = k)) (hz : plz n z) (kk : K (lf t (ard X k 9 z)) M) : em_W_around (lf t z) k' M K := by
  have d9 : ∀ x : Nat, z = (x : Int) → X.1 5 x < 9 := fun x e => by
    rcases hz with q | ⟨y, q1, q2⟩
    · omega
    · have : x = y := by omega
      have w := (hX.2.2.2.2.2 x (by omega)).2.2.1
      omega
  generalize hR : ard X k 9 z = R at kk
  refine ⟨fun v2 v3 M' => v2 = k' ∧ M' = M ∧ ∃ (y : Int) (f : Nat), v3 = lf t y ∧ plz n y ∧ ard X k f y = R ∧ ∀ x : Nat, y = (x : Int) → X.1 5 x < (f : Int), ⟨rfl, rfl, z, 9, rfl, hz, hR, d9⟩, ?_⟩
  rintro v2 v3 M' - - ⟨rfl, rfl, y, f, rfl, hy, hf, hd⟩
  rcases hy with rfl | ⟨x, rfl, hx⟩
  · rw [ard_neg] at hf
    rw [lf_neg (by omega)]
    refine ⟨fun _ => ?_, fun q => absurd (by omega) q⟩
    rw [← hf, lf_neg (by omega)] at kk
    exact kk
  · have hdx := hd x rfl
    have wx := hX.2.2.2.2.2 x hx
    obtain ⟨f, rfl⟩ : ∃ g, f = g + 1 := ⟨f - 1, by have := wx.2.2.1; omega⟩
    unfold ard at hf
    rw [if_neg (by omega), tn_] at hf
    rw [lf_nat]
    obtain ⟨a0, a1, a2, a3, a4, a5, a6, a7, a8⟩ := ht.2.1 x hx
    have h0 : ¬ (((40 * t + x : Nat) : Int) < 0) := by omega
    refine ⟨fun q => absurd q h0, fun _ _ => ?_⟩
    rw [tn_, a2, a3]
    rcases wx.1 with w1 | ⟨p, w1, w2, w3⟩
    · rw [w1.1, if_neg (by omega)] at hf
      rw [w1.1, lf_neg (by omega)]
      exact ⟨fun _ => ⟨rfl, rfl, -1, f, (lf_neg (by omega)).symm, Or.inl rfl, hf, fun x q => by omega⟩, fun q => absurd (by omega) q⟩
    · rw [w1, tn_] at hf
      rw [w1, lf_nat, tn_, (ht.2.1 p w2).1]
      have nx : ¬ ((0 : Int) ≤ (p : Int) ∧ X.1 0 p = k ∧ X.1 4 x = 0) → (v2 = v2 ∧ M' = M' ∧ ∃ (y : Int) (f : Nat), ((40 * t + p : Nat) : Int) = lf t y ∧ plz n y ∧ ard X k f y = R ∧ ∀ x : Nat, y = (x : Int) → X.1 5 x < (f : Int)) := fun ne => by
        rw [if_neg ne] at hf
        exact ⟨rfl, rfl, (p : Int), f, (lf_nat t p).symm, Or.inr ⟨p, rfl, w2⟩, hf, fun x q => by rw [show x = p by omega]; omega⟩
      refine ⟨fun q => absurd q (by omega), fun _ _ => ⟨fun e2 _ => ⟨fun e3 => ?_, fun e3 => nx (fun q => e3 q.2.2)⟩, fun e2 => nx (fun q => e2 ((hk p w2).mpr q.2.1))⟩⟩
      rw [if_pos ⟨by omega, (hk p w2).mp e2, e3⟩] at hf
      rw [← hf, lf_nat] at kk
      exact kk
def vwR (b k : Nat) : Prop := (b = 353 ∧ k = 52) ∨ b = 389 ∨ b = 390
def mR (M : rf_M) : mkT := (M.1 353 55, fun l => gl M 391 l, fun l => gl M 392 l, gi M 353 58)
theorem y_valueOf {z : Int} {d : Nat} {K : Int64 → rf_M → Prop} (hz : 0 ≤ z ∧ z < 26) (hd : gi M 353 42 = (d : Int)) (hd2 : d < 2) (hw : weq w (wR M d)) (hm : meq m (mR M)) (hr : req r (rR M)) (h0 : lval w m r z = none → ∀ M', eqy (fun b k => b = 353 ∧ k = 65) M M' → gi M' 353 65 = 2 → K 0 M') (h1 : ∀ v r' M', lval w m r z = some (v, r') → eqy vwR M M' → req r' (rR M') → K v M') : em_W_valueOf z M K := by
  obtain ⟨l, rfl⟩ : ∃ l : Nat, z = (l : Int) := ⟨z.toNat, by omega⟩
  unfold lval at h0 h1
  refine ⟨fun h => ?_, fun h => ⟨inr_z (by omega) (by omega), fun hb => ?_⟩⟩
  · have hl : l < 16 := by omega
    rw [if_pos ⟨by omega, h⟩, tn_] at h0
    rw [if_pos ⟨by omega, h⟩, tn_] at h1
    rw [tst_s _ hl, tst_s _ hl, gi_ofi, gi_ofi, show M.1 353 55 = m.1 from hm.1, show M.1 353 52 = r.1 from hr.1, tn_]
    refine ⟨fun hb _ => ?_, fun hb => ⟨fun hb2 => ?_, fun hb2 _ => ?_⟩⟩
    · have hb : bt m.1 l = true := by
        by_cases q : bt m.1 l = true
        · exact q
        · rw [if_neg q] at hb; exact absurd hb (by decide)
      rw [if_pos hb] at h1
      rw [show gl M 391 l = m.2.1 l from hm.2.1 l hl hb]
      exact h1 _ r M rfl (eqy.rfl' M) hr
    · have hb : ¬ bt m.1 l = true := fun q => hb (if_pos q)
      have hb2 : ¬ bt r.1 l = true := fun q => by rw [if_pos q] at hb2; exact absurd hb2 (by decide)
      rw [if_neg hb, if_neg hb2] at h0
      rw [if_neg hb, if_neg hb2] at h1
      have es : stale (wR M d) (rR M) = stale w r := stale_eq (fun l hl => (hw l hl).2) hr.1 (fun l hl b => (hr.2 l hl b).2)
      refine x_isChanged hd hd2 ?_
      rw [es]
      refine ⟨fun hz M2 e2 => ?_, fun hz M5 e5 => ?_⟩
      · have hs : ¬ stale w r = true := fun q => by rw [if_pos q] at hz; exact absurd hz (by decide)
        rw [if_neg hs] at h1
        have y2 : eqy vwR M M2 := by rw [e2]; exact (eqy.rfl' M).wi (Or.inl ⟨rfl, rfl⟩)
        have g2 : gi M2 353 42 = (d : Int) := (y2.i (by unfold vwR; omega)).trans hd
        rw [g2]
        have ex : (16 * (d : Int) + (l : Int)).toNat = 16 * d + l := by omega
        refine ⟨inr_z (by omega) (by omega), fun _ _ M3 e3 => ?_⟩
        rw [ex] at e3
        have y3 : eqy vwR M M3 := by rw [e3]; exact y2.wl (Or.inr (Or.inl rfl))
        have g3 : gi M3 353 42 = (d : Int) := (y3.i (by unfold vwR; omega)).trans hd
        rw [g3]
        refine ⟨inr_z (by omega) (by omega), fun _ _ M4 e4 _ => ?_⟩
        rw [ex] at e4
        have y4 : eqy vwR M M4 := by rw [e4]; exact y3.wi (Or.inr (Or.inr rfl))
        have v9 : gl M4 389 l = w.1 l := by
          rw [e4]
          show gl M3 389 l = _
          rw [e3, gl_at]
          exact (y2.l (by unfold vwR; omega)).trans (hw l hl).1
        rw [tn_, v9]
        refine h1 _ _ M4 rfl y4 ⟨?_, fun j hj b => ?_⟩
        · show M4.1 353 52 = bs r.1 l
          rw [e4]
          show (rf_wi M3 390 l _).1 353 52 = _
          rw [rf_wi_of _ _ (Or.inl (by omega)), e3]
          show M2.1 353 52 = _
          rw [e2]
          show (rf_wi M 353 52 _).1 353 52 = _
          rw [rf_wi_at, bs_lit _ hl, gi_ofi]
          exact congrArg (fun x => bs x l) hr.1
        · by_cases e : j = l
          · subst e
            refine ⟨v9.trans (va_up_at _ _ _).symm, ?_⟩
            show M4.1 390 j = va_up r.2.2 j (w.2 j) j
            rw [va_up_at, e4]
            show (rf_wi M3 390 j (Int32.ofInt (gi M3 377 (16 * d + j)))).1 390 j = _
            rw [rf_wi_at, gi_ofi]
            exact (y3.1 _ _ (by unfold vwR; omega)).1.trans (hw j hl).2
          · have b : bt (bs r.1 l) j = true := b
            rw [bt_bs hl hj] at b
            have b : bt r.1 j = true := by simpa [e] using b
            have q := hr.2 j hj b
            constructor
            · show gl M4 389 j = va_up r.2.1 l _ j
              rw [va_up_of e, e4]
              show gl M3 389 j = _
              rw [e3, gl_of (Or.inr e), e2]
              exact q.1
            · show M4.1 390 j = va_up r.2.2 l _ j
              rw [va_up_of e, e4]
              show (rf_wi M3 390 l _).1 390 j = _
              rw [rf_wi_of _ _ (Or.inr e), e3]
              show M2.1 390 j = _
              rw [e2]
              show (rf_wi M 353 52 _).1 390 j = _
              rw [rf_wi_of _ _ (Or.inl (by omega))]
              exact q.2
      · have hs : stale w r = true := by
          by_cases q : stale w r = true
          · exact q
          · rw [if_neg q] at hz; exact absurd rfl hz
        exact h0 (if_pos hs) M5 (by rw [e5]; exact (eqy.rfl' M).wi ⟨rfl, rfl⟩) (by rw [e5, gi_at (inr_z (by omega) (by omega))])
    · have hb : ¬ bt m.1 l = true := fun q => hb (if_pos q)
      have hb2 : bt r.1 l = true := by
        by_cases q : bt r.1 l = true
        · exact q
        · rw [if_neg q] at hb2; exact absurd rfl hb2
      rw [if_neg hb, if_pos hb2] at h1
      rw [tn_, show gl M 389 l = r.2.1 l from (hr.2 l hl hb2).1]
      exact h1 _ r M rfl (eqy.rfl' M) hr
  · rw [if_neg (by omega), if_pos (by omega), tn_] at h1
    rw [show ((l : Int) - 16).toNat = l - 16 by omega, show gl M 392 (l - 16) = m.2.2.1 (l - 16) from hm.2.2.1 _ (by omega)]
    exact h1 _ r M rfl (eqy.rfl' M) hr
theorem y_two {o : Int} {x y : Int64} {K : Int64 → rf_M → Prop} (ho : opk o) (h4 : ¬ (o = 0 ∨ o = 1 ∨ o = 2 ∨ o = 3)) (h0 : jn o x y = none → ∀ M', eqy (fun b k => b = 353 ∧ (k = 65 ∨ k = 66)) M M' → gi M' 353 65 = 1 → gl M' 353 66 = -1 → K 0 M') (h1 : ∀ v, jn o x y = some v → K v M) : em_W_two o x y M K := by
  unfold jn at h0 h1
  refine ⟨fun e => ⟨fun h => ?_, fun h => ?_⟩, fun e => ?_, fun e => ?_, fun e => ?_, fun e => ⟨fun h => ?_, fun h => ?_⟩, fun e => ⟨fun h => ?_, fun h => ?_⟩, fun e => ?_⟩
  · subst e
    refine h1 _ ?_
    rw [if_neg (by decide), if_neg (by decide), if_neg (by decide), if_neg (by decide), if_neg (by decide), if_neg (by decide), if_neg (by decide), if_pos ((lgc0 _ _).mp h)]
    rfl
  · subst e
    refine h1 _ ?_
    rw [if_neg (by decide), if_neg (by decide), if_neg (by decide), if_neg (by decide), if_neg (by decide), if_neg (by decide), if_neg (by decide), if_neg (fun q => h ((lgc0 _ _).mpr q))]
    rfl
  · subst e; exact h1 _ rfl
  · subst e; exact h1 _ rfl
  · subst e; exact h1 _ rfl
  · subst e
    refine h1 _ ?_
    rw [if_pos rfl, if_neg ((lgcn _ _).mp h)]
    rfl
  · subst e
    refine h1 _ ?_
    rw [if_pos rfl, if_pos (Classical.not_not.mp (fun q => h ((lgcn _ _).mpr q)))]
    rfl
  · subst e
    refine h1 _ ?_
    rw [if_neg (by decide), if_pos rfl, if_pos ((lgc0 _ _).mp h)]
    rfl
  · subst e
    refine h1 _ ?_
    rw [if_neg (by decide), if_pos rfl, if_neg (fun q => h ((lgc0 _ _).mpr q))]
    rfl
  · have eo : o = 47 ∨ o = 37 := by unfold opk at ho; omega
    refine ⟨fun hz M1 e1 M2 e2 => ?_, fun hz => ⟨fun h47 => ⟨fun hm => ?_, fun hm hne => ?_⟩, fun h47 => ⟨fun hm => ?_, fun hm hne => ?_⟩⟩⟩
    · refine h0 ?_ M2 ?_ ?_ ?_
      · have hz := (lgz _).mp hz
        rcases eo with rfl | rfl
        · rw [if_neg (by decide), if_neg (by decide), if_neg (by decide), if_neg (by decide), if_neg (by decide), if_pos rfl, if_pos hz]
        · rw [if_neg (by decide), if_neg (by decide), if_neg (by decide), if_neg (by decide), if_neg (by decide), if_neg (by decide), if_pos rfl, if_pos hz]
      · rw [e2, e1]
        exact ((eqy.rfl' M).wi ⟨rfl, Or.inl rfl⟩).wl ⟨rfl, Or.inr rfl⟩
      · rw [e2, gi_wl, e1, gi_at (inr_z (by omega) (by omega))]
      · rw [e2, gl_at, m1_lit]
    · have hm := (lgc0 _ _).mp hm
      rw [m1_lit] at hm
      subst h47; subst hm
      refine h1 _ ?_
      rw [if_neg (by decide), if_neg (by decide), if_neg (by decide), if_neg (by decide), if_neg (by decide), if_pos rfl, if_neg (fun q => hz ((lgz _).mpr q)), dv1]
    · subst h47
      refine h1 _ ?_
      rw [if_neg (by decide), if_neg (by decide), if_neg (by decide), if_neg (by decide), if_neg (by decide), if_pos rfl, if_neg (fun q => hz ((lgz _).mpr q))]
    · have hm := (lgc0 _ _).mp hm
      rw [m1_lit] at hm
      have h37 : o = 37 := by omega
      subst h37; subst hm
      refine h1 _ ?_
      rw [if_neg (by decide), if_neg (by decide), if_neg (by decide), if_neg (by decide), if_neg (by decide), if_neg (by decide), if_pos rfl, if_neg (fun q => hz ((lgz _).mpr q)), md1]
      rfl
    · have h37 : o = 37 := by omega
      subst h37
      refine h1 _ ?_
      rw [if_neg (by decide), if_neg (by decide), if_neg (by decide), if_neg (by decide), if_neg (by decide), if_neg (by decide), if_pos rfl, if_neg (fun q => hz ((lgz _).mpr q))]
end WR1
/-! THE REFERENCE'S RUN: exps, marks -/
def wkW (b k : Nat) : Prop := (b = 353 ∧ (k = 52 ∨ k = 65 ∨ k = 66)) ∨ b = 389 ∨ b = 390 ∨ b = 398
def kR (M : rf_M) (s : Nat) : mkT := (M.1 394 s, fun l => gl M 395 (16 * s + l), fun l => gl M 396 (10 * s + l), gi M 397 s)
def vR (M : rf_M) (t : Nat) : vwT := (mR M, fun j => gi M 393 j, fun h => kR M (40 * t + h))
section WR2
variable {M M' : rf_M} {t n cc : Nat} {X : txT} {en : Int} {w : wdT} {m : mkT} {r : rdT}
theorem meq.eqR {P : Nat → Nat → Prop} (h : meq m (mR M)) (e : eqy P M M') (q : ∀ b k, (b = 353 ∧ (k = 55 ∨ k = 58)) ∨ b = 391 ∨ b = 392 → ¬ P b k) : meq m (mR M') := ⟨(e.1 _ _ (q _ _ (by omega))).1.trans h.1, fun l hl b => (e.l (q _ _ (by omega))).trans (h.2.1 l hl b), fun l hl => (e.l (q _ _ (by omega))).trans (h.2.2.1 l hl), (e.i (q _ _ (by omega))).trans h.2.2.2⟩
theorem req.eqR {P : Nat → Nat → Prop} (h : req r (rR M)) (e : eqy P M M') (q : ∀ b k, (b = 353 ∧ k = 52) ∨ b = 389 ∨ b = 390 → ¬ P b k) : req r (rR M') := ⟨(e.1 _ _ (q _ _ (by omega))).1.trans h.1, fun l hl b => ⟨(e.l (q _ _ (by omega))).trans (h.2 l hl b).1, (e.1 _ _ (q _ _ (by omega))).1.trans (h.2 l hl b).2⟩⟩
theorem weq.eqR {P : Nat → Nat → Prop} {d : Nat} (h : weq w (wR M d)) (e : eqy P M M') (q : ∀ b k, b = 376 ∨ b = 377 → ¬ P b k) : weq w (wR M' d) := fun l hl => ⟨(e.l (q _ _ (by omega))).trans (h l hl).1, (e.1 _ _ (q _ _ (by omega))).1.trans (h l hl).2⟩
theorem y_work {e rule : Int} {d : Nat} {K : Int64 → rf_M → Prop} (hX : wfx X n cc en) (ht : rtx M t X n cc en) (ht12 : t < 12) (hc : cdo X cc e) (hL : (rule = 0 ∧ gi M 353 42 = (d : Int) ∧ d < 2 ∧ weq w (wR M d) ∧ meq m (mR M)) ∨ (rule = 1 ∧ ∀ l, l < 16 → bt m.1 l = true ∧ m.2.1 l = gl M 399 l)) (hr : req r (rR M)) (h65 : gi M 353 65 = 0) (kk : ∀ z M', eqy wkW M M' → req (evc X.2.1 X.2.2 w m 161 e.toNat [] r).2 (rR M') → ((evc X.2.1 X.2.2 w m 161 e.toNat [] r).1.1 = 1 → gi M' 353 65 = 2) → ((evc X.2.1 X.2.2 w m 161 e.toNat [] r).1.1 = 2 → gi M' 353 65 = 1 ∧ gl M' 353 66 = -1) → ((evc X.2.1 X.2.2 w m 161 e.toNat [] r).1.1 ≠ 1 → (evc X.2.1 X.2.2 w m 161 e.toNat [] r).1.1 ≠ 2 → gi M' 353 65 = 0 ∧ z = (evc X.2.1 X.2.2 w m 161 e.toNat [] r).1.2) → K z M') : em_W_work (200 * (t : Int) + e) rule M K := by
  obtain ⟨c0, c1, k, ck, c2, c3⟩ := hc
  obtain ⟨e, rfl⟩ : ∃ x : Nat, e = (x : Int) := ⟨e.toNat, by omega⟩
  rw [tn_] at c1 c2 c3 kk
  generalize hE : evc X.2.1 X.2.2 w m 161 e [] r = E at kk
  have hcc := hX.2.1
  refine ⟨fun v2 v3 v4 M' => v2 = rule ∧ eqy wkW M M' ∧ (0 ≤ v4 ∧ v4 ≤ 2400) ∧ ((∃ (i f : Nat) (st : List Int64) (r' : rdT), v4 = 200 * (t : Int) + (i : Int) ∧ v3 = (st.length : Int) ∧ gi M' 353 65 = 0 ∧ req r' (rR M') ∧ stkL M' 398 st ∧ evc X.2.1 X.2.2 w m f i st r' = E ∧ (e ≤ i ∧ i ≤ e + k ∧ e + k < i + f) ∧ (st ≠ [] ∨ i = e) ∧ st.length + e ≤ i) ∨ (¬ gi M' 353 65 = 0 ∧ req E.2 (rR M') ∧ ((E.1.1 = 1 ∧ gi M' 353 65 = 2) ∨ (E.1.1 = 2 ∧ gi M' 353 65 = 1 ∧ gl M' 353 66 = -1)))), ⟨rfl, eqy.rfl' M, ⟨by omega, by omega⟩, Or.inl ⟨e, 161, [], r, rfl, rfl, h65, hr, trivial, hE, ⟨by omega, by omega, by omega⟩, Or.inr rfl, by simp⟩⟩, ?_⟩
  rintro v2 v3 v4 M' - - - ⟨rfl, y, hv4, hcase⟩
  rcases hcase with ⟨i, f, st, r', rfl, rfl, g65, hr', hs, hev, ⟨hi0, hi1, hi2⟩, hne, hle⟩ | ⟨g65, hr', hen⟩
  · have ht' := ht.eq y (fun b k h1 h2 => by unfold wkW; omega)
    have hicc : i < cc := by omega
    obtain ⟨f, rfl⟩ : ∃ g, f = g + 1 := ⟨f - 1, by omega⟩
    obtain ⟨hop, hlt⟩ := hX.2.2.2.1 i hicc
    obtain ⟨b0, b1, b2⟩ := ht'.2.2 i hicc
    have ex : (200 * (t : Int) + (i : Int)).toNat = 200 * t + i := by omega
    refine fun _ => ?_
    rw [ex, b0]
    unfold evc at hev
    have haf : (af (X.2.1 i) = 4 ↔ X.2.1 i = 0) ∧ (X.2.1 i ≠ 0 → af (X.2.1 i) = X.2.1 i) := by
      unfold af
      unfold opk at hop
      constructor
      · split <;> omega
      · intro q; rw [if_neg q]
    refine ⟨fun z0 => ?_, fun z0 => ⟨fun _ _ => ?_, fun q => absurd g65 q⟩⟩
    · have z0 := haf.1.mp z0
      rw [if_pos z0] at hev
      have hst2 : st ≠ [] := by
        rcases hne with q | q
        · exact q
        · rw [q] at z0; omega
      refine ⟨fun _ _ => ?_, fun q => absurd g65 q⟩
      refine kk _ M' y (by rw [← hev]; exact hr') (fun q => by rw [← hev] at q; have q : (0 : Nat) = 1 := q; exact absurd q (by decide)) (fun q => by rw [← hev] at q; have q : (0 : Nat) = 2 := q; exact absurd q (by decide)) (fun _ _ => ⟨g65, ?_⟩)
      rw [← hev]
      exact hs.last hst2
    have z0 : ¬ X.2.1 i = 0 := fun q => z0 (haf.1.mpr q)
    rw [haf.2 z0]
    rw [if_neg z0] at hev
    have hik : i < e + k := by
      by_cases e3 : i = e + k
      · rw [e3] at z0; exact absurd c2 z0
      · omega
    have nxt : ∀ (N : rf_M) (v3 : Int) (st2 : List Int64) (r2 : rdT), eqy wkW M N → gi N 353 65 = 0 → req r2 (rR N) → stkL N 398 st2 → evc X.2.1 X.2.2 w m f (i + 1) st2 r2 = E → st2 ≠ [] → v3 = (st2.length : Int) → st2.length + e ≤ i + 1 → e_W_work_162 v2 v3 (200 * (t : Int) + (i : Int)) N (fun v2' v3 v4 M' => v2' = v2 ∧ eqy wkW M M' ∧ (0 ≤ v4 ∧ v4 ≤ 2400) ∧ ((∃ (i f : Nat) (st : List Int64) (r' : rdT), v4 = 200 * (t : Int) + (i : Int) ∧ v3 = (st.length : Int) ∧ gi M' 353 65 = 0 ∧ req r' (rR M') ∧ stkL M' 398 st ∧ evc X.2.1 X.2.2 w m f i st r' = E ∧ (e ≤ i ∧ i ≤ e + k ∧ e + k < i + f) ∧ (st ≠ [] ∨ i = e) ∧ st.length + e ≤ i) ∨ (¬ gi M' 353 65 = 0 ∧ req E.2 (rR M') ∧ ((E.1.1 = 1 ∧ gi M' 353 65 = 2) ∨ (E.1.1 = 2 ∧ gi M' 353 65 = 1 ∧ gl M' 353 66 = -1))))) K := fun N v3 st2 r2 q1 q0 q2 q3 q4 q5 q6 q7 => by
      refine ⟨inr_z (by omega) (by omega), rfl, q1, ⟨by omega, by omega⟩, Or.inl ⟨i + 1, f, st2, r2, by omega, q6, q0, q2, q3, q4, ⟨by omega, by omega, by omega⟩, Or.inl q5, q7⟩⟩
    have stop : ∀ (N : rf_M) (v3 : Int), eqy wkW M N → ¬ gi N 353 65 = 0 → req E.2 (rR N) → ((E.1.1 = 1 ∧ gi N 353 65 = 2) ∨ (E.1.1 = 2 ∧ gi N 353 65 = 1 ∧ gl N 353 66 = -1)) → e_W_work_162 v2 v3 (200 * (t : Int) + (i : Int)) N (fun v2' v3 v4 M' => v2' = v2 ∧ eqy wkW M M' ∧ (0 ≤ v4 ∧ v4 ≤ 2400) ∧ ((∃ (i f : Nat) (st : List Int64) (r' : rdT), v4 = 200 * (t : Int) + (i : Int) ∧ v3 = (st.length : Int) ∧ gi M' 353 65 = 0 ∧ req r' (rR M') ∧ stkL M' 398 st ∧ evc X.2.1 X.2.2 w m f i st r' = E ∧ (e ≤ i ∧ i ≤ e + k ∧ e + k < i + f) ∧ (st ≠ [] ∨ i = e) ∧ st.length + e ≤ i) ∨ (¬ gi M' 353 65 = 0 ∧ req E.2 (rR M') ∧ ((E.1.1 = 1 ∧ gi M' 353 65 = 2) ∨ (E.1.1 = 2 ∧ gi M' 353 65 = 1 ∧ gl M' 353 66 = -1))))) K := fun N v3 q1 q0 q2 q3 => ⟨inr_z (by omega) (by omega), rfl, q1, ⟨by omega, by omega⟩, Or.inr ⟨q0, q2, q3⟩⟩
    have w98 : ∀ {N N' : rf_M} {j : Nat} {v : Int64}, N' = wl N 398 j v → eqy (fun b _ => b = 398) N N' := fun q => by rw [q]; exact (eqy.rfl' _).wl rfl
    have c98 : ∀ b k, b = 398 → wkW b k := fun b k h => Or.inr (Or.inr (Or.inr h))
    refine ⟨fun z1 _ h64 M5 e5 => ?_, fun z1 => ⟨fun z2 => ⟨fun hv _ => ?_, fun hv _ _ => ?_⟩, fun z2 => ⟨fun z3 => ⟨inr_z (by omega) (by omega), fun h64 => ⟨inr_z (by omega) (by omega), fun _ M3 e3 => ?_⟩⟩, fun z3 => ?_⟩⟩⟩
    · rw [if_pos z1] at hev
      rw [tn_, b2 z1] at e5
      have y5 := w98 e5
      refine ⟨inr_z (by omega) (by omega), nxt M5 _ ((Int32.ofInt (X.2.2 i)).toInt64 :: st) r' (y.trans (y5.mono c98)) ((y5.i (by omega)).trans g65) (hr'.eqR y5 (fun b k h => by omega)) ⟨by rw [e5, gl_at], hs.eq (fun k hk => by rw [e5, gl_of (Or.inr (by omega))])⟩ hev (by simp) (by simp) (by simp; omega)⟩
    · rw [if_neg z1, if_pos z2] at hev
      rw [b1 z2]
      rcases hL with ⟨-, hd, hd2, hw, hm⟩ | ⟨q, -⟩
      · refine y_valueOf (hlt z2) ((y.i (by unfold wkW; omega)).trans hd) hd2 (hw.eqR y (fun b k h => by unfold wkW; omega)) (hm.eqR y (fun b k h => by unfold wkW; omega)) hr' (fun hn N y1 q1 => ?_) (fun v r2 N hl q1 q2 => ?_)
        · rw [hn] at hev
          intro h64 M6 e6
          have y6 := w98 e6
          refine ⟨inr_z (by omega) (by omega), stop M6 _ ((y.trans (y1.mono (fun b k h => Or.inl ⟨h.1, Or.inr (Or.inl h.2)⟩))).trans (y6.mono c98)) (by rw [y6.i (by omega), q1]; decide) ?_ (Or.inl ⟨by rw [← hev], (y6.i (by omega)).trans q1⟩)⟩
          rw [← hev]
          exact (hr'.eqR y1 (fun b k h => by omega)).eqR y6 (fun b k h => by omega)
        · rw [hl] at hev
          intro h64 M6 e6
          rw [tn_] at e6
          have y6 := w98 e6
          refine ⟨inr_z (by omega) (by omega), nxt M6 _ (v :: st) r2 ((y.trans (q1.mono (fun b k h => by unfold vwR at h; unfold wkW; omega))).trans (y6.mono c98)) ((y6.i (by omega)).trans ((q1.i (by unfold vwR; omega)).trans g65)) (q2.eqR y6 (fun b k h => by omega)) ⟨by rw [e6, gl_at], hs.eq (fun k hk => by rw [e6, gl_of (Or.inr (by omega))]; exact q1.l (by unfold vwR; omega))⟩ hev (by simp) (by simp) (by simp; omega)⟩
      · omega
    · rw [if_neg z1, if_pos z2] at hev
      rcases hL with ⟨q, -⟩ | ⟨-, hV⟩
      · exact absurd q hv
      · rename_i h16
        rw [b1 z2] at h16 ⊢
        obtain ⟨l, hl⟩ : ∃ l : Nat, X.2.2 i = (l : Int) := ⟨(X.2.2 i).toNat, by omega⟩
        rw [hl] at hev h16 ⊢
        have hv' := hV l (by omega)
        have hlv : lval w m r' (l : Int) = some (m.2.1 l, r') := by
          unfold lval
          rw [if_pos ⟨by omega, by omega⟩, tn_, if_pos hv'.1]
        rw [hlv] at hev
        intro h64 M6 e6
        rw [tn_, tn_, show gl M' 399 l = m.2.1 l from (y.l (by unfold wkW; omega)).trans hv'.2.symm] at e6
        have y6 := w98 e6
        refine ⟨inr_z (by omega) (by omega), nxt M6 _ (m.2.1 l :: st) r' (y.trans (y6.mono c98)) ((y6.i (by omega)).trans g65) (hr'.eqR y6 (fun b k h => by omega)) ⟨by rw [e6, gl_at], hs.eq (fun k hk => by rw [e6, gl_of (Or.inr (by omega))])⟩ hev (by simp) (by simp) (by simp; omega)⟩
    · rw [if_neg z1, if_neg z2, if_pos z3] at hev
      cases st with
      | nil => exact absurd h64.1 (by simp)
      | cons x st =>
        have ej : (((x :: st).length : Nat) : Int) - 1 = (st.length : Int) := by simp
        rw [ej, tn_, hs.1] at e3
        have y3 := w98 e3
        exact nxt M3 _ ((-x) :: st) r' (y.trans (y3.mono c98)) ((y3.i (by omega)).trans g65) (hr'.eqR y3 (fun b k h => by omega)) ⟨by rw [e3, gl_at], hs.2.eq (fun k hk => by rw [e3, gl_of (Or.inr (by omega))])⟩ hev (by simp) (by simp) (by simp at hle ⊢; omega)
    · rw [if_neg z1, if_neg z2, if_neg z3] at hev
      refine ⟨inr_z (by omega) (by omega), fun h64 => ⟨inr_z (by omega) (by omega), fun h64' => ?_⟩⟩
      match st, hs, hev, hne, h64, h64' with
      | [], _, _, _, h64, _ => exact absurd h64.1 (by simp)
      | [x], _, _, _, h64, _ => exact absurd h64.1 (by simp)
      | x :: y' :: st, hs, hev, hne, h64, h64' =>
        have ej : (((x :: y' :: st).length : Nat) : Int) + -1 - 1 = (st.length : Int) := by simp; omega
        have ej2 : (((x :: y' :: st).length : Nat) : Int) + -1 = ((st.length + 1 : Nat) : Int) := by simp; omega
        rw [ej, ej2, tn_, tn_, hs.2.1, show gl M' 398 (st.length + 1) = x from hs.1]
        refine y_two hop (by omega) (fun hj N y1 q1 q2 => ?_) (fun v hj => ?_)
        · have hev : (match jn (X.2.1 i) y' x with | none => ((2, 0), r') | some v => evc X.2.1 X.2.2 w m f (i + 1) (v :: st) r') = E := hev
          rw [hj] at hev
          refine ⟨inr_z (by omega) (by omega), fun _ M2 e2 => ?_⟩
          have y2 := w98 e2
          refine stop M2 _ ((y.trans (y1.mono (fun b k h => Or.inl ⟨h.1, Or.inr h.2⟩))).trans (y2.mono c98)) (by rw [y2.i (by omega), q1]; decide) ?_ (Or.inr ⟨by rw [← hev], (y2.i (by omega)).trans q1, (y2.l (by omega)).trans q2⟩)
          rw [← hev]
          exact (hr'.eqR y1 (fun b k h => by omega)).eqR y2 (fun b k h => by omega)
        · have hev : (match jn (X.2.1 i) y' x with | none => ((2, 0), r') | some v => evc X.2.1 X.2.2 w m f (i + 1) (v :: st) r') = E := hev
          rw [hj] at hev
          refine ⟨inr_z (by omega) (by omega), fun _ M2 e2 => ?_⟩
          have y2 := w98 e2
          exact nxt M2 _ (v :: st) r' (y.trans (y2.mono c98)) ((y2.i (by omega)).trans g65) (hr'.eqR y2 (fun b k h => by omega)) ⟨by rw [e2, gl_at], hs.2.2.eq (fun k hk => by rw [e2, gl_of (Or.inr (by omega))])⟩ hev (by simp) (by simp) (by simp at hle ⊢; omega)
  · have fin : e_W_work_168 M' K := ⟨fun q => absurd q g65, fun _ => kk _ M' y hr' (fun q => by
      rcases hen with h | h
      · exact h.2
      · omega) (fun q => by
      rcases hen with h | h
      · omega
      · exact h.2) (fun q1 q2 => by
      rcases hen with h | h
      · exact absurd h.1 q1
      · exact absurd h.1 q2)⟩
    exact fun _ => ⟨fun _ => fin, fun _ => ⟨fun q => absurd q g65, fun _ => fin⟩⟩
end WR2
