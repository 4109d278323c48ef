/-! THE CHECKER OF SAFETY: a walk over bounds. Values are signs: an int is a ghost plus a number, or a number; longs and references are ghosts; what is known of ghosts stands in sxE. Cells lie in regions; a region says what lies in its cells at all times. -/
/-- a sign: ghost s plus c; a number; a long ghost; null; a reference ghost -/
abbrev sxV : Type := (Nat × Int) ⊕ Int ⊕ Nat ⊕ Option Nat
/-- what may lie in a slot: an int within bounds; anything; a reference into a region, or null too -/
abbrev sxF : Type := (Int × Int) ⊕ Option (Nat × Bool)
/-- a region: objects of a kind, with their fields; arrays of a type and length, with their elements -/
abbrev sxR : Type := (Nat × List sxF) ⊕ (FieldType × Nat × sxF)
/-- what is known: bounds of int ghosts; bounds of long ghosts, whether not 0; regions of references, whether null may be; fields; comparisons with 0 -/
abbrev sxE : Type := List (Int × Int) × List (Int × Int × Bool) × List (Nat × Bool) × List ((Nat × Nat) × sxV) × List (Nat × Nat)
abbrev sxW : Type := List Int × List Int64 × List (Option Nat)
/-- what lies in slot k of the cells of region g -/
def sx_fa (G : List sxR) (g k : Nat) : Option sxF := match G[g]? with
  | some ((.inl (_, fs))) => fs[k]?
  | some ((.inr (_, len, e))) => if k < len then some e else none
  | none => none
def sx_sh (G : List sxR) (g : Nat) (s : rf_S) : Prop := match G[g]? with
  | some ((.inl (ci, _))) => s = .inl ci
  | some ((.inr (ty, len, _))) => s = .inr (ty, len)
  | none => True
/-- the world: program, regions, the region of a cell, shapes, the memory of old -/
abbrev sxU : Type := { u : rf_C × List sxR × (Nat → Nat) × gS × rf_M // 0 < u.1.2.2.2.2 ∧ ∀ a, u.1.2.2.2.2 ≤ a → a < u.2.2.2.1.2.1 → sx_sh u.2.1 (u.2.2.1 a) (u.2.2.2.1.1 a) }
def sx_v (W : sxW) (x : sxV) (v : Value) : Prop := match x with
  | (.inl (s, c)) => ∃ (z : Int32) (y : Int), v = .int z ∧ W.1[s]? = some y ∧ z.toInt = y + c
  | (.inr (.inl c)) => ∃ z : Int32, v = .int z ∧ z.toInt = c
  | (.inr (.inr (.inl s))) => ∃ y : Int64, v = .long y ∧ W.2.1[s]? = some y
  | (.inr (.inr (.inr (some s)))) => ∃ o : Option Nat, v = va_rf o ∧ W.2.2[s]? = some o
  | (.inr (.inr (.inr none))) => v = .null
def sx_vs (W : sxW) : List sxV → List Value → Prop
  | [], [] => True
  | x :: xs, v :: vs => sx_v W x v ∧ sx_vs W xs vs
  | _, _ => False
/-- what lies in a slot of the frame: none where nothing is known -/
def sx_ld (sl : List (Option sxV)) (j : Nat) : Option sxV := match sl[j]? with
  | some x => x
  | none => none
def sx_ls (W : sxW) (sl : List (Option sxV)) (ls : rf_L) : Prop := ∀ j x, sx_ld sl j = some x → ∃ v, rf_ld ls j = some v ∧ sx_v W x v
/-- b is a cell of region g -/
def sx_rc (U : sxU) (g b : Nat) : Prop := U.1.1.2.2.2.2 ≤ b ∧ b < U.1.2.2.2.1.2.1 ∧ U.1.2.2.1 b = g
def sx_f (U : sxU) (M : rf_M) (a k : Nat) (f : sxF) : Prop := match f with
  | (.inl (lo, hi)) => lo ≤ (M.1 a k).toInt ∧ (M.1 a k).toInt ≤ hi
  | (.inr none) => True
  | (.inr (some (g, nul))) => match M.2.2 a k with
    | none => nul = true
    | some b => sx_rc U g b
def sx_same (M M' : rf_M) (a k : Nat) : Prop := M'.1 a k = M.1 a k ∧ M'.2.1 a k = M.2.1 a k ∧ M'.2.2 a k = M.2.2 a k
/-- all is as the regions say; the old cells are as they were -/
def sx_in (U : sxU) (M : rf_M) : Prop := (∀ a k f, U.1.1.2.2.2.2 ≤ a → a < U.1.2.2.2.1.2.1 → sx_fa U.1.2.1 (U.1.2.2.1 a) k = some f → sx_f U M a k f) ∧ ∀ a k, a < U.1.1.2.2.2.2 → sx_same U.1.2.2.2.2 M a k
/-- all slots outside of md are as they were -/
def sx_fr (U : sxU) (md : List (Nat × Nat)) (M M' : rf_M) : Prop := ∀ a k, (a < U.1.1.2.2.2.2 ∨ ((U.1.2.2.1 a, 0) ∉ md ∧ (U.1.2.2.1 a, k + 1) ∉ md)) → sx_same M M' a k
def sx_rd (x : sxV) (M : rf_M) (a k : Nat) : Value := match x with
  | (.inl (_, _)) => .int (M.1 a k)
  | (.inr (.inl _)) => .int (M.1 a k)
  | (.inr (.inr (.inl _))) => .long (M.2.1 a k)
  | (.inr (.inr (.inr (some _)))) => va_rf (M.2.2 a k)
  | (.inr (.inr (.inr none))) => va_rf (M.2.2 a k)
def sx_e (U : sxU) (W : sxW) (E : sxE) (M : rf_M) : Prop :=
  (W.1.length = E.1.length) ∧
  (W.2.1.length = E.2.1.length) ∧
  (W.2.2.length = E.2.2.1.length) ∧
  (∀ (s : Nat) (b : Int × Int), E.1[s]? = some b → ∃ y, W.1[s]? = some y ∧ b.1 ≤ y ∧ y ≤ b.2) ∧
  (∀ (s : Nat) (b : Int × Int × Bool), E.2.1[s]? = some b → ∃ y : Int64, W.2.1[s]? = some y ∧ b.1 ≤ y.toInt ∧ y.toInt ≤ b.2.1 ∧ (b.2.2 = true → y ≠ 0)) ∧
  (∀ (s : Nat) (b : Nat × Bool), E.2.2.1[s]? = some b → ∃ o : Option Nat, W.2.2[s]? = some o ∧ (match o with | none => b.2 = true | some a => sx_rc U b.1 a)) ∧
  (∀ (s k : Nat) (x : sxV), ((s, k), x) ∈ E.2.2.2.1 → ∃ a ci, W.2.2[s]? = some (some a) ∧ U.1.1.2.2.2.2 ≤ a ∧ U.1.2.2.2.1.1 a = .inl ci ∧ sx_v W x (sx_rd x M a k)) ∧
  (∀ (t s : Nat), (t, s) ∈ E.2.2.2.2 → ∃ (y : Int) (z : Int64), W.1[t]? = some y ∧ W.2.1[s]? = some z ∧ (y = 0 ↔ z = 0))
def sx_le (W W' : sxW) : Prop := (∀ (s : Nat) (y : Int), W.1[s]? = some y → W'.1[s]? = some y) ∧ (∀ (s : Nat) (y : Int64), W.2.1[s]? = some y → W'.2.1[s]? = some y) ∧ (∀ (s : Nat) (y : Option Nat), W.2.2[s]? = some y → W'.2.2[s]? = some y)
theorem sx_le_rfl (W : sxW) : sx_le W W := ⟨fun _ _ h => h, fun _ _ h => h, fun _ _ h => h⟩
theorem sx_le.trans {W W' W'' : sxW} (a : sx_le W W') (b : sx_le W' W'') : sx_le W W'' := ⟨fun s y h => b.1 s y (a.1 s y h), fun s y h => b.2.1 s y (a.2.1 s y h), fun s y h => b.2.2 s y (a.2.2 s y h)⟩
theorem sx_v.mono {W W' : sxW} (hw : sx_le W W') {x : sxV} {v : Value} (h : sx_v W x v) : sx_v W' x v := by
  rcases x with ⟨s, c⟩ | c | s | (_ | s)
  · obtain ⟨z, y, h1, h2, h3⟩ := h; exact ⟨z, y, h1, hw.1 _ _ h2, h3⟩
  · exact h
  · obtain ⟨y, h1, h2⟩ := h; exact ⟨y, h1, hw.2.1 _ _ h2⟩
  · exact h
  · obtain ⟨y, h1, h2⟩ := h; exact ⟨y, h1, hw.2.2 _ _ h2⟩
theorem sx_vs.mono {W W' : sxW} (hw : sx_le W W') : ∀ {xs : List sxV} {vs : List Value}, sx_vs W xs vs → sx_vs W' xs vs
  | [], [], _ => trivial
  | _ :: _, _ :: _, h => ⟨h.1.mono hw, sx_vs.mono hw h.2⟩
  | [], _ :: _, h => h.elim
  | _ :: _, [], h => h.elim
theorem sx_ls.mono {W W' : sxW} (hw : sx_le W W') {sl : List (Option sxV)} {ls : rf_L} (h : sx_ls W sl ls) : sx_ls W' sl ls := fun j x hj => by
  obtain ⟨v, h1, h2⟩ := h j x hj
  exact ⟨v, h1, h2.mono hw⟩
theorem sx_snoc {α : Type} {l : List α} {a b : α} {s : Nat} (h : (l ++ [a])[s]? = some b) : l[s]? = some b ∨ (s = l.length ∧ b = a) := by
  by_cases hs : s < l.length
  · rw [List.getElem?_append_left hs] at h; exact Or.inl h
  · rw [List.getElem?_append_right (by omega)] at h
    by_cases h0 : s - l.length = 0
    · rw [h0] at h
      simp only [List.getElem?_cons_zero, Option.some.injEq] at h
      exact Or.inr ⟨by omega, h.symm⟩
    · obtain ⟨t, ht⟩ : ∃ t, s - l.length = t + 1 := ⟨s - l.length - 1, by omega⟩
      rw [ht] at h
      simp at h
theorem sx_old {α : Type} {l : List α} {a b : α} {s : Nat} (h : l[s]? = some b) : (l ++ [a])[s]? = some b := by
  obtain ⟨hs, h2⟩ := List.getElem?_eq_some_iff.mp h
  rw [List.getElem?_append_left hs]; exact h
theorem sx_end {α : Type} (l : List α) (a : α) : (l ++ [a])[l.length]? = some a := by simp
def sx_ni (E : sxE) (lo hi : Int) : sxV × sxE := ((.inl (E.1.length, 0)), (E.1 ++ [(lo, hi)], E.2))
def sx_nl (E : sxE) (lo hi : Int) (nz : Bool) : sxV × sxE := ((.inr (.inr (.inl E.2.1.length))), (E.1, E.2.1 ++ [(lo, hi, nz)], E.2.2))
def sx_nr (E : sxE) (g : Nat) (nul : Bool) : sxV × sxE := ((.inr (.inr (.inr (some E.2.2.1.length)))), (E.1, E.2.1, E.2.2.1 ++ [(g, nul)], E.2.2.2))
section SX1
variable {U : sxU} {W : sxW} {E : sxE} {M : rf_M}
theorem sx_le1 (W : sxW) (y : Int) : sx_le W (W.1 ++ [y], W.2) := ⟨fun _ _ h => sx_old h, fun _ _ h => h, fun _ _ h => h⟩
theorem sx_le2 (W : sxW) (y : Int64) : sx_le W (W.1, W.2.1 ++ [y], W.2.2) := ⟨fun _ _ h => h, fun _ _ h => sx_old h, fun _ _ h => h⟩
theorem sx_le3 (W : sxW) (y : Option Nat) : sx_le W (W.1, W.2.1, W.2.2 ++ [y]) := ⟨fun _ _ h => h, fun _ _ h => h, fun _ _ h => sx_old h⟩
theorem sx_fi (hE : sx_e U W E M) {lo hi : Int} (x : Int32) (h1 : lo ≤ x.toInt) (h2 : x.toInt ≤ hi) : ∃ W', sx_le W W' ∧ sx_e U W' (sx_ni E lo hi).2 M ∧ sx_v W' (sx_ni E lo hi).1 (.int x) := by
  have hw := sx_le1 W x.toInt
  refine ⟨_, hw, ⟨?_, hE.2.1, hE.2.2.1, ?_, hE.2.2.2.2.1, hE.2.2.2.2.2.1, ?_, ?_⟩, x, x.toInt, rfl, ?_, by omega⟩
  · simp only [sx_ni, List.length_append, List.length_singleton, hE.1]
  · intro s b hs
    rcases sx_snoc hs with h | ⟨h, hb⟩
    · obtain ⟨y, q1, q2⟩ := hE.2.2.2.1 s b h
      exact ⟨y, hw.1 _ _ q1, q2⟩
    · subst hb
      refine ⟨x.toInt, ?_, h1, h2⟩
      rw [h, ← hE.1]
      exact sx_end _ _
  · intro s k y hy
    obtain ⟨a, ci, q1, q2, q3, q4⟩ := hE.2.2.2.2.2.2.1 s k y hy
    exact ⟨a, ci, q1, q2, q3, q4.mono hw⟩
  · intro t s hts
    obtain ⟨y, z, q1, q2, q3⟩ := hE.2.2.2.2.2.2.2 t s hts
    exact ⟨y, z, hw.1 _ _ q1, q2, q3⟩
  · show (W.1 ++ [x.toInt])[E.1.length]? = _
    rw [← hE.1]
    exact sx_end _ _
theorem sx_fl (hE : sx_e U W E M) {lo hi : Int} {nz : Bool} (x : Int64) (h1 : lo ≤ x.toInt) (h2 : x.toInt ≤ hi) (h3 : nz = true → x ≠ 0) : ∃ W', sx_le W W' ∧ sx_e U W' (sx_nl E lo hi nz).2 M ∧ sx_v W' (sx_nl E lo hi nz).1 (.long x) := by
  have hw := sx_le2 W x
  refine ⟨_, hw, ⟨hE.1, ?_, hE.2.2.1, hE.2.2.2.1, ?_, hE.2.2.2.2.2.1, ?_, ?_⟩, x, rfl, ?_⟩
  · simp only [sx_nl, List.length_append, List.length_singleton, hE.2.1]
  · intro s b hs
    rcases sx_snoc hs with h | ⟨h, hb⟩
    · obtain ⟨y, q1, q2⟩ := hE.2.2.2.2.1 s b h
      exact ⟨y, hw.2.1 _ _ q1, q2⟩
    · subst hb
      refine ⟨x, ?_, h1, h2, h3⟩
      rw [h, ← hE.2.1]
      exact sx_end _ _
  · intro s k y hy
    obtain ⟨a, ci, q1, q2, q3, q4⟩ := hE.2.2.2.2.2.2.1 s k y hy
    exact ⟨a, ci, q1, q2, q3, q4.mono hw⟩
  · intro t s hts
    obtain ⟨y, z, q1, q2, q3⟩ := hE.2.2.2.2.2.2.2 t s hts
    exact ⟨y, z, q1, hw.2.1 _ _ q2, q3⟩
  · show (W.2.1 ++ [x])[E.2.1.length]? = _
    rw [← hE.2.1]
    exact sx_end _ _
theorem sx_frr (hE : sx_e U W E M) {g : Nat} {nul : Bool} (o : Option Nat) (h : match o with | none => nul = true | some a => sx_rc U g a) : ∃ W', sx_le W W' ∧ sx_e U W' (sx_nr E g nul).2 M ∧ sx_v W' (sx_nr E g nul).1 (va_rf o) := by
  have hw := sx_le3 W o
  refine ⟨_, hw, ⟨hE.1, hE.2.1, ?_, hE.2.2.2.1, hE.2.2.2.2.1, ?_, ?_, ?_⟩, o, rfl, ?_⟩
  · simp only [sx_nr, List.length_append, List.length_singleton, hE.2.2.1]
  · intro s b hs
    rcases sx_snoc hs with h' | ⟨h', hb⟩
    · obtain ⟨y, q1, q2⟩ := hE.2.2.2.2.2.1 s b h'
      exact ⟨y, hw.2.2 _ _ q1, q2⟩
    · subst hb
      refine ⟨o, ?_, h⟩
      rw [h', ← hE.2.2.1]
      exact sx_end _ _
  · intro s k y hy
    obtain ⟨a, ci, q1, q2, q3, q4⟩ := hE.2.2.2.2.2.2.1 s k y hy
    exact ⟨a, ci, hw.2.2 _ _ q1, q2, q3, q4.mono hw⟩
  · intro t s hts
    obtain ⟨y, z, q1, q2, q3⟩ := hE.2.2.2.2.2.2.2 t s hts
    exact ⟨y, z, q1, q2, q3⟩
  · show (W.2.2 ++ [o])[E.2.2.1.length]? = _
    rw [← hE.2.2.1]
    exact sx_end _ _
end SX1
