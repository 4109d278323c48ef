/-! WHAT A TEXT SAYS: statements -/
/-- code c lies in X from cc on -/
def cat_ (X : txT) (cc : Nat) (c : cdT) : Prop := ∀ k, k < c.length → X.2.1 (cc + k) = (c.getD k (0, 0)).1 ∧ X.2.2 (cc + k) = (c.getD k (0, 0)).2
/-- an exp and its end -/
def dEx (κ ν : Nat → Int) (ir : Bool) (X : txT) (i cc j cc' u : Nat) : Prop := ∃ c, dE κ (dU κ ν ir 8) i j c u ∧ cat_ X cc (c ++ [(0, 0)]) ∧ cc' = cc + c.length + 1
/-- a body: owner, part, token, statement, code; behind it token, statement, code; its first statement, unaries -/
abbrev bxT : Type := Nat → Int → Nat → Nat → Nat → Nat → Nat → Nat → Int → Nat → Prop
def dT (κ ν : Nat → Int) (X : txT) (B : bxT) (par part dep : Int) (i s cc j s' cc' u : Nat) : Prop :=
  (X.1 0 s = κ i ∧ X.1 2 s = (cc : Int) ∧ X.1 3 s = par ∧ X.1 4 s = part ∧ X.1 5 s = dep) ∧
  ((κ i = 1 ∧ κ (i + 1) = 61 ∧ (X.1 1 s = ν i ∧ X.1 7 s = -1 ∧ X.1 8 s = -1) ∧ s' = s + 1 ∧ ∃ j1, dEx κ ν false X (i + 2) cc j1 cc' u ∧ κ j1 = 59 ∧ j = j1 + 1) ∨
  (κ i = 14 ∧ (X.1 7 s = -1 ∧ X.1 8 s = -1) ∧ s' = s + 1 ∧ ∃ j1, dEx κ ν false X (i + 1) cc j1 cc' u ∧ κ j1 = 59 ∧ j = j1 + 1) ∨
  (κ i = 19 ∧ (X.1 7 s = -1 ∧ X.1 8 s = -1) ∧ s' = s + 1 ∧ ∃ j1, dEx κ ν true X (i + 1) cc j1 cc' u ∧ κ j1 = 59 ∧ j = j1 + 1) ∨
  (κ i = 13 ∧ (X.1 7 s = -1 ∧ X.1 8 s = -1) ∧ κ (i + 1) = 59 ∧ j = i + 2 ∧ s' = s + 1 ∧ cc' = cc ∧ u = 0) ∨
  (κ i = 12 ∧ κ (i + 1) = 40 ∧ X.1 8 s = -1 ∧ ∃ j1 c1 u1 u2, dEx κ ν false X (i + 2) cc j1 c1 u1 ∧ κ j1 = 41 ∧ B s 0 (j1 + 1) (s + 1) c1 j s' cc' (X.1 7 s) u2 ∧ u = u1 + u2) ∨
  (κ i = 10 ∧ κ (i + 1) = 40 ∧ ∃ j1 c1 u1 j2 s2 c2 u2, dEx κ ν false X (i + 2) cc j1 c1 u1 ∧ κ j1 = 41 ∧ B s 0 (j1 + 1) (s + 1) c1 j2 s2 c2 (X.1 7 s) u2 ∧ ((κ j2 ≠ 11 ∧ X.1 8 s = -1 ∧ j = j2 ∧ s' = s2 ∧ cc' = c2 ∧ u = u1 + u2) ∨ (κ j2 = 11 ∧ ∃ u3, B s 1 (j2 + 1) s2 c2 j s' cc' (X.1 8 s) u3 ∧ u = u1 + u2 + u3))) ∨
  (κ i = 15 ∧ ∃ j2 s2 c2 u2 u3, B s 0 (i + 1) (s + 1) cc j2 s2 c2 (X.1 7 s) u2 ∧ κ j2 = 16 ∧ B s 1 (j2 + 1) s2 c2 j s' cc' (X.1 8 s) u3 ∧ u = u2 + u3) ∨
  (κ i = 17 ∧ ∃ j2 s2 c2 u2 u3, B s 0 (i + 1) (s + 1) cc j2 s2 c2 (X.1 7 s) u2 ∧ κ j2 = 18 ∧ (κ (j2 + 1) = 1 ∧ 16 ≤ ν (j2 + 1) ∧ X.1 1 s = ν (j2 + 1)) ∧ B s 1 (j2 + 2) s2 c2 j s' cc' (X.1 8 s) u3 ∧ u = u2 + u3))
/-- n statements in a row -/
def dSs (κ ν : Nat → Int) (X : txT) (B : bxT) (par part dep : Int) : Nat → Nat → Nat → Nat → Nat → Nat → Nat → Int → Nat → Prop
  | 0, i, s, cc, j, s', cc', first, u => j = i ∧ s' = s ∧ cc' = cc ∧ first = -1 ∧ u = 0
  | n + 1, i, s, cc, j, s', cc', first, u => first = (s : Int) ∧ ∃ j1 s1 c1 u1 f2 u2, dT κ ν X B par part dep i s cc j1 s1 c1 u1 ∧ dSs κ ν X B par part dep n j1 s1 c1 j s' cc' f2 u2 ∧ X.1 6 s = f2 ∧ u = u1 + u2
/-- a body in which f more may lie -/
def dB (κ ν : Nat → Int) (X : txT) : Nat → bxT
  | 0 => fun _ _ _ _ _ _ _ _ _ _ => False
  | f + 1 => fun o part i s0 c0 j s1 c1 first u => κ i = 123 ∧ ∃ n j1, dSs κ ν X (dB κ ν X f) (o : Int) part (8 - (f : Int)) n (i + 1) s0 c0 j1 s1 c1 first u ∧ κ j1 = 125 ∧ j = j1 + 1
/-- X is as X' at statements s .. s', code cc .. cc' -/
def agr (X X' : txT) (s s' cc cc' : Nat) : Prop := (∀ g x, s ≤ x → x < s' → X'.1 g x = X.1 g x) ∧ ∀ k, cc ≤ k → k < cc' → X'.2.1 k = X.2.1 k ∧ X'.2.2 k = X.2.2 k
/-- what a body's meaning hangs on -/
def bok (X X' : txT) (B B' : bxT) : Prop := ∀ o part i s0 c0 j s1 c1 first u, B o part i s0 c0 j s1 c1 first u → (s0 ≤ s1 ∧ c0 ≤ c1) ∧ (agr X X' s0 s1 c0 c1 → B' o part i s0 c0 j s1 c1 first u)
section G2

variable {κ ν : Nat → Int} {X X' : txT} {B B' : bxT} {par part dep : Int} {ir : Bool}

theorem dEx.congr {i cc j cc' u : Nat} (h : dEx κ ν ir X i cc j cc' u) : cc < cc' ∧ ((∀ k, cc ≤ k → k < cc' → X'.2.1 k = X.2.1 k ∧ X'.2.2 k = X.2.2 k) → dEx κ ν ir X' i cc j cc' u) := by
  obtain ⟨c, h1, h2, h3⟩ := h
  refine ⟨by omega, fun e => ⟨c, h1, fun k hk => ?_, h3⟩⟩
  have hk' : k < c.length + 1 := by simpa using hk
  have a := e (cc + k) (by omega) (by omega)
  have b := h2 k hk
  exact ⟨a.1.trans b.1, a.2.trans b.2⟩
theorem dT.congr {i s cc j s' cc' u : Nat} (hB : bok X X' B B') (h : dT κ ν X B par part dep i s cc j s' cc' u) : (s < s' ∧ cc ≤ cc') ∧ ((∀ g x, s ≤ x → x < s' → ¬ (g = 6 ∧ x = s) → X'.1 g x = X.1 g x) → (∀ k, cc ≤ k → k < cc' → X'.2.1 k = X.2.1 k ∧ X'.2.2 k = X.2.2 k) → dT κ ν X' B' par part dep i s cc j s' cc' u) := by
  obtain ⟨⟨a0, a1, a2, a3, a4⟩, h⟩ := h
  have top : s < s' → (∀ g x, s ≤ x → x < s' → ¬ (g = 6 ∧ x = s) → X'.1 g x = X.1 g x) → X'.1 0 s = κ i ∧ X'.1 2 s = (cc : Int) ∧ X'.1 3 s = par ∧ X'.1 4 s = part ∧ X'.1 5 s = dep := fun hs e => ⟨(e 0 s (Nat.le_refl _) hs (by omega)).trans a0, (e 2 s (Nat.le_refl _) hs (by omega)).trans a1, (e 3 s (Nat.le_refl _) hs (by omega)).trans a2, (e 4 s (Nat.le_refl _) hs (by omega)).trans a3, (e 5 s (Nat.le_refl _) hs (by omega)).trans a4⟩
  rcases h with ⟨k, k1, ⟨b1, b2, b3⟩, rfl, j1, d, e1, e2⟩ | ⟨k, ⟨b2, b3⟩, rfl, j1, d, e1, e2⟩ | ⟨k, ⟨b2, b3⟩, rfl, j1, d, e1, e2⟩ | ⟨k, ⟨b2, b3⟩, e1, e2, rfl, e3, e4⟩ | ⟨k, k1, b3, j1, c1, u1, u2, d, e1, e2, e3⟩ | ⟨k, k1, j1, c1, u1, j2, s2, c2, u2, d, e1, e2, e3⟩ | ⟨k, j2, s2, c2, u2, u3, e1, e2, e3, e4⟩ | ⟨k, j2, s2, c2, u2, u3, e1, e2, ⟨l1, l2, l3⟩, e3, e4⟩
  · obtain ⟨d1, d2⟩ := d.congr (X' := X')
    refine ⟨⟨by omega, by omega⟩, fun ea ec => ⟨top (by omega) ea, Or.inl ⟨k, k1, ⟨(ea 1 s (Nat.le_refl _) (by omega) (by omega)).trans b1, (ea 7 s (Nat.le_refl _) (by omega) (by omega)).trans b2, (ea 8 s (Nat.le_refl _) (by omega) (by omega)).trans b3⟩, rfl, j1, d2 ec, e1, e2⟩⟩⟩
  · obtain ⟨d1, d2⟩ := d.congr (X' := X')
    refine ⟨⟨by omega, by omega⟩, fun ea ec => ⟨top (by omega) ea, Or.inr (Or.inl ⟨k, ⟨(ea 7 s (Nat.le_refl _) (by omega) (by omega)).trans b2, (ea 8 s (Nat.le_refl _) (by omega) (by omega)).trans b3⟩, rfl, j1, d2 ec, e1, e2⟩)⟩⟩
  · obtain ⟨d1, d2⟩ := d.congr (X' := X')
    refine ⟨⟨by omega, by omega⟩, fun ea ec => ⟨top (by omega) ea, Or.inr (Or.inr (Or.inl ⟨k, ⟨(ea 7 s (Nat.le_refl _) (by omega) (by omega)).trans b2, (ea 8 s (Nat.le_refl _) (by omega) (by omega)).trans b3⟩, rfl, j1, d2 ec, e1, e2⟩))⟩⟩
  · refine ⟨⟨by omega, by omega⟩, fun ea ec => ⟨top (by omega) ea, Or.inr (Or.inr (Or.inr (Or.inl ⟨k, ⟨(ea 7 s (Nat.le_refl _) (by omega) (by omega)).trans b2, (ea 8 s (Nat.le_refl _) (by omega) (by omega)).trans b3⟩, e1, e2, rfl, e3, e4⟩)))⟩⟩
  · obtain ⟨d1, d2⟩ := d.congr (X' := X')
    obtain ⟨⟨r1, r2⟩, r3⟩ := hB _ _ _ _ _ _ _ _ _ _ e2
    refine ⟨⟨by omega, by omega⟩, fun ea ec => ⟨top (by omega) ea, Or.inr (Or.inr (Or.inr (Or.inr (Or.inl ⟨k, k1, (ea 8 s (Nat.le_refl _) (by omega) (by omega)).trans b3, j1, c1, u1, u2, d2 (fun k a b => ec k a (by omega)), e1, ?_, e3⟩))))⟩⟩
    rw [ea 7 s (Nat.le_refl _) (by omega) (by omega)]
    exact r3 ⟨fun g x a b => ea g x (by omega) b (by omega), fun k a b => ec k (by omega) b⟩
  · obtain ⟨d1, d2⟩ := d.congr (X' := X')
    obtain ⟨⟨r1, r2⟩, r3⟩ := hB _ _ _ _ _ _ _ _ _ _ e2
    rcases e3 with ⟨f1, f2, rfl, rfl, rfl, f3⟩ | ⟨f1, u3, f2, f3⟩
    · refine ⟨⟨by omega, by omega⟩, fun ea ec => ⟨top (by omega) ea, Or.inr (Or.inr (Or.inr (Or.inr (Or.inr (Or.inl ⟨k, k1, j1, c1, u1, j, s', cc', u2, d2 (fun k a b => ec k a (by omega)), e1, ?_, Or.inl ⟨f1, (ea 8 s (Nat.le_refl _) (by omega) (by omega)).trans f2, rfl, rfl, rfl, f3⟩⟩)))))⟩⟩
      rw [ea 7 s (Nat.le_refl _) (by omega) (by omega)]
      exact r3 ⟨fun g x a b => ea g x (by omega) b (by omega), fun k a b => ec k (by omega) b⟩
    · obtain ⟨⟨q1, q2⟩, q3⟩ := hB _ _ _ _ _ _ _ _ _ _ f2
      refine ⟨⟨by omega, by omega⟩, fun ea ec => ⟨top (by omega) ea, Or.inr (Or.inr (Or.inr (Or.inr (Or.inr (Or.inl ⟨k, k1, j1, c1, u1, j2, s2, c2, u2, d2 (fun k a b => ec k a (by omega)), e1, ?_, Or.inr ⟨f1, u3, ?_, f3⟩⟩)))))⟩⟩
      · rw [ea 7 s (Nat.le_refl _) (by omega) (by omega)]
        exact r3 ⟨fun g x a b => ea g x (by omega) (by omega) (by omega), fun k a b => ec k (by omega) (by omega)⟩
      · rw [ea 8 s (Nat.le_refl _) (by omega) (by omega)]
        exact q3 ⟨fun g x a b => ea g x (by omega) b (by omega), fun k a b => ec k (by omega) b⟩
  · obtain ⟨⟨r1, r2⟩, r3⟩ := hB _ _ _ _ _ _ _ _ _ _ e1
    obtain ⟨⟨q1, q2⟩, q3⟩ := hB _ _ _ _ _ _ _ _ _ _ e3
    refine ⟨⟨by omega, by omega⟩, fun ea ec => ⟨top (by omega) ea, Or.inr (Or.inr (Or.inr (Or.inr (Or.inr (Or.inr (Or.inl ⟨k, j2, s2, c2, u2, u3, ?_, e2, ?_, e4⟩))))))⟩⟩
    · rw [ea 7 s (Nat.le_refl _) (by omega) (by omega)]
      exact r3 ⟨fun g x a b => ea g x (by omega) (by omega) (by omega), fun k a b => ec k (by omega) (by omega)⟩
    · rw [ea 8 s (Nat.le_refl _) (by omega) (by omega)]
      exact q3 ⟨fun g x a b => ea g x (by omega) b (by omega), fun k a b => ec k (by omega) b⟩
  · obtain ⟨⟨r1, r2⟩, r3⟩ := hB _ _ _ _ _ _ _ _ _ _ e1
    obtain ⟨⟨q1, q2⟩, q3⟩ := hB _ _ _ _ _ _ _ _ _ _ e3
    refine ⟨⟨by omega, by omega⟩, fun ea ec => ⟨top (by omega) ea, Or.inr (Or.inr (Or.inr (Or.inr (Or.inr (Or.inr (Or.inr ⟨k, j2, s2, c2, u2, u3, ?_, e2, ⟨l1, l2, (ea 1 s (Nat.le_refl _) (by omega) (by omega)).trans l3⟩, ?_, e4⟩))))))⟩⟩
    · rw [ea 7 s (Nat.le_refl _) (by omega) (by omega)]
      exact r3 ⟨fun g x a b => ea g x (by omega) (by omega) (by omega), fun k a b => ec k (by omega) (by omega)⟩
    · rw [ea 8 s (Nat.le_refl _) (by omega) (by omega)]
      exact q3 ⟨fun g x a b => ea g x (by omega) b (by omega), fun k a b => ec k (by omega) b⟩
theorem dSs.congr (hB : bok X X' B B') : ∀ (n i s cc j s' cc' : Nat) (first : Int) (u : Nat), dSs κ ν X B par part dep n i s cc j s' cc' first u → (s ≤ s' ∧ cc ≤ cc') ∧ (agr X X' s s' cc cc' → dSs κ ν X' B' par part dep n i s cc j s' cc' first u)
  | 0, i, s, cc, j, s', cc', first, u, h => by
    obtain ⟨h1, h2, h3, h4, h5⟩ := h
    exact ⟨⟨by omega, by omega⟩, fun _ => ⟨h1, h2, h3, h4, h5⟩⟩
  | n + 1, i, s, cc, j, s', cc', first, u, h => by
    obtain ⟨h1, j1, s1, c1, u1, f2, u2, d1, d2, d3, d4⟩ := h
    obtain ⟨⟨a1, a2⟩, a3⟩ := d1.congr hB
    obtain ⟨⟨b1, b2⟩, b3⟩ := dSs.congr hB n _ _ _ _ _ _ _ _ d2
    refine ⟨⟨by omega, by omega⟩, fun e => ⟨h1, j1, s1, c1, u1, f2, u2, a3 (fun g x p q _ => e.1 g x p (by omega)) (fun k p q => e.2 k p (by omega)), b3 ⟨fun g x p q => e.1 g x (by omega) q, fun k p q => e.2 k (by omega) q⟩, ?_, d4⟩⟩
    rw [e.1 6 s (Nat.le_refl _) (by omega)]
    exact d3
theorem dB.congr : ∀ f, bok X X' (dB κ ν X f) (dB κ ν X' f)
  | 0 => fun _ _ _ _ _ _ _ _ _ _ h => h.elim
  | f + 1 => fun o part i s0 c0 j s1 c1 first u h => by
    obtain ⟨h1, n, j1, h2, h3, h4⟩ := h
    obtain ⟨a, b⟩ := dSs.congr (dB.congr f) _ _ _ _ _ _ _ _ _ h2
    exact ⟨a, fun e => ⟨h1, n, j1, b e, h3, h4⟩⟩
end G2
/-! the program's statements say what the grammar says -/
/-- n statements in a row, and the last of them -/
def dSl (κ ν : Nat → Int) (X : txT) (B : bxT) (par part dep : Int) : Nat → Nat → Nat → Nat → Nat → Nat → Nat → Int → Int → Nat → Prop
  | 0, i, s, cc, j, s', cc', first, last, u => j = i ∧ s' = s ∧ cc' = cc ∧ first = -1 ∧ last = -1 ∧ u = 0
  | n + 1, i, s, cc, j, s', cc', first, last, u => first = (s : Int) ∧ ∃ j1 s1 c1 u1 f2 l2 u2, dT κ ν X B par part dep i s cc j1 s1 c1 u1 ∧ dSl κ ν X B par part dep n j1 s1 c1 j s' cc' f2 l2 u2 ∧ X.1 6 s = f2 ∧ last = (if l2 = -1 then (s : Int) else l2) ∧ u = u1 + u2
section PS3
variable {κ ν : Nat → Int} {X X' : txT} {B B' : bxT} {par part dep : Int}
theorem dSl.ss : ∀ (n i s cc j s' cc' : Nat) (first last : Int) (u : Nat), dSl κ ν X B par part dep n i s cc j s' cc' first last u → dSs κ ν X B par part dep n i s cc j s' cc' first u
  | 0, _, _, _, _, _, _, _, _, _, h => ⟨h.1, h.2.1, h.2.2.1, h.2.2.2.1, h.2.2.2.2.2⟩
  | n + 1, _, _, _, _, _, _, _, _, _, h => by
    obtain ⟨h1, j1, s1, c1, u1, f2, l2, u2, d1, d2, d3, d4, d5⟩ := h
    exact ⟨h1, j1, s1, c1, u1, f2, u2, d1, dSl.ss n _ _ _ _ _ _ _ _ _ d2, d3, d5⟩
theorem dSl.rg (hB : bok X X B B) : ∀ (n i s cc j s' cc' : Nat) (first last : Int) (u : Nat), dSl κ ν X B par part dep n i s cc j s' cc' first last u → (s ≤ s' ∧ cc ≤ cc') ∧ ((first = -1 ∧ last = -1) ∨ (first = (s : Int) ∧ s < s' ∧ ∃ l : Nat, last = (l : Int) ∧ s ≤ l ∧ l < s'))
  | 0, i, s, cc, j, s', cc', first, last, u, h => by
    obtain ⟨h1, h2, h3, h4, h5, h6⟩ := h
    exact ⟨⟨by omega, by omega⟩, Or.inl ⟨h4, h5⟩⟩
  | n + 1, i, s, cc, j, s', cc', first, last, u, h => by
    obtain ⟨h1, j1, s1, c1, u1, f2, l2, u2, d1, d2, d3, d4, d5⟩ := h
    obtain ⟨⟨a1, a2⟩, a3⟩ := dT.congr hB d1
    obtain ⟨⟨b1, b2⟩, b3⟩ := dSl.rg hB n _ _ _ _ _ _ _ _ _ d2
    refine ⟨⟨by omega, by omega⟩, Or.inr ⟨h1, by omega, ?_⟩⟩
    rcases b3 with ⟨b4, b5⟩ | ⟨b4, b5, l, b6, b7, b8⟩
    · exact ⟨s, by rw [d4, if_pos b5], by omega, by omega⟩
    · exact ⟨l, by rw [d4, if_neg (by omega)]; exact b6, by omega, by omega⟩
theorem dSl.snoc (hB : bok X X' B B') (hB0 : bok X X B B) {j2 s2 c2 u2 s1 c1 : Nat} {last : Int} (h6 : X'.1 6 s1 = -1) : ∀ (n i s cc j : Nat) (first : Int) (u : Nat), dSl κ ν X B par part dep n i s cc j s1 c1 first last u → last ≠ -1 → (∀ g x, s ≤ x → x < s1 → ¬ (g = 6 ∧ (x : Int) = last) → X'.1 g x = X.1 g x) → (∀ k, cc ≤ k → k < c1 → X'.2.1 k = X.2.1 k ∧ X'.2.2 k = X.2.2 k) → X'.1 6 last.toNat = (s1 : Int) → dT κ ν X' B' par part dep j s1 c1 j2 s2 c2 u2 → dSl κ ν X' B' par part dep (n + 1) i s cc j2 s2 c2 first (s1 : Int) (u + u2)
  | 0, i, s, cc, j, first, u, h, hl, _, _, _, _ => absurd h.2.2.2.2.1 hl
  | n + 1, i, s, cc, j, first, u, h, hl, ea, ec, e6, hT => by
    obtain ⟨h1, j1, s3, c3, u1, f2, l2, u3, d1, d2, d3, d4, d5⟩ := h
    obtain ⟨⟨a1, a2⟩, a3⟩ := d1.congr hB
    obtain ⟨⟨b1, b2⟩, b3⟩ := dSl.rg hB0 n _ _ _ _ _ _ _ _ _ d2
    rcases b3 with ⟨b4, b5⟩ | ⟨b4, b5, l, b6, b7, b8⟩
    · -- it was the last
      rw [if_pos b5] at d4
      have hn : n = 0 := by
        cases n with
        | zero => rfl
        | succ n => have := d2.1; omega
      subst hn
      obtain ⟨rfl, rfl, rfl, -, -, rfl⟩ := d2
      refine ⟨h1, j, s1, c1, u1, (s1 : Int), (s1 : Int), u2, a3 (fun g x p q z => ea g x p q (fun w => z ⟨w.1, by omega⟩)) (fun k p q => ec k p q), ⟨rfl, j2, s2, c2, u2, -1, -1, 0, hT, ⟨rfl, rfl, rfl, rfl, rfl, rfl⟩, h6, by rw [if_pos rfl], by omega⟩, ?_, ?_, by omega⟩
      · rw [d4, tn_] at e6
        exact e6
      · rw [if_neg (by omega)]
    · rw [if_neg (by omega)] at d4
      have ih := dSl.snoc hB hB0 h6 n j1 s3 c3 j f2 u3 (by rw [d4]; exact d2) (by omega) (fun g x p q z => ea g x (by omega) q z) (fun k p q => ec k (by omega) q) e6 hT
      refine ⟨h1, j1, s3, c3, u1, f2, (s1 : Int), u3 + u2, a3 (fun g x p q z => ea g x p (by omega) (fun w => by omega)) (fun k p q => ec k p (by omega)), ih, ?_, by rw [if_neg (by omega)], by omega⟩
      rw [ea 6 s (Nat.le_refl _) (by omega) (by omega)]
      exact d3
end PS3
/-- the program that is being made, as a text -/
def XP (M : rf_M) (p : Nat) : txT := (fun f s => if f < 9 then gi M (p + 1 + f) s else 0, fun k => gi M (p + 10) k, fun k => gi M (p + 11) k)
def ptt (p L : Nat) (M : rf_M) (i s cc un : Nat) : Prop := pat p L M i cc un ∧ gi M p 0 = (s : Int) ∧ s ≤ 40 ∧ cc ≤ 2 * un
def prT (κ ν : Nat → Int) (L p : Nat) (M : rf_M) : Prop := M.2.2 169 1 = some p ∧ tkM κ ν L M ∧ gi M 169 4 = 0 ∧ (gi M 169 3 = -1 → ∃ i s cc un, ptt p L M i s cc un)
def stF (p b k : Nat) : Prop := (b = 169 ∧ (k = 2 ∨ k = 3 ∨ k = 4)) ∨ (p ≤ b ∧ b ≤ p + 11 ∧ ¬ (b = p ∧ k = 4))
/-- what lies below is kept -/
def kep (p : Nat) (M M' : rf_M) (s cc : Nat) : Prop := (∀ f x, f < 9 → x < s → gi M' (p + 1 + f) x = gi M (p + 1 + f) x) ∧ ∀ k, k < cc → gi M' (p + 10) k = gi M (p + 10) k ∧ gi M' (p + 11) k = gi M (p + 11) k
def bdq (κ ν : Nat → Int) (L p : Nat) (o part d : Int) (M : rf_M) (z : Int) (M' : rf_M) : Prop := eqy (stF p) M M' ∧ gi M' 169 4 = 0 ∧ (gi M' 169 3 = -1 → gi M 169 3 = -1 ∧ ∃ i s cc un j s1 c1 u, ptt p L M i s cc un ∧ dB κ ν (XP M' p) (8 - d.toNat) o.toNat part i s cc j s1 c1 z u ∧ ptt p L M' j s1 c1 (un + u) ∧ kep p M M' s cc)
def Bsp (κ ν : Nat → Int) (L p : Nat) (o part d : Int) (M : rf_M) (K : Int → rf_M → Prop) : Prop := (0 ≤ d ∧ d ≤ 8) ∧ (0 ≤ o ∧ (part = 0 ∨ part = 1)) ∧ prT κ ν L p M ∧ ∀ z M', inr z → bdq κ ν L p o part d M z M' → K z M'
def Ssp (κ ν : Nat → Int) (L p : Nat) (par part d : Int) (M : rf_M) (K : Int → rf_M → Prop) : Prop := (0 ≤ d ∧ d ≤ 8) ∧ (inr par ∧ inr part) ∧ prT κ ν L p M ∧ ∀ z M', inr z → eqy (stF p) M M' → gi M' 169 4 = 0 → (gi M' 169 3 = -1 → gi M 169 3 = -1 ∧ ∃ i s cc un n j s1 c1 u, ptt p L M i s cc un ∧ dSs κ ν (XP M' p) (dB κ ν (XP M' p) (8 - d.toNat)) par part d n i s cc j s1 c1 z u ∧ ptt p L M' j s1 c1 (un + u) ∧ kep p M M' s cc) → K z M'
section PT3
variable {κ ν : Nat → Int} {L p : Nat} {M M' M1 M2 M3 : rf_M} {K : rf_M → Prop} {Bd : Int → Int → Int → rf_M → (Int → rf_M → Prop) → Prop}
theorem ptt.uniq {i s cc un i' s' cc' un' : Nat} (h : ptt p L M i s cc un) (h' : ptt p L M i' s' cc' un') : i = i' ∧ s = s' ∧ cc = cc' ∧ un = un' := by
  obtain ⟨a, b, c⟩ := h.1.uniq h'.1
  have := h.2.1
  have := h'.2.1
  exact ⟨a, by omega, b, c⟩
theorem prT.e (h : prT κ ν L p M) : prE κ ν L p M := ⟨h.1, h.2.1, fun q => by
  obtain ⟨i, s, cc, un, a⟩ := h.2.2.2 q
  exact ⟨i, cc, un, a.1, a.2.2.2⟩⟩
theorem kep.rfl' (p : Nat) (M : rf_M) (s cc : Nat) : kep p M M s cc := ⟨fun _ _ _ _ => rfl, fun _ _ => ⟨rfl, rfl⟩⟩
theorem kep.trans {s cc s' cc' : Nat} (h : kep p M M1 s cc) (h' : kep p M1 M2 s' cc') (hs : s ≤ s') (hc : cc ≤ cc') : kep p M M2 s cc := ⟨fun f x a b => (h'.1 f x a (by omega)).trans (h.1 f x a b), fun k a => ⟨((h'.2 k (by omega)).1).trans (h.2 k a).1, ((h'.2 k (by omega)).2).trans (h.2 k a).2⟩⟩
/-- an exp with its end and what closes it -/
theorem x_closed {t : Int} (hL : L ≤ 800) (hκ : κ L = 0) (hp : p ∈ k1) (ht : t ≠ 0) (hP : prE κ ν L p M) (kk : ∀ M', eqy (exF p) M M' → (gi M' 169 3 = -1 → gi M 169 3 = -1 ∧ ∃ i cc un j cc' u, pat p L M i cc un ∧ dEx κ ν (irM M) (XP M' p) i cc j cc' u ∧ κ j = t ∧ pat p L M' (j + 1) cc' (un + u) ∧ cc' ≤ cc + 2 * u ∧ ∀ k, k < cc → gi M' (p + 10) k = gi M (p + 10) k ∧ gi M' (p + 11) k = gi M (p + 11) k) → K M') : Esp κ ν L p 0 M (fun M1 => isP M1 169 1 ∧ em_P_emit (gr M1 169 1) 0 0 M1 (fun M2 => em_Q_expect t M2 (fun M3 => K M3))) := by
  have hk1 := k1_or hp
  refine ⟨⟨by omega, by omega⟩, hP, fun M1 q1 => ?_⟩
  have ip := isPk (show M1.2.2 169 1 = some p by rw [q1.1.2]; exact hP.1) hp
  refine ⟨ip.1, ?_⟩
  rw [ip.2]
  have P1 : prE κ ν L p M1 := hP.of (fun i j c u h => by have := (dE_gd (dU_gd _) _ _ _ _ h).1; omega) (by omega) q1
  by_cases f1 : gi M1 169 3 = -1
  · obtain ⟨hf, i, cc, un, j, c, u, b1, b2, b3, b4⟩ := q1.2 f1
    have hlen := (dE_gd (dU_gd _) _ _ _ _ b2).1
    have h60 := b3.2.2.2.2
    obtain ⟨i', cc', un', c1, c2⟩ := hP.2.2 hf
    obtain ⟨rfl, rfl, rfl⟩ := b1.uniq c1
    refine x_emit b3.2.2.1 (by omega) ir_0 ir_0 (fun M2 y2 c2' p2 => ?_)
    have t2 := P1.2.1.eq y2 (fun b k q => by omega)
    have at2 : gi M2 169 2 = (j : Int) := (y2.i (by omega)).trans b3.1
    have y12 : eqy (exF p) M M2 := q1.1.trans (y2.mono (fun b k h => by unfold exF; omega))
    refine x_Qexpect hL hκ ht t2 (fun _ => ⟨j, at2, b3.2.1⟩) (fun j' M3 hf2 hat3 hlt3 e3 y3 a3 => kk M3 (y12.trans (y3.mono (fun b k h => by unfold exF; omega))) (fun _ => ⟨hf, i, cc, un, j, _, u, b1, ⟨c, b2, fun k hk => ?_, rfl⟩, ?_, ⟨?_, ?_, ?_, ?_, h60⟩, ?_, fun k hk => ?_⟩)) (fun M3 y3 b3' => kk M3 (y12.trans (y3.mono (fun b k h => by unfold exF; omega))) (fun q => absurd q b3'))
    · have q := (b4.app p2).2 k hk
      exact ⟨(y3.i (by omega)).trans q.1, (y3.i (by omega)).trans q.2⟩
    · rw [show j = j' by omega]; exact e3
    · rw [a3, show j = j' by omega]
    · omega
    · rw [y3.i (by omega), c2']
    · rw [y3.i (by omega), y2.i (by omega)]; exact b3.2.2.2.1
    · omega
    · have q := (b4.app p2).1 k hk
      exact ⟨(y3.i (by omega)).trans q.1, (y3.i (by omega)).trans q.2⟩
  · refine x_emit' (fun M2 y2 => ?_)
    have f2 : ¬ gi M2 169 3 = -1 := by rw [y2.i (by omega)]; exact f1
    have y12 : eqy (exF p) M M2 := q1.1.trans (y2.mono (fun b k h => by unfold exF; omega))
    refine x_Qexpect hL hκ ht (P1.2.1.eq y2 (fun b k q => by omega)) (fun q => absurd q f2) (fun j' M3 hf2 _ _ _ _ _ => absurd hf2 f2) (fun M3 y3 b3' => kk M3 (y12.trans (y3.mono (fun b k h => by unfold exF; omega))) (fun q => absurd q b3'))
/-- a statement is laid out -/
theorem x_open {K : Int → rf_M → Prop} {k par part dep : Int} {s cc : Nat} (hp : p ∈ k1) (hs : gi M p 0 = (s : Int)) (hs4 : s ≤ 40) (hc : gi M p 3 = (cc : Int)) (hc6 : cc ≤ 160) (ik : inr k) (ip : inr par) (ia : inr part) (id' : inr dep) (h0 : K (-1) M) (kk : ∀ M', s < 40 → eqy (fun b x => (b = p ∧ x = 0) ∨ (p + 1 ≤ b ∧ b ≤ p + 9 ∧ x = s)) M M' → gi M' p 0 = ((s + 1 : Nat) : Int) → (gi M' (p + 1) s = k ∧ gi M' (p + 3) s = (cc : Int) ∧ gi M' (p + 4) s = par ∧ gi M' (p + 5) s = part ∧ gi M' (p + 6) s = dep ∧ gi M' (p + 7) s = -1 ∧ gi M' (p + 8) s = -1 ∧ gi M' (p + 9) s = -1) → K (s : Int) M') : em_P_open p k par part dep M K := by
  have hk1 := k1_or hp
  refine ⟨fun h M1 e1 => ?_, fun _ => h0⟩
  rw [hs] at h e1
  rw [hs, tn_]
  intro _ M2 e2 _ M3 e3 _ M4 e4 _ M5 e5 _ M6 e6 _ M7 e7 _ M8 e8 _ M9 e9 _ M10 e10
  have g3 : gi M3 p 3 = (cc : Int) := by rw [e3, gi_of (Or.inl (by omega)), e2, gi_of (Or.inl (by omega)), e1, gi_of (Or.inr (by omega)), hc]
  rw [g3] at e4
  have y : eqy (fun b x => (b = p ∧ x = 0) ∨ (p + 1 ≤ b ∧ b ≤ p + 9 ∧ x = s)) M M10 := by
    rw [e10, e9, e8, e7, e6, e5, e4, e3, e2, e1]
    exact ((((((((((eqy.rfl' M).wi (by omega)).wi (by omega)).wi (by omega)).wi (by omega)).wi (by omega)).wi (by omega)).wi (by omega)).wi (by omega)).wi (by omega)).wi (by omega)
  refine kk M10 (by omega) y ?_ ⟨?_, ?_, ?_, ?_, ?_, ?_, ?_, ?_⟩
  · rw [e10, gi_of (Or.inl (by omega)), e9, gi_of (Or.inl (by omega)), e8, gi_of (Or.inl (by omega)), e7, gi_of (Or.inl (by omega)), e6, gi_of (Or.inl (by omega)), e5, gi_of (Or.inl (by omega)), e4, gi_of (Or.inl (by omega)), e3, gi_of (Or.inl (by omega)), e2, gi_of (Or.inl (by omega)), e1, gi_at (inr_z (by omega) (by omega))]; omega
  · rw [e10, gi_of (Or.inl (by omega)), e9, gi_of (Or.inl (by omega)), e8, gi_of (Or.inl (by omega)), e7, gi_of (Or.inl (by omega)), e6, gi_of (Or.inl (by omega)), e5, gi_of (Or.inl (by omega)), e4, gi_of (Or.inl (by omega)), e3, gi_of (Or.inl (by omega)), e2, gi_at ik]
  · rw [e10, gi_of (Or.inl (by omega)), e9, gi_of (Or.inl (by omega)), e8, gi_of (Or.inl (by omega)), e7, gi_of (Or.inl (by omega)), e6, gi_of (Or.inl (by omega)), e5, gi_of (Or.inl (by omega)), e4, gi_at (inr_z (by omega) (by omega))]
  · rw [e10, gi_of (Or.inl (by omega)), e9, gi_of (Or.inl (by omega)), e8, gi_of (Or.inl (by omega)), e7, gi_of (Or.inl (by omega)), e6, gi_of (Or.inl (by omega)), e5, gi_at ip]
  · rw [e10, gi_of (Or.inl (by omega)), e9, gi_of (Or.inl (by omega)), e8, gi_of (Or.inl (by omega)), e7, gi_of (Or.inl (by omega)), e6, gi_at ia]
  · rw [e10, gi_of (Or.inl (by omega)), e9, gi_of (Or.inl (by omega)), e8, gi_of (Or.inl (by omega)), e7, gi_at id']
  · rw [e10, gi_of (Or.inl (by omega)), e9, gi_of (Or.inl (by omega)), e8, gi_at ir_1]
  · rw [e10, gi_of (Or.inl (by omega)), e9, gi_at ir_1]
  · rw [e10, gi_at ir_1]
end PT3
/-! one statement of the program -/
section XPL
variable {M M' N : rf_M} {p f g s x x0 cc k : Nat} {z : Int} {P : Nat → Nat → Prop}
theorem XP_f (h : f < 9) : (XP M p).1 f s = gi M (p + 1 + f) s := if_pos h
theorem XP_9 (h : ¬ f < 9) : (XP M p).1 f s = 0 := if_neg h
theorem XP_ext (ef : ∀ f s, f < 9 → gi M' (p + 1 + f) s = gi M (p + 1 + f) s) (ec : ∀ k, gi M' (p + 10) k = gi M (p + 10) k ∧ gi M' (p + 11) k = gi M (p + 11) k) : XP M' p = XP M p := by
  refine Prod.ext (funext fun f => funext fun s => ?_) (Prod.ext (funext fun k => (ec k).1) (funext fun k => (ec k).2))
  by_cases h : f < 9
  · exact ((XP_f h).trans (ef f s h)).trans (XP_f h).symm
  · exact (XP_9 h).trans (XP_9 h).symm
theorem XP_same (e : eqy P M M') (q : ∀ b k, p + 1 ≤ b → b ≤ p + 11 → ¬ P b k) : XP M' p = XP M p := XP_ext (fun f s h => e.i (q _ _ (by omega) (by omega))) (fun k => ⟨e.i (q _ _ (by omega) (by omega)), e.i (q _ _ (by omega) (by omega))⟩)
theorem kep.fd (h : kep p M M' s cc) (hx : x < s) : (XP M' p).1 g x = (XP M p).1 g x := by
  by_cases h9 : g < 9
  · exact ((XP_f h9).trans (h.1 g x h9 hx)).trans (XP_f h9).symm
  · exact (XP_9 h9).trans (XP_9 h9).symm
theorem kep.c (h : kep p M M' s cc) (hk : k < cc) : (XP M' p).2.1 k = (XP M p).2.1 k ∧ (XP M' p).2.2 k = (XP M p).2.2 k := h.2 k hk
theorem kep.same (h : kep p M N s cc) (e : eqy P N M') (q : ∀ b k, p + 1 ≤ b → b ≤ p + 11 → ¬ P b k) : kep p M M' s cc := ⟨fun f x a b => (e.i (q _ _ (by omega) (by omega))).trans (h.1 f x a b), fun k a => ⟨(e.i (q _ _ (by omega) (by omega))).trans (h.2 k a).1, (e.i (q _ _ (by omega) (by omega))).trans (h.2 k a).2⟩⟩
theorem XP_w (h : ¬ (g = f ∧ x = x0)) : (XP (wi N (p + 1 + f) x0 z) p).1 g x = (XP N p).1 g x := by
  by_cases h9 : g < 9
  · exact ((XP_f h9).trans (gi_of (by omega))).trans (XP_f h9).symm
  · exact (XP_9 h9).trans (XP_9 h9).symm
theorem XP_wa (hf : f < 9) (iz : inr z) : (XP (wi N (p + 1 + f) x0 z) p).1 f x0 = z := (XP_f hf).trans (gi_at iz)
theorem XP_wc (hf : f < 9) : (XP (wi N (p + 1 + f) x0 z) p).2.1 k = (XP N p).2.1 k ∧ (XP (wi N (p + 1 + f) x0 z) p).2.2 k = (XP N p).2.2 k := ⟨gi_of (Or.inl (by omega)), gi_of (Or.inl (by omega))⟩
end XPL
/-- the fields of a statement -/
def hds (X : txT) (s : Nat) (k : Int) (cc : Nat) (par part d lt a b : Int) : Prop := (X.1 0 s = k ∧ X.1 1 s = lt ∧ X.1 2 s = (cc : Int) ∧ X.1 3 s = par ∧ X.1 4 s = part ∧ X.1 5 s = d) ∧ (X.1 6 s = -1 ∧ X.1 7 s = a ∧ X.1 8 s = b)
theorem hds.of {X X' : txT} {s cc : Nat} {k par part d lt a b : Int} (h : hds X s k cc par part d lt a b) (e : ∀ g, X'.1 g s = X.1 g s) : hds X' s k cc par part d lt a b := ⟨⟨(e _).trans h.1.1, (e _).trans h.1.2.1, (e _).trans h.1.2.2.1, (e _).trans h.1.2.2.2.1, (e _).trans h.1.2.2.2.2.1, (e _).trans h.1.2.2.2.2.2⟩, (e _).trans h.2.1, (e _).trans h.2.2.1, (e _).trans h.2.2.2⟩
/-- what was read of a statement so far: text, token, statement, code, unaries -/
abbrev dT0 : Type := txT → Nat → Nat → Nat → Nat → Prop
def dst (s cc : Nat) (D : dT0) : Prop := ∀ X i' s' c' u', D X i' s' c' u' → (s < s' ∧ cc ≤ c') ∧ ∀ X' : txT, (∀ g x, s < x → x < s' → X'.1 g x = X.1 g x) → (∀ k, cc ≤ k → k < c' → X'.2.1 k = X.2.1 k ∧ X'.2.2 k = X.2.2 k) → D X' i' s' c' u'
def d0 (i s cc un : Nat) : dT0 := fun _ i' s' c' u' => i = i' ∧ s + 1 = s' ∧ cc = c' ∧ un = u'
def dQ (Q : Nat → Nat → Prop) (D : dT0) : dT0 := fun X j s' c' u' => ∃ i', Q i' j ∧ D X i' s' c' u'
def dX (κ ν : Nat → Int) (ir : Bool) (t : Int) (D : dT0) : dT0 := fun X j s' c' u' => ∃ i' c0 u0 v j1, D X i' s' c0 u0 ∧ dEx κ ν ir X i' c0 j1 c' v ∧ κ j1 = t ∧ j = j1 + 1 ∧ u' = u0 + v
def dY (κ ν : Nat → Int) (f s : Nat) (pt z : Int) (D : dT0) : dT0 := fun X j s' c' u' => ∃ i' s0 c0 u0 v, D X i' s0 c0 u0 ∧ dB κ ν X f s pt i' s0 c0 j s' c' z v ∧ u' = u0 + v
def mdS (L p : Nat) (M : rf_M) (s cc : Nat) (k par part d fg : Int) (D : dT0) (lt a b : Int) (N : rf_M) : Prop := eqy (stF p) M N ∧ gi N 169 4 = fg ∧ (gi N 169 3 = -1 → ∃ i' s' c' u', ptt p L N i' s' c' u' ∧ kep p M N s cc ∧ hds (XP N p) s k cc par part d lt a b ∧ D (XP N p) i' s' c' u')
section MDS
variable {κ ν : Nat → Int} {L p : Nat} {M N N' : rf_M} {i s cc un : Nat} {k par part d fg lt a b t : Int} {D D' : dT0} {ir : Bool}
theorem dst_0 : dst s cc (d0 i s cc un) := fun X i' s' c' u' h => by
  obtain ⟨h1, h2, h3, h4⟩ := h
  exact ⟨⟨by omega, by omega⟩, fun X' _ _ => ⟨h1, h2, h3, h4⟩⟩
theorem dst_Q {Q : Nat → Nat → Prop} (h : dst s cc D) : dst s cc (dQ Q D) := fun X i' s' c' u' q => by
  obtain ⟨i1, q1, q2⟩ := q
  obtain ⟨a1, a2⟩ := h _ _ _ _ _ q2
  exact ⟨a1, fun X' e1 e2 => ⟨i1, q1, a2 X' e1 e2⟩⟩
theorem dst_X (h : dst s cc D) : dst s cc (dX κ ν ir t D) := fun X i' s' c' u' q => by
  obtain ⟨i1, c0, u0, v, j1, q1, q2, q3, q4, q5⟩ := q
  obtain ⟨⟨a1, a2⟩, a3⟩ := h _ _ _ _ _ q1
  have b1 := (q2.congr (X' := X)).1
  exact ⟨⟨a1, by omega⟩, fun X' e1 e2 => ⟨i1, c0, u0, v, j1, a3 X' e1 (fun k x y => e2 k x (by omega)), (q2.congr (X' := X')).2 (fun k x y => e2 k (by omega) y), q3, q4, q5⟩⟩
theorem dst_Y {f : Nat} {pt z : Int} (h : dst s cc D) : dst s cc (dY κ ν f s pt z D) := fun X i' s' c' u' q => by
  obtain ⟨i1, s0, c0, u0, v, q1, q2, q3⟩ := q
  obtain ⟨⟨a1, a2⟩, a3⟩ := h _ _ _ _ _ q1
  obtain ⟨⟨b1, b2⟩, b3⟩ := dB.congr (X := X) (X' := X) f _ _ _ _ _ _ _ _ _ _ q2
  exact ⟨⟨by omega, by omega⟩, fun X' e1 e2 => ⟨i1, s0, c0, u0, v, a3 X' (fun g x y w => e1 g x y (by omega)) (fun k x y => e2 k x (by omega)), (dB.congr (X := X) (X' := X') f _ _ _ _ _ _ _ _ _ _ q2).2 ⟨fun g x y w => e1 g x (by omega) w, fun k x y => e2 k (by omega) y⟩, q3⟩⟩
theorem mdS.tk (h : mdS L p M s cc k par part d fg D lt a b N) (hk : 25 ≤ p ∧ p ≤ 157) (tM : tkM κ ν L M) : tkM κ ν L N := tM.eq h.1 (fun b k q => by unfold stF; omega)
theorem mdS.at (h : mdS L p M s cc k par part d fg D lt a b N) : gi N 169 3 = -1 → ∃ i, gi N 169 2 = ((i : Nat) : Int) ∧ i ≤ L := fun q => by
  obtain ⟨i', s', c', u', a1, _⟩ := h.2.2 q
  exact ⟨i', a1.1.1, a1.1.2.1⟩
theorem mdS.bad (e : eqy (stF p) M N) (f : gi N 169 4 = fg) (q : ¬ gi N 169 3 = -1) : mdS L p M s cc k par part d fg D lt a b N := ⟨e, f, fun w => absurd w q⟩
theorem mdS.mono (h : mdS L p M s cc k par part d fg D lt a b N) (w : ∀ X i' s' c' u', D X i' s' c' u' → D' X i' s' c' u') : mdS L p M s cc k par part d fg D' lt a b N := ⟨h.1, h.2.1, fun q => by
  obtain ⟨i', s', c', u', a1, a2, a3, a4⟩ := h.2.2 q
  exact ⟨i', s', c', u', a1, a2, a3, w _ _ _ _ _ a4⟩⟩
theorem ptt.mv {c u j : Nat} (h : ptt p L N i s c u) (hk : 25 ≤ p ∧ p ≤ 157) (e : eqy (fun b k => b = 169 ∧ (k = 2 ∨ k = 4)) N N') (hi : gi N' 169 2 = (j : Int)) (hj : j ≤ L) : ptt p L N' j s c u := ⟨⟨hi, hj, (e.i (by omega)).trans h.1.2.2.1, (e.i (by omega)).trans h.1.2.2.2.1, h.1.2.2.2.2⟩, (e.i (by omega)).trans h.2.1, h.2.2.1, h.2.2.2⟩
theorem mdS.ref (h : mdS L p M s cc k par part d fg D lt a b N) (hM : M.2.2 169 1 = some p) : N.2.2 169 1 = some p := by rw [h.1.2]; exact hM
theorem mdS.e (h : mdS L p M s cc k par part d fg D lt a b N) (hk : 25 ≤ p ∧ p ≤ 157) (hM : M.2.2 169 1 = some p) (tM : tkM κ ν L M) : prE κ ν L p N := ⟨h.ref hM, h.tk hk tM, fun q => by
  obtain ⟨i', s', c', u', a1, _⟩ := h.2.2 q
  exact ⟨i', c', u', a1.1, a1.2.2.2⟩⟩
/-- place and flag alone change -/
theorem mdS.go {fg' : Int} (h : mdS L p M s cc k par part d fg D lt a b N) (hk : 25 ≤ p ∧ p ≤ 157) (y : eqy (fun b k => b = 169 ∧ (k = 2 ∨ k = 4)) N N') (hf : gi N' 169 4 = fg') (hj : gi N 169 3 = -1 → ∀ i' s' c' u', D (XP N p) i' s' c' u' → gi N 169 2 = (i' : Int) → i' ≤ L → ∃ j : Nat, gi N' 169 2 = (j : Int) ∧ j ≤ L ∧ D' (XP N p) j s' c' u') : mdS L p M s cc k par part d fg' D' lt a b N' := by
  refine ⟨h.1.trans (y.mono (fun b k q => by unfold stF; omega)), hf, fun q => ?_⟩
  have q0 : gi N 169 3 = -1 := by rw [← y.i (by omega)]; exact q
  obtain ⟨i', s', c', u', a1, a2, a3, a4⟩ := h.2.2 q0
  obtain ⟨j, b1, b2, b3⟩ := hj q0 _ _ _ _ a4 a1.1.1 a1.1.2.1
  have e := XP_same (p := p) y (fun b k x w => by omega)
  refine ⟨j, s', c', u', a1.mv hk y b1 b2, a2.same y (fun b k x w => by omega), ?_, ?_⟩
  · rw [e]; exact a3
  · rw [e]; exact b3
variable {K : rf_M → Prop}
theorem m_at {K : Int → rf_M → Prop} (hk : 25 ≤ p ∧ p ≤ 157) (tM : tkM κ ν L M) (h : mdS L p M s cc k par part d fg D lt a b N) (h1 : gi N 169 3 = -1 → mdS L p M s cc k par part d fg (dQ (fun i' j => i' = j ∧ κ j = t) D) lt a b N → K 1 N) (h0 : mdS L p M s cc k par part d fg (dQ (fun i' j => i' = j ∧ κ j ≠ t) D) lt a b N → K 0 N) : em_Q_isAt t N K := by
  refine x_Qat (h.tk hk tM) h.at (fun hf i0 hat hil e => h1 hf ⟨h.1, h.2.1, fun q => ?_⟩) (fun n => h0 ⟨h.1, h.2.1, fun q => ?_⟩)
  · obtain ⟨i', s', c', u', a1, a2, a3, a4⟩ := h.2.2 q
    have e0 : i0 = i' := by have := a1.1.1; omega
    subst e0
    exact ⟨i0, s', c', u', a1, a2, a3, i0, ⟨rfl, e⟩, a4⟩
  · obtain ⟨i', s', c', u', a1, a2, a3, a4⟩ := h.2.2 q
    exact ⟨i', s', c', u', a1, a2, a3, i', ⟨rfl, n q i' a1.1.1 a1.1.2.1⟩, a4⟩
theorem m_adv (hL : L ≤ 800) (hκ : κ L = 0) (hk : 25 ≤ p ∧ p ≤ 157) (tM : tkM κ ν L M) (h : mdS L p M s cc k par part d fg D lt a b N) (hD : ∀ X i' s' c' u', D X i' s' c' u' → κ i' ≠ 0) (kk : ∀ N', mdS L p M s cc k par part d fg (dQ (fun i' j => j = i' + 1) D) lt a b N' → K N') : em_Q_advance N K := by
  by_cases f : gi N 169 3 = -1
  · obtain ⟨i0, s0, c0, u0, a1, a2, a3, a4⟩ := h.2.2 f
    have hlt : i0 < L := by
      rcases Nat.lt_or_ge i0 L with q | q
      · exact q
      · exact absurd (by rw [show i0 = L by have := a1.1.2.1; omega]; exact hκ) (hD _ _ _ _ _ a4)
    refine x_Qadv (h.tk hk tM) a1.1.1 hlt hL (fun N' y e => kk N' (h.go hk (y.mono (fun b k q => by omega)) ((y.i (by omega)).trans h.2.1) (fun _ i' s' c' u' w1 w2 w3 => ⟨i0 + 1, e, by omega, i', ?_, w1⟩)))
    have := a1.1.1
    omega
  · exact x_Qadv' (fun N' y => kk N' (mdS.bad (h.1.trans (y.mono (fun b k q => by unfold stF; omega))) ((y.i (by omega)).trans h.2.1) (by rw [y.i (by omega)]; exact f)))
theorem m_ref (hk : 25 ≤ p ∧ p ≤ 157) (tM : tkM κ ν L M) (h : mdS L p M s cc k par part d fg D lt a b N) (kk : ∀ N', ¬ gi N' 169 3 = -1 → eqy (stF p) M N' → gi N' 169 4 = fg → K N') : em_Q_refuse N K := x_Qref (h.tk hk tM) h.at (fun N' y q => kk N' q (h.1.trans (y.mono (fun b k q => by unfold stF; omega))) ((y.i (by omega)).trans h.2.1))
theorem m_expect (hL : L ≤ 800) (hκ : κ L = 0) (hk : 25 ≤ p ∧ p ≤ 157) (tM : tkM κ ν L M) (ht : t ≠ 0) (h : mdS L p M s cc k par part d fg D lt a b N) (kk : ∀ N', mdS L p M s cc k par part d fg (dQ (fun i' j => j = i' + 1 ∧ κ i' = t) D) lt a b N' → K N') : em_Q_expect t N K := by
  refine m_at hk tM h (fun _ h1 => ⟨fun q => absurd q (by decide), fun _ => ?_⟩) (fun h0 => ⟨fun _ => m_ref hk tM h0 (fun N' q e f => kk N' (mdS.bad e f q)), fun q => absurd rfl q⟩)
  refine m_adv hL hκ hk tM h1 (fun X i' s' c' u' q => ?_) (fun N' h2 => kk N' (h2.mono (fun X j s' c' u' q => ?_)))
  · obtain ⟨i1, ⟨e1, e2⟩, q2⟩ := q
    rw [e2]; exact ht
  · obtain ⟨j1, e0, i1, ⟨e1, e2⟩, q2⟩ := q
    exact ⟨i1, ⟨by omega, by rw [e1]; exact e2⟩, q2⟩
theorem m_closed (hL : L ≤ 800) (hκ : κ L = 0) (hp : p ∈ k1) (hk : 25 ≤ p ∧ p ≤ 157) (hM : M.2.2 169 1 = some p) (tM : tkM κ ν L M) (ht : t ≠ 0) (hir : ir = !(decide (fg = 0))) (hS : dst s cc D) (h : mdS L p M s cc k par part d fg D lt a b N) (kk : ∀ N', mdS L p M s cc k par part d fg (dX κ ν ir t D) lt a b N' → K N') : Esp κ ν L p 0 N (fun M1 => isP M1 169 1 ∧ em_P_emit (gr M1 169 1) 0 0 M1 (fun M2 => em_Q_expect t M2 (fun M3 => K M3))) := by
  have eir : irM N = ir := by unfold irM; rw [h.2.1, hir]
  refine x_closed hL hκ hp ht (h.e hk hM tM) (fun N' y g => kk N' ⟨h.1.trans (y.mono (fun b k q => by unfold exF at q; unfold stF; omega)), (y.i (by unfold exF; omega)).trans h.2.1, fun q => ?_⟩)
  obtain ⟨hf, i0, c0, u0, j, c', v, b1, b2, b3, b4, b5, b6⟩ := g q
  obtain ⟨i', s', c1, u1, a1, a2, a3, a4⟩ := h.2.2 hf
  obtain ⟨rfl, rfl, rfl⟩ := a1.1.uniq b1
  obtain ⟨⟨r1, r2⟩, r3⟩ := hS _ _ _ _ _ a4
  have e9 : kep p N N' 41 c1 := ⟨fun f x h9 _ => y.i (by unfold exF; omega), b6⟩
  have h40 := a1.2.2.1
  refine ⟨j + 1, s', c', u1 + v, ⟨b4, (y.i (by unfold exF; omega)).trans a1.2.1, a1.2.2.1, by have := a1.2.2.2; omega⟩, ?_, a3.of (fun g => e9.fd (by omega)), i', c1, u1, v, j, r3 _ (fun g x _ hx => e9.fd (by omega)) (fun k _ hk => e9.c hk), ?_, b3, rfl, rfl⟩
  · exact a2.trans e9 (by omega) r2
  · rw [← eir]; exact b2
theorem m_body {K : Int → rf_M → Prop} {pt : Int} (hk : 25 ≤ p ∧ p ≤ 157) (hM : M.2.2 169 1 = some p) (tM : tkM κ ν L M) (hd : 0 ≤ d ∧ d ≤ 8) (hpt : pt = 0 ∨ pt = 1) (hS : dst s cc D) (h : mdS L p M s cc k par part d 0 D lt a b N) (kk : ∀ z N', inr z → mdS L p M s cc k par part d 0 (dY κ ν (8 - d.toNat) s pt z D) lt a b N' → K z N') : Bsp κ ν L p (s : Int) pt d N K := by
  refine ⟨hd, ⟨by omega, hpt⟩, ⟨h.ref hM, h.tk hk tM, h.2.1, fun q => ?_⟩, fun z N' iz g => kk z N' iz ⟨h.1.trans g.1, g.2.1, fun q => ?_⟩⟩
  · obtain ⟨i', s', c', u', a1, _⟩ := h.2.2 q
    exact ⟨i', s', c', u', a1⟩
  · obtain ⟨hf, i0, s0, c0, u0, j, s1, c1, v, b1, b2, b3, b4⟩ := g.2.2 q
    obtain ⟨i', s', c', u', a1, a2, a3, a4⟩ := h.2.2 hf
    obtain ⟨rfl, rfl, rfl, rfl⟩ := a1.uniq b1
    obtain ⟨⟨r1, r2⟩, r3⟩ := hS _ _ _ _ _ a4
    rw [tn_] at b2
    exact ⟨j, s1, c1, u' + v, b3, a2.trans b4 (by omega) r2, a3.of (fun g => b4.fd r1), i', s', c', u', v, r3 _ (fun g x _ hx => b4.fd hx) (fun k _ hk => b4.c hk), b2, rfl⟩
theorem m_w {f : Nat} {z : Int} (hk : 25 ≤ p ∧ p ≤ 157) (hf : f = 1 ∨ f = 7 ∨ f = 8) (iz : inr z) (hS : dst s cc D) (h : mdS L p M s cc k par part d fg D lt a b N) : mdS L p M s cc k par part d fg D (if f = 1 then z else lt) (if f = 7 then z else a) (if f = 8 then z else b) (wi N (p + 1 + f) s z) := by
  have y : eqy (fun b k => b = p + 1 + f ∧ k = s) N (wi N (p + 1 + f) s z) := (eqy.rfl' N).wi ⟨rfl, rfl⟩
  refine ⟨h.1.trans (y.mono (fun b k q => by unfold stF; omega)), (y.i (by omega)).trans h.2.1, fun q => ?_⟩
  obtain ⟨i', s', c', u', a1, a2, a3, a4⟩ := h.2.2 (by rw [← y.i (by omega)]; exact q)
  obtain ⟨⟨r1, r2⟩, r3⟩ := hS _ _ _ _ _ a4
  have eg : ∀ g, g ≠ f → (XP (wi N (p + 1 + f) s z) p).1 g s = (XP N p).1 g s := fun g hg => XP_w (by omega)
  have ef : (XP (wi N (p + 1 + f) s z) p).1 f s = z := XP_wa (by omega) iz
  refine ⟨i', s', c', u', ⟨⟨(y.i (by omega)).trans a1.1.1, a1.1.2.1, (y.i (by omega)).trans a1.1.2.2.1, (y.i (by omega)).trans a1.1.2.2.2.1, a1.1.2.2.2.2⟩, (y.i (by omega)).trans a1.2.1, a1.2.2.1, a1.2.2.2⟩, ⟨fun g x h9 hx => (y.i (by omega)).trans (a2.1 g x h9 hx), fun k hk' => ⟨(y.i (by omega)).trans (a2.2 k hk').1, (y.i (by omega)).trans (a2.2 k hk').2⟩⟩, ?_, r3 _ (fun g x hx _ => XP_w (by omega)) (fun k _ _ => XP_wc (by omega))⟩
  obtain ⟨⟨b0, b1, b2, b3, b4, b5⟩, b6, b7, b8⟩ := a3
  rcases hf with rfl | rfl | rfl
  · exact ⟨⟨(eg 0 (by decide)).trans b0, ef, (eg 2 (by decide)).trans b2, (eg 3 (by decide)).trans b3, (eg 4 (by decide)).trans b4, (eg 5 (by decide)).trans b5⟩, (eg 6 (by decide)).trans b6, (eg 7 (by decide)).trans b7, (eg 8 (by decide)).trans b8⟩
  · exact ⟨⟨(eg 0 (by decide)).trans b0, (eg 1 (by decide)).trans b1, (eg 2 (by decide)).trans b2, (eg 3 (by decide)).trans b3, (eg 4 (by decide)).trans b4, (eg 5 (by decide)).trans b5⟩, (eg 6 (by decide)).trans b6, ef, (eg 8 (by decide)).trans b8⟩
  · exact ⟨⟨(eg 0 (by decide)).trans b0, (eg 1 (by decide)).trans b1, (eg 2 (by decide)).trans b2, (eg 3 (by decide)).trans b3, (eg 4 (by decide)).trans b4, (eg 5 (by decide)).trans b5⟩, (eg 6 (by decide)).trans b6, (eg 7 (by decide)).trans b7, ef⟩
/-- the first, the second body -/
theorem m_b0 {R : rf_M → Prop} (hp : p ∈ k1) (hk : 25 ≤ p ∧ p ≤ 157) (hM : M.2.2 169 1 = some p) (tM : tkM κ ν L M) (hd : 0 ≤ d ∧ d ≤ 8) (hS : dst s cc D) (h : mdS L p M s cc k par part d 0 D lt a b N) (kk : ∀ z N', mdS L p M s cc k par part d 0 (dY κ ν (8 - d.toNat) s 0 z D) lt z b N' → R N') : isP N 169 1 ∧ Bsp κ ν L p (s : Int) 0 d N (fun z1 M1 => 0 ≤ (s : Int) ∧ (s : Int) < 40 → ∀ M2 : rf_M, M2 = wi M1 ((gr N 169 1) + 8) ((s : Int)).toNat z1 → R M2) := by
  have ip := isPk (h.ref hM) hp
  refine ⟨ip.1, m_body hk hM tM hd (Or.inl rfl) hS h (fun z N' iz h' _ M2 e2 => ?_)⟩
  rw [ip.2, tn_] at e2
  rw [e2]
  exact kk z _ (m_w (f := 7) hk (by omega) iz (dst_Y hS) h')
theorem m_b1 {R : rf_M → Prop} (hp : p ∈ k1) (hk : 25 ≤ p ∧ p ≤ 157) (hM : M.2.2 169 1 = some p) (tM : tkM κ ν L M) (hd : 0 ≤ d ∧ d ≤ 8) (hS : dst s cc D) (h : mdS L p M s cc k par part d 0 D lt a b N) (kk : ∀ z N', mdS L p M s cc k par part d 0 (dY κ ν (8 - d.toNat) s 1 z D) lt a z N' → R N') : isP N 169 1 ∧ Bsp κ ν L p (s : Int) 1 d N (fun z1 M1 => 0 ≤ (s : Int) ∧ (s : Int) < 40 → ∀ M2 : rf_M, M2 = wi M1 ((gr N 169 1) + 9) ((s : Int)).toNat z1 → R M2) := by
  have ip := isPk (h.ref hM) hp
  refine ⟨ip.1, m_body hk hM tM hd (Or.inr rfl) hS h (fun z N' iz h' _ M2 e2 => ?_)⟩
  rw [ip.2, tn_] at e2
  rw [e2]
  exact kk z _ (m_w (f := 8) hk (by omega) iz (dst_Y hS) h')
/-- a letter that is no cell -/
theorem m_local {K : Int → rf_M → Prop} (hL : L ≤ 800) (hκ : κ L = 0) (hi : ∀ k, inr (κ k) ∧ inr (ν k)) (hν : ∀ k, κ k = 1 → 0 ≤ ν k) (hk : 25 ≤ p ∧ p ≤ 157) (tM : tkM κ ν L M) (h : mdS L p M s cc k par part d fg D lt a b N) (kk : ∀ z N', inr z → mdS L p M s cc k par part d fg (dQ (fun i' j => j = i' + 1 ∧ κ i' = 1 ∧ 16 ≤ ν i' ∧ ν i' = z) D) lt a b N' → K z N') : em_Q_local N K := by
  have no : ∀ N', ¬ gi N' 169 3 = -1 → eqy (stF p) M N' → gi N' 169 4 = fg → K 16 N' := fun N' q e f => kk 16 N' (inr_z (by omega) (by omega)) (mdS.bad e f q)
  refine fun _ => m_at hk tM h (fun hf h1 => ⟨fun q => absurd q (by decide), fun _ => ?_⟩) (fun h0 => ⟨fun _ => m_ref hk tM h0 no, fun q => absurd rfl q⟩)
  obtain ⟨i0, s0, c0, u0, a1, a2, a3, i1, ⟨e1, e2⟩, a4⟩ := h1.2.2 hf
  rw [a1.1.1, tn_, ((h.tk hk tM).2 i0 a1.1.2.1).2.1]
  refine x_isCell (fun hc => ⟨fun q => absurd q (by decide), fun _ => m_ref hk tM h1 no⟩) (fun hc => ⟨fun _ => ?_, fun q => absurd rfl q⟩)
  have h16 : 16 ≤ ν i0 := by have := hν i0 e2; omega
  have h2 : mdS L p M s cc k par part d fg (dQ (fun i' j => i' = j ∧ (κ j = 1 ∧ 16 ≤ ν j ∧ ν j = ν i0)) D) lt a b N := ⟨h.1, h.2.1, fun _ => ⟨i0, s0, c0, u0, a1, a2, a3, i1, ⟨e1, e2, h16, rfl⟩, a4⟩⟩
  refine m_adv hL hκ hk tM h2 (fun X i' s' c' u' q => ?_) (fun N' h3 => kk (ν i0) N' (hi i0).2 (h3.mono (fun X j s' c' u' q => ?_)))
  · obtain ⟨_, ⟨_, w, _⟩, _⟩ := q
    rw [w]; decide
  · obtain ⟨j1, w1, i2, ⟨w2, w3⟩, w4⟩ := q
    subst w2
    exact ⟨i2, ⟨w1, w3⟩, w4⟩
end MDS
/-! a statement of the program says what the grammar says -/
def stqx (κ ν : Nat → Int) (L p : Nat) (par part d : Int) (M : rf_M) (i s cc un : Nat) (z : Int) (M' : rf_M) : Prop := eqy (stF p) M M' ∧ gi M' 169 4 = 0 ∧ (gi M' 169 3 = -1 → z = (s : Int) ∧ ∃ j s1 c1 u, dT κ ν (XP M' p) (dB κ ν (XP M' p) (8 - d.toNat)) par part d i s cc j s1 c1 u ∧ (XP M' p).1 6 s = -1 ∧ ptt p L M' j s1 c1 (un + u) ∧ kep p M M' s cc)
section PST
variable {κ ν : Nat → Int} {L p : Nat} {M M3 N : rf_M} {i s cc un : Nat} {par part d lt a b : Int} {D : dT0} {K : rf_M → Prop} {Bd : Int → Int → Int → rf_M → (Int → rf_M → Prop) → Prop}
theorem stqx_fin (h : mdS L p M s cc (κ i) par part d 0 D lt a b N) (H : ∀ X j s' c' u', hds X s (κ i) cc par part d lt a b → D X j s' c' u' → ∃ u, u' = un + u ∧ dT κ ν X (dB κ ν X (8 - d.toNat)) par part d i s cc j s' c' u) : stqx κ ν L p par part d M i s cc un (s : Int) N := ⟨h.1, h.2.1, fun q => by
  obtain ⟨j, s', c', u', a1, a2, a3, a4⟩ := h.2.2 q
  obtain ⟨u, e, b1⟩ := H _ _ _ _ _ a3 a4
  subst e
  exact ⟨rfl, j, s', c', u, b1, a3.2.1, a1, a2⟩⟩
theorem x_k1 (hL : L ≤ 800) (hκ : κ L = 0) (hp : p ∈ k1) (hk : 25 ≤ p ∧ p ≤ 157) (hM : M.2.2 169 1 = some p) (tM : tkM κ ν L M) (e : κ i = 1) (h3 : mdS L p M s cc (κ i) par part d 0 (d0 (i + 1) s cc un) (ν i) (-1) (-1) M3) (kk : ∀ N, stqx κ ν L p par part d M i s cc un (s : Int) N → K N) : em_Q_expect 61 M3 (fun M4 => em_Q_closedExp (Esp κ ν L p) Bd M4 K) := by
  refine m_expect hL hκ hk tM (by decide) h3 (fun N1 h1 => m_closed hL hκ hp hk hM tM (ir := false) (by decide) (by decide) (dst_Q dst_0) h1 (fun N2 h2 => kk N2 (stqx_fin h2 (fun X j s' c' u' hh q => ?_))))
  obtain ⟨i', c0, u0, v, j1, ⟨i1, ⟨rfl, e61⟩, rfl, rfl, rfl, rfl⟩, b2, b3, rfl, rfl⟩ := q
  exact ⟨v, rfl, ⟨hh.1.1, hh.1.2.2⟩, Or.inl ⟨e, e61, ⟨hh.1.2.1, hh.2.2.1, hh.2.2.2⟩, rfl, j1, b2, b3, rfl⟩⟩
theorem x_k13 (hL : L ≤ 800) (hκ : κ L = 0) (hk : 25 ≤ p ∧ p ≤ 157) (tM : tkM κ ν L M) (e : κ i = 13) (h3 : mdS L p M s cc (κ i) par part d 0 (d0 (i + 1) s cc un) (ν i) (-1) (-1) M3) (kk : ∀ N, stqx κ ν L p par part d M i s cc un (s : Int) N → K N) : em_Q_expect 59 M3 K := by
  refine m_expect hL hκ hk tM (by decide) h3 (fun N1 h1 => kk N1 (stqx_fin h1 (fun X j s' c' u' hh q => ?_)))
  obtain ⟨i1, ⟨rfl, e59⟩, rfl, rfl, rfl, rfl⟩ := q
  exact ⟨0, rfl, ⟨hh.1.1, hh.1.2.2⟩, Or.inr (Or.inr (Or.inr (Or.inl ⟨e, ⟨hh.2.2.1, hh.2.2.2⟩, e59, rfl, rfl, rfl, rfl⟩)))⟩
theorem x_k14 (hL : L ≤ 800) (hκ : κ L = 0) (hp : p ∈ k1) (hk : 25 ≤ p ∧ p ≤ 157) (hM : M.2.2 169 1 = some p) (tM : tkM κ ν L M) (e : κ i = 14) (h3 : mdS L p M s cc (κ i) par part d 0 (d0 (i + 1) s cc un) (ν i) (-1) (-1) M3) (kk : ∀ N, stqx κ ν L p par part d M i s cc un (s : Int) N → K N) : em_Q_closedExp (Esp κ ν L p) Bd M3 K := by
  refine m_closed hL hκ hp hk hM tM (ir := false) (by decide) (by decide) dst_0 h3 (fun N2 h2 => kk N2 (stqx_fin h2 (fun X j s' c' u' hh q => ?_)))
  obtain ⟨i', c0, u0, v, j1, ⟨rfl, rfl, rfl, rfl⟩, b2, b3, rfl, rfl⟩ := q
  exact ⟨v, rfl, ⟨hh.1.1, hh.1.2.2⟩, Or.inr (Or.inl ⟨e, ⟨hh.2.2.1, hh.2.2.2⟩, rfl, j1, b2, b3, rfl⟩)⟩
theorem x_k19 (hL : L ≤ 800) (hκ : κ L = 0) (hp : p ∈ k1) (hk : 25 ≤ p ∧ p ≤ 157) (hM : M.2.2 169 1 = some p) (tM : tkM κ ν L M) (e : κ i = 19) (h3 : mdS L p M s cc (κ i) par part d 0 (d0 (i + 1) s cc un) (ν i) (-1) (-1) M3) (kk : ∀ N, stqx κ ν L p par part d M i s cc un (s : Int) N → K N) : ∀ M8 : rf_M, M8 = wi M3 169 4 1 → em_Q_closedExp (Esp κ ν L p) Bd M8 (fun M9 => ∀ M10 : rf_M, M10 = wi M9 169 4 0 → K M10) := by
  intro M8 e8
  have h8 : mdS L p M s cc (κ i) par part d 1 (d0 (i + 1) s cc un) (ν i) (-1) (-1) M8 := h3.go hk (by rw [e8]; exact (eqy.rfl' _).wi ⟨rfl, Or.inr rfl⟩) (by rw [e8, gi_at (inr_z (by omega) (by omega))]) (fun _ i' s' c' u' w1 w2 w3 => ⟨i', by rw [e8, gi_of (Or.inr (by omega))]; exact w2, w3, w1⟩)
  refine m_closed hL hκ hp hk hM tM (ir := true) (by decide) (by decide) dst_0 h8 (fun M9 h9 M10 e10 => ?_)
  have h10 : mdS L p M s cc (κ i) par part d 0 (dX κ ν true 59 (d0 (i + 1) s cc un)) (ν i) (-1) (-1) M10 := h9.go hk (by rw [e10]; exact (eqy.rfl' _).wi ⟨rfl, Or.inr rfl⟩) (by rw [e10, gi_at ir_0]) (fun _ i' s' c' u' w1 w2 w3 => ⟨i', by rw [e10, gi_of (Or.inr (by omega))]; exact w2, w3, w1⟩)
  refine kk M10 (stqx_fin h10 (fun X j s' c' u' hh q => ?_))
  obtain ⟨i', c0, u0, v, j1, ⟨rfl, rfl, rfl, rfl⟩, b2, b3, rfl, rfl⟩ := q
  exact ⟨v, rfl, ⟨hh.1.1, hh.1.2.2⟩, Or.inr (Or.inr (Or.inl ⟨e, ⟨hh.2.2.1, hh.2.2.2⟩, rfl, j1, b2, b3, rfl⟩))⟩
theorem x_comp (hL : L ≤ 800) (hκ : κ L = 0) (hi : ∀ k, inr (κ k) ∧ inr (ν k)) (hν : ∀ k, κ k = 1 → 0 ≤ ν k) (hp : p ∈ k1) (hk : 25 ≤ p ∧ p ≤ 157) (hM : M.2.2 169 1 = some p) (tM : tkM κ ν L M) (hd : 0 ≤ d ∧ d ≤ 8) (hb : κ i = 10 ∨ κ i = 12 ∨ κ i = 15 ∨ κ i = 17) (h3 : mdS L p M s cc (κ i) par part d 0 (d0 (i + 1) s cc un) (ν i) (-1) (-1) M3) (kk : ∀ N, stqx κ ν L p par part d M i s cc un (s : Int) N → K N) : em_Q_compound (Esp κ ν L p) (Bsp κ ν L p) (κ i) (s : Int) d M3 K := by
  have e89 : κ i ≠ 15 → κ i ≠ 17 → ∀ N, K N → e_Q_compound_89 (Esp κ ν L p) (Bsp κ ν L p) (κ i) (s : Int) d N K := fun a b N k => ⟨fun q => absurd q a, fun _ => ⟨fun q => absurd q b, fun _ => k⟩⟩
  refine ⟨fun e10 => ?_, fun n10 => ⟨fun e12 => ?_, fun n12 => ?_⟩⟩
  · -- if
    refine m_expect hL hκ hk tM (by decide) h3 (fun N1 h1 => m_closed hL hκ hp hk hM tM (ir := false) (by decide) (by decide) (dst_Q dst_0) h1 (fun N2 h2 => m_b0 hp hk hM tM hd (dst_X (dst_Q dst_0)) h2 (fun z N3 h4 => ⟨fun _ => ?_, fun q => absurd e10 q⟩)))
    refine m_at hk tM h4 (fun hf hy => ⟨fun q => absurd q (by decide), fun _ => ?_⟩) (fun hn => ⟨fun _ => e89 (by omega) (by omega) N3 (kk N3 (stqx_fin hn (fun X j s' c' u' hh q => ?_))), fun q => absurd rfl q⟩)
    · refine m_adv hL hκ hk tM hy (fun X i' s' c' u' q => ?_) (fun N4 h5 => m_b1 hp hk hM tM hd (dst_Q (dst_Q (dst_Y (dst_X (dst_Q dst_0))))) h5 (fun z' N5 h6 => e89 (by omega) (by omega) N5 (kk N5 (stqx_fin h6 (fun X j s' c' u' hh q => ?_)))))
      · obtain ⟨_, ⟨_, w⟩, _⟩ := q
        rw [w]; decide
      · obtain ⟨i5, s5, c5, u5, v5, ⟨i4, rfl, i3, ⟨rfl, e11⟩, i2, s2, c2, u2, v2, ⟨i1, c1, u1, v1, j1, ⟨i0, ⟨rfl, e40⟩, rfl, rfl, rfl, rfl⟩, x1, x2, rfl, rfl⟩, y1, rfl⟩, y2, rfl⟩ := q
        exact ⟨v1 + v2 + v5, by omega, ⟨hh.1.1, hh.1.2.2⟩, Or.inr (Or.inr (Or.inr (Or.inr (Or.inr (Or.inl ⟨e10, e40, j1, c2, v1, i3, s5, c5, v2, x1, x2, by rw [hh.2.2.1]; exact y1, Or.inr ⟨e11, v5, by rw [hh.2.2.2]; exact y2, rfl⟩⟩)))))⟩
    · obtain ⟨i3, ⟨rfl, n11⟩, i2, s2, c2, u2, v2, ⟨i1, c1, u1, v1, j1, ⟨i0, ⟨rfl, e40⟩, rfl, rfl, rfl, rfl⟩, x1, x2, rfl, rfl⟩, y1, rfl⟩ := q
      exact ⟨v1 + v2, by omega, ⟨hh.1.1, hh.1.2.2⟩, Or.inr (Or.inr (Or.inr (Or.inr (Or.inr (Or.inl ⟨e10, e40, j1, c2, v1, i3, s', c', v2, x1, x2, by rw [hh.2.2.1]; exact y1, Or.inl ⟨n11, hh.2.2.2, rfl, rfl, rfl, rfl⟩⟩)))))⟩
  · -- while
    refine m_expect hL hκ hk tM (by decide) h3 (fun N1 h1 => m_closed hL hκ hp hk hM tM (ir := false) (by decide) (by decide) (dst_Q dst_0) h1 (fun N2 h2 => m_b0 hp hk hM tM hd (dst_X (dst_Q dst_0)) h2 (fun z N3 h4 => ⟨fun q => absurd q n10, fun _ => e89 (by omega) (by omega) N3 (kk N3 (stqx_fin h4 (fun X j s' c' u' hh q => ?_)))⟩)))
    obtain ⟨i2, s2, c2, u2, v2, ⟨i1, c1, u1, v1, j1, ⟨i0, ⟨rfl, e40⟩, rfl, rfl, rfl, rfl⟩, x1, x2, rfl, rfl⟩, y1, rfl⟩ := q
    exact ⟨v1 + v2, by omega, ⟨hh.1.1, hh.1.2.2⟩, Or.inr (Or.inr (Or.inr (Or.inr (Or.inl ⟨e12, e40, hh.2.2.2, j1, c2, v1, v2, x1, x2, by rw [hh.2.2.1]; exact y1, rfl⟩))))⟩
  · refine m_b0 hp hk hM tM hd dst_0 h3 (fun z N1 h1 => ⟨fun q => absurd q n10, fun _ => ⟨fun e15 => ?_, fun n15 => ⟨fun e17 => ?_, fun n17 => absurd hb (by omega)⟩⟩⟩)
    · refine m_expect hL hκ hk tM (by decide) h1 (fun N2 h2 => m_b1 hp hk hM tM hd (dst_Q (dst_Y dst_0)) h2 (fun z' N3 h4 => ⟨fun q => absurd q (by omega), fun _ => kk N3 (stqx_fin h4 (fun X j s' c' u' hh q => ?_))⟩))
      obtain ⟨i3, s3, c3, u3, v3, ⟨i2, ⟨rfl, e16⟩, i1, s1, c1, u1, v1, ⟨rfl, rfl, rfl, rfl⟩, y1, rfl⟩, y2, rfl⟩ := q
      exact ⟨v1 + v3, by omega, ⟨hh.1.1, hh.1.2.2⟩, Or.inr (Or.inr (Or.inr (Or.inr (Or.inr (Or.inr (Or.inl ⟨e15, i2, s3, c3, v1, v3, by rw [hh.2.2.1]; exact y1, e16, by rw [hh.2.2.2]; exact y2, rfl⟩))))))⟩
    · refine m_expect hL hκ hk tM (by decide) h1 (fun N2 h2 => ?_)
      have ip2 := isPk (h2.ref hM) hp
      refine ⟨ip2.1, m_local hL hκ hi hν hk tM h2 (fun z2 N3 iz h4 _ N4 e4 => ?_)⟩
      rw [ip2.2, tn_] at e4
      subst e4
      have h5 := m_w (f := 1) hk (Or.inl rfl) iz (dst_Q (dst_Q (dst_Y dst_0))) h4
      have h6 : mdS L p M s cc (κ i) par part d 0 (dQ (fun i' j => j = i' + 1 ∧ κ i' = 1 ∧ 16 ≤ ν i' ∧ ν i' = z2) (dQ (fun i' j => j = i' + 1 ∧ κ i' = 18) (dY κ ν (8 - d.toNat) s 0 z (d0 (i + 1) s cc un)))) z2 z (-1) (wi N3 (p + 2) s z2) := h5
      refine m_b1 hp hk hM tM hd (dst_Q (dst_Q (dst_Y dst_0))) h6 (fun z' N5 h7 => kk N5 (stqx_fin h7 (fun X j s' c' u' hh q => ?_)))
      obtain ⟨i4, s4, c4, u4, v4, ⟨i3, ⟨rfl, l1, l2, l3⟩, i2, ⟨rfl, e18⟩, i1, s1, c1, u1, v1, ⟨rfl, rfl, rfl, rfl⟩, y1, rfl⟩, y2, rfl⟩ := q
      exact ⟨v1 + v4, by omega, ⟨hh.1.1, hh.1.2.2⟩, Or.inr (Or.inr (Or.inr (Or.inr (Or.inr (Or.inr (Or.inr ⟨e17, i2, s4, c4, v1, v4, by rw [hh.2.2.1]; exact y1, e18, ⟨l1, l2, hh.1.2.1.trans l3.symm⟩, by rw [hh.2.2.2]; exact y2, rfl⟩))))))⟩
theorem x_statement {K : Int → rf_M → Prop} (hL : L ≤ 800) (hκ : κ L = 0) (hi : ∀ k, inr (κ k) ∧ inr (ν k)) (hν : ∀ k, κ k = 1 → 0 ≤ ν k) (hp : p ∈ k1) (hM : M.2.2 169 1 = some p) (tM : tkM κ ν L M) (hd : 0 ≤ d ∧ d ≤ 8) (ipar : inr par) (ipart : inr part) (h4 : gi M 169 4 = 0) (hf : gi M 169 3 = -1) (hpt : ptt p L M i s cc un) (kk : ∀ z M', stqx κ ν L p par part d M i s cc un z M' → K z M') : em_Q_statement (Esp κ ν L p) (Bsp κ ν L p) par part d M K := by
  have hk1 := k1_or hp
  have hk : 25 ≤ p ∧ p ≤ 157 := by omega
  clear hk1
  have ip := isPk hM hp
  obtain ⟨⟨pa1, pa2, pa3, pa4, pa5⟩, pb, pc, pe⟩ := id hpt
  refine fun _ => ?_
  rw [pa1, tn_, (tM.2 i pa2).1]
  have no : e_Q_statement_30 (Esp κ ν L p) (Bsp κ ν L p) d (κ i) (-1) M K := ⟨fun _ => x_Qref tM (fun _ => ⟨i, pa1, pa2⟩) (fun M' y q => kk (-1) M' ⟨y.mono (fun b k w => by unfold stF; omega), (y.i (by omega)).trans h4, fun w => absurd w q⟩), fun q => absurd rfl q⟩
  have opn : (κ i = 1 ∨ κ i = 10 ∨ κ i = 12 ∨ κ i = 13 ∨ κ i = 14 ∨ κ i = 15 ∨ κ i = 17 ∨ κ i = 19) → isP M 169 1 ∧ em_P_open (gr M 169 1) (κ i) par part d M (fun z3 M3 => e_Q_statement_30 (Esp κ ν L p) (Bsp κ ν L p) d (κ i) z3 M3 K) := fun hb => by
    refine ⟨ip.1, ?_⟩
    rw [ip.2]
    refine x_open hp pb pc pa3 (by omega) (hi i).1 ipar ipart (inr_z (by omega) (by omega)) no (fun M1 hs y1 e0 fl => ?_)
    refine ⟨fun q => absurd q (by omega), fun _ => ?_⟩
    have ip1 := isPk (M := M1) (a := 169) (k := 1) (by rw [y1.2]; exact hM) hp
    refine ⟨ip1.1, fun _ => ?_⟩
    have a1 : gi M1 169 2 = (i : Int) := (y1.i (by omega)).trans pa1
    have t1 : tkM κ ν L M1 := tM.eq y1 (fun b k q => by omega)
    rw [a1, ip1.2, tn_, tn_, (t1.2 i pa2).2.1]
    intro _ M2 e2
    have y2 : eqy (fun b k => b = p + 2 ∧ k = s) M1 M2 := by rw [e2]; exact (eqy.rfl' M1).wi ⟨rfl, rfl⟩
    have h2 : mdS L p M s cc (κ i) par part d 0 (d0 i s cc un) (ν i) (-1) (-1) M2 := by
      refine ⟨(y1.mono (fun b k w => by unfold stF; omega)).trans (y2.mono (fun b k w => by unfold stF; omega)), (y2.i (by omega)).trans ((y1.i (by omega)).trans h4), fun _ => ⟨i, s + 1, cc, un, ⟨⟨(y2.i (by omega)).trans a1, pa2, (y2.i (by omega)).trans ((y1.i (by omega)).trans pa3), (y2.i (by omega)).trans ((y1.i (by omega)).trans pa4), pa5⟩, (y2.i (by omega)).trans e0, by omega, pe⟩, ⟨fun f x h9 hx => (y2.i (by omega)).trans (y1.i (by omega)), fun k hk' => ⟨(y2.i (by omega)).trans (y1.i (by omega)), (y2.i (by omega)).trans (y1.i (by omega))⟩⟩, ?_, rfl, rfl, rfl, rfl⟩⟩
      obtain ⟨f0, f2, f3, f4, f5, f6, f7, f8⟩ := fl
      refine ⟨⟨(XP_f (by decide)).trans ((y2.i (by omega)).trans f0), (XP_f (by decide)).trans ?_, (XP_f (by decide)).trans ((y2.i (by omega)).trans f2), (XP_f (by decide)).trans ((y2.i (by omega)).trans f3), (XP_f (by decide)).trans ((y2.i (by omega)).trans f4), (XP_f (by decide)).trans ((y2.i (by omega)).trans f5)⟩, (XP_f (by decide)).trans ((y2.i (by omega)).trans f6), (XP_f (by decide)).trans ((y2.i (by omega)).trans f7), (XP_f (by decide)).trans ((y2.i (by omega)).trans f8)⟩
      rw [e2]
      exact gi_at (hi i).2
    refine m_adv hL hκ hk tM h2 (fun X i' s' c' u' q => ?_) (fun M3 h3' => ?_)
    · obtain ⟨rfl, _⟩ := q
      omega
    have h3 : mdS L p M s cc (κ i) par part d 0 (d0 (i + 1) s cc un) (ν i) (-1) (-1) M3 := h3'.mono (fun X j s' c' u' q => by
      obtain ⟨i', w, rfl, w2, w3, w4⟩ := q
      exact ⟨w.symm, w2, w3, w4⟩)
    have fin : ∀ N, stqx κ ν L p par part d M i s cc un (s : Int) N → K (s : Int) N := fun N q => kk _ N q
    exact ⟨fun e => x_k1 hL hκ hp hk hM tM e h3 fin, fun e => x_k13 hL hκ hk tM e h3 fin, fun e => x_k14 hL hκ hp hk hM tM e h3 fin, fun e => x_k19 hL hκ hp hk hM tM e h3 fin, fun e => x_comp hL hκ hi hν hp hk hM tM hd (by omega) h3 fin⟩
  exact ⟨fun e => ⟨fun q => absurd q (by decide), fun _ => opn (by omega)⟩, fun e => ⟨fun q => absurd q (by decide), fun _ => opn (by omega)⟩, fun e => ⟨fun q => absurd q (by decide), fun _ => opn (by omega)⟩, fun e => ⟨fun q => absurd q (by decide), fun _ => opn (by omega)⟩, fun e => ⟨fun q => absurd q (by decide), fun _ => opn (by omega)⟩, fun e => ⟨fun q => absurd q (by decide), fun _ => opn (by omega)⟩, fun e => ⟨fun q => absurd q (by decide), fun _ => opn (by omega)⟩, fun e => ⟨fun q => absurd q (by decide), fun _ => opn (by omega)⟩, fun e => ⟨fun _ => no, fun q => absurd rfl q⟩⟩
end PST
/-! the program's statements and bodies say what the grammar says -/
def ivS (κ ν : Nat → Int) (L p : Nat) (par part d : Int) (M : rf_M) (v4 v5 : Int) (N : rf_M) : Prop := eqy (stF p) M N ∧ gi N 169 4 = 0 ∧ (gi N 169 3 = -1 → gi M 169 3 = -1 ∧ ∃ i s cc un n j s1 c1 u, ptt p L M i s cc un ∧ dSl κ ν (XP N p) (dB κ ν (XP N p) (8 - d.toNat)) par part d n i s cc j s1 c1 v4 v5 u ∧ ptt p L N j s1 c1 (un + u) ∧ kep p M N s cc)
section PSS
variable {κ ν : Nat → Int} {L p : Nat} {M : rf_M} {par part d o : Int} {K : Int → rf_M → Prop}
theorem x_statements (hL : L ≤ 800) (hκ : κ L = 0) (hi : ∀ k, inr (κ k) ∧ inr (ν k)) (hν : ∀ k, κ k = 1 → 0 ≤ ν k) (hp : p ∈ k1) (h : Ssp κ ν L p par part d M K) : em_Q_statements (Esp κ ν L p) (Bsp κ ν L p) par part d M K := by
  obtain ⟨hd, ⟨ipar, ipart⟩, ⟨hM, tM, h4, hpt⟩, kk⟩ := h
  have hk : 25 ≤ p ∧ p ≤ 157 := by have := k1_or hp; omega
  have out : ∀ v4 v5 N, inr v4 → ivS κ ν L p par part d M v4 v5 N → K v4 N := fun v4 v5 N iv q => kk v4 N iv q.1 q.2.1 (fun w => by
    obtain ⟨hf, i, s, cc, un, n, j, s1, c1, u, a1, a2, a3, a4⟩ := q.2.2 w
    exact ⟨hf, i, s, cc, un, n, j, s1, c1, u, a1, dSl.ss _ _ _ _ _ _ _ _ _ _ a2, a3, a4⟩)
  refine ⟨fun w1 w2 w3 v4 v5 v6 N => (w1 = par ∧ w2 = part ∧ w3 = d) ∧ (∃ t : Nat, v6 = (t : Int) ∧ t ≤ 41) ∧ ivS κ ν L p par part d M v4 v5 N, ⟨⟨rfl, rfl, rfl⟩, ⟨0, rfl, by omega⟩, eqy.rfl' M, h4, fun q => ?_⟩, ?_⟩
  · obtain ⟨i, s, cc, un, a⟩ := hpt q
    exact ⟨q, i, s, cc, un, 0, i, s, cc, 0, a, ⟨rfl, rfl, rfl, rfl, rfl, rfl⟩, a, kep.rfl' _ _ _ _⟩
  rintro w1 w2 w3 v4 v5 v6 N - - - iv4 iv5 - ⟨⟨e1, e2, e3⟩, ⟨t, et, ht⟩, q⟩
  rw [e1, e2, e3, et]
  refine ⟨fun _ => out v4 v5 N iv4 q, fun h40 => ⟨fun hf => ⟨Or.inl rfl, fun _ => ?_, fun w => absurd rfl w⟩, fun hf => ⟨Or.inr rfl, fun w => absurd w (by decide), fun _ => out v4 v5 N iv4 q⟩⟩⟩
  have tN : tkM κ ν L N := tM.eq q.1 (fun b k q => by unfold stF; omega)
  obtain ⟨hf0, i, s, cc, un, n, j, s1, c1, u, a1, a2, a3, a4⟩ := q.2.2 hf
  have at' : gi N 169 3 = -1 → ∃ i, gi N 169 2 = ((i : Nat) : Int) ∧ i ≤ L := fun _ => ⟨j, a3.1.1, a3.1.2.1⟩
  refine x_Qat tN at' (fun _ _ _ _ _ => ⟨fun w => absurd w (by decide), fun _ => out v4 v5 N iv4 q⟩) (fun _ => ⟨fun _ => ?_, fun w => absurd rfl w⟩)
  refine x_Qat tN at' (fun _ _ _ _ _ => ⟨fun w => absurd w (by decide), fun _ => out v4 v5 N iv4 q⟩) (fun _ => ⟨fun _ => ?_, fun w => absurd rfl w⟩)
  have hMN : N.2.2 169 1 = some p := by rw [q.1.2]; exact hM
  refine x_statement hL hκ hi hν hp hMN tN hd ipar ipart q.2.1 hf a3 (fun z M4 g => ?_)
  have y4 : eqy (stF p) M M4 := q.1.trans g.1
  refine ⟨fun e5 => ⟨inr_z (by omega) (by omega), ⟨rfl, rfl, rfl⟩, ⟨t + 1, by omega, by omega⟩, y4, g.2.1, fun w => ?_⟩, fun n5 => ?_⟩
  · obtain ⟨ez, j2, s2, c2, u2, b1, b2, b3, b4⟩ := g.2.2 w
    cases n with
    | zero =>
      obtain ⟨rfl, rfl, rfl, -, -, rfl⟩ := a2
      exact ⟨hf0, _, _, _, _, 1, j2, s2, c2, u2, a1, ⟨ez, j2, s2, c2, u2, -1, -1, 0, b1, ⟨rfl, rfl, rfl, rfl, rfl, rfl⟩, b2, by rw [if_pos rfl]; exact ez, by omega⟩, b3, a4.trans b4 (Nat.le_refl _) (Nat.le_refl _)⟩
    | succ n =>
      have x0 := a2.1
      rcases (dSl.rg (dB.congr _) _ _ _ _ _ _ _ _ _ _ a2).2 with ⟨x1, x2⟩ | ⟨x1, x2, l, x3, x4⟩
      · omega
      · omega
  · have ip4 := isPk (M := M4) (a := 169) (k := 1) (by rw [g.1.2]; exact hMN) hp
    refine ⟨ip4.1, fun hb M5 e5 => ?_⟩
    rw [ip4.2] at e5
    have y5 : eqy (fun b k => b = p + 7 ∧ k = v5.toNat) M4 M5 := by rw [e5]; exact (eqy.rfl' _).wi ⟨rfl, rfl⟩
    refine ⟨inr_z (by omega) (by omega), ⟨rfl, rfl, rfl⟩, ⟨t + 1, by omega, by omega⟩, y4.trans (y5.mono (fun b k w => by unfold stF; omega)), (y5.i (by omega)).trans g.2.1, fun w => ?_⟩
    have w4 : gi M4 169 3 = -1 := by rw [← y5.i (by omega)]; exact w
    obtain ⟨ez, j2, s2, c2, u2, b1, b2, b3, b4⟩ := g.2.2 w4
    obtain ⟨⟨r1, r2⟩, r3⟩ := dSl.rg (dB.congr _) _ _ _ _ _ _ _ _ _ _ a2
    rcases r3 with ⟨_, x⟩ | ⟨x1, x2, l, x3, x4, x5⟩
    · exact absurd x n5
    have hv : v5.toNat = l := by omega
    rw [hv] at y5 e5
    have h40' := b3.2.2.1
    have hT0 := (b1.congr (X' := XP M4 p) (dB.congr _)).1
    have f5 : ∀ g x, ¬ (g = 6 ∧ x = l) → (XP M5 p).1 g x = (XP M4 p).1 g x := fun g x hx => by rw [e5]; exact XP_w (f := 6) hx
    have c5 : ∀ k, (XP M5 p).2.1 k = (XP M4 p).2.1 k ∧ (XP M5 p).2.2 k = (XP M4 p).2.2 k := fun k => by rw [e5]; exact XP_wc (f := 6) (by decide)
    have e6 : (XP M5 p).1 6 l = z := by rw [e5]; exact XP_wa (f := 6) (by decide) (inr_z (by omega) (by omega))
    have hT : dT κ ν (XP M5 p) (dB κ ν (XP M5 p) (8 - d.toNat)) par part d j s1 c1 j2 s2 c2 u2 := (b1.congr (dB.congr _)).2 (fun g x hx _ _ => f5 g x (by omega)) (fun k _ _ => c5 k)
    have sn := dSl.snoc (X := XP N p) (X' := XP M5 p) (dB.congr (8 - d.toNat)) (dB.congr _) (last := v5) ((f5 6 s1 (by omega)).trans b2) n i s cc j v4 u a2 n5 (fun g x _ hx hn => (f5 g x (fun w => hn ⟨w.1, by omega⟩)).trans (b4.fd hx)) (fun k _ hk => ⟨((c5 k).1).trans (b4.c hk).1, ((c5 k).2).trans (b4.c hk).2⟩) (by rw [hv, e6]; exact ez) hT
    refine ⟨hf0, i, s, cc, un, n + 1, j2, s2, c2, u + u2, a1, by rw [ez]; exact sn, ?_, ?_⟩
    · rw [← Nat.add_assoc]
      exact ⟨⟨(y5.i (by omega)).trans b3.1.1, b3.1.2.1, (y5.i (by omega)).trans b3.1.2.2.1, (y5.i (by omega)).trans b3.1.2.2.2.1, b3.1.2.2.2.2⟩, (y5.i (by omega)).trans b3.2.1, b3.2.2.1, b3.2.2.2⟩
    · have k5 : kep p M4 M5 s c1 := ⟨fun f x h9 hx => y5.i (by omega), fun k _ => ⟨y5.i (by omega), y5.i (by omega)⟩⟩
      exact (a4.trans b4 r1 r2).trans k5 (Nat.le_refl _) r2
theorem x_body (hL : L ≤ 800) (hκ : κ L = 0) (hi : ∀ k, inr (κ k) ∧ inr (ν k)) (hν : ∀ k, κ k = 1 → 0 ≤ ν k) (hp : p ∈ k1) (io : inr o) (h : Bsp κ ν L p o part d M K) : em_Q_body (Esp κ ν L p) (Bsp κ ν L p) o part d M K := by
  obtain ⟨hd, ⟨ho, hpart⟩, ⟨hM, tM, h4, hpt⟩, kk⟩ := h
  have hk : 25 ≤ p ∧ p ≤ 157 := by have := k1_or hp; omega
  have at' : gi M 169 3 = -1 → ∃ i, gi M 169 2 = ((i : Nat) : Int) ∧ i ≤ L := fun q => by
    obtain ⟨i, s, cc, un, a⟩ := hpt q
    exact ⟨i, a.1.1, a.1.2.1⟩
  have no : e_Q_body_15 (Esp κ ν L p) (Bsp κ ν L p) M K := x_Qref tM at' (fun M' y q => kk (-1) M' ir_1 ⟨y.mono (fun b k w => by unfold stF; omega), (y.i (by omega)).trans h4, fun w => absurd w q⟩)
  refine x_Qat tM at' (fun hf i hat hil e => ⟨fun q => absurd q (by decide), fun _ => ⟨fun h8 => ?_, fun _ => no⟩⟩) (fun _ => ⟨fun _ => no, fun q => absurd rfl q⟩)
  obtain ⟨i0, s, cc, un, a⟩ := hpt hf
  obtain rfl : i0 = i := by have := a.1.1; omega
  have hlt : i0 < L := by
    rcases Nat.lt_or_ge i0 L with q | q
    · exact q
    · rw [show i0 = L by omega, hκ] at e; omega
  refine x_Qadv tM hat hlt hL (fun M2 y2 e2 => ?_)
  have ip2 := isPk (M := M2) (a := 169) (k := 1) (by rw [y2.2]; exact hM) hp
  refine ⟨ip2.1, ip2.1, inr_z (by omega) (by omega), fun M3 e3 => ⟨inr_z (by omega) (by omega), ?_⟩⟩
  rw [ip2.2] at e3
  have y3 : eqy (fun b k => b = p ∧ k = 2) M2 M3 := by rw [e3]; exact (eqy.rfl' _).wi ⟨rfl, rfl⟩
  have a3 : ptt p L M3 (i0 + 1) s cc un := ⟨⟨(y3.i (by omega)).trans e2, by omega, (y3.i (by omega)).trans ((y2.i (by omega)).trans a.1.2.2.1), (y3.i (by omega)).trans ((y2.i (by omega)).trans a.1.2.2.2.1), a.1.2.2.2.2⟩, (y3.i (by omega)).trans ((y2.i (by omega)).trans a.2.1), a.2.2.1, a.2.2.2⟩
  have y23 : eqy (stF p) M M3 := (y2.mono (fun b k w => by unfold stF; omega)).trans (y3.mono (fun b k w => by unfold stF; omega))
  have P3 : prT κ ν L p M3 := ⟨by rw [y23.2]; exact hM, tM.eq y23 (fun b k q => by unfold stF; omega), (y3.i (by omega)).trans ((y2.i (by omega)).trans h4), fun _ => ⟨_, _, _, _, a3⟩⟩
  refine x_statements hL hκ hi hν hp ⟨⟨by omega, by omega⟩, ⟨io, inr_z (by omega) (by omega)⟩, P3, fun z M4 iz y4 f4 g => ?_⟩
  have t4 : tkM κ ν L M4 := P3.2.1.eq y4 (fun b k q => by unfold stF; omega)
  have at4 : gi M4 169 3 = -1 → ∃ i, gi M4 169 2 = ((i : Nat) : Int) ∧ i ≤ L := fun q => by
    obtain ⟨_, _, _, _, _, _, j, _, _, _, _, _, b, _⟩ := g q
    exact ⟨j, b.1.1, b.1.2.1⟩
  refine x_Qexpect hL hκ (by decide) t4 at4 (fun j M5 hf4 hat4 hlt4 e125 y5 a5 => kk z M5 iz ⟨(y23.trans y4).trans (y5.mono (fun b k w => by unfold stF; omega)), (y5.i (by omega)).trans f4, fun w => ?_⟩) (fun M5 y5 b5 => kk z M5 iz ⟨(y23.trans y4).trans (y5.mono (fun b k w => by unfold stF; omega)), (y5.i (by omega)).trans f4, fun w => absurd w b5⟩)
  obtain ⟨_, i1, s1, c1, un1, n, j1, s2, c2, u, b1, b2, b3, b4⟩ := g hf4
  obtain ⟨rfl, rfl, rfl, rfl⟩ := a3.uniq b1
  obtain rfl : j1 = j := by have := b3.1.1; omega
  have k3 : kep p M M3 s cc := ((kep.rfl' p M s cc).same y2 (fun b k w1 w2 => by omega)).same y3 (fun b k w1 w2 => by omega)
  refine ⟨hf, i0, s, cc, un, j1 + 1, s2, c2, u, a, ?_, b3.mv hk (y5.mono (fun b k w => by omega)) a5 (by omega), (k3.trans b4 (Nat.le_refl _) (Nat.le_refl _)).same y5 (fun b k w1 w2 => by omega)⟩
  have h87 : 8 - d.toNat = (8 - (d + 1).toNat) + 1 := by omega
  rw [h87, XP_same y5 (fun b k w1 w2 => by omega)]
  refine ⟨e, n, j1, ?_, e125, rfl⟩
  have o1 : ((o.toNat : Nat) : Int) = o := by omega
  have o2 : (8 - (((8 - (d + 1).toNat : Nat)) : Int)) = d + 1 := by omega
  rw [o1, o2]
  exact b2
variable {fz : Bool} {S : gS} {B : rf_M}
theorem l_body (hS : rl S) (hL : L ≤ 800) (hκ : κ L = 0) (hi : ∀ k, inr (κ k) ∧ inr (ν k)) (hν : ∀ k, κ k = 1 → 0 ≤ ν k) (hp : p ∈ k1) : ∀ (n : Nat) (x0 x1 x2 : Int) (M : rf_M) (K : Int → rf_M → Prop), fl 22 353 B M → inr x0 → inr x1 → inr x2 → Bsp κ ν L p x0 x1 x2 M K → lx (cx0 fz) n 54 0 (lv_args 0 [.ref 169, zv x0, zv x1, zv x2]) [] (M, S) (vl_i 22 353 B S K) := by
  intro n
  induction n using Nat.strongRecOn with
  | _ n ih =>
    intro x0 x1 x2 M K hR i0 i1 i2 h
    exact E_Q_body_m (E := Esp κ ν L p) (Bd := Bsp κ ν L p) hS hR (fun n' _ x0 M K a b c => l_exp hS hL hκ hi hν hp n' x0 M K a b c) (fun n' hn x0 x1 x2 M K a b c d e => ih n' hn x0 x1 x2 M K a b c d e) i0 i1 i2 (x_body hL hκ hi hν hp i0 h)
theorem l_statements (hS : rl S) (hL : L ≤ 800) (hκ : κ L = 0) (hi : ∀ k, inr (κ k) ∧ inr (ν k)) (hν : ∀ k, κ k = 1 → 0 ≤ ν k) (hp : p ∈ k1) (n : Nat) (x0 x1 x2 : Int) (M : rf_M) (K : Int → rf_M → Prop) (hR : fl 22 353 B M) (i0 : inr x0) (i1 : inr x1) (i2 : inr x2) (h : Ssp κ ν L p x0 x1 x2 M K) : lx (cx0 fz) n 35 0 (lv_args 0 [.ref 169, zv x0, zv x1, zv x2]) [] (M, S) (vl_i 22 353 B S K) :=
  E_Q_statements_m (E := Esp κ ν L p) (Bd := Bsp κ ν L p) hS hR (fun n' _ x0 M K a b c => l_exp hS hL hκ hi hν hp n' x0 M K a b c) (fun n' _ x0 x1 x2 M K a b c d e => l_body hS hL hκ hi hν hp n' x0 x1 x2 M K a b c d e) i0 i1 i2 (x_statements hL hκ hi hν hp h)
end PSS
/-! the program's parse says what the grammar says -/
/-- what ends with Q in one run, ends with Q in every run -/
theorem lx_gx {cx : rf_C} {d : Nat × Nat} {i pc : Nat} {ls : rf_L} {st : List Value} {h : rf_H} {Q : Option Value → rf_H → Prop} (k : gx cx d i pc ls st h Q) (n : Nat) : lx cx n i pc ls st h Q := fun m hm d' r h' he => by
  obtain ⟨m1, r1, h1, e1, q⟩ := k
  have a := rf_ev_mono cx _ _ _ _ _ _ _ _ (rf_ev_room cx _ d (max d.1 d'.1, max d.2 d'.2) _ _ _ _ _ _ (Nat.le_max_left _ _) (Nat.le_max_left _ _) e1) (max m1 m) (Nat.le_max_left _ _)
  have b := rf_ev_mono cx _ _ _ _ _ _ _ _ (rf_ev_room cx _ d' (max d.1 d'.1, max d.2 d'.2) _ _ _ _ _ _ (Nat.le_max_right _ _) (Nat.le_max_right _ _) he) (max m1 m) (Nat.le_max_right _ _)
  rw [a] at b
  injection b with b
  injection b with b1 b2
  subst b1; subst b2
  exact q
theorem rfF_C : ∀ q ∈ rfF, q.1 = 170 → q.2.1 ≠ 4 := by decide +kernel
theorem fl.sc {B M M' : rf_M} {q0 : Nat} (h : fl 22 353 B M) (f : sc_fr M M' q0) : fl 22 353 B M' := by
  have h' : fl 22 353 B (wq M 170 4 23) := h.wq' (by omega) (by omega) (fun q hq => by
    by_cases e : q.1 = 170
    · exact Or.inr (rfF_C q hq e)
    · exact Or.inl e)
  exact ⟨fun a k w => ⟨(f.1 a k (by omega) (by omega)).trans (h.1 a k w).1, by rw [f.2.1]; exact (h.1 a k w).2.1, by rw [f.2.2]; exact (h'.1 a k w).2.2⟩, fun q hq => by rw [f.2.2]; exact h'.2 q hq⟩
def Scsp (fz : Bool) (S : gS) (x0 : Nat) (x1 : Int) (M : rf_M) (K : rf_M → Prop) : Prop := x0 = 23 ∧ sc_S fz S ∧ sc_M fz S (rf_wq M 170 4 (some 23)) ∧ ∃ n : Nat, x1 = (n : Int) ∧ n ≤ 800 ∧ ∀ M', sc_done fz S M n (p_T (M.1 23) n) M' → K M'
theorem l_scan {fz : Bool} {S : gS} {B M : rf_M} {x0 : Nat} {x1 : Int} {K : rf_M → Prop} (hR : fl 22 353 B M) (h : Scsp fz S x0 x1 M K) (n0 : Nat) : lx (cx0 fz) n0 19 0 (lv_args 0 [.ref 170, .ref x0, zv x1]) [] (M, S) (vl_v 22 353 B S K) := by
  obtain ⟨rfl, hS, hM, n, rfl, hn, kk⟩ := h
  have e : zv (n : Int) = .int (nI n) := by rw [ni_of (by omega)]
  rw [e]
  refine lx_mono (lx_gx (sc_scan hS hM hn) n0) (fun r h' q => ?_)
  obtain ⟨q1, M', q2, q3⟩ := q
  exact ⟨M', q1, q2, hR.sc q3.2.2.2.2.2.2.2.1, kk M' q3⟩
def κT (T : tK) (k : Nat) : Int := (kd T k).toInt
def νT (T : tK) (k : Nat) : Int := (nb T k).toInt
theorem κT_L (T : tK) : κT T T.length = 0 := by
  unfold κT
  rw [(kd_end T).1]
  rfl
theorem κT_i (T : tK) : ∀ k, inr (κT T k) ∧ inr (νT T k) := fun k => ⟨inr_ti _, inr_ti _⟩
theorem κT_let {b : Nat → Int32} {n : Nat} : ∀ k, κT (p_T b n) k = 1 → 0 ≤ νT (p_T b n) k := fun k h => by
  unfold κT at h
  unfold νT
  cases he : (p_T b n)[k]? with
  | none =>
    have h0 : kd (p_T b n) k = 0 := by unfold kd; rw [he]
    rw [h0] at h
    exact absurd h (by decide)
  | some e =>
    obtain ⟨k1, k2⟩ := kd_of he
    rw [k1] at h
    rw [k2]
    exact sp_scan_let 800 0 e (List.mem_of_getElem? he) h
/-- what parse comes to -/
def prsx (p : Nat) (T : tK) (M : rf_M) (z : Int) (M' : rf_M) : Prop := ((∀ a k, ¬ (p ≤ a ∧ a ≤ p + 11) → ¬ (169 ≤ a ∧ a ≤ 173) → M'.1 a k = M.1 a k ∧ M'.2.1 a k = M.2.1 a k) ∧ ∀ a k, ¬ (a = 169 ∧ k = 1) → ¬ (a = 170 ∧ k = 4) → M'.2.2 a k = M.2.2 a k) ∧ (z = -1 → ∃ n j s c u first, dSs (κT T) (νT T) (XP M' p) (dB (κT T) (νT T) (XP M' p) 8) (-1) 0 0 n 0 0 0 j s c first u ∧ κT T j = 0 ∧ gi M' p 0 = (s : Int) ∧ gi M' p 3 = (c : Int) ∧ gi M' p 4 = first ∧ s ≤ 40 ∧ c ≤ 2 * u ∧ u ≤ 60)
section PRS
variable {fz : Bool} {S : gS} {p n : Nat} {M : rf_M} {T : tK} {K : Int → rf_M → Prop}
theorem x_parse (hp : p ∈ k1) (hn : n ≤ 800) (hSS : sc_S fz S) (hM : sc_M fz S (rf_wq M 170 4 (some 23))) (hT : p_T (M.1 23) n = T) (kk : ∀ z M', prsx p T M z M' → K z M') : em_Q_parse (Scsp fz S) (Ssp (κT T) (νT T) T.length p) 23 (n : Int) p M K := by
  have hk : 25 ≤ p ∧ p ≤ 157 := by have := k1_or hp; omega
  intro M1 e1
  have r1 : M1.2.2 169 1 = some p := by rw [e1]; exact rf_wq_at _ _ _ _
  have ip1 := isPk r1 hp
  refine ⟨ip1.1, ?_⟩
  rw [ip1.2]
  intro Ma ea Mb eb Mc ec Md ed Me ee M3 e3 M4 e4 M5 e5
  have y5 : eqy (fun b k => (b = p ∧ k ≤ 4) ∨ (b = 169 ∧ (k = 2 ∨ k = 3 ∨ k = 4))) M1 M5 := by
    rw [e5, e4, e3, ee, ed, ec, eb, ea]
    exact ((((((((eqy.rfl' M1).wi (by omega)).wi (by omega)).wi (by omega)).wi (by omega)).wi (by omega)).wi (by omega)).wi (by omega)).wi (by omega)
  have a0 : gi M5 p 0 = 0 := by rw [e5, gi_of (Or.inl (by omega)), e4, gi_of (Or.inl (by omega)), e3, gi_of (Or.inl (by omega)), ee, gi_of (Or.inr (by omega)), ed, gi_of (Or.inr (by omega)), ec, gi_of (Or.inr (by omega)), eb, gi_of (Or.inr (by omega)), ea, gi_at ir_0]
  have a1 : gi M5 p 1 = 0 := by rw [e5, gi_of (Or.inl (by omega)), e4, gi_of (Or.inl (by omega)), e3, gi_of (Or.inl (by omega)), ee, gi_of (Or.inr (by omega)), ed, gi_of (Or.inr (by omega)), ec, gi_of (Or.inr (by omega)), eb, gi_at ir_0]
  have a3 : gi M5 p 3 = 0 := by rw [e5, gi_of (Or.inl (by omega)), e4, gi_of (Or.inl (by omega)), e3, gi_of (Or.inl (by omega)), ee, gi_of (Or.inr (by omega)), ed, gi_at ir_0]
  have b2 : gi M5 169 2 = 0 := by rw [e5, gi_of (Or.inr (by omega)), e4, gi_of (Or.inr (by omega)), e3, gi_at ir_0]
  have b4 : gi M5 169 4 = 0 := by rw [e5, gi_at ir_0]
  have f5 : ∀ a k, ¬ (p ≤ a ∧ a ≤ p + 11) → ¬ (169 ≤ a ∧ a ≤ 173) → M5.1 a k = M.1 a k ∧ M5.2.1 a k = M.2.1 a k := fun a k w1 w2 => by
    have := y5.1 a k (by omega)
    rw [e1] at this
    exact this
  have g5 : ∀ a k, ¬ (a = 169 ∧ k = 1) → M5.2.2 a k = M.2.2 a k := fun a k w => by
    rw [y5.2, e1]
    exact rf_wq_of M (some p) (by omega)
  have sc5 : sc_M fz S (rf_wq M5 170 4 (some 23)) := by
    have e1' : ∀ c k, c < 22 → (rf_wq M5 170 4 (some 23)).1 c k = (rf_wq M 170 4 (some 23)).1 c k := fun c k hc => (f5 c k (by omega) (by omega)).1
    have e2' : ∀ c k, ¬ (c = 169 ∧ k = 1) → (rf_wq M5 170 4 (some 23)).2.2 c k = (rf_wq M 170 4 (some 23)).2.2 c k := fun c k hck => by
      by_cases h4 : c = 170 ∧ k = 4
      · obtain ⟨rfl, rfl⟩ := h4
        rw [rf_wq_at, rf_wq_at]
      · rw [rf_wq_of _ _ (by omega), rf_wq_of _ _ (by omega)]
        exact g5 c k hck
    obtain ⟨⟨m1, m2, m3, m4⟩, w1, w2, w3, w4, w5, w6, w7, w8, w9, w10⟩ := hM
    exact ⟨⟨(e2' _ _ (by omega)).trans m1, (e2' _ _ (by omega)).trans m2, (e2' _ _ (by omega)).trans m3, (e2' _ _ (by omega)).trans m4⟩, sc_w_of e1' (e2' _ _ (by omega)) ⟨by omega, by omega⟩ w1, sc_w_of e1' (e2' _ _ (by omega)) ⟨by omega, by omega⟩ w2, sc_w_of e1' (e2' _ _ (by omega)) ⟨by omega, by omega⟩ w3, sc_w_of e1' (e2' _ _ (by omega)) ⟨by omega, by omega⟩ w4, sc_w_of e1' (e2' _ _ (by omega)) ⟨by omega, by omega⟩ w5, sc_w_of e1' (e2' _ _ (by omega)) ⟨by omega, by omega⟩ w6, sc_w_of e1' (e2' _ _ (by omega)) ⟨by omega, by omega⟩ w7, sc_w_of e1' (e2' _ _ (by omega)) ⟨by omega, by omega⟩ w8, sc_w_of e1' (e2' _ _ (by omega)) ⟨by omega, by omega⟩ w9, sc_w_of e1' (e2' _ _ (by omega)) ⟨by omega, by omega⟩ w10⟩
  have etape : M5.1 23 = M.1 23 := funext fun k => (f5 23 k (by omega) (by omega)).1
  refine ⟨rfl, hSS, sc5, n, rfl, hn, fun M6 hd => ?_⟩
  rw [etape, hT] at hd
  have hst0 : ∀ e ∈ T, e.2.1 < n := fun e he => by
    rw [← hT] at he
    exact (sp_scan_b 800 0 e he).2.1
  have hκ := κT_L T
  have hi := κT_i T
  obtain ⟨d1, d2, d3, d4, d5, d6, d7, ⟨d8, d9, d10⟩, -, -⟩ := hd
  have r6 : M6.2.2 169 1 = some p := by
    rw [d10, rf_wq_of _ _ (Or.inl (by omega)), y5.2]
    exact r1
  have ip6 := isPk r6 hp
  have i6 : ∀ a k, ¬ (170 ≤ a ∧ a ≤ 173) → gi M6 a k = gi M5 a k := fun a k w => congrArg Int32.toInt (d8 a k (by omega) (by omega))
  have tk6 : tkM (κT T) (νT T) T.length M6 := by
    refine ⟨?_, fun k hk' => ?_⟩
    · show (M6.1 170 3).toInt = _
      rw [d2, nI_int (by omega)]
    · by_cases hk2 : k = T.length
      · subst hk2
        refine ⟨?_, ?_, ?_⟩
        · show (M6.1 171 _).toInt = (kd T _).toInt
          rw [d5, (kd_end T).1]
        · show (M6.1 173 _).toInt = (nb T _).toInt
          rw [d7, (kd_end T).2]
        · show 0 ≤ (M6.1 172 _).toInt
          rw [d6, nI_int (by omega)]
          omega
      · have hk3 : k < T.length := by omega
        have he := List.getElem?_eq_getElem hk3
        obtain ⟨x1, x2, x3⟩ := d4 k _ he
        obtain ⟨k1, k2⟩ := kd_of he
        refine ⟨?_, ?_, ?_⟩
        · show (M6.1 171 _).toInt = (kd T _).toInt
          rw [x1, k1]
        · show (M6.1 173 _).toInt = (nb T _).toInt
          rw [x3, k2]
        · show 0 ≤ (M6.1 172 _).toInt
          have := hst0 _ (List.getElem_mem hk3)
          rw [x2, nI_int (by omega)]
          omega
  have pt6 : ptt p T.length M6 0 0 0 0 := ⟨⟨(i6 _ _ (by omega)).trans b2, by omega, (i6 _ _ (by omega)).trans a3, (i6 _ _ (by omega)).trans a1, by omega⟩, (i6 _ _ (by omega)).trans a0, by omega, by omega⟩
  have f6 : (∀ a k, ¬ (p ≤ a ∧ a ≤ p + 11) → ¬ (169 ≤ a ∧ a ≤ 173) → M6.1 a k = M.1 a k ∧ M6.2.1 a k = M.2.1 a k) ∧ ∀ a k, ¬ (a = 169 ∧ k = 1) → ¬ (a = 170 ∧ k = 4) → M6.2.2 a k = M.2.2 a k := by
    refine ⟨fun a k w1 w2 => ⟨(d8 a k (by omega) (by omega)).trans (f5 a k w1 w2).1, by rw [d9]; exact (f5 a k w1 w2).2⟩, fun a k w1 w2 => ?_⟩
    rw [d10, rf_wq_of _ _ (by omega)]
    exact g5 a k w1
  refine ⟨ip6.1, ⟨by omega, by omega⟩, ⟨ir_1, ir_0⟩, ⟨r6, tk6, (i6 _ _ (by omega)).trans b4, fun _ => ⟨0, 0, 0, 0, pt6⟩⟩, fun z7 M7 iz y7 f7 g M8 e8 => ?_⟩
  rw [ip6.2] at e8
  have y8 : eqy (fun b k => b = p ∧ k = 4) M7 M8 := by rw [e8]; exact (eqy.rfl' _).wi ⟨rfl, rfl⟩
  have t8 : tkM (κT T) (νT T) T.length M8 := (tk6.eq y7 (fun b k q => by unfold stF; omega)).eq y8 (fun b k q => by omega)
  have at8 : gi M8 169 3 = -1 → ∃ i, gi M8 169 2 = ((i : Nat) : Int) ∧ i ≤ T.length := fun q => by
    obtain ⟨_, _, _, _, _, _, j, _, _, _, _, _, b, _⟩ := g (by rw [← y8.i (by omega)]; exact q)
    exact ⟨j, (y8.i (by omega)).trans b.1.1, b.1.2.1⟩
  have fr : ∀ M9, eqy (fun b k => b = 169 ∧ (k = 2 ∨ k = 3)) M8 M9 → (∀ a k, ¬ (p ≤ a ∧ a ≤ p + 11) → ¬ (169 ≤ a ∧ a ≤ 173) → M9.1 a k = M.1 a k ∧ M9.2.1 a k = M.2.1 a k) ∧ ∀ a k, ¬ (a = 169 ∧ k = 1) → ¬ (a = 170 ∧ k = 4) → M9.2.2 a k = M.2.2 a k := fun M9 y9 => by
    refine ⟨fun a k w1 w2 => ?_, fun a k w1 w2 => ?_⟩
    · have q7 := y7.1 a k (by unfold stF; omega)
      have q8 := y8.1 a k (by omega)
      have q9 := y9.1 a k (by omega)
      have q6 := f6.1 a k w1 w2
      exact ⟨q9.1.trans (q8.1.trans (q7.1.trans q6.1)), q9.2.trans (q8.2.trans (q7.2.trans q6.2))⟩
    · rw [y9.2, y8.2, y7.2]
      exact f6.2 a k w1 w2
  refine x_Qat t8 at8 (fun hf j hat hjl e => ⟨fun q => absurd q (by decide), fun _ => x_Qadv' (fun M9 y9 => kk _ M9 ⟨fr M9 (y9.mono (fun b k w => by omega)), fun _ => ?_⟩)⟩) (fun nn => ⟨fun _ => x_Qref t8 at8 (fun M9 y9 b9 => kk _ M9 ⟨fr M9 (y9.mono (fun b k w => by omega)), fun w => absurd w b9⟩), fun q => absurd rfl q⟩)
  obtain ⟨_, i, s, cc, un, n', j', s1, c1, u, w1, w2, w3, w4⟩ := g (by rw [← y8.i (by omega)]; exact hf)
  obtain ⟨rfl, rfl, rfl, rfl⟩ := pt6.uniq w1
  obtain rfl : j' = j := by have := (y8.i (a := 169) (k := 2) (by omega)).trans w3.1.1; omega
  have x9 : XP M9 p = XP M7 p := (XP_same y9 (fun b k z1 z2 => by omega)).trans (XP_same y8 (fun b k z1 z2 => by omega))
  have h60 := w3.1.2.2.2.2
  have h2 := w3.2.2.2
  refine ⟨n', j', s1, c1, u, z7, ?_, e, (y9.i (by omega)).trans ((y8.i (by omega)).trans w3.2.1), (y9.i (by omega)).trans ((y8.i (by omega)).trans w3.1.2.2.1), (y9.i (by omega)).trans (by rw [e8]; exact gi_at iz), w3.2.2.1, by omega, by omega⟩
  rw [x9]
  exact w2
/-- a call of parse -/
theorem l_parse {B : rf_M} (hS : rl S) (hR : fl 22 353 B M) (hp : p ∈ k1) (hn : n ≤ 800) (hSS : sc_S fz S) (hM : sc_M fz S (rf_wq M 170 4 (some 23))) (kk : ∀ z M', prsx p (p_T (M.1 23) n) M z M' → K z M') (n0 : Nat) : lx (cx0 fz) n0 17 0 (lv_args 0 [.ref 169, .ref 23, zv (n : Int), .ref p]) [] (M, S) (vl_i 22 353 B S K) := by
  have hL : (p_T (M.1 23) n).length ≤ 800 := by
    obtain ⟨_, _, _, _, _, M', _, h⟩ := sc_scan (M := M) hSS hM hn
    exact h.2.2.1
  exact E_Q_parse_m (Sc := Scsp fz S) (Ss := Ssp (κT (p_T (M.1 23) n)) (νT (p_T (M.1 23) n)) (p_T (M.1 23) n).length p) hS hR (fun n' _ x0 x1 M K a b c h => l_scan a h n') (fun n' _ x0 x1 x2 M K a b c d e => l_statements hS hL (κT_L _) (κT_i _) κT_let hp n' x0 x1 x2 M K a b c d e) ⟨hSS.2.2.2.2, by omega⟩ (inr_z (by omega) (by omega)) hp (x_parse hp hn hSS hM rfl kk)
end PRS
/-! the reference's next(), anew: what is known of it (88b) in the other kind of formula, and a number's value -/
/-- the byte at k -/
def Bt (M : rf_M) (k : Nat) : Int := (Int32.ofInt (gi M 354 k) &&& Int32.ofInt 255).toInt
def lv64 (B : Nat → Int) (q : Nat) : Nat → Int64
  | 0 => Int64.ofNat 0
  | k + 1 => (((Int64.ofNat 10) * lv64 B q k) + (Int32.ofInt (B (q + k))).toInt64) - (Int64.ofNat 48)
/-- no number, or its value lies there -/
def nmv (M0 M' : rf_M) : Prop := gi M' 353 4 ≠ 3 ∨ ∃ q k : Nat, gi M' 353 5 = (q : Int) ∧ gi M' 353 3 = ((q + k : Nat) : Int) ∧ (48 ≤ Bt M0 q ∧ Bt M0 q ≤ 57) ∧ gl M' 353 7 = lv64 (Bt M0) q (min k 9)
/-- what byteAt may answer -/
def bta (M : rf_M) (v z : Int) : Prop := (gi M 353 2 ≤ v ∧ z = -1) ∨ (¬ gi M 353 2 ≤ v ∧ (0 ≤ v ∧ v < 800) ∧ z = Bt M v.toNat)
section WNX

variable {M M0 : rf_M} {v1 v2 s0 s1 : Int} {v3 : Int64} {b0 b0' : rf_M → Prop} {b79 b79' : Int → Int → Int64 → rf_M → Prop} {b202 b202' : Int → rf_M → Prop} {K K' : rf_M → Prop}

theorem Bt_eq (y : eqy nxw M0 M) (k : Nat) : Bt M k = Bt M0 k := by
  unfold Bt
  rw [y.i (by unfold nxw; omega)]
theorem we_byteAt {v : Int} {K K' : Int → rf_M → Prop} (h : wm_byteAt v M K) (k : ∀ z, bta M v z → K z M → K' z M) : em_W_byteAt v M K' := ⟨fun q => k _ (Or.inl ⟨q, rfl⟩) (h.2.1 q), fun q r => k _ (Or.inr ⟨q, r, rfl⟩) (h.2.2 q).2⟩
theorem we_isSmall {v : Int} {K K' : Int → rf_M → Prop} (h : wm_isSmall v M K) (k : ∀ z, K z M → K' z M) : em_W_isSmall v M K' := ⟨fun q => ⟨Or.inl rfl, k _ (h.2.1 q).2⟩, fun q => ⟨fun q1 => ⟨Or.inl rfl, k _ (((h.2.2 q).2.1 q1).2)⟩, fun q1 => ⟨Or.inr rfl, k _ (((h.2.2 q).2.2 q1).2)⟩⟩⟩
theorem we_isFigure {v : Int} {K K' : Int → rf_M → Prop} (h : wm_isFigure v M K) (k : ∀ z, (z = 0 ∨ (48 ≤ v ∧ v ≤ 57)) → K z M → K' z M) : em_W_isFigure v M K' := ⟨fun q => ⟨Or.inl rfl, k _ (Or.inl rfl) (h.2.1 q).2⟩, fun q => ⟨fun q1 => ⟨Or.inl rfl, k _ (Or.inl rfl) (((h.2.2 q).2.1 q1).2)⟩, fun q1 => ⟨Or.inr rfl, k _ (Or.inr ⟨by omega, by omega⟩) (((h.2.2 q).2.2 q1).2)⟩⟩⟩
theorem we_isSignByte {v : Int} {K K' : Int → rf_M → Prop} (h : wm_isSignByte v M K) (k : ∀ z, K z M → K' z M) : em_W_isSignByte v M K' := ⟨fun q => k _ (h.2.1 q), fun q => k _ (h.2.2.1 q), fun q => k _ (h.2.2.2.1 q), fun q => k _ (h.2.2.2.2.1 q), fun q => k _ (h.2.2.2.2.2.1 q), fun q => k _ (h.2.2.2.2.2.2.1 q), fun q => k _ (h.2.2.2.2.2.2.2.1 q), fun q => k _ (h.2.2.2.2.2.2.2.2.1 q), fun q => k _ (h.2.2.2.2.2.2.2.2.2.1 q), fun q => k _ (h.2.2.2.2.2.2.2.2.2.2.1 q), fun q => k _ (h.2.2.2.2.2.2.2.2.2.2.2.1 q), fun q => k _ (h.2.2.2.2.2.2.2.2.2.2.2.2.1 q), fun q => k _ (h.2.2.2.2.2.2.2.2.2.2.2.2.2.1 q), fun q => k _ (h.2.2.2.2.2.2.2.2.2.2.2.2.2.2 q)⟩
theorem we_wordOf {v : Int64} {K K' : Int → rf_M → Prop} (h : wm_wordOf v M K) (k : ∀ z : Int, z ≤ 9 → K z M → K' z M) : em_W_wordOf v M K' := ⟨fun p0 => k _ (by decide) ((h).1 p0), fun q0 => ⟨fun p1 => k _ (by decide) (((h).2 q0).1 p1), fun q1 => ⟨fun p2 => k _ (by decide) ((((h).2 q0).2 q1).1 p2), fun q2 => ⟨fun p3 => k _ (by decide) (((((h).2 q0).2 q1).2 q2).1 p3), fun q3 => ⟨fun p4 => k _ (by decide) ((((((h).2 q0).2 q1).2 q2).2 q3).1 p4), fun q4 => ⟨fun p5 => k _ (by decide) (((((((h).2 q0).2 q1).2 q2).2 q3).2 q4).1 p5), fun q5 => ⟨fun p6 => k _ (by decide) ((((((((h).2 q0).2 q1).2 q2).2 q3).2 q4).2 q5).1 p6), fun q6 => ⟨fun p7 => k _ (by decide) (((((((((h).2 q0).2 q1).2 q2).2 q3).2 q4).2 q5).2 q6).1 p7), fun q7 => ⟨fun p8 => k _ (by decide) ((((((((((h).2 q0).2 q1).2 q2).2 q3).2 q4).2 q5).2 q6).2 q7).1 p8), fun q8 => ⟨fun p9 => k _ (by decide) (((((((((((h).2 q0).2 q1).2 q2).2 q3).2 q4).2 q5).2 q6).2 q7).2 q8).1 p9), fun q9 => k _ (by decide) (((((((((((h).2 q0).2 q1).2 q2).2 q3).2 q4).2 q5).2 q6).2 q7).2 q8).2 q9)⟩⟩⟩⟩⟩⟩⟩⟩⟩⟩
theorem byteAt_some {v : Int} {K : Int → rf_M → Prop} (h : wm_byteAt v M K) : ∃ z, K z M := by
  by_cases q : gi M 353 2 ≤ v
  · exact ⟨_, h.2.1 q⟩
  · exact ⟨_, (h.2.2 q).2⟩
theorem isSmall_some {v : Int} {K : Int → rf_M → Prop} (h : wm_isSmall v M K) : K 0 M ∨ K 1 M := by
  by_cases q : v < 97
  · exact Or.inl (h.2.1 q).2
  · by_cases q1 : 122 < v
    · exact Or.inl ((h.2.2 q).2.1 q1).2
    · exact Or.inr ((h.2.2 q).2.2 q1).2
theorem isFigure_some {v : Int} {K : Int → rf_M → Prop} (h : wm_isFigure v M K) : K 0 M ∨ K 1 M := by
  by_cases q : v < 48
  · exact Or.inl (h.2.1 q).2
  · by_cases q1 : 57 < v
    · exact Or.inl ((h.2.2 q).2.1 q1).2
    · exact Or.inr ((h.2.2 q).2.2 q1).2
theorem i_79b (h : w_next_79b v1 v2 v3 M b79 K) : inr v2 := by
  obtain ⟨z, h1⟩ := byteAt_some h
  rcases isSmall_some h1 with g | g
  · exact (g.2.1 rfl _ rfl).1
  · exact (g.2.2 (by decide)).1
theorem i_202b (h : w_next_202b v2 M b202 K) : inr v2 := by
  obtain ⟨z, h1⟩ := byteAt_some h
  rcases isFigure_some h1 with g | g
  · exact (g.2.1 rfl).1
  · exact (g.2.2 (by decide)).1
theorem we_182 (y : eqy nxw M0 M) (hK : ∀ M', K M' → eqy nxw M0 M' → nmv M0 M' → K' M') (i1 : inr s1) (n1 : s1 ≠ 3) (h : w_next_182 s1 M K) : e_W_next_182 s1 M K' := fun M1 e1 => hK M1 (h M1 e1) (by rw [e1]; exact y.wi ⟨rfl, by omega, by omega⟩) (Or.inl (by rw [e1, gi_at i1]; exact n1))
theorem we_283 (y : eqy nxw M0 M) (hK : ∀ M', K M' → eqy nxw M0 M' → nmv M0 M' → K' M') (n1 : ∀ M1, M1 = wi M 353 4 s1 → nmv M0 M1) (h : w_next_283 s1 M K) : e_W_next_283 s1 M K' := fun M1 e1 => hK M1 (h M1 e1) (by rw [e1]; exact y.wi ⟨rfl, by omega, by omega⟩) (n1 M1 e1)
theorem we_307 (y : eqy nxw M0 M) (hK : ∀ M', K M' → eqy nxw M0 M' → nmv M0 M' → K' M') (i1 : inr s1) (n1 : s1 ≠ 3) (h : w_next_307 s1 M K) : e_W_next_307 s1 M K' := fun M1 e1 M2 e2 => hK M2 (h M1 e1 M2 e2) (by rw [e2, e1]; exact (y.wi ⟨rfl, by omega, by omega⟩).wi ⟨rfl, by omega, by omega⟩) (Or.inl (by rw [e2, gi_of (Or.inr (by omega)), e1, gi_at i1]; exact n1))
theorem we_156 (y : eqy nxw M0 M) (hK : ∀ M', K M' → eqy nxw M0 M' → nmv M0 M' → K' M') (hs : s0 ≤ 9) (h : w_next_156 v2 s0 M K) : e_W_next_156 v2 s0 M K' := ⟨fun q => we_182 y hK (inr_z (by omega) (by omega)) (by decide) (h.2.1 q), fun q => ⟨fun q1 => ⟨inr_z (by omega) (by omega), we_182 y hK (inr_z (by omega) (by omega)) (by omega) ((h.2.2 q).2.1 q1)⟩, fun q1 => we_182 y hK (inr_z (by omega) (by omega)) (by decide) ((h.2.2 q).2.2 q1)⟩⟩
theorem we_117 (y : eqy nxw M0 M) (hI : ∀ v1 v2 v3 M1, b79 v1 v2 v3 M1 → inr v2) (hb : ∀ v1 v2 v3 M1, b79 v1 v2 v3 M1 → eqy nxw M0 M1 → b79' v1 v2 v3 M1) (h : w_next_117 v1 v2 v3 M b79 K) : e_W_next_117 v1 v2 v3 M b79' K' := fun M1 e1 => ⟨hI _ _ _ _ (h M1 e1), hb _ _ _ _ (h M1 e1) (by rw [e1]; exact y.wi ⟨rfl, by omega, by omega⟩)⟩
theorem we_79b (y : eqy nxw M0 M) (hK : ∀ M', K M' → eqy nxw M0 M' → nmv M0 M' → K' M') (hI : ∀ v1 v2 v3 M1, b79 v1 v2 v3 M1 → inr v2) (hb : ∀ v1 v2 v3 M1, b79 v1 v2 v3 M1 → eqy nxw M0 M1 → b79' v1 v2 v3 M1) (h : w_next_79b v1 v2 v3 M b79 K) : e_W_next_79b v1 v2 v3 M b79' K' := by
  refine we_byteAt h (fun z1 _ h1 => we_isSmall h1 (fun z2 h2 => ⟨fun q M3 e3 => ?_, fun q => ?_⟩))
  · have g := h2.2.1 q M3 e3
    have y3 : eqy nxw M0 M3 := by rw [e3]; exact y.wi ⟨rfl, by omega, by omega⟩
    exact ⟨fun q7 => we_156 y3 hK (by decide) (g.2.1 q7), fun q7 => we_wordOf (g.2.2 q7) (fun z4 b4 h4 => we_156 y3 hK b4 h4)⟩
  · have g := h2.2.2 q
    exact ⟨fun q7 => we_117 y hI hb (g.2.1 q7), fun q7 => we_byteAt (g.2.2 q7) (fun z5 _ h5 => we_117 y hI hb h5)⟩
theorem we_79 (y : eqy nxw M0 M) (hK : ∀ M', K M' → eqy nxw M0 M' → nmv M0 M' → K' M') (h : w_next_79 v1 v2 v3 M K) : e_W_next_79 v1 v2 v3 M K' := by
  obtain ⟨Inv, h0, hs⟩ := h
  refine ⟨fun v1 v2 v3 M' => (∃ m, Inv m v1 v2 v3 M') ∧ eqy nxw M0 M', ⟨h0, y⟩, ?_⟩
  rintro v1 v2 v3 M' - - ⟨⟨m, hm⟩, y'⟩
  refine we_79b y' hK ?_ ?_ (hs m v1 v2 v3 M' hm)
  · rintro w1 w2 w3 M1 ⟨m', -, hm'⟩
    exact i_79b (hs m' _ _ _ _ hm')
  · rintro w1 w2 w3 M1 ⟨m', -, hm'⟩ y1
    exact ⟨⟨m', hm'⟩, y1⟩
/-- within a number -/
def wiN (M0 : rf_M) (v2 : Int) (M : rf_M) : Prop := ∃ q k : Nat, v2 = (k : Int) ∧ gi M 353 5 = (q : Int) ∧ gi M 353 3 = ((q + k : Nat) : Int) ∧ (48 ≤ Bt M0 q ∧ Bt M0 q ≤ 57) ∧ gl M 353 7 = lv64 (Bt M0) q (min k 9)
theorem we_252 (y : eqy nxw M0 M) (hp : gi M 353 3 < gi M 353 2) {k q : Nat} (e5 : gi M 353 5 = (q : Int)) (e3 : gi M 353 3 = ((q + k : Nat) : Int)) (hv : v2 = (k : Int)) (hq : 48 ≤ Bt M0 q ∧ Bt M0 q ≤ 57) (hx : v3 = lv64 (Bt M0) q (min (k + 1) 9)) (hI : ∀ v2 M1, b202 v2 M1 → inr v2) (hb : ∀ v2 M1, b202 v2 M1 → eqy nxw M0 M1 → wiN M0 v2 M1 → b202' v2 M1) (h : w_next_252 v2 v3 M b202 K) : e_W_next_252 v2 v3 M b202' K' := fun M1 e1 M2 e2 => by
  refine ⟨hI _ _ (h M1 e1 M2 e2), hb _ _ (h M1 e1 M2 e2) (by rw [e2, e1]; exact (y.wl ⟨rfl, by omega, by omega⟩).wi ⟨rfl, by omega, by omega⟩) ⟨q, k + 1, by omega, ?_, ?_, hq, ?_⟩⟩
  · rw [e2, gi_of (Or.inr (by omega)), e1, gi_wl]; exact e5
  · have g1 : gi M1 353 3 = gi M 353 3 := by rw [e1, gi_wl]
    have i2 := inr_gi M 353 2
    rw [e2, gi_at ⟨by rw [g1]; omega, by rw [g1]; have := i2.2; omega⟩, g1, e3]
    omega
  · rw [e2, gl_wi, e1, gl_at]; exact hx
theorem we_202b (y : eqy nxw M0 M) (hK : ∀ M', K M' → eqy nxw M0 M' → nmv M0 M' → K' M') (hw : wiN M0 v2 M) (hI : ∀ v2 M1, b202 v2 M1 → inr v2) (hb : ∀ v2 M1, b202 v2 M1 → eqy nxw M0 M1 → wiN M0 v2 M1 → b202' v2 M1) (h : w_next_202b v2 M b202 K) : e_W_next_202b v2 M b202' K' := by
  obtain ⟨q, k, w1, w2, w3, w4, w5⟩ := hw
  refine we_byteAt h (fun z1 a1 h1 => we_isFigure h1 (fun z2 a2 h2 => ⟨fun q0 => ?_, fun q0 => ?_⟩))
  · have g := h2.2.1 q0
    refine ⟨fun q7 => we_283 y hK (fun M1 e1 => Or.inr ⟨q, k, ?_, ?_, w4, ?_⟩) (g.2.1 q7), fun q7 => we_283 y hK (fun M1 e1 => Or.inl ?_) (g.2.2 q7)⟩
    · rw [e1, gi_of (Or.inr (by omega))]; exact w2
    · rw [e1, gi_of (Or.inr (by omega))]; exact w3
    · rw [e1, gl_wi]; exact w5
    · rw [e1, gi_at (inr_z (by omega) (by omega))]; decide
  · have g := h2.2.2 q0
    have hp : gi M 353 3 < gi M 353 2 := by
      rcases a1 with ⟨_, z⟩ | ⟨z, _⟩
      · omega
      · omega
    refine ⟨fun q7 => we_252 y hp w2 w3 w1 w4 (by rw [w5, show min (k + 1) 9 = min k 9 by omega]) hI hb (g.2.1 q7), fun q7 => we_byteAt (g.2.2 q7) (fun z5 a5 h5 => we_252 y hp w2 w3 w1 w4 ?_ hI hb h5)⟩
    have hz : z5 = Bt M0 (q + k) := by
      rcases a5 with ⟨z, _⟩ | ⟨_, _, z⟩
      · omega
      · rw [z, w3, tn_, Bt_eq y]
    rw [show min (k + 1) 9 = k + 1 by omega, hz, w5, show min k 9 = k by omega]
    rfl
theorem we_202 (y : eqy nxw M0 M) (hK : ∀ M', K M' → eqy nxw M0 M' → nmv M0 M' → K' M') (hw : wiN M0 v2 M) (h : w_next_202 v2 M K) : e_W_next_202 v2 M K' := by
  obtain ⟨Inv, h0, hs⟩ := h
  refine ⟨fun v2 M' => (∃ m, Inv m v2 M') ∧ eqy nxw M0 M' ∧ wiN M0 v2 M', ⟨h0, y, hw⟩, ?_⟩
  rintro v2 M' - ⟨⟨m, hm⟩, y', hw'⟩
  refine we_202b y' hK hw' ?_ ?_ (hs m v2 M' hm)
  · rintro w2 M1 ⟨m', -, hm'⟩
    exact i_202b (hs m' _ _ hm')
  · rintro w2 M1 ⟨m', -, hm'⟩ y1 hw1
    exact ⟨⟨m', hm'⟩, y1, hw1⟩
theorem we_26 (y : eqy nxw M0 M) (hb : ∀ M1, b0 M1 → eqy nxw M0 M1 → b0' M1) (h : w_next_26 M b0 K) : e_W_next_26 M b0' K' := fun M1 e1 => hb M1 (h M1 e1) (by rw [e1]; exact y.wi ⟨rfl, by omega, by omega⟩)
theorem we_0b (y : eqy nxw M0 M) (hK : ∀ M', K M' → eqy nxw M0 M' → nmv M0 M' → K' M') (hb : ∀ M1, b0 M1 → eqy nxw M0 M1 → b0' M1) (h : w_next_0b M b0 K) : e_W_next_0b M b0' K' := by
  refine we_byteAt h (fun z1 _ h1 => ⟨fun q => we_26 y hb (h1.2.1 q), fun q => we_byteAt (h1.2.2 q) (fun z2 _ h2 => ⟨fun q2 => we_26 y hb (h2.2.1 q2), fun q2 M3 e3 => ?_⟩)⟩)
  have y3 : eqy nxw M0 M3 := by rw [e3]; exact y.wi ⟨rfl, by omega, by omega⟩
  have p3 : gi M3 353 3 = gi M 353 3 := by rw [e3, gi_of (Or.inr (by omega))]
  have p5 : gi M3 353 5 = gi M 353 3 := by rw [e3, gi_at (inr_gi _ _ _)]
  refine we_byteAt (h2.2.2 q2 M3 e3) (fun z4 a4 h4 => ⟨fun q4 => we_isSmall (h4.2.1 q4) (fun z5 h5 => ⟨fun q5 => we_isFigure (h5.2.1 q5) (fun z6 a6 h6 => ⟨fun q6 M7 e7 => ?_, fun q6 M9 e9 => ?_⟩), fun q5 => we_79 y3 hK (h5.2.2 q5)⟩), fun q4 M10 e10 => hK M10 (h4.2.2 q4 M10 e10) (by rw [e10]; exact y3.wi ⟨rfl, by omega, by omega⟩) (Or.inl (by rw [e10, gi_at ir_0]; decide))⟩)
  · have y7 : eqy nxw M0 M7 := by rw [e7]; exact y3.wi ⟨rfl, by omega, by omega⟩
    exact we_isSignByte (h6.2.1 q6 M7 e7) (fun z8 h8 => ⟨fun q8 => we_307 y7 hK (inr_z (by omega) (by omega)) (by decide) (h8.2.1 q8), fun q8 => we_307 y7 hK (inr_z (by omega) (by omega)) (by decide) (h8.2.2 q8)⟩)
  · have y9 : eqy nxw M0 M9 := by rw [e9]; exact y3.wl ⟨rfl, by omega, by omega⟩
    rcases a4 with ⟨_, z⟩ | ⟨_, z1, z2⟩
    · exact absurd q4 (by omega)
    refine we_202 y9 hK ⟨(gi M 353 3).toNat, 0, rfl, ?_, ?_, ?_, ?_⟩ (h6.2.2 q6 M9 e9)
    · rw [e9, gi_wl, p5]; omega
    · rw [e9, gi_wl, p3]; omega
    · rw [p3, Bt_eq y3] at z2
      omega
    · rw [e9, gl_at]; rfl
theorem we_next (hK : ∀ M', K M' → eqy nxw M M' → nmv M M' → K' M') (h : wm_next M K) : em_W_next M K' := by
  obtain ⟨Inv, h0, hs⟩ := h
  refine ⟨fun M' => (∃ m, Inv m M') ∧ eqy nxw M M', ⟨h0, eqy.rfl' M⟩, ?_⟩
  rintro M' ⟨⟨m, hm⟩, y'⟩
  refine we_0b y' hK ?_ (hs m M' hm)
  rintro M1 ⟨m', -, hm'⟩ y1
  exact ⟨⟨m', hm'⟩, y1⟩
end WNX
/-! a number's value in the reference's scanner -/
theorem lv_val {b : Nat → Int32} {B : Nat → Int} {q : Nat} : ∀ k, k ≤ 9 → (∀ t, t < k → sp_d (b (q + t)) = true ∧ B (q + t) = (b (q + t)).toInt) → (lv64 B q k).toInt = (sp_val b q k).toInt
  | 0, _, _ => by
    show (Int64.ofNat 0).toInt = (0 : Int32).toInt
    decide
  | k + 1, h, hd => by
    have ih := lv_val (b := b) (B := B) (q := q) k (by omega) (fun t ht => hd t (by omega))
    obtain ⟨h1, h2⟩ := sp_val_b (b := b) (i := q) k (by omega) (fun t ht => (hd t (by omega)).1)
    obtain ⟨hk, hB⟩ := hd k (by omega)
    unfold sp_d at hk
    simp only [Bool.and_eq_true, decide_eq_true_eq] at hk
    have hp : (10 : Int) ^ k ≤ 100000000 := by
      have hk9 : k = 0 ∨ k = 1 ∨ k = 2 ∨ k = 3 ∨ k = 4 ∨ k = 5 ∨ k = 6 ∨ k = 7 ∨ k = 8 := by omega
      rcases hk9 with rfl | rfl | rfl | rfl | rfl | rfl | rfl | rfl | rfl <;> decide
    have e10 : (10 : Int32).toInt = 10 := by decide
    have e48 : (48 : Int32).toInt = 48 := by decide
    have m1 : (sp_val b q k * 10).toInt = (sp_val b q k).toInt * 10 := by
      rw [Int32.toInt_mul, e10]
      exact Int.bmod_eq_of_le (by omega) (by omega)
    have m2 : (b (q + k) - 48).toInt = (b (q + k)).toInt - 48 := by
      rw [Int32.toInt_sub, e48]
      exact Int.bmod_eq_of_le (by omega) (by omega)
    have m3 : (sp_val b q (k + 1)).toInt = (sp_val b q k).toInt * 10 + ((b (q + k)).toInt - 48) := by
      show (sp_val b q k * 10 + (b (q + k) - 48)).toInt = _
      rw [Int32.toInt_add, m1, m2]
      exact Int.bmod_eq_of_le (by omega) (by omega)
    have f10 : (Int64.ofNat 10).toInt = 10 := by decide
    have f48 : (Int64.ofNat 48).toInt = 48 := by decide
    have n0 : ((Int32.ofInt (B (q + k))).toInt64).toInt = (b (q + k)).toInt := by
      rw [Int32.toInt_toInt64, hB, Int32.ofInt_toInt]
    have n1 : ((Int64.ofNat 10) * lv64 B q k).toInt = 10 * (sp_val b q k).toInt := by
      rw [Int64.toInt_mul, f10, ih]
      exact Int.bmod_eq_of_le (by omega) (by omega)
    have n2 : (((Int64.ofNat 10) * lv64 B q k) + (Int32.ofInt (B (q + k))).toInt64).toInt = 10 * (sp_val b q k).toInt + (b (q + k)).toInt := by
      rw [Int64.toInt_add, n1, n0]
      exact Int.bmod_eq_of_le (by omega) (by omega)
    show ((((Int64.ofNat 10) * lv64 B q k) + (Int32.ofInt (B (q + k))).toInt64) - (Int64.ofNat 48)).toInt = _
    rw [Int64.toInt_sub, n2, f48, m3]
    rw [Int.bmod_eq_of_le (by omega) (by omega)]
    omega
theorem mtk_of {M M' : rf_M} {T : tK} {i n p f : Nat} {b : Nat → Int32} (h1 : tp M n b) (h3 : p ≤ n) (h4 : n ≤ p + f) (h5 : sp_scan b n f p = T.drop i) (h6 : i ≤ T.length) (hx : eqx nxw M M') (ht : tkd b n (sp_e sp_bl b n p) M') : mtk M' T i := by
  have hM' := h1.eq hx
  obtain ⟨t1, t2⟩ := ht
  rcases sp_scan_bl (b := b) f p h3 h4 with ⟨q1, q2⟩ | ⟨q1, f', q2, q3, q4⟩
  · rw [q1] at t2
    rcases t2 with ⟨-, u1, u2⟩ | ⟨u, -⟩
    · rw [q2] at h5
      have hi : i = T.length := by
        have := congrArg List.length h5
        rw [List.length_drop] at this
        simp at this
        omega
      subst hi
      refine ⟨?_, Nat.le_refl _, ?_⟩
      · rw [if_neg (by omega)]
        refine ⟨n, b, n, 0, hM', u2, Nat.le_refl _, by omega, ?_, Nat.le_refl _⟩
        rw [← h5]; rfl
      · have k0 : kd T T.length = 0 ∧ nb T T.length = 0 := by
          unfold kd nb
          rw [List.getElem?_eq_none (Nat.le_refl _)]
          exact ⟨rfl, rfl⟩
        rw [k0.1, k0.2]
        exact u1
    · omega
  · rcases t2 with ⟨u, -⟩ | ⟨u0, u1, u2⟩
    · omega
    · generalize sp_e sp_bl b n p = q at q1 q2 q3 q4 u0 u1 u2
      have e : sp_scan b n (f' + 1) q = ((sp_tok b n q).1, q, (sp_tok b n q).2.1) :: sp_scan b n f' (sp_tok b n q).2.2 := by
        show (if q < n then (if sp_bl (b q) = true then _ else _) else _) = _
        rw [if_pos q1, if_neg (by rw [q4]; decide)]
      rw [q3, e] at h5
      have hi : i < T.length := by
        rcases Nat.lt_or_ge i T.length with g | g
        · exact g
        · rw [List.drop_eq_nil_of_le g] at h5
          cases h5
      have hd := List.drop_eq_getElem_cons hi
      rw [hd] at h5
      have h5a := (List.cons.inj h5).1
      have h5b := (List.cons.inj h5).2
      have hT : T[i]? = some ((sp_tok b n q).1, q, (sp_tok b n q).2.1) := by
        rw [List.getElem?_eq_getElem hi, h5a]
      have hl := sp_tok_le (b := b) q1
      refine ⟨?_, Nat.le_of_lt hi, ?_⟩
      · rw [if_pos hi]
        exact ⟨n, b, _, f', hM', u2, hl.2, by omega, h5b, hi⟩
      · unfold kd nb
        rw [hT]
        exact u1
/-- a token, and a number's value -/
def mtv (M : rf_M) (T : tK) (i : Nat) : Prop := mtk M T i ∧ (kd T i = 2 → gl M 353 7 = (nb T i).toInt64)
theorem y_next0 {M : rf_M} {T : tK} {i : Nat} {K : rf_M → Prop} (h : nxk M T i) (kk : ∀ M', eqy nxw M M' → mtv M' T i → K M') : em_W_next M K := by
  obtain ⟨n, b, p, f, h1, h2, h3, h4, h5, h6⟩ := h
  refine we_next (K := fun M' => tkd b n (sp_e sp_bl b n p) M' ∧ mtk M' T i) (fun M' a y nv => kk M' y ⟨a.2, fun k2 => ?_⟩) ?_
  · obtain ⟨⟨t1, t2⟩, hm⟩ := a
    obtain ⟨g1, g2, g3, g4, g5, g6⟩ := hm
    have h43 : gi M' 353 4 = 3 := by rw [g3, k2]; decide
    rcases nv with nv | ⟨q, k, n1, n2, n3, n4⟩
    · exact absurd h43 nv
    rcases sp_scan_bl (b := b) f p h3 h4 with ⟨q1, q2⟩ | ⟨q1, f', q2, q3, q4⟩
    · exfalso
      rw [q2] at h5
      have hi : T.length ≤ i := by
        have := congrArg List.length h5
        rw [List.length_drop] at this
        simp at this
        omega
      unfold kd at k2
      rw [List.getElem?_eq_none hi] at k2
      exact absurd k2 (by decide)
    · generalize sp_e sp_bl b n p = q' at q1 q2 q3 q4 t1 t2
      obtain rfl : q' = q := by omega
      rcases t2 with ⟨u, -⟩ | ⟨u0, u1, u2⟩
      · omega
      have e : sp_scan b n (f' + 1) q' = ((sp_tok b n q').1, q', (sp_tok b n q').2.1) :: sp_scan b n f' (sp_tok b n q').2.2 := by
        show (if q' < n then (if sp_bl (b q') = true then _ else _) else _) = _
        rw [if_pos q1, if_neg (by rw [q4]; decide)]
      rw [q3, e] at h5
      have hi : i < T.length := by
        rcases Nat.lt_or_ge i T.length with g | g
        · exact g
        · rw [List.drop_eq_nil_of_le g] at h5
          cases h5
      have hd := List.drop_eq_getElem_cons hi
      rw [hd] at h5
      have h5a := (List.cons.inj h5).1
      have hT : T[i]? = some ((sp_tok b n q').1, q', (sp_tok b n q').2.1) := by
        rw [List.getElem?_eq_getElem hi, h5a]
      have hnb : nb T i = (sp_tok b n q').2.1 := by unfold nb; rw [hT]
      have hB : ∀ t, t < n → Bt M t = (b t).toInt := fun t ht => (h1.2.2 t ht).1
      rw [hB q' q1] at n3
      have hd1 : sp_d (b q') = true := by
        unfold sp_d
        simp only [Bool.and_eq_true, decide_eq_true_eq]
        omega
      have hl1 : sp_l (b q') = false := by
        unfold sp_l
        simp only [Bool.and_eq_false_iff, decide_eq_false_iff_not]
        omega
      have htok : sp_tok b n q' = ((if 9 < sp_e sp_d b n q' - q' then 3 else 2), sp_val b q' (min (sp_e sp_d b n q' - q') 9), sp_e sp_d b n q') := by
        unfold sp_tok
        rw [hl1, hd1]
        rfl
      have hle := sp_e_le (p := sp_d) (b := b) (n := n) (i := q') (by omega)
      have hk : k = sp_e sp_d b n q' - q' := by
        rw [htok] at u2
        have u2 : gi M' 353 3 = ((sp_e sp_d b n q' : Nat) : Int) := u2
        omega
      rw [hnb, htok, n4, hk]
      apply Int64.toInt_inj.mp
      rw [lv_val (b := b) _ (by omega) (fun t ht => ⟨sp_end_all _ q' (q' + t) (by omega) (by
        have : q' + t < sp_e sp_d b n q' := by omega
        exact this), hB _ (by omega)⟩), Int32.toInt_toInt64]
  · exact s_next0 h1 h2 h3 (fun M' hx ht => ⟨ht, mtk_of h1 h3 h4 h5 h6 hx ht⟩)
/-! THE REFERENCE'S EXPS: a machine with its pile and the code that it writes; it writes what the grammar says -/
abbrev xS : Type := Nat × Nat × Bool × List Int × List Bool × cdT
def pops (l : Int) : List Int → cdT
  | [] => []
  | x :: r => if isb x = true ∧ l ≤ stg x then (x, 0) :: pops l r else []
def negs : List Int → cdT
  | [] => []
  | x :: r => if x = 1000 then (3, 0) :: negs r else []
/-- token, unaries, is an operand wanted, pile, flags, code; at the end: token, unaries, good, code -/
def xst (κ ν : Nat → Int) (ir : Bool) (i u : Nat) (w : Bool) (π : List Int) (cs : List Bool) (o : cdT) : xS ⊕ (Nat × Nat × Bool × cdT) :=
  if w = true then
    (if κ i = 45 then (if u = 60 ∨ (fil π).length = 8 then .inr (i, u, false, o) else .inl (i + 1, u + 1, true, 1000 :: π, cs, o))
    else if κ i = 40 then (if u = 60 ∨ (fil π).length = 8 then .inr (i, u, false, o) else .inl (i + 1, u + 1, true, 40 :: π, false :: cs, o))
    else if κ i = 2 ∨ (κ i = 1 ∧ (ir = false ∨ ν i < 16)) then (if u = 60 then .inr (i, u, false, o) else .inl (i + 1, u + 1, false, dm π, cs, o ++ [(if κ i = 2 then 1 else 2, ν i)] ++ negs π))
    else .inr (i, u, false, o))
  else if κ i = 41 ∧ 0 < lv π then .inl (i + 1, u, false, dm (popr 1 π).tail, cs.tail, o ++ pops 1 π ++ negs (popr 1 π).tail)
  else if 1 < stg (κ i) then .inl (i + 1, u, true, κ i :: popr (stg (κ i)) π, cs, o ++ pops (stg (κ i)) π)
  else if stg (κ i) = 1 ∧ cs.head? = some false then .inl (i + 1, u, true, κ i :: popr 2 π, true :: cs.tail, o ++ pops 2 π)
  else .inr (i, u, decide (lv π = 0), o ++ pops 1 π)
def xru (κ ν : Nat → Int) (ir : Bool) : Nat → xS → xS → Prop
  | 0, σ, σ' => σ' = σ
  | k + 1, σ, σ' => ∃ σ1, xst κ ν ir σ.1 σ.2.1 σ.2.2.1 σ.2.2.2.1 σ.2.2.2.2.1 σ.2.2.2.2.2 = .inl σ1 ∧ xru κ ν ir k σ1 σ'
def xre (κ ν : Nat → Int) (ir : Bool) (σ σ' : xS) : Prop := ∃ k, xru κ ν ir k σ σ'
def opc (q : List Int) : cdT := q.map (fun x => (x, (0 : Int)))
def allb (l : Int) (q : List Int) : Prop := ∀ x ∈ q, isb x = true ∧ l ≤ stg x
/-- nothing on top that is as strong as l -/
def sty (l : Int) (Q : List Int) : Prop := ∀ x, Q.head? = some x → ¬ (isb x = true ∧ l ≤ stg x)
section XMA
variable {κ ν : Nat → Int} {ir : Bool}
theorem xru_app : ∀ {a b : Nat} {σ σ1 σ2 : xS}, xru κ ν ir a σ σ1 → xru κ ν ir b σ1 σ2 → xru κ ν ir (a + b) σ σ2
  | 0, b, σ, σ1, σ2, h, h' => by
    have e : σ1 = σ := h
    subst e
    rw [Nat.zero_add]
    exact h'
  | a + 1, b, σ, σ1, σ2, h, h' => by
    obtain ⟨τ, h1, h2⟩ := h
    rw [show a + 1 + b = (a + b) + 1 by omega]
    exact ⟨τ, h1, xru_app h2 h'⟩
theorem xre.trans {σ σ1 σ2 : xS} (h : xre κ ν ir σ σ1) (h' : xre κ ν ir σ1 σ2) : xre κ ν ir σ σ2 := by
  obtain ⟨a, h⟩ := h
  obtain ⟨b, h'⟩ := h'
  exact ⟨a + b, xru_app h h'⟩
theorem xre.rfl' (σ : xS) : xre κ ν ir σ σ := ⟨0, rfl⟩
theorem xre.one {i u : Nat} {w : Bool} {π : List Int} {cs : List Bool} {o : cdT} {σ : xS} (h : xst κ ν ir i u w π cs o = .inl σ) : xre κ ν ir (i, u, w, π, cs, o) σ := ⟨1, σ, h, rfl⟩
theorem popr_sty {l : Int} : ∀ {Q : List Int}, sty l Q → popr l Q = Q ∧ pops l Q = []
  | [], _ => ⟨rfl, rfl⟩
  | x :: r, h => ⟨if_neg (h x rfl), if_neg (h x rfl)⟩
theorem popr_app {l : Int} : ∀ {q Q : List Int}, allb l q → sty l Q → popr l (q ++ Q) = Q ∧ pops l (q ++ Q) = opc q
  | [], Q, _, h => popr_sty h
  | x :: q, Q, ha, h => by
    obtain ⟨h1, h2⟩ := popr_app (fun y hy => ha y (List.mem_cons_of_mem _ hy)) h
    have hx := ha x (List.mem_cons_self ..)
    constructor
    · show (if isb x = true ∧ l ≤ stg x then popr l (q ++ Q) else x :: (q ++ Q)) = Q
      rw [if_pos hx]
      exact h1
    · show (if isb x = true ∧ l ≤ stg x then (x, 0) :: pops l (q ++ Q) else []) = (x, 0) :: opc q
      rw [if_pos hx, h2]
theorem negs_no {π : List Int} (h : π.head? ≠ some 1000) : negs π = [] := by
  cases π with
  | nil => rfl
  | cons x r => exact if_neg (fun e => h (by rw [e]; rfl))
theorem mop_b {x : Int} (h : mop x) : isb x = true ∧ stg x = 3 := by
  rcases h with h | h | h <;> subst h <;> decide
theorem aop_b {x : Int} (h : aop x) : isb x = true ∧ stg x = 2 := by
  rcases h with h | h <;> subst h <;> decide
theorem cop_b {x : Int} (h : cop x) : isb x = true ∧ stg x = 1 := by
  rcases h with h | h | h <;> subst h <;> decide
theorem sty_le {l l' : Int} {Q : List Int} (h : sty l Q) (hl : l ≤ l') : sty l' Q := fun x hx z => h x hx ⟨z.1, by omega⟩
theorem sty_cons {l x : Int} {Q : List Int} (h : stg x < l) : sty l (x :: Q) := fun y hy z => by
  have e : x = y := by simpa using hy
  subst e
  omega
theorem fil_q : ∀ {q Q : List Int}, (∀ x ∈ q, isb x = true) → fil (q ++ Q) = fil Q ∧ lv (q ++ Q) = lv Q
  | [], Q, _ => ⟨rfl, rfl⟩
  | x :: q, Q, h => by
    obtain ⟨h1, h2⟩ := fil_q (q := q) (Q := Q) (fun y hy => h y (List.mem_cons_of_mem _ hy))
    have hb := fil_b (r := q ++ Q) (h x (List.mem_cons_self ..))
    exact ⟨hb.1.trans h1, hb.2.1.trans h2⟩
theorem opc_app (q q' : List Int) : opc (q ++ q') = opc q ++ opc q' := List.map_append
/-- what a grammar of unaries must do -/
def RU (κ ν : Nat → Int) (ir : Bool) (U : rxT) (m : Nat) : Prop := ∀ i j c du, U i j c du → ∀ π cs o u0, (fil π).length ≤ m → u0 + du ≤ 60 → xre κ ν ir (i, u0, true, π, cs, o) (j, u0 + du, false, dm π, cs, o ++ c ++ negs π)
theorem x_op {i u : Nat} {l : Int} {q Q : List Int} {cs : List Bool} {o : cdT} (hs : stg (κ i) = l) (hl : 1 < l) (h41 : κ i ≠ 41) (ha : allb l q) (hQ : sty l Q) : xre κ ν ir (i, u, false, q ++ Q, cs, o) (i + 1, u, true, κ i :: Q, cs, o ++ opc q) := by
  apply xre.one
  obtain ⟨h1, h2⟩ := popr_app ha hQ
  unfold xst
  rw [if_neg (by decide), if_neg (fun z => h41 z.1), hs, if_pos hl, h1, h2]
theorem x_dP {U : rxT} {m : Nat} (hU : RU κ ν ir U m) : ∀ i j c du, dP κ U i j c du → ∀ Q cs o u0, Q.head? ≠ some 1000 → sty 3 Q → (fil Q).length ≤ m → u0 + du ≤ 60 → ∃ q o', allb 3 q ∧ o' ++ opc q = o ++ c ∧ xre κ ν ir (i, u0, true, Q, cs, o) (j, u0 + du, false, q ++ Q, cs, o') := by
  intro i j c du h Q cs o u0 hQ h3 hf hu
  obtain ⟨j1, c1, u1, n, c2, u2, d1, d2, rfl, rfl⟩ := h
  have a1 := hU _ _ _ _ d1 Q cs o u0 hf (by omega)
  rw [dm_id hQ, negs_no hQ, List.append_nil] at a1
  have loop : ∀ (n j1 : Nat) (c2 : cdT) (u2 : Nat), dL κ mop U n j1 j c2 u2 → ∀ q o1 v c0, v + u2 ≤ 60 → allb 3 q → o1 ++ opc q = c0 → ∃ q' o', allb 3 q' ∧ o' ++ opc q' = c0 ++ c2 ∧ xre κ ν ir (j1, v, false, q ++ Q, cs, o1) (j, v + u2, false, q' ++ Q, cs, o') := by
    intro n
    induction n with
    | zero =>
      intro j1 c2 u2 d q o1 v c0 _ ha e
      obtain ⟨rfl, rfl, rfl⟩ := d
      exact ⟨q, o1, ha, by rw [e, List.append_nil], xre.rfl' _⟩
    | succ n ih =>
      intro j1 c2 u2 d q o1 v c0 hv ha e
      obtain ⟨j2, c3, u3, c4, u4, ho, e1, e2, rfl, rfl⟩ := d
      have hb := mop_b ho
      have s1 := x_op (ir := ir) (ν := ν) (u := v) (cs := cs) (o := o1) hb.2 (by decide) (by unfold mop at ho; omega) ha h3
      have s2 := hU _ _ _ _ e1 (κ j1 :: Q) cs (o1 ++ opc q) v (by rw [(fil_b hb.1).1]; exact hf) (by omega)
      have hh : (κ j1 :: Q).head? ≠ some 1000 := by
        simp only [List.head?_cons, ne_eq, Option.some.injEq]
        exact (isb_ne hb.1).2.1
      rw [dm_id hh, negs_no hh, List.append_nil] at s2
      obtain ⟨q', o', r1, r2, r3⟩ := ih j2 c4 u4 e2 [κ j1] (o1 ++ opc q ++ c3) (v + u3) (c0 ++ c3 ++ [(κ j1, 0)]) (by omega) (fun x hx => by
        have : x = κ j1 := by simpa using hx
        subst this
        exact ⟨hb.1, by omega⟩) (by rw [e]; rfl)
      refine ⟨q', o', r1, ?_, ?_⟩
      · rw [r2]; simp
      · rw [show v + (u3 + u4) = v + u3 + u4 by omega]
        exact (s1.trans s2).trans r3
  obtain ⟨q', o', r1, r2, r3⟩ := loop n j1 c2 u2 d2 [] (o ++ c1) (u0 + u1) (o ++ c1) (by omega) (fun x hx => by cases hx) (by simp [opc])
  refine ⟨q', o', r1, ?_, ?_⟩
  · rw [r2, List.append_assoc]
  · rw [show u0 + (u1 + u2) = u0 + u1 + u2 by omega]
    exact a1.trans r3
theorem x_dS {U : rxT} {m : Nat} (hU : RU κ ν ir U m) : ∀ i j c du, dS κ U i j c du → ∀ Q cs o u0, Q.head? ≠ some 1000 → sty 2 Q → (fil Q).length ≤ m → u0 + du ≤ 60 → ∃ q o', allb 2 q ∧ o' ++ opc q = o ++ c ∧ xre κ ν ir (i, u0, true, Q, cs, o) (j, u0 + du, false, q ++ Q, cs, o') := by
  intro i j c du h Q cs o u0 hQ h2 hf hu
  obtain ⟨j1, c1, u1, n, c2, u2, d1, d2, rfl, rfl⟩ := h
  obtain ⟨q1, o1, p1, p2, p3⟩ := x_dP hU _ _ _ _ d1 Q cs o u0 hQ (sty_le h2 (by decide)) hf (by omega)
  have loop : ∀ (n j1 : Nat) (c2 : cdT) (u2 : Nat), dL κ aop (dP κ U) n j1 j c2 u2 → ∀ q o1 v c0, v + u2 ≤ 60 → allb 2 q → o1 ++ opc q = c0 → ∃ q' o', allb 2 q' ∧ o' ++ opc q' = c0 ++ c2 ∧ xre κ ν ir (j1, v, false, q ++ Q, cs, o1) (j, v + u2, false, q' ++ Q, cs, o') := by
    intro n
    induction n with
    | zero =>
      intro j1 c2 u2 d q o1 v c0 _ ha e
      obtain ⟨rfl, rfl, rfl⟩ := d
      exact ⟨q, o1, ha, by rw [e, List.append_nil], xre.rfl' _⟩
    | succ n ih =>
      intro j1 c2 u2 d q o1 v c0 hv ha e
      obtain ⟨j2, c3, u3, c4, u4, ho, e1, e2, rfl, rfl⟩ := d
      have hb := aop_b ho
      have s1 := x_op (ir := ir) (ν := ν) (u := v) (cs := cs) (o := o1) hb.2 (by decide) (by unfold aop at ho; omega) ha h2
      have hh : (κ j1 :: Q).head? ≠ some 1000 := by
        simp only [List.head?_cons, ne_eq, Option.some.injEq]
        exact (isb_ne hb.1).2.1
      obtain ⟨q2, o2, t1, t2, t3⟩ := x_dP hU _ _ _ _ e1 (κ j1 :: Q) cs (o1 ++ opc q) v hh (sty_cons (by omega)) (by rw [(fil_b hb.1).1]; exact hf) (by omega)
      have t3' : xre κ ν ir (j1 + 1, v, true, κ j1 :: Q, cs, o1 ++ opc q) (j2, v + u3, false, (q2 ++ [κ j1]) ++ Q, cs, o2) := by
        rw [List.append_assoc]
        exact t3
      obtain ⟨q', o', r1, r2, r3⟩ := ih j2 c4 u4 e2 (q2 ++ [κ j1]) o2 (v + u3) (c0 ++ c3 ++ [(κ j1, 0)]) (by omega) (fun x hx => by
        rcases List.mem_append.mp hx with z | z
        · exact ⟨(t1 x z).1, by have := (t1 x z).2; omega⟩
        · have : x = κ j1 := by simpa using z
          subst this
          exact ⟨hb.1, by omega⟩) (by rw [opc_app, ← List.append_assoc, t2, e]; rfl)
      refine ⟨q', o', r1, ?_, ?_⟩
      · rw [r2]; simp
      · rw [show v + (u3 + u4) = v + u3 + u4 by omega]
        exact (s1.trans t3').trans r3
  obtain ⟨q', o', r1, r2, r3⟩ := loop n j1 c2 u2 d2 q1 o1 (u0 + u1) (o ++ c1) (by omega) (fun x hx => ⟨(p1 x hx).1, by have := (p1 x hx).2; omega⟩) p2
  refine ⟨q', o', r1, ?_, ?_⟩
  · rw [r2, List.append_assoc]
  · rw [show u0 + (u1 + u2) = u0 + u1 + u2 by omega]
    exact p3.trans r3
theorem x_dE {U : rxT} {m : Nat} (hU : RU κ ν ir U m) : ∀ i j c du, dE κ U i j c du → ∀ P cs o u0, P.head? ≠ some 1000 → sty 1 P → (fil P).length ≤ m → u0 + du ≤ 60 → ∃ q o' b, allb 1 q ∧ o' ++ opc q = o ++ c ∧ xre κ ν ir (i, u0, true, P, false :: cs, o) (j, u0 + du, false, q ++ P, b :: cs, o') := by
  intro i j c du h P cs o u0 hP h1 hf hu
  rcases h with h | ⟨j1, c1, u1, c2, u2, d1, ho, d2, rfl, rfl⟩
  · obtain ⟨q, o', p1, p2, p3⟩ := x_dS hU _ _ _ _ h P (false :: cs) o u0 hP (sty_le h1 (by decide)) hf hu
    exact ⟨q, o', false, fun x hx => ⟨(p1 x hx).1, by have := (p1 x hx).2; omega⟩, p2, p3⟩
  · obtain ⟨q, o1, p1, p2, p3⟩ := x_dS hU _ _ _ _ d1 P (false :: cs) o u0 hP (sty_le h1 (by decide)) hf (by omega)
    have hb := cop_b ho
    have hh : (κ j1 :: P).head? ≠ some 1000 := by
      simp only [List.head?_cons, ne_eq, Option.some.injEq]
      exact (isb_ne hb.1).2.1
    have s1 : xre κ ν ir (j1, u0 + u1, false, q ++ P, false :: cs, o1) (j1 + 1, u0 + u1, true, κ j1 :: P, true :: cs, o1 ++ opc q) := by
      apply xre.one
      obtain ⟨a1, a2⟩ := popr_app p1 (sty_le h1 (by decide))
      unfold xst
      rw [if_neg (by decide), if_neg (fun z => by have := z.1; unfold cop at ho; omega), if_neg (by omega), if_pos ⟨hb.2, rfl⟩, a1, a2]
      rfl
    obtain ⟨q2, o2, t1, t2, t3⟩ := x_dS hU _ _ _ _ d2 (κ j1 :: P) (true :: cs) (o1 ++ opc q) (u0 + u1) hh (sty_cons (by omega)) (by rw [(fil_b hb.1).1]; exact hf) (by omega)
    refine ⟨q2 ++ [κ j1], o2, true, fun x hx => ?_, ?_, ?_⟩
    · rcases List.mem_append.mp hx with z | z
      · exact ⟨(t1 x z).1, by have := (t1 x z).2; omega⟩
      · have : x = κ j1 := by simpa using z
        subst this
        exact ⟨hb.1, by omega⟩
    · rw [opc_app, ← List.append_assoc, t2, p2]
      simp [opc]
    · rw [List.append_assoc, show u0 + (u1 + u2) = u0 + u1 + u2 by omega]
      exact (p3.trans s1).trans t3
theorem x_dU : ∀ (f m : Nat), m + f ≤ 8 → RU κ ν ir (dU κ ν ir f) m := by
  have leaf : ∀ i j c du, dF κ ν ir i j c du → ∀ π cs o u0, u0 + du ≤ 60 → xre κ ν ir (i, u0, true, π, cs, o) (j, u0 + du, false, dm π, cs, o ++ c ++ negs π) := by
    intro i j c du h π cs o u0 hu
    obtain ⟨h1, rfl, rfl⟩ := h
    apply xre.one
    unfold xst
    rcases h1 with ⟨k, rfl⟩ | ⟨k, k2, rfl⟩
    · rw [if_pos rfl, if_neg (by omega), if_neg (by omega), if_pos (Or.inl k), if_neg (by omega), if_pos k]
    · rw [if_pos rfl, if_neg (by omega), if_neg (by omega), if_pos (Or.inr ⟨k, k2⟩), if_neg (by omega), if_neg (by omega)]
  intro f
  induction f with
  | zero => exact fun m _ i j c du h π cs o u0 _ hu => leaf i j c du h π cs o u0 hu
  | succ f ih =>
    intro m hm i j c du h π cs o u0 hf hu
    rcases h with h | ⟨k, c1, u1, d1, rfl, rfl⟩ | ⟨k, j1, u1, d1, k2, rfl, rfl⟩
    · exact leaf i j c du h π cs o u0 hu
    · have s1 : xre κ ν ir (i, u0, true, π, cs, o) (i + 1, u0 + 1, true, 1000 :: π, cs, o) := by
        apply xre.one
        unfold xst
        rw [if_pos rfl, if_pos k, if_neg (by omega)]
      have s2 := ih (m + 1) (by omega) _ _ _ _ d1 (1000 :: π) cs o (u0 + 1) (by rw [(fil_m π).1]; simp; omega) (by omega)
      have e1 : dm (1000 :: π) = dm π := if_pos rfl
      have e2 : negs (1000 :: π) = (3, 0) :: negs π := if_pos rfl
      rw [e1, e2] at s2
      have s3 := s1.trans s2
      rw [show u0 + (u1 + 1) = u0 + 1 + u1 by omega, show o ++ (c1 ++ [(3, 0)]) ++ negs π = o ++ c1 ++ (3, 0) :: negs π by simp]
      exact s3
    · have s1 : xre κ ν ir (i, u0, true, π, cs, o) (i + 1, u0 + 1, true, 40 :: π, false :: cs, o) := by
        apply xre.one
        unfold xst
        rw [if_pos rfl, if_neg (by omega), if_pos k, if_neg (by omega)]
      have hs : sty 1 (40 :: π) := fun x hx z => by
        have e : (40 : Int) = x := by simpa using hx
        subst e
        exact absurd z.1 (by decide)
      obtain ⟨q, o', b, t1, t2, t3⟩ := x_dE (ih (m + 1) (by omega)) _ _ _ _ d1 (40 :: π) cs o (u0 + 1) (by simp) hs (by rw [(fil_p π).1]; simp; omega) (by omega)
      have s4 : xre κ ν ir (j1, u0 + 1 + u1, false, q ++ 40 :: π, b :: cs, o') (j1 + 1, u0 + 1 + u1, false, dm π, cs, o' ++ opc q ++ negs π) := by
        apply xre.one
        obtain ⟨a1, a2⟩ := popr_app t1 hs
        unfold xst
        rw [if_neg (by decide), if_pos ⟨k2, by rw [(fil_q (fun x hx => (t1 x hx).1)).2, (fil_p π).2.1]; omega⟩, a1, a2]
        rfl
      rw [t2] at s4
      rw [show u0 + (u1 + 1) = u0 + 1 + u1 by omega]
      exact (s1.trans t3).trans s4
/-- an exp: from its first token to what stands behind it -/
theorem x_whole {i j : Nat} {cd : cdT} {du u0 : Nat} (h : dE κ (dU κ ν ir 8) i j cd du) (hu : u0 + du ≤ 60) (hj : κ j = 59 ∨ κ j = 41) : ∃ σ : xS, xre κ ν ir (i, u0, true, [], [false], []) σ ∧ xst κ ν ir σ.1 σ.2.1 σ.2.2.1 σ.2.2.2.1 σ.2.2.2.2.1 σ.2.2.2.2.2 = .inr (j, u0 + du, true, cd) := by
  obtain ⟨q, o', b, t1, t2, t3⟩ := x_dE (x_dU 8 0 (by omega)) _ _ _ _ h [] [] [] u0 (by simp) (fun x hx => by cases hx) (by simp [fil]) hu
  refine ⟨_, t3, ?_⟩
  have hl : lv (q ++ []) = 0 := (fil_q (fun x hx => (t1 x hx).1)).2
  have hp := (popr_app (Q := []) t1 (fun x hx => by cases hx)).2
  have hs : stg (κ j) = 0 := by rcases hj with e | e <;> rw [e] <;> decide
  show xst κ ν ir j (u0 + du) false (q ++ []) (b :: []) o' = _
  unfold xst
  rw [if_neg (by decide), if_neg (by rw [hl]; omega), if_neg (by omega), if_neg (by omega), hl, hp, t2]
  rfl
theorem xru_det : ∀ {a b : Nat} {σ σ1 σ2 : xS} {e : Nat × Nat × Bool × cdT}, xru κ ν ir a σ σ1 → xru κ ν ir b σ σ2 → xst κ ν ir σ2.1 σ2.2.1 σ2.2.2.1 σ2.2.2.2.1 σ2.2.2.2.2.1 σ2.2.2.2.2.2 = .inr e → xre κ ν ir σ1 σ2
  | 0, b, σ, σ1, σ2, e, h, h', _ => by
    have q : σ1 = σ := h
    subst q
    exact ⟨b, h'⟩
  | a + 1, 0, σ, σ1, σ2, e, h, h', he => by
    have q : σ2 = σ := h'
    subst q
    obtain ⟨τ, h1, _⟩ := h
    rw [he] at h1
    cases h1
  | a + 1, b + 1, σ, σ1, σ2, e, h, h', he => by
    obtain ⟨τ, h1, h2⟩ := h
    obtain ⟨τ', h1', h2'⟩ := h'
    rw [h1] at h1'
    injection h1' with q
    subst q
    exact xru_det h2 h2' he
end XMA
/-! the reference's exp(): its memory and the machine of 98zy -/
def rcd (M : rf_M) (a : Nat) (q : Int × Int) : Prop := gi M 368 a = q.1 ∧ (q.1 = 2 → gi M 369 a = q.2) ∧ (q.1 = 1 → gl M 370 a = (Int32.ofInt q.2).toInt64)
def rcq (M : rf_M) (a : Nat) (o : cdT) : Prop := ∀ k, k < o.length → rcd M (a + k) (o.getD k (0, 0))
def exW (r c0 : Nat) (a k : Nat) : Prop := (a = 353 ∧ ((3 ≤ k ∧ k ≤ 10) ∨ k = 30 ∨ k = 31 ∨ k = 33)) ∨ (a = 356 ∧ k = r) ∨ (a = 359 ∧ k = r) ∨ ((a = 368 ∨ a = 369 ∨ a = 370) ∧ 200 * r + c0 ≤ k) ∨ a = 371 ∨ a = 372
def acW (r c : Nat) (a k : Nat) : Prop := (a = 359 ∧ k = r) ∨ ((a = 368 ∨ a = 369 ∨ a = 370) ∧ k = 200 * r + c)
def xm (T : tK) (r c0 : Nat) (M0 M : rf_M) (i u : Nat) (π : List Int) (cs : List Bool) (o : cdT) : Prop :=
  (mtv M T i ∧ (gi M 353 28 = (r : Int) ∧ r < 12) ∧ eqy (exW r c0) M0 M ∧ gi M 353 9 = 0) ∧
  (gi M 356 r = (u : Int) ∧ u ≤ 60 ∧ (gi M 359 r = ((c0 + o.length : Nat) : Int) ∧ c0 + o.length ≤ 2400) ∧ rcq M (200 * r + c0) o) ∧
  (gi M 353 30 = (π.length : Int) ∧ pl M π ∧ okp π ∧ (gi M 353 31 = ((fil π).length : Int) ∧ (fil π).length ≤ 8) ∧ gi M 353 33 = (lv π : Int) ∧ zcl M cs ∧ cs.length = lv π + 1)
section WXP
variable {M M' M0 : rf_M} {T : tK} {r c0 i u : Nat} {π : List Int} {cs : List Bool} {o : cdT} {K : rf_M → Prop}
theorem mtv.eq {P : Nat → Nat → Prop} (h : mtv M T i) (e : eqy P M M') (q : ∀ a k, (a = 353 ∧ (k = 2 ∨ (3 ≤ k ∧ k ≤ 8))) ∨ a = 354 → ¬ P a k) : mtv M' T i := ⟨h.1.eq (fun a k z => e.i (q a k z)), fun z => (e.l (q _ _ (by omega))).trans (h.2 z)⟩
theorem rcq.eq {P : Nat → Nat → Prop} {a : Nat} (h : rcq M a o) (e : eqy P M M') (q : ∀ b k, (b = 368 ∨ b = 369 ∨ b = 370) → a ≤ k → k < a + o.length → ¬ P b k) : rcq M' a o := fun k hk => by
  obtain ⟨h1, h2, h3⟩ := h k hk
  exact ⟨(e.i (q _ _ (by omega) (by omega) (by omega))).trans h1, fun z => (e.i (q _ _ (by omega) (by omega) (by omega))).trans (h2 z), fun z => (e.l (q _ _ (by omega) (by omega) (by omega))).trans (h3 z)⟩
theorem rcq.snoc {a : Nat} {q : Int × Int} (h : rcq M a o) (h' : rcd M (a + o.length) q) : rcq M a (o ++ [q]) := fun k hk => by
  have hk' : k < o.length + 1 := by simpa using hk
  by_cases e : k < o.length
  · have e1 : (o ++ [q]).getD k (0, 0) = o.getD k (0, 0) := by
      rw [List.getD_eq_getElem?_getD, List.getD_eq_getElem?_getD, List.getElem?_append_left e]
    rw [e1]
    exact h k e
  · have e' : k = o.length := by omega
    subst e'
    have e1 : (o ++ [q]).getD o.length (0, 0) = q := by
      rw [List.getD_eq_getElem?_getD, List.getElem?_append_right (Nat.le_refl _), Nat.sub_self]
      rfl
    rw [e1]
    exact h'
theorem y_act {v1 v2 : Int} {v3 : Int64} {c : Nat} (h1 : gi M 353 28 = (r : Int)) (h2 : r < 12) (h3 : gi M 359 r = (c : Int)) (hc : c ≤ 2400) (i1 : inr v1) (i2 : inr v2) (kk : ∀ M', eqy (acW r c) M M' → c < 2400 → gi M' 359 r = ((c + 1 : Nat) : Int) → gi M' 368 (200 * r + c) = v1 → gi M' 369 (200 * r + c) = v2 → gl M' 370 (200 * r + c) = v3 → K M') : em_W_act v1 v2 v3 M K := by
  have e0 : (gi M 353 28).toNat = r := by rw [h1]; omega
  have en : (200 * (r : Int) + (c : Int)).toNat = 200 * r + c := by omega
  show e_W_act v1 v2 v3 M K
  unfold e_W_act
  rw [e0, h1, h3, en]
  intro _ _ _ M1 e1
  refine ⟨inr_z (by omega) (by omega), fun hb M2 e2 _ M3 e3 _ M4 e4 => ?_⟩
  refine kk M4 ?_ (by omega) ?_ ?_ ?_ ?_
  · rw [e4, e3, e2, e1]
    exact ((((eqy.rfl' M).wi (by unfold acW; omega)).wi (by unfold acW; omega)).wi (by unfold acW; omega)).wl (by unfold acW; omega)
  · rw [e4, gi_wl, e3, gi_of (Or.inl (by omega)), e2, gi_of (Or.inl (by omega)), e1, gi_at (inr_z (by omega) (by omega))]; omega
  · rw [e4, gi_wl, e3, gi_of (Or.inl (by omega)), e2, gi_at i1]
  · rw [e4, gi_wl, e3, gi_at i2]
  · rw [e4, gl_at]
theorem y_strength {x : Int} {K : Int → rf_M → Prop} (k : K (stg x) M) : em_W_strength x M K := by
  have y : ∀ z, stg x = z → K z M := fun z e => by rw [← e]; exact k
  unfold stg at y
  refine ⟨fun c => y 3 (by rw [if_pos (by omega)]), fun c0 => ⟨fun c => y 3 (by rw [if_pos (by omega)]), fun c1 => ⟨fun c => y 3 (by rw [if_pos (by omega)]), fun c2 => ⟨fun c => y 2 (by rw [if_neg (by omega), if_pos (by omega)]), fun c3 => ⟨fun c => y 2 (by rw [if_neg (by omega), if_pos (by omega)]), fun c4 => ⟨fun c => y 1 (by rw [if_neg (by omega), if_neg (by omega), if_pos (by omega)]), fun c5 => ⟨fun c => y 1 (by rw [if_neg (by omega), if_neg (by omega), if_pos (by omega)]), fun c6 => ⟨fun c => y 1 (by rw [if_neg (by omega), if_neg (by omega), if_pos (by omega)]), fun c7 => y 0 (by rw [if_neg (by omega), if_neg (by omega), if_neg (by omega)])⟩⟩⟩⟩⟩⟩⟩⟩
/-- a piece of code is written, the top of the pile taken away -/
theorem xm_act {x : Int} {q : Int × Int} {ρ : List Int} {M1 M2 : rf_M} (h : xm T r c0 M0 M i u (x :: ρ) cs o) (e1 : eqy (fun a k => a = 353 ∧ (k = 30 ∨ k = 31)) M M1) (p1 : gi M1 353 30 = (ρ.length : Int)) (p2 : gi M1 353 31 = ((fil ρ).length : Int)) (hl : lv (x :: ρ) = lv ρ) (e2 : eqy (acW r (c0 + o.length)) M1 M2) (hc : c0 + o.length < 2400) (q1 : gi M2 359 r = ((c0 + o.length + 1 : Nat) : Int)) (q2 : rcd M2 (200 * r + (c0 + o.length)) q) : xm T r c0 M0 M2 i u ρ cs (o ++ [q]) := by
  obtain ⟨⟨a1, ⟨a2, a2'⟩, a3, a4⟩, ⟨b1, b2, ⟨b3, b3'⟩, b4⟩, ⟨c1, c2, c3, ⟨c4, c4'⟩, c5, c6, c7⟩⟩ := h
  have g : ∀ a k, ¬ (a = 353 ∧ (k = 30 ∨ k = 31)) → ¬ acW r (c0 + o.length) a k → gi M2 a k = gi M a k := fun a k z1 z2 => (e2.i z2).trans (e1.i z1)
  have f0 : ∀ k, gi M2 353 k = gi M1 353 k := fun k => e2.i (by unfold acW; omega)
  have el : (o ++ [q]).length = o.length + 1 := by simp
  refine ⟨⟨(a1.eq e1 (fun a k z => by omega)).eq e2 (fun a k z => by unfold acW; omega), ⟨(g _ _ (by omega) (by unfold acW; omega)).trans a2, a2'⟩, ?_, (g _ _ (by omega) (by unfold acW; omega)).trans a4⟩, ⟨(g _ _ (by omega) (by unfold acW; omega)).trans b1, b2, ⟨?_, ?_⟩, ?_⟩, ⟨(f0 30).trans p1, ?_, c3.2.2, ⟨(f0 31).trans p2, ?_⟩, ?_, ?_, by rw [← hl]; exact c7⟩⟩
  · exact (a3.trans (e1.mono (fun a k z => by unfold exW; omega))).trans (e2.mono (fun a k z => by unfold acW at z; unfold exW; omega))
  · rw [el, q1]; omega
  · rw [el]; omega
  · refine rcq.snoc ((b4.eq e1 (fun b k z _ _ => by omega)).eq e2 (fun b k z z1 z2 => by unfold acW; omega)) ?_
    rw [Nat.add_assoc]
    exact q2
  · exact c2.2.eq (fun k _ => g 371 k (by omega) (by unfold acW; omega))
  · exact Nat.le_trans (fil_le x ρ) c4'
  · rw [g 353 33 (by omega) (by unfold acW; omega), c5, hl]
  · exact c6.eq (fun k _ => g 372 k (by omega) (by unfold acW; omega))
theorem y_reduce {l : Int} (hl : 1 ≤ l ∧ l ≤ 3) (h : xm T r c0 M0 M i u π cs o) (kk : ∀ M', xm T r c0 M0 M' i u (popr l π) cs (o ++ pops l π) → K M') : em_W_reduce l M K := by
  refine ⟨fun v1 M' => v1 = l ∧ ∃ π' o', xm T r c0 M0 M' i u π' cs o' ∧ popr l π' = popr l π ∧ o' ++ pops l π' = o ++ pops l π, ⟨rfl, π, o, h, rfl, rfl⟩, ?_⟩
  rintro v1 M' - ⟨rfl, π', o', h1, h2, h3⟩
  obtain ⟨⟨a1, ⟨a2, a2'⟩, a3, a4⟩, ⟨b1, b2, ⟨b3, b3'⟩, b4⟩, ⟨c1, c2, c3, ⟨c4, c4'⟩, c5, c6, c7⟩⟩ := id h1
  cases π' with
  | nil =>
    refine ⟨fun _ => kk M' (by rw [← h2, ← h3]; simpa [popr, pops] using h1), fun q => absurd ?_ q⟩
    rw [c1]; simp
  | cons x ρ =>
    have l1 : gi M' 353 30 = (ρ.length : Int) + 1 := by rw [c1]; simp
    have l2 : (gi M' 353 30 - 1).toNat = ρ.length := by rw [l1]; omega
    have top : gi M' 371 (gi M' 353 30 - 1).toNat = x := by rw [l2]; exact c2.1
    have i3 := inr_gi M' 353 30
    have i30 : inr (gi M' 353 30 - 1) := ⟨by omega, by have := i3.2; omega⟩
    have stop : ¬ (isb x = true ∧ v1 ≤ stg x) → K M' := fun q => kk M' (by
      have e1 : popr v1 (x :: ρ) = x :: ρ := if_neg q
      have e2 : pops v1 (x :: ρ) = [] := if_neg q
      rw [← h2, ← h3, e1, e2, List.append_nil]
      exact h1)
    refine ⟨fun q => absurd q (by omega), fun _ => ⟨i30, fun hb => ⟨fun q => stop ?_, fun q => ⟨i30, fun _ => ⟨fun q2 => stop ?_, fun q2 => ⟨i30, fun _ => ?_⟩⟩⟩⟩⟩⟩
    · rw [top] at q; rw [q]; exact fun z => absurd z.1 (by decide)
    · rw [top] at q2; rw [q2]; exact fun z => absurd z.1 (by decide)
    rw [top] at q q2 ⊢
    have hbx : isb x = true := by
      rcases c3.1 with z | z | z
      · exact absurd z q
      · exact absurd z q2
      · exact z
    have hbn := isb_ne hbx
    refine y_strength ⟨fun q3 => stop (fun z => by omega), fun q3 M2 e2 => ?_⟩
    have y2 : eqy (fun a k => a = 353 ∧ (k = 30 ∨ k = 31)) M' M2 := by rw [e2]; exact (eqy.rfl' _).wi ⟨rfl, Or.inl rfl⟩
    have k30 : gi M2 353 30 = (ρ.length : Int) := by rw [e2, gi_at i30, l1]; omega
    have k371 : gi M2 371 (gi M2 353 30).toNat = x := by rw [k30, e2, gi_of (Or.inl (by omega)), tn_]; exact c2.1
    intro _
    rw [k371]
    refine y_act (r := r) (c := c0 + o'.length) ((y2.i (by omega)).trans a2) a2' ((y2.i (by omega)).trans b3) b3' (inr_z (by omega) (by omega)) ir_1 (fun M3 x3 hc z1 z2 z3 z4 => ?_)
    refine ⟨rfl, ρ, o' ++ [(x, 0)], xm_act (q := (x, 0)) h1 y2 k30 ?_ (fil_b hbx).2.1 x3 hc z1 ⟨z2, fun w => ?_, fun w => ?_⟩, ?_, ?_⟩
    · rw [e2, gi_of (Or.inr (by omega)), c4, (fil_b hbx).1]
    · exact absurd w (by have := (isb_iff x).mp hbx; show ¬ x = 2; omega)
    · exact absurd w (by have := (isb_iff x).mp hbx; show ¬ x = 1; omega)
    · rw [← h2]
      exact (if_pos ⟨hbx, by omega⟩).symm
    · rw [← h3]
      have e2 : pops v1 (x :: ρ) = (x, 0) :: pops v1 ρ := if_pos ⟨hbx, by omega⟩
      rw [e2]
      simp
theorem y_operand (h : xm T r c0 M0 M i u π cs o) (kk : ∀ M', xm T r c0 M0 M' i u (dm π) cs (o ++ negs π) → K M') : em_W_operandIsThere M K := by
  refine ⟨fun M' => ∃ π' o', xm T r c0 M0 M' i u π' cs o' ∧ dm π' = dm π ∧ o' ++ negs π' = o ++ negs π, ⟨π, o, h, rfl, rfl⟩, ?_⟩
  rintro M' ⟨π', o', h1, h2, h3⟩
  obtain ⟨⟨a1, ⟨a2, a2'⟩, a3, a4⟩, ⟨b1, b2, ⟨b3, b3'⟩, b4⟩, ⟨c1, c2, c3, ⟨c4, c4'⟩, c5, c6, c7⟩⟩ := id h1
  cases π' with
  | nil =>
    refine ⟨fun _ => kk M' (by rw [← h2, ← h3]; simpa [dm, negs] using h1), fun q => absurd ?_ q⟩
    rw [c1]; simp
  | cons x ρ =>
    have l1 : gi M' 353 30 = (ρ.length : Int) + 1 := by rw [c1]; simp
    have l2 : (gi M' 353 30 - 1).toNat = ρ.length := by rw [l1]; omega
    have top : gi M' 371 (gi M' 353 30 - 1).toNat = x := by rw [l2]; exact c2.1
    have i3 := inr_gi M' 353 30
    have i30 : inr (gi M' 353 30 - 1) := ⟨by omega, by have := i3.2; omega⟩
    refine ⟨fun q => absurd q (by omega), fun _ => ⟨i30, fun hb => ⟨fun q M1 e1 M2 e2 => ?_, fun q => kk M' ?_⟩⟩⟩
    · rw [top] at q
      subst q
      have f31 : gi M' 353 31 = ((fil ρ).length : Int) + 1 := by rw [c4, (fil_m ρ).1]; simp
      have lf : (fil ρ).length ≤ 8 := by rw [(fil_m ρ).1] at c4'; simp at c4'; omega
      have g31 : gi M1 353 31 = ((fil ρ).length : Int) + 1 := by rw [e1, gi_of (Or.inr (by omega))]; exact f31
      have y2 : eqy (fun a k => a = 353 ∧ (k = 30 ∨ k = 31)) M' M2 := by rw [e2, e1]; exact ((eqy.rfl' _).wi ⟨rfl, Or.inl rfl⟩).wi ⟨rfl, Or.inr rfl⟩
      refine y_act (r := r) (c := c0 + o'.length) ((y2.i (by omega)).trans a2) a2' ((y2.i (by omega)).trans b3) b3' (inr_z (by omega) (by omega)) ir_1 (fun M3 x3 hc z1 z2 z3 z4 => ?_)
      refine ⟨ρ, o' ++ [(3, 0)], xm_act (q := (3, 0)) h1 y2 ?_ ?_ (fil_m ρ).2.1 x3 hc z1 ⟨z2, fun w => absurd w (by decide), fun w => absurd w (by decide)⟩, ?_, ?_⟩
      · rw [e2, gi_of (Or.inr (by omega)), e1, gi_at i30, l1]; omega
      · rw [e2, gi_at (by rw [g31]; exact inr_z (by omega) (by omega)), g31]; omega
      · rw [← h2]
        exact (if_pos rfl).symm
      · rw [← h3]
        have e2 : negs (1000 :: ρ) = (3, 0) :: negs ρ := if_pos rfl
        rw [e2]
        simp
    · rw [top] at q
      have e1 : dm (x :: ρ) = x :: ρ := if_neg q
      have e2 : negs (x :: ρ) = [] := if_neg q
      rw [← h2, ← h3, e1, e2, List.append_nil]
      exact h1
theorem xm.nx {i' : Nat} (h : xm T r c0 M0 M i u π cs o) (y : eqy nxw M M') (hm : mtv M' T i') : xm T r c0 M0 M' i' u π cs o := by
  obtain ⟨⟨a1, ⟨a2, a2'⟩, a3, a4⟩, ⟨b1, b2, ⟨b3, b3'⟩, b4⟩, ⟨c1, c2, c3, ⟨c4, c4'⟩, c5, c6, c7⟩⟩ := h
  have g : ∀ a k, ¬ (a = 353 ∧ 3 ≤ k ∧ k ≤ 8) → gi M' a k = gi M a k := fun a k z => y.i z
  refine ⟨⟨hm, ⟨(g _ _ (by omega)).trans a2, a2'⟩, a3.trans (y.mono (fun a k z => by unfold nxw at z; unfold exW; omega)), (g _ _ (by omega)).trans a4⟩, ⟨(g _ _ (by omega)).trans b1, b2, ⟨(g _ _ (by omega)).trans b3, b3'⟩, b4.eq y (fun b k z _ _ => by unfold nxw; omega)⟩, ⟨(g _ _ (by omega)).trans c1, c2.eq (fun k _ => g _ _ (by omega)), c3, ⟨(g _ _ (by omega)).trans c4, c4'⟩, (g _ _ (by omega)).trans c5, c6.eq (fun k _ => g _ _ (by omega)), c7⟩⟩
theorem y_next (h : mtv M T i) (hi : i < T.length) (kk : ∀ M', eqy nxw M M' → mtv M' T (i + 1) → K M') : em_W_next M K := by
  have h1 := h.1.1
  rw [if_pos hi] at h1
  exact y_next0 h1 kk
end WXP
/-! the reference's readUnary() -/
/-- a fault was found -/
def xfl (r c0 : Nat) (M0 M : rf_M) : Prop := eqy (exW r c0) M0 M ∧ (gi M 353 28 = (r : Int) ∧ r < 12) ∧ ¬ gi M 353 9 = 0 ∧ ∃ c : Nat, c0 ≤ c ∧ c ≤ 2400 ∧ gi M 359 r = (c : Int)
section WUN
variable {M M' M0 : rf_M} {T : tK} {r c0 i u : Nat} {π : List Int} {cs : List Bool} {o : cdT} {K : rf_M → Prop}
theorem y_isSign {c : Int} {K : Int → rf_M → Prop} (h : mtk M T i) (hc : 20 ≤ c) (k1 : κT T i = c → K 1 M) (k2 : ¬ κT T i = c → K 0 M) : em_W_isSign c M K := by
  obtain ⟨-, -, t1, t2, t3, t4⟩ := h
  refine ⟨fun q => ⟨fun q2 => ⟨Or.inr rfl, k1 ?_⟩, fun q2 => ⟨Or.inl rfl, k2 ?_⟩⟩, fun q => ⟨Or.inl rfl, k2 ?_⟩⟩
  · rw [t1] at q
    exact (t2 ((tkm_iff t4).1.mp q)).symm.trans q2
  · intro w
    rw [t1] at q
    exact q2 ((t2 ((tkm_iff t4).1.mp q)).trans w)
  · intro w
    have h20 : 20 ≤ (kd T i).toInt := by
      have w : (kd T i).toInt = c := w
      omega
    exact q (by rw [t1]; exact (tkm_iff t4).1.mpr h20)
theorem y_mis (kk : ∀ M', eqy (fun a k => a = 353 ∧ (k = 9 ∨ k = 10)) M M' → ¬ gi M' 353 9 = 0 → K M') : em_W_misplaced M K := by
  refine ⟨fun c M1 e1 M2 e2 => kk M2 ?_ ?_, fun c => kk M (eqy.rfl' M) c⟩
  · rw [e2, e1]; exact ((eqy.rfl' M).wi ⟨rfl, Or.inl rfl⟩).wi ⟨rfl, Or.inr rfl⟩
  · rw [e2, gi_of (Or.inr (by omega)), e1, gi_at (inr_z (by omega) (by omega))]; decide
theorem xm.bad (h : xm T r c0 M0 M i u π cs o) (y : eqy (fun a k => a = 353 ∧ (k = 9 ∨ k = 10)) M M') (q : ¬ gi M' 353 9 = 0) : xfl r c0 M0 M' := by
  obtain ⟨⟨a1, ⟨a2, a2'⟩, a3, a4⟩, ⟨b1, b2, ⟨b3, b3'⟩, b4⟩, _⟩ := h
  exact ⟨a3.trans (y.mono (fun a k z => by unfold exW; omega)), ⟨(y.i (by omega)).trans a2, a2'⟩, q, c0 + o.length, by omega, b3', (y.i (by omega)).trans b3⟩
/-- a sign is pushed -/
theorem xm_push {x : Int} {cs' : List Bool} {M1 : rf_M} (h : xm T r c0 M0 M i u π cs o) (hu : u < 60) (hf : (fil π).length ≠ 8) (hx : (x = 1000 ∧ cs' = cs) ∨ (x = 40 ∧ cs' = false :: cs)) (y : eqy (fun a k => (a = 356 ∧ k = r) ∨ (a = 353 ∧ (k = 30 ∨ k = 31 ∨ k = 33)) ∨ (a = 371 ∧ k = π.length) ∨ (a = 372 ∧ k = lv π + 1)) M M1) (p0 : gi M1 356 r = (u : Int) + 1) (p1 : gi M1 353 30 = (π.length : Int) + 1) (p2 : gi M1 353 31 = ((fil π).length : Int) + 1) (p3 : gi M1 353 33 = (lv (x :: π) : Int)) (p4 : gi M1 371 π.length = x) (p5 : x = 40 → gi M1 372 (lv π + 1) = 0) : xm T r c0 M0 M1 i (u + 1) (x :: π) cs' o := by
  obtain ⟨⟨a1, ⟨a2, a2'⟩, a3, a4⟩, ⟨b1, b2, ⟨b3, b3'⟩, b4⟩, ⟨c1, c2, c3, ⟨c4, c4'⟩, c5, c6, c7⟩⟩ := h
  have hfl : (fil (x :: π)).length = (fil π).length + 1 := by
    rcases hx with ⟨e, _⟩ | ⟨e, _⟩ <;> subst e
    · rw [(fil_m π).1]; rfl
    · rw [(fil_p π).1]; rfl
  have hz : zcl M1 cs := c6.eq (fun k hk => y.i (by omega))
  refine ⟨⟨a1.eq y (fun a k z => by omega), ⟨(y.i (by omega)).trans a2, a2'⟩, a3.trans (y.mono (fun a k z => by unfold exW; omega)), (y.i (by omega)).trans a4⟩, ⟨by rw [p0]; omega, by omega, ⟨(y.i (by omega)).trans b3, b3'⟩, b4.eq y (fun b k z _ _ => by omega)⟩, ⟨by rw [p1]; simp, ⟨p4, c2.eq (fun k hk => y.i (by omega))⟩, ⟨?_, ?_, c3⟩, ⟨by rw [p2, hfl]; omega, by rw [hfl]; omega⟩, p3, ?_, ?_⟩⟩
  · rcases hx with ⟨e, _⟩ | ⟨e, _⟩ <;> subst e
    · exact Or.inr (Or.inl rfl)
    · exact Or.inl rfl
  · intro w
    rcases hx with ⟨e, _⟩ | ⟨e, _⟩ <;> subst e <;> exact absurd w (by decide)
  · rcases hx with ⟨e, e'⟩ | ⟨e, e'⟩ <;> subst e <;> subst e'
    · exact hz
    · refine ⟨?_, hz⟩
      rw [c7]
      exact p5 rfl
  · rcases hx with ⟨e, e'⟩ | ⟨e, e'⟩ <;> subst e <;> subst e'
    · rw [(fil_m π).2.1]; exact c7
    · rw [(fil_p π).2.1]; simp; exact c7
/-- a leaf is written -/
theorem xm_leaf {q : Int × Int} {M1 M2 : rf_M} (h : xm T r c0 M0 M i u π cs o) (hu : u < 60) (e1 : eqy (fun a k => a = 356 ∧ k = r) M M1) (p1 : gi M1 356 r = (u : Int) + 1) (e2 : eqy (acW r (c0 + o.length)) M1 M2) (hc : c0 + o.length < 2400) (q1 : gi M2 359 r = ((c0 + o.length + 1 : Nat) : Int)) (q2 : rcd M2 (200 * r + (c0 + o.length)) q) : xm T r c0 M0 M2 i (u + 1) π cs (o ++ [q]) := by
  obtain ⟨⟨a1, ⟨a2, a2'⟩, a3, a4⟩, ⟨b1, b2, ⟨b3, b3'⟩, b4⟩, ⟨c1, c2, c3, ⟨c4, c4'⟩, c5, c6, c7⟩⟩ := h
  have g : ∀ a k, ¬ (a = 356 ∧ k = r) → ¬ acW r (c0 + o.length) a k → gi M2 a k = gi M a k := fun a k z1 z2 => (e2.i z2).trans (e1.i z1)
  have el : (o ++ [q]).length = o.length + 1 := by simp
  refine ⟨⟨(a1.eq e1 (fun a k z => by omega)).eq e2 (fun a k z => by unfold acW; omega), ⟨(g _ _ (by omega) (by unfold acW; omega)).trans a2, a2'⟩, ?_, (g _ _ (by omega) (by unfold acW; omega)).trans a4⟩, ⟨?_, by omega, ⟨?_, ?_⟩, ?_⟩, ⟨(g _ _ (by omega) (by unfold acW; omega)).trans c1, c2.eq (fun k _ => g 371 k (by omega) (by unfold acW; omega)), c3, ⟨(g _ _ (by omega) (by unfold acW; omega)).trans c4, c4'⟩, (g _ _ (by omega) (by unfold acW; omega)).trans c5, c6.eq (fun k _ => g 372 k (by omega) (by unfold acW; omega)), c7⟩⟩
  · exact (a3.trans (e1.mono (fun a k z => by unfold exW; omega))).trans (e2.mono (fun a k z => by unfold acW at z; unfold exW; omega))
  · rw [e2.i (by unfold acW; omega), p1]; omega
  · rw [el, q1]; omega
  · rw [el]; omega
  · refine rcq.snoc ((b4.eq e1 (fun b k z _ _ => by omega)).eq e2 (fun b k z z1 z2 => by unfold acW; omega)) ?_
    rw [Nat.add_assoc]
    exact q2
theorem y_readUnary {ir : Bool} {v1 : Int} {K : Int → rf_M → Prop} (hv : v1 = 0 ↔ ir = false) (h : xm T r c0 M0 M i u π cs o) (kbad : ∀ M', xfl r c0 M0 M' → K 0 M')
    (k1 : ∀ M' π' cs', xm T r c0 M0 M' (i + 1) (u + 1) π' cs' o → xst (κT T) (νT T) ir i u true π cs o = .inl (i + 1, u + 1, true, π', cs', o) → K 1 M')
    (k2 : ∀ M' π' o', xm T r c0 M0 M' (i + 1) (u + 1) π' cs o' → π'.head? ≠ some 1000 → xst (κT T) (νT T) ir i u true π cs o = .inl (i + 1, u + 1, false, π', cs, o') → K 0 M') : em_W_readUnary v1 M K := by
  obtain ⟨⟨a1, ⟨a2, a2'⟩, a3, a4⟩, ⟨b1, b2, ⟨b3, b3'⟩, b4⟩, ⟨c1, c2, c3, ⟨c4, c4'⟩, c5, c6, c7⟩⟩ := id h
  have er : (gi M 353 28).toNat = r := by rw [a2]; omega
  have tk := a1.1.2.2
  have hk := tkm_iff tk.2.2.2
  have k3 : gi M 353 4 = 3 ↔ κT T i = 2 := by rw [tk.1]; exact hk.2.1
  have k4 : gi M 353 4 = 2 ↔ κT T i = 1 := by rw [tk.1]; exact hk.2.2.1
  have kl : κT T i = 1 → gi M 353 6 = νT T i := fun q => (tk.2.2.1 q).1
  have bad : e_W_readUnary_94 M K := y_mis (fun M' y q => kbad M' (h.bad y q))
  have lt : κT T i ≠ 0 → i < T.length := fun q => kd_lt q
  -- an operand
  have op : (κT T i = 2 ∨ (κT T i = 1 ∧ (ir = false ∨ νT T i < 16))) → u < 60 → e_W_readUnary_100 0 M K := fun hop hu => by
    show e_W_readUnary_100 0 M K
    unfold e_W_readUnary_100
    rw [er, b1]
    intro _ _ M1 e1
    refine ⟨fun _ => ?_, fun q => absurd rfl q⟩
    have y1 : eqy (fun a k => a = 356 ∧ k = r) M M1 := by rw [e1]; exact (eqy.rfl' M).wi ⟨rfl, rfl⟩
    have p1 : gi M1 356 r = (u : Int) + 1 := by rw [e1, gi_at (inr_z (by omega) (by omega))]
    have hil : i < T.length := lt (by omega)
    have step : xst (κT T) (νT T) ir i u true π cs o = .inl (i + 1, u + 1, false, dm π, cs, o ++ [(if κT T i = 2 then 1 else 2, νT T i)] ++ negs π) := by
      unfold xst
      rw [if_pos rfl, if_neg (by omega), if_neg (by omega), if_pos hop, if_neg (by omega)]
    have fin : ∀ (z1 z2 : Int) (z3 : Int64), z1 = (if κT T i = 2 then 1 else 2) → inr z1 → inr z2 → (z1 = 2 → z2 = νT T i) → (z1 = 1 → z3 = (Int32.ofInt (νT T i)).toInt64) → e_W_readUnary_244 z1 z2 z3 M1 K := fun z1 z2 z3 f0 f1 f2 f3 f4 => by
      refine y_act (r := r) (c := c0 + o.length) ((y1.i (by omega)).trans a2) a2' ((y1.i (by omega)).trans b3) b3' f1 f2 (fun M2 x2 hc w1 w2 w3 w4 => ?_)
      have hq := xm_leaf (q := (z1, νT T i)) h hu y1 p1 x2 hc w1 ⟨w2, fun e => w3.trans (f3 e), fun e => w4.trans (f4 e)⟩
      refine y_next hq.1.1 hil (fun M3 y3 m3 => y_operand (hq.nx y3 m3) (fun M4 h4 => k2 M4 _ _ h4 (dm_keep c3).2.2.2.1 ?_))
      rw [step, f0]
    have g4 : gi M1 353 4 = gi M 353 4 := y1.i (by omega)
    by_cases e2 : κT T i = 2
    · refine ⟨fun _ => ⟨fun q => absurd (k4.mp (by rw [← g4]; exact q)) (by omega), fun _ => ⟨fun _ => ?_, fun q => absurd (g4.trans (k3.mpr e2)) q⟩⟩, fun q => absurd (g4.trans (k3.mpr e2)) q⟩
      refine fin 1 (-1) _ (by rw [if_pos e2]) (inr_z (by omega) (by omega)) ir_1 (fun q => absurd q (by decide)) (fun _ => ?_)
      have e3 : kd T i = 2 := Int32.toInt_inj.mp (by show (kd T i).toInt = (2 : Int32).toInt; exact e2)
      rw [y1.l (by omega), a1.2 e3]
      show _ = (Int32.ofInt ((nb T i).toInt)).toInt64
      rw [Int32.ofInt_toInt]
    · have e1' : κT T i = 1 := by omega
      refine ⟨fun q => absurd (k3.mp (by rw [← g4]; exact q)) e2, fun _ => ⟨fun _ => ⟨fun q => absurd (k3.mp (by rw [← g4]; exact q)) e2, fun _ => ?_⟩, fun q => absurd (g4.trans (k4.mpr e1')) q⟩⟩
      refine fin 2 _ _ (by rw [if_neg e2]) (inr_z (by omega) (by omega)) (inr_gi _ _ _) (fun _ => (y1.i (by omega)).trans (kl e1')) (fun q => absurd q (by decide))
  -- a sign
  have sg : (κT T i = 45 ∨ κT T i = 40) → u < 60 → (fil π).length ≠ 8 → e_W_readUnary_100 1 M K := fun hs hu h8 => by
    show e_W_readUnary_100 1 M K
    unfold e_W_readUnary_100
    rw [er, b1]
    intro _ _ M1 e1
    refine ⟨fun q => absurd q (by decide), fun _ M2 e2 => ?_⟩
    have hil : i < T.length := lt (by omega)
    have g1 : gi M1 353 31 = ((fil π).length : Int) := by rw [e1, gi_of (Or.inl (by omega))]; exact c4
    have y2 : eqy (fun a k => (a = 356 ∧ k = r) ∨ (a = 353 ∧ k = 31)) M M2 := by rw [e2, e1]; exact ((eqy.rfl' M).wi (Or.inl ⟨rfl, rfl⟩)).wi (Or.inr ⟨rfl, rfl⟩)
    have q31 : gi M2 353 31 = ((fil π).length : Int) + 1 := by rw [e2, gi_at (by rw [g1]; exact inr_z (by omega) (by omega)), g1]
    have q56 : gi M2 356 r = (u : Int) + 1 := by rw [e2, gi_of (Or.inl (by omega)), e1, gi_at (inr_z (by omega) (by omega))]
    have q30 : gi M2 353 30 = (π.length : Int) := (y2.i (by omega)).trans c1
    have q33 : gi M2 353 33 = (lv π : Int) := (y2.i (by omega)).trans c5
    have m2 : mtk M2 T i := (a1.eq y2 (fun a k z => by omega)).1
    have lvf := lv_le π
    refine y_isSign m2 (by decide) (fun e40 => ⟨fun q => absurd q (by decide), fun _ => ?_⟩) (fun n40 => ⟨fun _ => ?_, fun q => absurd rfl q⟩)
    · intro hb M3 e3 M4 e4
      rw [q30, tn_] at e3
      rw [q30] at hb
      have y3 : eqy (fun a k => a = 371 ∧ k = π.length) M2 M3 := by rw [e3]; exact (eqy.rfl' _).wi ⟨rfl, rfl⟩
      have g30 : gi M3 353 30 = (π.length : Int) := (y3.i (by omega)).trans q30
      have y4 : eqy (fun a k => a = 353 ∧ k = 30) M3 M4 := by rw [e4]; exact (eqy.rfl' _).wi ⟨rfl, rfl⟩
      have r30 : gi M4 353 30 = (π.length : Int) + 1 := by rw [e4, gi_at (by rw [g30]; exact inr_z (by omega) (by omega)), g30]
      have m4 : mtk M4 T i := (m2.eq (fun a k z => y3.i (by omega))).eq (fun a k z => y4.i (by omega))
      refine y_isSign m4 (by decide) (fun _ => ⟨fun q => absurd q (by decide), fun _ M5 e5 hb5 M6 e6 => ?_⟩) (fun q => absurd e40 q)
      have g33 : gi M4 353 33 = (lv π : Int) := (y4.i (by omega)).trans ((y3.i (by omega)).trans q33)
      have r33 : gi M5 353 33 = ((lv π + 1 : Nat) : Int) := by rw [e5, gi_at (by rw [g33]; exact inr_z (by omega) (by omega)), g33]; omega
      rw [r33, tn_] at e6
      have y5 : eqy (fun a k => a = 353 ∧ k = 33) M4 M5 := by rw [e5]; exact (eqy.rfl' _).wi ⟨rfl, rfl⟩
      have y6 : eqy (fun a k => a = 372 ∧ k = lv π + 1) M5 M6 := by rw [e6]; exact (eqy.rfl' _).wi ⟨rfl, rfl⟩
      have hq := xm_push (x := 40) (cs' := false :: cs) (M1 := M6) h hu h8 (Or.inr ⟨rfl, rfl⟩) (((((y2.mono (fun a k z => by omega)).trans (y3.mono (fun a k z => by omega))).trans (y4.mono (fun a k z => by omega))).trans (y5.mono (fun a k z => by omega))).trans (y6.mono (fun a k z => by omega))) ?_ ?_ ?_ ?_ ?_ ?_
      · refine y_next hq.1.1 hil (fun M7 y7 m7 => k1 M7 _ _ (hq.nx y7 m7) ?_)
        unfold xst
        rw [if_pos rfl, if_neg (by omega), if_pos e40, if_neg (by omega)]
      · rw [y6.i (by omega), y5.i (by omega), y4.i (by omega), y3.i (by omega)]; exact q56
      · rw [y6.i (by omega), y5.i (by omega)]; exact r30
      · rw [y6.i (by omega), y5.i (by omega), y4.i (by omega), y3.i (by omega)]; exact q31
      · rw [y6.i (by omega), r33, (fil_p π).2.1]
      · rw [y6.i (by omega), y5.i (by omega), y4.i (by omega), e3, gi_at (inr_z (by omega) (by omega))]
      · intro _
        rw [e6, gi_at (inr_ti _)]
        decide
    · intro hb M3 e3 M4 e4
      rw [q30, tn_] at e3
      rw [q30] at hb
      have y3 : eqy (fun a k => a = 371 ∧ k = π.length) M2 M3 := by rw [e3]; exact (eqy.rfl' _).wi ⟨rfl, rfl⟩
      have g30 : gi M3 353 30 = (π.length : Int) := (y3.i (by omega)).trans q30
      have y4 : eqy (fun a k => a = 353 ∧ k = 30) M3 M4 := by rw [e4]; exact (eqy.rfl' _).wi ⟨rfl, rfl⟩
      have r30 : gi M4 353 30 = (π.length : Int) + 1 := by rw [e4, gi_at (by rw [g30]; exact inr_z (by omega) (by omega)), g30]
      have m4 : mtk M4 T i := (m2.eq (fun a k z => y3.i (by omega))).eq (fun a k z => y4.i (by omega))
      refine y_isSign m4 (by decide) (fun q => absurd q n40) (fun _ => ⟨fun _ => ?_, fun q => absurd rfl q⟩)
      have hq := xm_push (x := 1000) (cs' := cs) (M1 := M4) h hu h8 (Or.inl ⟨rfl, rfl⟩) (((y2.mono (fun a k z => by omega)).trans (y3.mono (fun a k z => by omega))).trans (y4.mono (fun a k z => by omega))) ?_ r30 ?_ ?_ ?_ (fun q => absurd q (by decide))
      · refine y_next hq.1.1 hil (fun M7 y7 m7 => k1 M7 _ _ (hq.nx y7 m7) ?_)
        unfold xst
        rw [if_pos rfl, if_pos (by omega), if_neg (by omega)]
      · rw [y4.i (by omega), y3.i (by omega)]; exact q56
      · rw [y4.i (by omega), y3.i (by omega)]; exact q31
      · rw [y4.i (by omega), y3.i (by omega), q33, (fil_m π).2.1]
      · rw [y4.i (by omega), e3, gi_at (inr_z (by omega) (by omega))]
  have e57 : ∀ x : Int, (x = 0 → (κT T i = 2 ∨ (κT T i = 1 ∧ (ir = false ∨ νT T i < 16)))) → (x ≠ 0 → x = 1 ∧ (κT T i = 45 ∨ κT T i = 40)) → e_W_readUnary_57 x M K := fun x hx0 hx1 => by
    show e_W_readUnary_62 x 1 M K
    unfold e_W_readUnary_62
    rw [er, b1]
    refine ⟨fun q => absurd q (by decide), fun _ _ => ⟨fun _ => bad, fun q60 => ⟨fun q => ?_, fun q => ⟨fun _ => bad, fun q8 => ?_⟩⟩⟩⟩
    · rw [q]; exact op (hx0 q) (by omega)
    · rw [(hx1 q).1]
      exact sg (hx1 q).2 (by omega) (fun z => q8 (by rw [c4, z]; rfl))
  have e61 : ∀ x : Int, e_W_readUnary_61 x M K := fun x => ⟨fun _ => bad, fun q => absurd rfl q⟩
  have e18 : (κT T i = 45 ∨ κT T i = 40) → e_W_readUnary_18 v1 M K := fun q => ⟨fun z => absurd z (by decide), fun _ => e57 1 (fun z => absurd z (by decide)) (fun _ => ⟨rfl, q⟩)⟩
  refine y_isSign a1.1 (by decide) (fun e => ⟨fun q => absurd q (by decide), fun _ => e18 (Or.inl e)⟩) (fun n45 => ⟨fun _ => y_isSign a1.1 (by decide) (fun e => ⟨fun q => absurd q (by decide), fun _ => e18 (Or.inr e)⟩) (fun n40 => ⟨fun _ => ?_, fun q => absurd rfl q⟩), fun q => absurd rfl q⟩)
  refine ⟨fun _ => ⟨fun q => e57 0 (fun _ => Or.inl (k3.mp q)) (fun z => absurd rfl z), fun q => ⟨fun q2 => ⟨fun qv => e57 0 (fun _ => Or.inr ⟨k4.mp q2, Or.inl (hv.mp qv)⟩) (fun z => absurd rfl z), fun qv => ⟨fun _ => e61 0, fun q16 => e57 0 (fun _ => Or.inr ⟨k4.mp q2, Or.inr ?_⟩) (fun z => absurd rfl z)⟩⟩, fun _ => e61 0⟩⟩, fun q => absurd rfl q⟩
  have := kl (k4.mp q2)
  omega
end WUN
/-! the reference's exp() -/
section WX2
variable {M M' M0 : rf_M} {T : tK} {r c0 i u : Nat} {π : List Int} {cs : List Bool} {o : cdT} {K : rf_M → Prop} {ir : Bool}
theorem xfl.mv {P : Nat → Nat → Prop} (h : xfl r c0 M0 M) (y : eqy P M M') (q : ∀ a k, P a k → exW r c0 a k ∧ ¬ (a = 353 ∧ k = 9) ∧ ¬ (a = 359 ∧ k = r)) : xfl r c0 M0 M' := by
  obtain ⟨a1, ⟨a2, a2'⟩, a3, c, a4, a5, a6⟩ := h
  have n28 : ¬ P 353 28 := fun z => by have := (q _ _ z).1; unfold exW at this; omega
  have n9 : ¬ P 353 9 := fun z => (q _ _ z).2.1 ⟨rfl, rfl⟩
  have nr : ¬ P 359 r := fun z => (q _ _ z).2.2 ⟨rfl, rfl⟩
  exact ⟨a1.trans (y.mono (fun a k z => (q a k z).1)), ⟨(y.i n28).trans a2, a2'⟩, by rw [y.i n9]; exact a3, c, a4, a5, (y.i nr).trans a6⟩
theorem xfl.act {c : Nat} (h : xfl r c0 M0 M) (hc : c0 ≤ c) (y : eqy (acW r c) M M') (hlt : c < 2400) (q : gi M' 359 r = ((c + 1 : Nat) : Int)) : xfl r c0 M0 M' := by
  obtain ⟨a1, ⟨a2, a2'⟩, a3, _⟩ := h
  exact ⟨a1.trans (y.mono (fun a k z => by unfold acW at z; unfold exW; omega)), ⟨(y.i (by unfold acW; omega)).trans a2, a2'⟩, by rw [y.i (by unfold acW; omega)]; exact a3, c + 1, by omega, by omega, q⟩
theorem y_act_f {v1 v2 : Int} {v3 : Int64} (h : xfl r c0 M0 M) (i1 : inr v1) (i2 : inr v2) (kk : ∀ M', xfl r c0 M0 M' → K M') : em_W_act v1 v2 v3 M K := by
  obtain ⟨a1, ⟨a2, a2'⟩, a3, c, a4, a5, a6⟩ := id h
  exact y_act a2 a2' a6 a5 i1 i2 (fun M' y hlt q _ _ _ => kk M' (h.act a4 y hlt q))
theorem y_reduce_f {l : Int} (h : xfl r c0 M0 M) (kk : ∀ M', xfl r c0 M0 M' → K M') : em_W_reduce l M K := by
  refine ⟨fun _ M' => xfl r c0 M0 M', h, ?_⟩
  rintro v1 M' - h1
  have i3 := inr_gi M' 353 30
  refine ⟨fun _ => kk M' h1, fun q => ?_⟩
  have i30 : inr (gi M' 353 30 - 1) := ⟨by omega, by have := i3.2; omega⟩
  refine ⟨i30, fun _ => ⟨fun _ => kk M' h1, fun _ => ⟨i30, fun _ => ⟨fun _ => kk M' h1, fun _ => ⟨i30, fun _ => y_strength ⟨fun _ => kk M' h1, fun _ M2 e2 _ => ?_⟩⟩⟩⟩⟩⟩
  exact y_act_f (h1.mv (P := fun a k => a = 353 ∧ k = 30) (by rw [e2]; exact (eqy.rfl' _).wi ⟨rfl, rfl⟩) (fun a k z => ⟨by unfold exW; omega, by omega, by omega⟩)) (inr_gi _ _ _) ir_1 (fun M3 h3 => h3)
/-- what exp() comes to -/
def xpq (T : tK) (r c0 : Nat) (M0 : rf_M) (ir : Bool) (i0 u0 : Nat) (M' : rf_M) : Prop := xfl r c0 M0 M' ∨ (eqy (exW r c0) M0 M' ∧ (gi M' 353 28 = (r : Int) ∧ r < 12) ∧ gi M' 353 9 = 0 ∧ ∃ (i u : Nat) (π : List Int) (cs : List Bool) (o : cdT) (cd : cdT), xre (κT T) (νT T) ir (i0, u0, true, [], [false], []) (i, u, false, π, cs, o) ∧ xst (κT T) (νT T) ir i u false π cs o = .inr (i, u, true, cd) ∧ mtv M' T i ∧ gi M' 356 r = (u : Int) ∧ u ≤ 60 ∧ (gi M' 359 r = ((c0 + cd.length + 1 : Nat) : Int) ∧ c0 + cd.length + 1 ≤ 2400) ∧ rcq M' (200 * r + c0) (cd ++ [(4, 0)]))
/-- a sign that binds -/
theorem xm_sign {x : Int} {M1 : rf_M} (h : xm T r c0 M0 M i u π cs o) (hb : isb x = true) (hh : π.head? ≠ some 1000) (y : eqy (fun a k => (a = 353 ∧ k = 30) ∨ (a = 371 ∧ k = π.length)) M M1) (p1 : gi M1 353 30 = (π.length : Int) + 1) (p4 : gi M1 371 π.length = x) : xm T r c0 M0 M1 i u (x :: π) cs o := by
  obtain ⟨⟨a1, ⟨a2, a2'⟩, a3, a4⟩, ⟨b1, b2, ⟨b3, b3'⟩, b4⟩, ⟨c1, c2, c3, ⟨c4, c4'⟩, c5, c6, c7⟩⟩ := h
  have hf := fil_b (r := π) hb
  exact ⟨⟨a1.eq y (fun a k z => by omega), ⟨(y.i (by omega)).trans a2, a2'⟩, a3.trans (y.mono (fun a k z => by unfold exW; omega)), (y.i (by omega)).trans a4⟩, ⟨(y.i (by omega)).trans b1, b2, ⟨(y.i (by omega)).trans b3, b3'⟩, b4.eq y (fun b k z _ _ => by omega)⟩, ⟨by rw [p1]; simp, ⟨p4, c2.eq (fun k hk => y.i (by omega))⟩, ⟨Or.inr (Or.inr hb), fun _ => hh, c3⟩, ⟨by rw [hf.1, y.i (by omega)]; exact c4, by rw [hf.1]; exact c4'⟩, by rw [hf.2.1, y.i (by omega)]; exact c5, c6.eq (fun k _ => y.i (by omega)), by rw [hf.2.1]; exact c7⟩⟩
/-- the innermost flag is set -/
theorem xm_flag {x b : Bool} {M1 : rf_M} {cs' : List Bool} (h : xm T r c0 M0 M i u π (x :: cs') o) (y : eqy (fun a k => a = 372 ∧ k = lv π) M M1) (p : gi M1 372 (lv π) = (if b then 1 else 0)) : xm T r c0 M0 M1 i u π (b :: cs') o := by
  obtain ⟨⟨a1, ⟨a2, a2'⟩, a3, a4⟩, ⟨b1, b2, ⟨b3, b3'⟩, b4⟩, ⟨c1, c2, c3, ⟨c4, c4'⟩, c5, c6, c7⟩⟩ := h
  have hl : cs'.length = lv π := by simpa using c7
  exact ⟨⟨a1.eq y (fun a k z => by omega), ⟨(y.i (by omega)).trans a2, a2'⟩, a3.trans (y.mono (fun a k z => by unfold exW; omega)), (y.i (by omega)).trans a4⟩, ⟨(y.i (by omega)).trans b1, b2, ⟨(y.i (by omega)).trans b3, b3'⟩, b4.eq y (fun b k z _ _ => by omega)⟩, ⟨(y.i (by omega)).trans c1, c2.eq (fun k _ => y.i (by omega)), c3, ⟨(y.i (by omega)).trans c4, c4'⟩, (y.i (by omega)).trans c5, ⟨by rw [hl]; exact p, c6.2.eq (fun k hk => y.i (by omega))⟩, by simpa using c7⟩⟩
/-- the end of an exp -/
theorem y_end_f {v2 : Int} {K : Int → rf_M → Prop} (h : xfl r c0 M0 M) (kk : ∀ M', xfl r c0 M0 M' → K v2 M') : e_W_exp_278 v2 M K := by
  have e289 : ∀ N, xfl r c0 M0 N → e_W_exp_289 v2 N K := fun N hN => y_reduce_f hN (fun M1 h1 => y_act_f h1 (inr_z (by omega) (by omega)) ir_1 (fun M2 h2 => kk M2 h2))
  exact ⟨fun _ => e289 M h, fun _ => y_mis (fun M' y q => e289 M' ⟨h.1.trans (y.mono (fun a k z => by unfold exW; omega)), ⟨(y.i (by omega)).trans h.2.1.1, h.2.1.2⟩, q, by
    obtain ⟨c, z1, z2, z3⟩ := h.2.2.2
    exact ⟨c, z1, z2, (y.i (by omega)).trans z3⟩⟩)⟩
theorem y_end {v2 : Int} {i0 u0 : Nat} {K : Int → rf_M → Prop} (h : xm T r c0 M0 M i u π cs o) (hr : xre (κT T) (νT T) ir (i0, u0, true, [], [false], []) (i, u, false, π, cs, o)) (hs : xst (κT T) (νT T) ir i u false π cs o = .inr (i, u, decide (lv π = 0), o ++ pops 1 π)) (kk : ∀ M', xpq T r c0 M0 ir i0 u0 M' → K v2 M') : e_W_exp_278 v2 M K := by
  have c5 := h.2.2.2.2.2.2.1
  refine ⟨fun q => ?_, fun q => y_mis (fun M' y q => ?_)⟩
  · have hl : lv π = 0 := by omega
    refine y_reduce (by omega) h (fun M1 h1 => ?_)
    obtain ⟨⟨a1, ⟨a2, a2'⟩, a3, a4⟩, ⟨b1, b2, ⟨b3, b3'⟩, b4⟩, _⟩ := id h1
    refine y_act a2 a2' b3 b3' (inr_z (by omega) (by omega)) ir_1 (fun M2 x2 hc z1 z2 z3 z4 => kk M2 (Or.inr ⟨a3.trans (x2.mono (fun a k z => by unfold acW at z; unfold exW; omega)), ⟨(x2.i (by unfold acW; omega)).trans a2, a2'⟩, (x2.i (by unfold acW; omega)).trans a4, i, u, π, cs, o, o ++ pops 1 π, hr, by rw [hs, hl]; rfl, a1.eq x2 (fun a k z => by unfold acW; omega), (x2.i (by unfold acW; omega)).trans b1, b2, ⟨z1, by omega⟩, ?_⟩))
    refine rcq.snoc (b4.eq x2 (fun b k z w1 w2 => by unfold acW; omega)) ?_
    rw [Nat.add_assoc]
    exact ⟨z2, fun e => absurd e (by decide), fun e => absurd e (by decide)⟩
  · have hx := h.bad y q
    exact y_reduce_f hx (fun M1 h1 => y_act_f h1 (inr_z (by omega) (by omega)) ir_1 (fun M2 h2 => kk M2 (Or.inl h2)))
end WX2
