/-! WHAT A TEXT SAYS: statements -/
/-- code c lies in X from cc on -/
def cat_ (X : txT) (cc : Nat) (c : cdT) : Prop := ∀ k, k < c.length → X.2.1 (cc + k) = (c.getD k (0, 0)).1 ∧ X.2.2 (cc + k) = (c.getD k (0, 0)).2
/-- an exp and its end -/
def dEx (κ ν : Nat → Int) (ir : Bool) (X : txT) (i cc j cc' u : Nat) : Prop := ∃ c, dE κ (dU κ ν ir 8) i j c u ∧ cat_ X cc (c ++ [(0, 0)]) ∧ cc' = cc + c.length + 1
/-- a body: owner, part, token, statement, code; behind it token, statement, code; its first statement, unaries -/
abbrev bxT : Type := Nat → Int → Nat → Nat → Nat → Nat → Nat → Nat → Int → Nat → Prop
def dT (κ ν : Nat → Int) (X : txT) (B : bxT) (par part dep : Int) (i s cc j s' cc' u : Nat) : Prop :=
  (X.1 0 s = κ i ∧ X.1 2 s = (cc : Int) ∧ X.1 3 s = par ∧ X.1 4 s = part ∧ X.1 5 s = dep) ∧
  ((κ i = 1 ∧ κ (i + 1) = 61 ∧ (X.1 1 s = ν i ∧ X.1 7 s = -1 ∧ X.1 8 s = -1) ∧ s' = s + 1 ∧ ∃ j1, dEx κ ν false X (i + 2) cc j1 cc' u ∧ κ j1 = 59 ∧ j = j1 + 1) ∨
  (κ i = 14 ∧ (X.1 7 s = -1 ∧ X.1 8 s = -1) ∧ s' = s + 1 ∧ ∃ j1, dEx κ ν false X (i + 1) cc j1 cc' u ∧ κ j1 = 59 ∧ j = j1 + 1) ∨
  (κ i = 19 ∧ (X.1 7 s = -1 ∧ X.1 8 s = -1) ∧ s' = s + 1 ∧ ∃ j1, dEx κ ν true X (i + 1) cc j1 cc' u ∧ κ j1 = 59 ∧ j = j1 + 1) ∨
  (κ i = 13 ∧ (X.1 7 s = -1 ∧ X.1 8 s = -1) ∧ κ (i + 1) = 59 ∧ j = i + 2 ∧ s' = s + 1 ∧ cc' = cc ∧ u = 0) ∨
  (κ i = 12 ∧ κ (i + 1) = 40 ∧ X.1 8 s = -1 ∧ ∃ j1 c1 u1 u2, dEx κ ν false X (i + 2) cc j1 c1 u1 ∧ κ j1 = 41 ∧ B s 0 (j1 + 1) (s + 1) c1 j s' cc' (X.1 7 s) u2 ∧ u = u1 + u2) ∨
  (κ i = 10 ∧ κ (i + 1) = 40 ∧ ∃ j1 c1 u1 j2 s2 c2 u2, dEx κ ν false X (i + 2) cc j1 c1 u1 ∧ κ j1 = 41 ∧ B s 0 (j1 + 1) (s + 1) c1 j2 s2 c2 (X.1 7 s) u2 ∧ ((κ j2 ≠ 11 ∧ X.1 8 s = -1 ∧ j = j2 ∧ s' = s2 ∧ cc' = c2 ∧ u = u1 + u2) ∨ (κ j2 = 11 ∧ ∃ u3, B s 1 (j2 + 1) s2 c2 j s' cc' (X.1 8 s) u3 ∧ u = u1 + u2 + u3))) ∨
  (κ i = 15 ∧ ∃ j2 s2 c2 u2 u3, B s 0 (i + 1) (s + 1) cc j2 s2 c2 (X.1 7 s) u2 ∧ κ j2 = 16 ∧ B s 1 (j2 + 1) s2 c2 j s' cc' (X.1 8 s) u3 ∧ u = u2 + u3) ∨
  (κ i = 17 ∧ ∃ j2 s2 c2 u2 u3, B s 0 (i + 1) (s + 1) cc j2 s2 c2 (X.1 7 s) u2 ∧ κ j2 = 18 ∧ (κ (j2 + 1) = 1 ∧ 16 ≤ ν (j2 + 1) ∧ X.1 1 s = ν (j2 + 1)) ∧ B s 1 (j2 + 2) s2 c2 j s' cc' (X.1 8 s) u3 ∧ u = u2 + u3))
/-- n statements in a row -/
def dSs (κ ν : Nat → Int) (X : txT) (B : bxT) (par part dep : Int) : Nat → Nat → Nat → Nat → Nat → Nat → Nat → Int → Nat → Prop
  | 0, i, s, cc, j, s', cc', first, u => j = i ∧ s' = s ∧ cc' = cc ∧ first = -1 ∧ u = 0
  | n + 1, i, s, cc, j, s', cc', first, u => first = (s : Int) ∧ ∃ j1 s1 c1 u1 f2 u2, dT κ ν X B par part dep i s cc j1 s1 c1 u1 ∧ dSs κ ν X B par part dep n j1 s1 c1 j s' cc' f2 u2 ∧ X.1 6 s = f2 ∧ u = u1 + u2
/-- a body in which f more may lie -/
def dB (κ ν : Nat → Int) (X : txT) : Nat → bxT
  | 0 => fun _ _ _ _ _ _ _ _ _ _ => False
  | f + 1 => fun o part i s0 c0 j s1 c1 first u => κ i = 123 ∧ ∃ n j1, dSs κ ν X (dB κ ν X f) (o : Int) part (8 - (f : Int)) n (i + 1) s0 c0 j1 s1 c1 first u ∧ κ j1 = 125 ∧ j = j1 + 1
/-- X is as X' at statements s .. s', code cc .. cc' -/
def agr (X X' : txT) (s s' cc cc' : Nat) : Prop := (∀ g x, s ≤ x → x < s' → X'.1 g x = X.1 g x) ∧ ∀ k, cc ≤ k → k < cc' → X'.2.1 k = X.2.1 k ∧ X'.2.2 k = X.2.2 k
/-- what a body's meaning hangs on -/
def bok (X X' : txT) (B B' : bxT) : Prop := ∀ o part i s0 c0 j s1 c1 first u, B o part i s0 c0 j s1 c1 first u → (s0 ≤ s1 ∧ c0 ≤ c1) ∧ (agr X X' s0 s1 c0 c1 → B' o part i s0 c0 j s1 c1 first u)
section G2
variable {κ ν : Nat → Int} {X X' : txT} {B B' : bxT} {par part dep : Int} {ir : Bool}
theorem dEx.congr {i cc j cc' u : Nat} (h : dEx κ ν ir X i cc j cc' u) : cc < cc' ∧ ((∀ k, cc ≤ k → k < cc' → X'.2.1 k = X.2.1 k ∧ X'.2.2 k = X.2.2 k) → dEx κ ν ir X' i cc j cc' u) := by
  obtain ⟨c, h1, h2, h3⟩ := h
  refine ⟨by omega, fun e => ⟨c, h1, fun k hk => ?_, h3⟩⟩
  have hk' : k < c.length + 1 := by simpa using hk
  have a := e (cc + k) (by omega) (by omega)
  have b := h2 k hk
  exact ⟨a.1.trans b.1, a.2.trans b.2⟩
theorem dT.congr {i s cc j s' cc' u : Nat} (hB : bok X X' B B') (h : dT κ ν X B par part dep i s cc j s' cc' u) : (s < s' ∧ cc ≤ cc') ∧ ((∀ g x, s ≤ x → x < s' → ¬ (g = 6 ∧ x = s) → X'.1 g x = X.1 g x) → (∀ k, cc ≤ k → k < cc' → X'.2.1 k = X.2.1 k ∧ X'.2.2 k = X.2.2 k) → dT κ ν X' B' par part dep i s cc j s' cc' u) := by
  obtain ⟨⟨a0, a1, a2, a3, a4⟩, h⟩ := h
  have top : s < s' → (∀ g x, s ≤ x → x < s' → ¬ (g = 6 ∧ x = s) → X'.1 g x = X.1 g x) → X'.1 0 s = κ i ∧ X'.1 2 s = (cc : Int) ∧ X'.1 3 s = par ∧ X'.1 4 s = part ∧ X'.1 5 s = dep := fun hs e => ⟨(e 0 s (Nat.le_refl _) hs (by omega)).trans a0, (e 2 s (Nat.le_refl _) hs (by omega)).trans a1, (e 3 s (Nat.le_refl _) hs (by omega)).trans a2, (e 4 s (Nat.le_refl _) hs (by omega)).trans a3, (e 5 s (Nat.le_refl _) hs (by omega)).trans a4⟩
  rcases h with ⟨k, k1, ⟨b1, b2, b3⟩, rfl, j1, d, e1, e2⟩ | ⟨k, ⟨b2, b3⟩, rfl, j1, d, e1, e2⟩ | ⟨k, ⟨b2, b3⟩, rfl, j1, d, e1, e2⟩ | ⟨k, ⟨b2, b3⟩, e1, e2, rfl, e3, e4⟩ | ⟨k, k1, b3, j1, c1, u1, u2, d, e1, e2, e3⟩ | ⟨k, k1, j1, c1, u1, j2, s2, c2, u2, d, e1, e2, e3⟩ | ⟨k, j2, s2, c2, u2, u3, e1, e2, e3, e4⟩ | ⟨k, j2, s2, c2, u2, u3, e1, e2, ⟨l1, l2, l3⟩, e3, e4⟩
  · obtain ⟨d1, d2⟩ := d.congr (X' := X')
    refine ⟨⟨by omega, by omega⟩, fun ea ec => ⟨top (by omega) ea, Or.inl ⟨k, k1, ⟨(ea 1 s (Nat.le_refl _) (by omega) (by omega)).trans b1, (ea 7 s (Nat.le_refl _) (by omega) (by omega)).trans b2, (ea 8 s (Nat.le_refl _) (by omega) (by omega)).trans b3⟩, rfl, j1, d2 ec, e1, e2⟩⟩⟩
  · obtain ⟨d1, d2⟩ := d.congr (X' := X')
    refine ⟨⟨by omega, by omega⟩, fun ea ec => ⟨top (by omega) ea, Or.inr (Or.inl ⟨k, ⟨(ea 7 s (Nat.le_refl _) (by omega) (by omega)).trans b2, (ea 8 s (Nat.le_refl _) (by omega) (by omega)).trans b3⟩, rfl, j1, d2 ec, e1, e2⟩)⟩⟩
  · obtain ⟨d1, d2⟩ := d.congr (X' := X')
    refine ⟨⟨by omega, by omega⟩, fun ea ec => ⟨top (by omega) ea, Or.inr (Or.inr (Or.inl ⟨k, ⟨(ea 7 s (Nat.le_refl _) (by omega) (by omega)).trans b2, (ea 8 s (Nat.le_refl _) (by omega) (by omega)).trans b3⟩, rfl, j1, d2 ec, e1, e2⟩))⟩⟩
  · refine ⟨⟨by omega, by omega⟩, fun ea ec => ⟨top (by omega) ea, Or.inr (Or.inr (Or.inr (Or.inl ⟨k, ⟨(ea 7 s (Nat.le_refl _) (by omega) (by omega)).trans b2, (ea 8 s (Nat.le_refl _) (by omega) (by omega)).trans b3⟩, e1, e2, rfl, e3, e4⟩)))⟩⟩
  · obtain ⟨d1, d2⟩ := d.congr (X' := X')
    obtain ⟨⟨r1, r2⟩, r3⟩ := hB _ _ _ _ _ _ _ _ _ _ e2
    refine ⟨⟨by omega, by omega⟩, fun ea ec => ⟨top (by omega) ea, Or.inr (Or.inr (Or.inr (Or.inr (Or.inl ⟨k, k1, (ea 8 s (Nat.le_refl _) (by omega) (by omega)).trans b3, j1, c1, u1, u2, d2 (fun k a b => ec k a (by omega)), e1, ?_, e3⟩))))⟩⟩
    rw [ea 7 s (Nat.le_refl _) (by omega) (by omega)]
    exact r3 ⟨fun g x a b => ea g x (by omega) b (by omega), fun k a b => ec k (by omega) b⟩
  · obtain ⟨d1, d2⟩ := d.congr (X' := X')
    obtain ⟨⟨r1, r2⟩, r3⟩ := hB _ _ _ _ _ _ _ _ _ _ e2
    rcases e3 with ⟨f1, f2, rfl, rfl, rfl, f3⟩ | ⟨f1, u3, f2, f3⟩
    · refine ⟨⟨by omega, by omega⟩, fun ea ec => ⟨top (by omega) ea, Or.inr (Or.inr (Or.inr (Or.inr (Or.inr (Or.inl ⟨k, k1, j1, c1, u1, j, s', cc', u2, d2 (fun k a b => ec k a (by omega)), e1, ?_, Or.inl ⟨f1, (ea 8 s (Nat.le_refl _) (by omega) (by omega)).trans f2, rfl, rfl, rfl, f3⟩⟩)))))⟩⟩
      rw [ea 7 s (Nat.le_refl _) (by omega) (by omega)]
      exact r3 ⟨fun g x a b => ea g x (by omega) b (by omega), fun k a b => ec k (by omega) b⟩
    · obtain ⟨⟨q1, q2⟩, q3⟩ := hB _ _ _ _ _ _ _ _ _ _ f2
      refine ⟨⟨by omega, by omega⟩, fun ea ec => ⟨top (by omega) ea, Or.inr (Or.inr (Or.inr (Or.inr (Or.inr (Or.inl ⟨k, k1, j1, c1, u1, j2, s2, c2, u2, d2 (fun k a b => ec k a (by omega)), e1, ?_, Or.inr ⟨f1, u3, ?_, f3⟩⟩)))))⟩⟩
      · rw [ea 7 s (Nat.le_refl _) (by omega) (by omega)]
        exact r3 ⟨fun g x a b => ea g x (by omega) (by omega) (by omega), fun k a b => ec k (by omega) (by omega)⟩
      · rw [ea 8 s (Nat.le_refl _) (by omega) (by omega)]
        exact q3 ⟨fun g x a b => ea g x (by omega) b (by omega), fun k a b => ec k (by omega) b⟩
  · obtain ⟨⟨r1, r2⟩, r3⟩ := hB _ _ _ _ _ _ _ _ _ _ e1
    obtain ⟨⟨q1, q2⟩, q3⟩ := hB _ _ _ _ _ _ _ _ _ _ e3
    refine ⟨⟨by omega, by omega⟩, fun ea ec => ⟨top (by omega) ea, Or.inr (Or.inr (Or.inr (Or.inr (Or.inr (Or.inr (Or.inl ⟨k, j2, s2, c2, u2, u3, ?_, e2, ?_, e4⟩))))))⟩⟩
    · rw [ea 7 s (Nat.le_refl _) (by omega) (by omega)]
      exact r3 ⟨fun g x a b => ea g x (by omega) (by omega) (by omega), fun k a b => ec k (by omega) (by omega)⟩
    · rw [ea 8 s (Nat.le_refl _) (by omega) (by omega)]
      exact q3 ⟨fun g x a b => ea g x (by omega) b (by omega), fun k a b => ec k (by omega) b⟩
  · obtain ⟨⟨r1, r2⟩, r3⟩ := hB _ _ _ _ _ _ _ _ _ _ e1
    obtain ⟨⟨q1, q2⟩, q3⟩ := hB _ _ _ _ _ _ _ _ _ _ e3
    refine ⟨⟨by omega, by omega⟩, fun ea ec => ⟨top (by omega) ea, Or.inr (Or.inr (Or.inr (Or.inr (Or.inr (Or.inr (Or.inr ⟨k, j2, s2, c2, u2, u3, ?_, e2, ⟨l1, l2, (ea 1 s (Nat.le_refl _) (by omega) (by omega)).trans l3⟩, ?_, e4⟩))))))⟩⟩
    · rw [ea 7 s (Nat.le_refl _) (by omega) (by omega)]
      exact r3 ⟨fun g x a b => ea g x (by omega) (by omega) (by omega), fun k a b => ec k (by omega) (by omega)⟩
    · rw [ea 8 s (Nat.le_refl _) (by omega) (by omega)]
      exact q3 ⟨fun g x a b => ea g x (by omega) b (by omega), fun k a b => ec k (by omega) b⟩
theorem dSs.congr (hB : bok X X' B B') : ∀ (n i s cc j s' cc' : Nat) (first : Int) (u : Nat), dSs κ ν X B par part dep n i s cc j s' cc' first u → (s ≤ s' ∧ cc ≤ cc') ∧ (agr X X' s s' cc cc' → dSs κ ν X' B' par part dep n i s cc j s' cc' first u)
  | 0, i, s, cc, j, s', cc', first, u, h => by
    obtain ⟨h1, h2, h3, h4, h5⟩ := h
    exact ⟨⟨by omega, by omega⟩, fun _ => ⟨h1, h2, h3, h4, h5⟩⟩
  | n + 1, i, s, cc, j, s', cc', first, u, h => by
    obtain ⟨h1, j1, s1, c1, u1, f2, u2, d1, d2, d3, d4⟩ := h
    obtain ⟨⟨a1, a2⟩, a3⟩ := d1.congr hB
    obtain ⟨⟨b1, b2⟩, b3⟩ := dSs.congr hB n _ _ _ _ _ _ _ _ d2
    refine ⟨⟨by omega, by omega⟩, fun e => ⟨h1, j1, s1, c1, u1, f2, u2, a3 (fun g x p q _ => e.1 g x p (by omega)) (fun k p q => e.2 k p (by omega)), b3 ⟨fun g x p q => e.1 g x (by omega) q, fun k p q => e.2 k (by omega) q⟩, ?_, d4⟩⟩
    rw [e.1 6 s (Nat.le_refl _) (by omega)]
    exact d3
theorem dB.congr : ∀ f, bok X X' (dB κ ν X f) (dB κ ν X' f)
  | 0 => fun _ _ _ _ _ _ _ _ _ _ h => h.elim
  | f + 1 => fun o part i s0 c0 j s1 c1 first u h => by
    obtain ⟨h1, n, j1, h2, h3, h4⟩ := h
    obtain ⟨a, b⟩ := dSs.congr (dB.congr f) _ _ _ _ _ _ _ _ _ h2
    exact ⟨a, fun e => ⟨h1, n, j1, b e, h3, h4⟩⟩
/-- one more statement behind -/
theorem dSs_one {i s cc j s' cc' u : Nat} (h : dT κ ν X B par part dep i s cc j s' cc' u) (h6 : X.1 6 s = -1) : dSs κ ν X B par part dep 1 i s cc j s' cc' (s : Int) u := ⟨rfl, j, s', cc', u, -1, 0, h, ⟨rfl, rfl, rfl, rfl, rfl⟩, h6, by omega⟩
end G2
