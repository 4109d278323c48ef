/-! the program's statements say what the grammar says -/
/-- n statements in a row, and the last of them -/
def dSl (κ ν : Nat → Int) (X : txT) (B : bxT) (par part dep : Int) : Nat → Nat → Nat → Nat → Nat → Nat → Nat → Int → Int → Nat → Prop
  | 0, i, s, cc, j, s', cc', first, last, u => j = i ∧ s' = s ∧ cc' = cc ∧ first = -1 ∧ last = -1 ∧ u = 0
  | n + 1, i, s, cc, j, s', cc', first, last, u => first = (s : Int) ∧ ∃ j1 s1 c1 u1 f2 l2 u2, dT κ ν X B par part dep i s cc j1 s1 c1 u1 ∧ dSl κ ν X B par part dep n j1 s1 c1 j s' cc' f2 l2 u2 ∧ X.1 6 s = f2 ∧ last = (if l2 = -1 then (s : Int) else l2) ∧ u = u1 + u2
section PS3
variable {κ ν : Nat → Int} {X X' : txT} {B B' : bxT} {par part dep : Int}
theorem dSl.ss : ∀ (n i s cc j s' cc' : Nat) (first last : Int) (u : Nat), dSl κ ν X B par part dep n i s cc j s' cc' first last u → dSs κ ν X B par part dep n i s cc j s' cc' first u
  | 0, _, _, _, _, _, _, _, _, _, h => ⟨h.1, h.2.1, h.2.2.1, h.2.2.2.1, h.2.2.2.2.2⟩
  | n + 1, _, _, _, _, _, _, _, _, _, h => by
    obtain ⟨h1, j1, s1, c1, u1, f2, l2, u2, d1, d2, d3, d4, d5⟩ := h
    exact ⟨h1, j1, s1, c1, u1, f2, u2, d1, dSl.ss n _ _ _ _ _ _ _ _ _ d2, d3, d5⟩
theorem dSl.rg (hB : bok X X B B) : ∀ (n i s cc j s' cc' : Nat) (first last : Int) (u : Nat), dSl κ ν X B par part dep n i s cc j s' cc' first last u → (s ≤ s' ∧ cc ≤ cc') ∧ ((first = -1 ∧ last = -1) ∨ (first = (s : Int) ∧ s < s' ∧ ∃ l : Nat, last = (l : Int) ∧ s ≤ l ∧ l < s'))
  | 0, i, s, cc, j, s', cc', first, last, u, h => by
    obtain ⟨h1, h2, h3, h4, h5, h6⟩ := h
    exact ⟨⟨by omega, by omega⟩, Or.inl ⟨h4, h5⟩⟩
  | n + 1, i, s, cc, j, s', cc', first, last, u, h => by
    obtain ⟨h1, j1, s1, c1, u1, f2, l2, u2, d1, d2, d3, d4, d5⟩ := h
    obtain ⟨⟨a1, a2⟩, a3⟩ := dT.congr hB d1
    obtain ⟨⟨b1, b2⟩, b3⟩ := dSl.rg hB n _ _ _ _ _ _ _ _ _ d2
    refine ⟨⟨by omega, by omega⟩, Or.inr ⟨h1, by omega, ?_⟩⟩
    rcases b3 with ⟨b4, b5⟩ | ⟨b4, b5, l, b6, b7, b8⟩
    · exact ⟨s, by rw [d4, if_pos b5], by omega, by omega⟩
    · exact ⟨l, by rw [d4, if_neg (by omega)]; exact b6, by omega, by omega⟩
theorem dSl.snoc (hB : bok X X' B B') (hB0 : bok X X B B) {j2 s2 c2 u2 s1 c1 : Nat} {last : Int} (h6 : X'.1 6 s1 = -1) : ∀ (n i s cc j : Nat) (first : Int) (u : Nat), dSl κ ν X B par part dep n i s cc j s1 c1 first last u → last ≠ -1 → (∀ g x, s ≤ x → x < s1 → ¬ (g = 6 ∧ (x : Int) = last) → X'.1 g x = X.1 g x) → (∀ k, cc ≤ k → k < c1 → X'.2.1 k = X.2.1 k ∧ X'.2.2 k = X.2.2 k) → X'.1 6 last.toNat = (s1 : Int) → dT κ ν X' B' par part dep j s1 c1 j2 s2 c2 u2 → dSl κ ν X' B' par part dep (n + 1) i s cc j2 s2 c2 first (s1 : Int) (u + u2)
  | 0, i, s, cc, j, first, u, h, hl, _, _, _, _ => absurd h.2.2.2.2.1 hl
  | n + 1, i, s, cc, j, first, u, h, hl, ea, ec, e6, hT => by
    obtain ⟨h1, j1, s3, c3, u1, f2, l2, u3, d1, d2, d3, d4, d5⟩ := h
    obtain ⟨⟨a1, a2⟩, a3⟩ := d1.congr hB
    obtain ⟨⟨b1, b2⟩, b3⟩ := dSl.rg hB0 n _ _ _ _ _ _ _ _ _ d2
    rcases b3 with ⟨b4, b5⟩ | ⟨b4, b5, l, b6, b7, b8⟩
    · -- it was the last
      rw [if_pos b5] at d4
      have hn : n = 0 := by
        cases n with
        | zero => rfl
        | succ n => have := d2.1; omega
      subst hn
      obtain ⟨rfl, rfl, rfl, -, -, rfl⟩ := d2
      refine ⟨h1, j, s1, c1, u1, (s1 : Int), (s1 : Int), u2, a3 (fun g x p q z => ea g x p q (fun w => z ⟨w.1, by omega⟩)) (fun k p q => ec k p q), ⟨rfl, j2, s2, c2, u2, -1, -1, 0, hT, ⟨rfl, rfl, rfl, rfl, rfl, rfl⟩, h6, by rw [if_pos rfl], by omega⟩, ?_, ?_, by omega⟩
      · rw [d4, tn_] at e6
        exact e6
      · rw [if_neg (by omega)]
    · rw [if_neg (by omega)] at d4
      have ih := dSl.snoc hB hB0 h6 n j1 s3 c3 j f2 u3 (by rw [d4]; exact d2) (by omega) (fun g x p q z => ea g x (by omega) q z) (fun k p q => ec k (by omega) q) e6 hT
      refine ⟨h1, j1, s3, c3, u1, f2, (s1 : Int), u3 + u2, a3 (fun g x p q z => ea g x p (by omega) (fun w => by omega)) (fun k p q => ec k p (by omega)), ih, ?_, by rw [if_neg (by omega)], by omega⟩
      rw [ea 6 s (Nat.le_refl _) (by omega) (by omega)]
      exact d3
end PS3
/-- the program that is being made, as a text -/
def XP (M : rf_M) (p : Nat) : txT := (fun f s => if f < 9 then gi M (p + 1 + f) s else 0, fun k => gi M (p + 10) k, fun k => gi M (p + 11) k)
def ptt (p L : Nat) (M : rf_M) (i s cc un : Nat) : Prop := pat p L M i cc un ∧ gi M p 0 = (s : Int) ∧ s ≤ 40 ∧ cc ≤ 2 * un
def prT (κ ν : Nat → Int) (L p : Nat) (M : rf_M) : Prop := M.2.2 169 1 = some p ∧ tkM κ ν L M ∧ gi M 169 4 = 0 ∧ (gi M 169 3 = -1 → ∃ i s cc un, ptt p L M i s cc un)
def stF (p b k : Nat) : Prop := (b = 169 ∧ (k = 2 ∨ k = 3 ∨ k = 4)) ∨ (p ≤ b ∧ b ≤ p + 11 ∧ ¬ (b = p ∧ k = 4))
/-- what lies below is kept -/
def kep (p : Nat) (M M' : rf_M) (s cc : Nat) : Prop := (∀ f x, f < 9 → x < s → gi M' (p + 1 + f) x = gi M (p + 1 + f) x) ∧ ∀ k, k < cc → gi M' (p + 10) k = gi M (p + 10) k ∧ gi M' (p + 11) k = gi M (p + 11) k
def bdq (κ ν : Nat → Int) (L p : Nat) (o part d : Int) (M : rf_M) (z : Int) (M' : rf_M) : Prop := eqy (stF p) M M' ∧ gi M' 169 4 = 0 ∧ (gi M' 169 3 = -1 → gi M 169 3 = -1 ∧ ∃ i s cc un j s1 c1 u, ptt p L M i s cc un ∧ dB κ ν (XP M' p) (8 - d.toNat) o.toNat part i s cc j s1 c1 z u ∧ ptt p L M' j s1 c1 (un + u) ∧ kep p M M' s cc)
def Bsp (κ ν : Nat → Int) (L p : Nat) (o part d : Int) (M : rf_M) (K : Int → rf_M → Prop) : Prop := (0 ≤ d ∧ d ≤ 8) ∧ (0 ≤ o ∧ (part = 0 ∨ part = 1)) ∧ prT κ ν L p M ∧ ∀ z M', inr z → bdq κ ν L p o part d M z M' → K z M'
def Ssp (κ ν : Nat → Int) (L p : Nat) (par part d : Int) (M : rf_M) (K : Int → rf_M → Prop) : Prop := (0 ≤ d ∧ d ≤ 8) ∧ (inr par ∧ inr part) ∧ prT κ ν L p M ∧ ∀ z M', inr z → eqy (stF p) M M' → gi M' 169 4 = 0 → (gi M' 169 3 = -1 → gi M 169 3 = -1 ∧ ∃ i s cc un n j s1 c1 u, ptt p L M i s cc un ∧ dSs κ ν (XP M' p) (dB κ ν (XP M' p) (8 - d.toNat)) par part d n i s cc j s1 c1 z u ∧ ptt p L M' j s1 c1 (un + u) ∧ kep p M M' s cc) → K z M'
section PT3
variable {κ ν : Nat → Int} {L p : Nat} {M M' M1 M2 M3 : rf_M} {K : rf_M → Prop} {Bd : Int → Int → Int → rf_M → (Int → rf_M → Prop) → Prop}
theorem ptt.uniq {i s cc un i' s' cc' un' : Nat} (h : ptt p L M i s cc un) (h' : ptt p L M i' s' cc' un') : i = i' ∧ s = s' ∧ cc = cc' ∧ un = un' := by
  obtain ⟨a, b, c⟩ := h.1.uniq h'.1
  have := h.2.1
  have := h'.2.1
  exact ⟨a, by omega, b, c⟩
theorem prT.e (h : prT κ ν L p M) : prE κ ν L p M := ⟨h.1, h.2.1, fun q => by
  obtain ⟨i, s, cc, un, a⟩ := h.2.2.2 q
  exact ⟨i, cc, un, a.1, a.2.2.2⟩⟩
theorem kep.rfl' (p : Nat) (M : rf_M) (s cc : Nat) : kep p M M s cc := ⟨fun _ _ _ _ => rfl, fun _ _ => ⟨rfl, rfl⟩⟩
theorem kep.trans {s cc s' cc' : Nat} (h : kep p M M1 s cc) (h' : kep p M1 M2 s' cc') (hs : s ≤ s') (hc : cc ≤ cc') : kep p M M2 s cc := ⟨fun f x a b => (h'.1 f x a (by omega)).trans (h.1 f x a b), fun k a => ⟨((h'.2 k (by omega)).1).trans (h.2 k a).1, ((h'.2 k (by omega)).2).trans (h.2 k a).2⟩⟩
/-- an exp with its end and what closes it -/
theorem x_closed {t : Int} (hL : L ≤ 800) (hκ : κ L = 0) (hp : p ∈ k1) (ht : t ≠ 0) (hP : prE κ ν L p M) (kk : ∀ M', eqy (exF p) M M' → (gi M' 169 3 = -1 → gi M 169 3 = -1 ∧ ∃ i cc un j cc' u, pat p L M i cc un ∧ dEx κ ν (irM M) (XP M' p) i cc j cc' u ∧ κ j = t ∧ pat p L M' (j + 1) cc' (un + u) ∧ cc' ≤ cc + 2 * u ∧ ∀ k, k < cc → gi M' (p + 10) k = gi M (p + 10) k ∧ gi M' (p + 11) k = gi M (p + 11) k) → K M') : Esp κ ν L p 0 M (fun M1 => isP M1 169 1 ∧ em_P_emit (gr M1 169 1) 0 0 M1 (fun M2 => em_Q_expect t M2 (fun M3 => K M3))) := by
  have hk1 := k1_or hp
  refine ⟨⟨by omega, by omega⟩, hP, fun M1 q1 => ?_⟩
  have ip := isPk (show M1.2.2 169 1 = some p by rw [q1.1.2]; exact hP.1) hp
  refine ⟨ip.1, ?_⟩
  rw [ip.2]
  have P1 : prE κ ν L p M1 := hP.of (fun i j c u h => by have := (dE_gd (dU_gd _) _ _ _ _ h).1; omega) (by omega) q1
  by_cases f1 : gi M1 169 3 = -1
  · obtain ⟨hf, i, cc, un, j, c, u, b1, b2, b3, b4⟩ := q1.2 f1
    have hlen := (dE_gd (dU_gd _) _ _ _ _ b2).1
    have h60 := b3.2.2.2.2
    obtain ⟨i', cc', un', c1, c2⟩ := hP.2.2 hf
    obtain ⟨rfl, rfl, rfl⟩ := b1.uniq c1
    refine x_emit b3.2.2.1 (by omega) ir_0 ir_0 (fun M2 y2 c2' p2 => ?_)
    have t2 := P1.2.1.eq y2 (fun b k q => by omega)
    have at2 : gi M2 169 2 = (j : Int) := (y2.i (by omega)).trans b3.1
    have y12 : eqy (exF p) M M2 := q1.1.trans (y2.mono (fun b k h => by unfold exF; omega))
    refine x_Qexpect hL hκ ht t2 (fun _ => ⟨j, at2, b3.2.1⟩) (fun j' M3 hf2 hat3 hlt3 e3 y3 a3 => kk M3 (y12.trans (y3.mono (fun b k h => by unfold exF; omega))) (fun _ => ⟨hf, i, cc, un, j, _, u, b1, ⟨c, b2, fun k hk => ?_, rfl⟩, ?_, ⟨?_, ?_, ?_, ?_, h60⟩, ?_, fun k hk => ?_⟩)) (fun M3 y3 b3' => kk M3 (y12.trans (y3.mono (fun b k h => by unfold exF; omega))) (fun q => absurd q b3'))
    · have q := (b4.app p2).2 k hk
      exact ⟨(y3.i (by omega)).trans q.1, (y3.i (by omega)).trans q.2⟩
    · rw [show j = j' by omega]; exact e3
    · rw [a3, show j = j' by omega]
    · omega
    · rw [y3.i (by omega), c2']
    · rw [y3.i (by omega), y2.i (by omega)]; exact b3.2.2.2.1
    · omega
    · have q := (b4.app p2).1 k hk
      exact ⟨(y3.i (by omega)).trans q.1, (y3.i (by omega)).trans q.2⟩
  · refine x_emit' (fun M2 y2 => ?_)
    have f2 : ¬ gi M2 169 3 = -1 := by rw [y2.i (by omega)]; exact f1
    have y12 : eqy (exF p) M M2 := q1.1.trans (y2.mono (fun b k h => by unfold exF; omega))
    refine x_Qexpect hL hκ ht (P1.2.1.eq y2 (fun b k q => by omega)) (fun q => absurd q f2) (fun j' M3 hf2 _ _ _ _ _ => absurd hf2 f2) (fun M3 y3 b3' => kk M3 (y12.trans (y3.mono (fun b k h => by unfold exF; omega))) (fun q => absurd q b3'))
/-- a statement is laid out -/
theorem x_open {K : Int → rf_M → Prop} {k par part dep : Int} {s cc : Nat} (hp : p ∈ k1) (hs : gi M p 0 = (s : Int)) (hs4 : s ≤ 40) (hc : gi M p 3 = (cc : Int)) (hc6 : cc ≤ 160) (ik : inr k) (ip : inr par) (ia : inr part) (id' : inr dep) (h0 : K (-1) M) (kk : ∀ M', s < 40 → eqy (fun b x => (b = p ∧ x = 0) ∨ (p + 1 ≤ b ∧ b ≤ p + 9 ∧ x = s)) M M' → gi M' p 0 = ((s + 1 : Nat) : Int) → (gi M' (p + 1) s = k ∧ gi M' (p + 3) s = (cc : Int) ∧ gi M' (p + 4) s = par ∧ gi M' (p + 5) s = part ∧ gi M' (p + 6) s = dep ∧ gi M' (p + 7) s = -1 ∧ gi M' (p + 8) s = -1 ∧ gi M' (p + 9) s = -1) → K (s : Int) M') : em_P_open p k par part dep M K := by
  have hk1 := k1_or hp
  refine ⟨fun h M1 e1 => ?_, fun _ => h0⟩
  rw [hs] at h e1
  rw [hs, tn_]
  intro _ M2 e2 _ M3 e3 _ M4 e4 _ M5 e5 _ M6 e6 _ M7 e7 _ M8 e8 _ M9 e9 _ M10 e10
  have g3 : gi M3 p 3 = (cc : Int) := by rw [e3, gi_of (Or.inl (by omega)), e2, gi_of (Or.inl (by omega)), e1, gi_of (Or.inr (by omega)), hc]
  rw [g3] at e4
  have y : eqy (fun b x => (b = p ∧ x = 0) ∨ (p + 1 ≤ b ∧ b ≤ p + 9 ∧ x = s)) M M10 := by
    rw [e10, e9, e8, e7, e6, e5, e4, e3, e2, e1]
    exact ((((((((((eqy.rfl' M).wi (by omega)).wi (by omega)).wi (by omega)).wi (by omega)).wi (by omega)).wi (by omega)).wi (by omega)).wi (by omega)).wi (by omega)).wi (by omega)
  refine kk M10 (by omega) y ?_ ⟨?_, ?_, ?_, ?_, ?_, ?_, ?_, ?_⟩
  · rw [e10, gi_of (Or.inl (by omega)), e9, gi_of (Or.inl (by omega)), e8, gi_of (Or.inl (by omega)), e7, gi_of (Or.inl (by omega)), e6, gi_of (Or.inl (by omega)), e5, gi_of (Or.inl (by omega)), e4, gi_of (Or.inl (by omega)), e3, gi_of (Or.inl (by omega)), e2, gi_of (Or.inl (by omega)), e1, gi_at (inr_z (by omega) (by omega))]; omega
  · rw [e10, gi_of (Or.inl (by omega)), e9, gi_of (Or.inl (by omega)), e8, gi_of (Or.inl (by omega)), e7, gi_of (Or.inl (by omega)), e6, gi_of (Or.inl (by omega)), e5, gi_of (Or.inl (by omega)), e4, gi_of (Or.inl (by omega)), e3, gi_of (Or.inl (by omega)), e2, gi_at ik]
  · rw [e10, gi_of (Or.inl (by omega)), e9, gi_of (Or.inl (by omega)), e8, gi_of (Or.inl (by omega)), e7, gi_of (Or.inl (by omega)), e6, gi_of (Or.inl (by omega)), e5, gi_of (Or.inl (by omega)), e4, gi_at (inr_z (by omega) (by omega))]
  · rw [e10, gi_of (Or.inl (by omega)), e9, gi_of (Or.inl (by omega)), e8, gi_of (Or.inl (by omega)), e7, gi_of (Or.inl (by omega)), e6, gi_of (Or.inl (by omega)), e5, gi_at ip]
  · rw [e10, gi_of (Or.inl (by omega)), e9, gi_of (Or.inl (by omega)), e8, gi_of (Or.inl (by omega)), e7, gi_of (Or.inl (by omega)), e6, gi_at ia]
  · rw [e10, gi_of (Or.inl (by omega)), e9, gi_of (Or.inl (by omega)), e8, gi_of (Or.inl (by omega)), e7, gi_at id']
  · rw [e10, gi_of (Or.inl (by omega)), e9, gi_of (Or.inl (by omega)), e8, gi_at ir_1]
  · rw [e10, gi_of (Or.inl (by omega)), e9, gi_at ir_1]
  · rw [e10, gi_at ir_1]
end PT3
