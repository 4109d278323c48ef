/-! one statement of the program -/
section XPL
variable {M M' N : rf_M} {p f g s x x0 cc k : Nat} {z : Int} {P : Nat → Nat → Prop}
theorem XP_f (h : f < 9) : (XP M p).1 f s = gi M (p + 1 + f) s := if_pos h
theorem XP_9 (h : ¬ f < 9) : (XP M p).1 f s = 0 := if_neg h
theorem XP_ext (ef : ∀ f s, f < 9 → gi M' (p + 1 + f) s = gi M (p + 1 + f) s) (ec : ∀ k, gi M' (p + 10) k = gi M (p + 10) k ∧ gi M' (p + 11) k = gi M (p + 11) k) : XP M' p = XP M p := by
  refine Prod.ext (funext fun f => funext fun s => ?_) (Prod.ext (funext fun k => (ec k).1) (funext fun k => (ec k).2))
  by_cases h : f < 9
  · exact ((XP_f h).trans (ef f s h)).trans (XP_f h).symm
  · exact (XP_9 h).trans (XP_9 h).symm
theorem XP_same (e : eqy P M M') (q : ∀ b k, p + 1 ≤ b → b ≤ p + 11 → ¬ P b k) : XP M' p = XP M p := XP_ext (fun f s h => e.i (q _ _ (by omega) (by omega))) (fun k => ⟨e.i (q _ _ (by omega) (by omega)), e.i (q _ _ (by omega) (by omega))⟩)
theorem kep.fd (h : kep p M M' s cc) (hx : x < s) : (XP M' p).1 g x = (XP M p).1 g x := by
  by_cases h9 : g < 9
  · exact ((XP_f h9).trans (h.1 g x h9 hx)).trans (XP_f h9).symm
  · exact (XP_9 h9).trans (XP_9 h9).symm
theorem kep.c (h : kep p M M' s cc) (hk : k < cc) : (XP M' p).2.1 k = (XP M p).2.1 k ∧ (XP M' p).2.2 k = (XP M p).2.2 k := h.2 k hk
theorem kep.same (h : kep p M N s cc) (e : eqy P N M') (q : ∀ b k, p + 1 ≤ b → b ≤ p + 11 → ¬ P b k) : kep p M M' s cc := ⟨fun f x a b => (e.i (q _ _ (by omega) (by omega))).trans (h.1 f x a b), fun k a => ⟨(e.i (q _ _ (by omega) (by omega))).trans (h.2 k a).1, (e.i (q _ _ (by omega) (by omega))).trans (h.2 k a).2⟩⟩
theorem XP_w (h : ¬ (g = f ∧ x = x0)) : (XP (wi N (p + 1 + f) x0 z) p).1 g x = (XP N p).1 g x := by
  by_cases h9 : g < 9
  · exact ((XP_f h9).trans (gi_of (by omega))).trans (XP_f h9).symm
  · exact (XP_9 h9).trans (XP_9 h9).symm
theorem XP_wa (hf : f < 9) (iz : inr z) : (XP (wi N (p + 1 + f) x0 z) p).1 f x0 = z := (XP_f hf).trans (gi_at iz)
theorem XP_wc (hf : f < 9) : (XP (wi N (p + 1 + f) x0 z) p).2.1 k = (XP N p).2.1 k ∧ (XP (wi N (p + 1 + f) x0 z) p).2.2 k = (XP N p).2.2 k := ⟨gi_of (Or.inl (by omega)), gi_of (Or.inl (by omega))⟩
end XPL
/-- the fields of a statement -/
def hds (X : txT) (s : Nat) (k : Int) (cc : Nat) (par part d lt a b : Int) : Prop := (X.1 0 s = k ∧ X.1 1 s = lt ∧ X.1 2 s = (cc : Int) ∧ X.1 3 s = par ∧ X.1 4 s = part ∧ X.1 5 s = d) ∧ (X.1 6 s = -1 ∧ X.1 7 s = a ∧ X.1 8 s = b)
theorem hds.of {X X' : txT} {s cc : Nat} {k par part d lt a b : Int} (h : hds X s k cc par part d lt a b) (e : ∀ g, X'.1 g s = X.1 g s) : hds X' s k cc par part d lt a b := ⟨⟨(e _).trans h.1.1, (e _).trans h.1.2.1, (e _).trans h.1.2.2.1, (e _).trans h.1.2.2.2.1, (e _).trans h.1.2.2.2.2.1, (e _).trans h.1.2.2.2.2.2⟩, (e _).trans h.2.1, (e _).trans h.2.2.1, (e _).trans h.2.2.2⟩
/-- what was read of a statement so far: text, token, statement, code, unaries -/
abbrev dT0 : Type := txT → Nat → Nat → Nat → Nat → Prop
def dst (s cc : Nat) (D : dT0) : Prop := ∀ X i' s' c' u', D X i' s' c' u' → (s < s' ∧ cc ≤ c') ∧ ∀ X' : txT, (∀ g x, s < x → x < s' → X'.1 g x = X.1 g x) → (∀ k, cc ≤ k → k < c' → X'.2.1 k = X.2.1 k ∧ X'.2.2 k = X.2.2 k) → D X' i' s' c' u'
def d0 (i s cc un : Nat) : dT0 := fun _ i' s' c' u' => i = i' ∧ s + 1 = s' ∧ cc = c' ∧ un = u'
def dQ (Q : Nat → Nat → Prop) (D : dT0) : dT0 := fun X j s' c' u' => ∃ i', Q i' j ∧ D X i' s' c' u'
def dX (κ ν : Nat → Int) (ir : Bool) (t : Int) (D : dT0) : dT0 := fun X j s' c' u' => ∃ i' c0 u0 v j1, D X i' s' c0 u0 ∧ dEx κ ν ir X i' c0 j1 c' v ∧ κ j1 = t ∧ j = j1 + 1 ∧ u' = u0 + v
def dY (κ ν : Nat → Int) (f s : Nat) (pt z : Int) (D : dT0) : dT0 := fun X j s' c' u' => ∃ i' s0 c0 u0 v, D X i' s0 c0 u0 ∧ dB κ ν X f s pt i' s0 c0 j s' c' z v ∧ u' = u0 + v
def mdS (L p : Nat) (M : rf_M) (s cc : Nat) (k par part d fg : Int) (D : dT0) (lt a b : Int) (N : rf_M) : Prop := eqy (stF p) M N ∧ gi N 169 4 = fg ∧ (gi N 169 3 = -1 → ∃ i' s' c' u', ptt p L N i' s' c' u' ∧ kep p M N s cc ∧ hds (XP N p) s k cc par part d lt a b ∧ D (XP N p) i' s' c' u')
section MDS
variable {κ ν : Nat → Int} {L p : Nat} {M N N' : rf_M} {i s cc un : Nat} {k par part d fg lt a b t : Int} {D D' : dT0} {ir : Bool}
theorem dst_0 : dst s cc (d0 i s cc un) := fun X i' s' c' u' h => by
  obtain ⟨h1, h2, h3, h4⟩ := h
  exact ⟨⟨by omega, by omega⟩, fun X' _ _ => ⟨h1, h2, h3, h4⟩⟩
theorem dst_Q {Q : Nat → Nat → Prop} (h : dst s cc D) : dst s cc (dQ Q D) := fun X i' s' c' u' q => by
  obtain ⟨i1, q1, q2⟩ := q
  obtain ⟨a1, a2⟩ := h _ _ _ _ _ q2
  exact ⟨a1, fun X' e1 e2 => ⟨i1, q1, a2 X' e1 e2⟩⟩
theorem dst_X (h : dst s cc D) : dst s cc (dX κ ν ir t D) := fun X i' s' c' u' q => by
  obtain ⟨i1, c0, u0, v, j1, q1, q2, q3, q4, q5⟩ := q
  obtain ⟨⟨a1, a2⟩, a3⟩ := h _ _ _ _ _ q1
  have b1 := (q2.congr (X' := X)).1
  exact ⟨⟨a1, by omega⟩, fun X' e1 e2 => ⟨i1, c0, u0, v, j1, a3 X' e1 (fun k x y => e2 k x (by omega)), (q2.congr (X' := X')).2 (fun k x y => e2 k (by omega) y), q3, q4, q5⟩⟩
theorem dst_Y {f : Nat} {pt z : Int} (h : dst s cc D) : dst s cc (dY κ ν f s pt z D) := fun X i' s' c' u' q => by
  obtain ⟨i1, s0, c0, u0, v, q1, q2, q3⟩ := q
  obtain ⟨⟨a1, a2⟩, a3⟩ := h _ _ _ _ _ q1
  obtain ⟨⟨b1, b2⟩, b3⟩ := dB.congr (X := X) (X' := X) f _ _ _ _ _ _ _ _ _ _ q2
  exact ⟨⟨by omega, by omega⟩, fun X' e1 e2 => ⟨i1, s0, c0, u0, v, a3 X' (fun g x y w => e1 g x y (by omega)) (fun k x y => e2 k x (by omega)), (dB.congr (X := X) (X' := X') f _ _ _ _ _ _ _ _ _ _ q2).2 ⟨fun g x y w => e1 g x (by omega) w, fun k x y => e2 k (by omega) y⟩, q3⟩⟩
theorem mdS.tk (h : mdS L p M s cc k par part d fg D lt a b N) (hk : 25 ≤ p ∧ p ≤ 157) (tM : tkM κ ν L M) : tkM κ ν L N := tM.eq h.1 (fun b k q => by unfold stF; omega)
theorem mdS.at (h : mdS L p M s cc k par part d fg D lt a b N) : gi N 169 3 = -1 → ∃ i, gi N 169 2 = ((i : Nat) : Int) ∧ i ≤ L := fun q => by
  obtain ⟨i', s', c', u', a1, _⟩ := h.2.2 q
  exact ⟨i', a1.1.1, a1.1.2.1⟩
theorem mdS.bad (e : eqy (stF p) M N) (f : gi N 169 4 = fg) (q : ¬ gi N 169 3 = -1) : mdS L p M s cc k par part d fg D lt a b N := ⟨e, f, fun w => absurd w q⟩
theorem mdS.mono (h : mdS L p M s cc k par part d fg D lt a b N) (w : ∀ X i' s' c' u', D X i' s' c' u' → D' X i' s' c' u') : mdS L p M s cc k par part d fg D' lt a b N := ⟨h.1, h.2.1, fun q => by
  obtain ⟨i', s', c', u', a1, a2, a3, a4⟩ := h.2.2 q
  exact ⟨i', s', c', u', a1, a2, a3, w _ _ _ _ _ a4⟩⟩
theorem ptt.mv {c u j : Nat} (h : ptt p L N i s c u) (hk : 25 ≤ p ∧ p ≤ 157) (e : eqy (fun b k => b = 169 ∧ (k = 2 ∨ k = 4)) N N') (hi : gi N' 169 2 = (j : Int)) (hj : j ≤ L) : ptt p L N' j s c u := ⟨⟨hi, hj, (e.i (by omega)).trans h.1.2.2.1, (e.i (by omega)).trans h.1.2.2.2.1, h.1.2.2.2.2⟩, (e.i (by omega)).trans h.2.1, h.2.2.1, h.2.2.2⟩
theorem mdS.ref (h : mdS L p M s cc k par part d fg D lt a b N) (hM : M.2.2 169 1 = some p) : N.2.2 169 1 = some p := by rw [h.1.2]; exact hM
theorem mdS.e (h : mdS L p M s cc k par part d fg D lt a b N) (hk : 25 ≤ p ∧ p ≤ 157) (hM : M.2.2 169 1 = some p) (tM : tkM κ ν L M) : prE κ ν L p N := ⟨h.ref hM, h.tk hk tM, fun q => by
  obtain ⟨i', s', c', u', a1, _⟩ := h.2.2 q
  exact ⟨i', c', u', a1.1, a1.2.2.2⟩⟩
/-- place and flag alone change -/
theorem mdS.go {fg' : Int} (h : mdS L p M s cc k par part d fg D lt a b N) (hk : 25 ≤ p ∧ p ≤ 157) (y : eqy (fun b k => b = 169 ∧ (k = 2 ∨ k = 4)) N N') (hf : gi N' 169 4 = fg') (hj : gi N 169 3 = -1 → ∀ i' s' c' u', D (XP N p) i' s' c' u' → gi N 169 2 = (i' : Int) → i' ≤ L → ∃ j : Nat, gi N' 169 2 = (j : Int) ∧ j ≤ L ∧ D' (XP N p) j s' c' u') : mdS L p M s cc k par part d fg' D' lt a b N' := by
  refine ⟨h.1.trans (y.mono (fun b k q => by unfold stF; omega)), hf, fun q => ?_⟩
  have q0 : gi N 169 3 = -1 := by rw [← y.i (by omega)]; exact q
  obtain ⟨i', s', c', u', a1, a2, a3, a4⟩ := h.2.2 q0
  obtain ⟨j, b1, b2, b3⟩ := hj q0 _ _ _ _ a4 a1.1.1 a1.1.2.1
  have e := XP_same (p := p) y (fun b k x w => by omega)
  refine ⟨j, s', c', u', a1.mv hk y b1 b2, a2.same y (fun b k x w => by omega), ?_, ?_⟩
  · rw [e]; exact a3
  · rw [e]; exact b3
variable {K : rf_M → Prop}
theorem m_at {K : Int → rf_M → Prop} (hk : 25 ≤ p ∧ p ≤ 157) (tM : tkM κ ν L M) (h : mdS L p M s cc k par part d fg D lt a b N) (h1 : gi N 169 3 = -1 → mdS L p M s cc k par part d fg (dQ (fun i' j => i' = j ∧ κ j = t) D) lt a b N → K 1 N) (h0 : mdS L p M s cc k par part d fg (dQ (fun i' j => i' = j ∧ κ j ≠ t) D) lt a b N → K 0 N) : em_Q_isAt t N K := by
  refine x_Qat (h.tk hk tM) h.at (fun hf i0 hat hil e => h1 hf ⟨h.1, h.2.1, fun q => ?_⟩) (fun n => h0 ⟨h.1, h.2.1, fun q => ?_⟩)
  · obtain ⟨i', s', c', u', a1, a2, a3, a4⟩ := h.2.2 q
    have e0 : i0 = i' := by have := a1.1.1; omega
    subst e0
    exact ⟨i0, s', c', u', a1, a2, a3, i0, ⟨rfl, e⟩, a4⟩
  · obtain ⟨i', s', c', u', a1, a2, a3, a4⟩ := h.2.2 q
    exact ⟨i', s', c', u', a1, a2, a3, i', ⟨rfl, n q i' a1.1.1 a1.1.2.1⟩, a4⟩
theorem m_adv (hL : L ≤ 800) (hκ : κ L = 0) (hk : 25 ≤ p ∧ p ≤ 157) (tM : tkM κ ν L M) (h : mdS L p M s cc k par part d fg D lt a b N) (hD : ∀ X i' s' c' u', D X i' s' c' u' → κ i' ≠ 0) (kk : ∀ N', mdS L p M s cc k par part d fg (dQ (fun i' j => j = i' + 1) D) lt a b N' → K N') : em_Q_advance N K := by
  by_cases f : gi N 169 3 = -1
  · obtain ⟨i0, s0, c0, u0, a1, a2, a3, a4⟩ := h.2.2 f
    have hlt : i0 < L := by
      rcases Nat.lt_or_ge i0 L with q | q
      · exact q
      · exact absurd (by rw [show i0 = L by have := a1.1.2.1; omega]; exact hκ) (hD _ _ _ _ _ a4)
    refine x_Qadv (h.tk hk tM) a1.1.1 hlt hL (fun N' y e => kk N' (h.go hk (y.mono (fun b k q => by omega)) ((y.i (by omega)).trans h.2.1) (fun _ i' s' c' u' w1 w2 w3 => ⟨i0 + 1, e, by omega, i', ?_, w1⟩)))
    have := a1.1.1
    omega
  · exact x_Qadv' (fun N' y => kk N' (mdS.bad (h.1.trans (y.mono (fun b k q => by unfold stF; omega))) ((y.i (by omega)).trans h.2.1) (by rw [y.i (by omega)]; exact f)))
theorem m_ref (hk : 25 ≤ p ∧ p ≤ 157) (tM : tkM κ ν L M) (h : mdS L p M s cc k par part d fg D lt a b N) (kk : ∀ N', ¬ gi N' 169 3 = -1 → eqy (stF p) M N' → gi N' 169 4 = fg → K N') : em_Q_refuse N K := x_Qref (h.tk hk tM) h.at (fun N' y q => kk N' q (h.1.trans (y.mono (fun b k q => by unfold stF; omega))) ((y.i (by omega)).trans h.2.1))
theorem m_expect (hL : L ≤ 800) (hκ : κ L = 0) (hk : 25 ≤ p ∧ p ≤ 157) (tM : tkM κ ν L M) (ht : t ≠ 0) (h : mdS L p M s cc k par part d fg D lt a b N) (kk : ∀ N', mdS L p M s cc k par part d fg (dQ (fun i' j => j = i' + 1 ∧ κ i' = t) D) lt a b N' → K N') : em_Q_expect t N K := by
  refine m_at hk tM h (fun _ h1 => ⟨fun q => absurd q (by decide), fun _ => ?_⟩) (fun h0 => ⟨fun _ => m_ref hk tM h0 (fun N' q e f => kk N' (mdS.bad e f q)), fun q => absurd rfl q⟩)
  refine m_adv hL hκ hk tM h1 (fun X i' s' c' u' q => ?_) (fun N' h2 => kk N' (h2.mono (fun X j s' c' u' q => ?_)))
  · obtain ⟨i1, ⟨e1, e2⟩, q2⟩ := q
    rw [e2]; exact ht
  · obtain ⟨j1, e0, i1, ⟨e1, e2⟩, q2⟩ := q
    exact ⟨i1, ⟨by omega, by rw [e1]; exact e2⟩, q2⟩
theorem m_closed (hL : L ≤ 800) (hκ : κ L = 0) (hp : p ∈ k1) (hk : 25 ≤ p ∧ p ≤ 157) (hM : M.2.2 169 1 = some p) (tM : tkM κ ν L M) (ht : t ≠ 0) (hir : ir = !(decide (fg = 0))) (hS : dst s cc D) (h : mdS L p M s cc k par part d fg D lt a b N) (kk : ∀ N', mdS L p M s cc k par part d fg (dX κ ν ir t D) lt a b N' → K N') : Esp κ ν L p 0 N (fun M1 => isP M1 169 1 ∧ em_P_emit (gr M1 169 1) 0 0 M1 (fun M2 => em_Q_expect t M2 (fun M3 => K M3))) := by
  have eir : irM N = ir := by unfold irM; rw [h.2.1, hir]
  refine x_closed hL hκ hp ht (h.e hk hM tM) (fun N' y g => kk N' ⟨h.1.trans (y.mono (fun b k q => by unfold exF at q; unfold stF; omega)), (y.i (by unfold exF; omega)).trans h.2.1, fun q => ?_⟩)
  obtain ⟨hf, i0, c0, u0, j, c', v, b1, b2, b3, b4, b5, b6⟩ := g q
  obtain ⟨i', s', c1, u1, a1, a2, a3, a4⟩ := h.2.2 hf
  obtain ⟨rfl, rfl, rfl⟩ := a1.1.uniq b1
  obtain ⟨⟨r1, r2⟩, r3⟩ := hS _ _ _ _ _ a4
  have e9 : kep p N N' 41 c1 := ⟨fun f x h9 _ => y.i (by unfold exF; omega), b6⟩
  have h40 := a1.2.2.1
  refine ⟨j + 1, s', c', u1 + v, ⟨b4, (y.i (by unfold exF; omega)).trans a1.2.1, a1.2.2.1, by have := a1.2.2.2; omega⟩, ?_, a3.of (fun g => e9.fd (by omega)), i', c1, u1, v, j, r3 _ (fun g x _ hx => e9.fd (by omega)) (fun k _ hk => e9.c hk), ?_, b3, rfl, rfl⟩
  · exact a2.trans e9 (by omega) r2
  · rw [← eir]; exact b2
theorem m_body {K : Int → rf_M → Prop} {pt : Int} (hk : 25 ≤ p ∧ p ≤ 157) (hM : M.2.2 169 1 = some p) (tM : tkM κ ν L M) (hd : 0 ≤ d ∧ d ≤ 8) (hpt : pt = 0 ∨ pt = 1) (hS : dst s cc D) (h : mdS L p M s cc k par part d 0 D lt a b N) (kk : ∀ z N', inr z → mdS L p M s cc k par part d 0 (dY κ ν (8 - d.toNat) s pt z D) lt a b N' → K z N') : Bsp κ ν L p (s : Int) pt d N K := by
  refine ⟨hd, ⟨by omega, hpt⟩, ⟨h.ref hM, h.tk hk tM, h.2.1, fun q => ?_⟩, fun z N' iz g => kk z N' iz ⟨h.1.trans g.1, g.2.1, fun q => ?_⟩⟩
  · obtain ⟨i', s', c', u', a1, _⟩ := h.2.2 q
    exact ⟨i', s', c', u', a1⟩
  · obtain ⟨hf, i0, s0, c0, u0, j, s1, c1, v, b1, b2, b3, b4⟩ := g.2.2 q
    obtain ⟨i', s', c', u', a1, a2, a3, a4⟩ := h.2.2 hf
    obtain ⟨rfl, rfl, rfl, rfl⟩ := a1.uniq b1
    obtain ⟨⟨r1, r2⟩, r3⟩ := hS _ _ _ _ _ a4
    rw [tn_] at b2
    exact ⟨j, s1, c1, u' + v, b3, a2.trans b4 (by omega) r2, a3.of (fun g => b4.fd r1), i', s', c', u', v, r3 _ (fun g x _ hx => b4.fd hx) (fun k _ hk => b4.c hk), b2, rfl⟩
theorem m_w {f : Nat} {z : Int} (hk : 25 ≤ p ∧ p ≤ 157) (hf : f = 1 ∨ f = 7 ∨ f = 8) (iz : inr z) (hS : dst s cc D) (h : mdS L p M s cc k par part d fg D lt a b N) : mdS L p M s cc k par part d fg D (if f = 1 then z else lt) (if f = 7 then z else a) (if f = 8 then z else b) (wi N (p + 1 + f) s z) := by
  have y : eqy (fun b k => b = p + 1 + f ∧ k = s) N (wi N (p + 1 + f) s z) := (eqy.rfl' N).wi ⟨rfl, rfl⟩
  refine ⟨h.1.trans (y.mono (fun b k q => by unfold stF; omega)), (y.i (by omega)).trans h.2.1, fun q => ?_⟩
  obtain ⟨i', s', c', u', a1, a2, a3, a4⟩ := h.2.2 (by rw [← y.i (by omega)]; exact q)
  obtain ⟨⟨r1, r2⟩, r3⟩ := hS _ _ _ _ _ a4
  have eg : ∀ g, g ≠ f → (XP (wi N (p + 1 + f) s z) p).1 g s = (XP N p).1 g s := fun g hg => XP_w (by omega)
  have ef : (XP (wi N (p + 1 + f) s z) p).1 f s = z := XP_wa (by omega) iz
  refine ⟨i', s', c', u', ⟨⟨(y.i (by omega)).trans a1.1.1, a1.1.2.1, (y.i (by omega)).trans a1.1.2.2.1, (y.i (by omega)).trans a1.1.2.2.2.1, a1.1.2.2.2.2⟩, (y.i (by omega)).trans a1.2.1, a1.2.2.1, a1.2.2.2⟩, ⟨fun g x h9 hx => (y.i (by omega)).trans (a2.1 g x h9 hx), fun k hk' => ⟨(y.i (by omega)).trans (a2.2 k hk').1, (y.i (by omega)).trans (a2.2 k hk').2⟩⟩, ?_, r3 _ (fun g x hx _ => XP_w (by omega)) (fun k _ _ => XP_wc (by omega))⟩
  obtain ⟨⟨b0, b1, b2, b3, b4, b5⟩, b6, b7, b8⟩ := a3
  rcases hf with rfl | rfl | rfl
  · exact ⟨⟨(eg 0 (by decide)).trans b0, ef, (eg 2 (by decide)).trans b2, (eg 3 (by decide)).trans b3, (eg 4 (by decide)).trans b4, (eg 5 (by decide)).trans b5⟩, (eg 6 (by decide)).trans b6, (eg 7 (by decide)).trans b7, (eg 8 (by decide)).trans b8⟩
  · exact ⟨⟨(eg 0 (by decide)).trans b0, (eg 1 (by decide)).trans b1, (eg 2 (by decide)).trans b2, (eg 3 (by decide)).trans b3, (eg 4 (by decide)).trans b4, (eg 5 (by decide)).trans b5⟩, (eg 6 (by decide)).trans b6, ef, (eg 8 (by decide)).trans b8⟩
  · exact ⟨⟨(eg 0 (by decide)).trans b0, (eg 1 (by decide)).trans b1, (eg 2 (by decide)).trans b2, (eg 3 (by decide)).trans b3, (eg 4 (by decide)).trans b4, (eg 5 (by decide)).trans b5⟩, (eg 6 (by decide)).trans b6, (eg 7 (by decide)).trans b7, ef⟩
/-- the first, the second body -/
theorem m_b0 {R : rf_M → Prop} (hp : p ∈ k1) (hk : 25 ≤ p ∧ p ≤ 157) (hM : M.2.2 169 1 = some p) (tM : tkM κ ν L M) (hd : 0 ≤ d ∧ d ≤ 8) (hS : dst s cc D) (h : mdS L p M s cc k par part d 0 D lt a b N) (kk : ∀ z N', mdS L p M s cc k par part d 0 (dY κ ν (8 - d.toNat) s 0 z D) lt z b N' → R N') : isP N 169 1 ∧ Bsp κ ν L p (s : Int) 0 d N (fun z1 M1 => 0 ≤ (s : Int) ∧ (s : Int) < 40 → ∀ M2 : rf_M, M2 = wi M1 ((gr N 169 1) + 8) ((s : Int)).toNat z1 → R M2) := by
  have ip := isPk (h.ref hM) hp
  refine ⟨ip.1, m_body hk hM tM hd (Or.inl rfl) hS h (fun z N' iz h' _ M2 e2 => ?_)⟩
  rw [ip.2, tn_] at e2
  rw [e2]
  exact kk z _ (m_w (f := 7) hk (by omega) iz (dst_Y hS) h')
theorem m_b1 {R : rf_M → Prop} (hp : p ∈ k1) (hk : 25 ≤ p ∧ p ≤ 157) (hM : M.2.2 169 1 = some p) (tM : tkM κ ν L M) (hd : 0 ≤ d ∧ d ≤ 8) (hS : dst s cc D) (h : mdS L p M s cc k par part d 0 D lt a b N) (kk : ∀ z N', mdS L p M s cc k par part d 0 (dY κ ν (8 - d.toNat) s 1 z D) lt a z N' → R N') : isP N 169 1 ∧ Bsp κ ν L p (s : Int) 1 d N (fun z1 M1 => 0 ≤ (s : Int) ∧ (s : Int) < 40 → ∀ M2 : rf_M, M2 = wi M1 ((gr N 169 1) + 9) ((s : Int)).toNat z1 → R M2) := by
  have ip := isPk (h.ref hM) hp
  refine ⟨ip.1, m_body hk hM tM hd (Or.inr rfl) hS h (fun z N' iz h' _ M2 e2 => ?_)⟩
  rw [ip.2, tn_] at e2
  rw [e2]
  exact kk z _ (m_w (f := 8) hk (by omega) iz (dst_Y hS) h')
/-- a letter that is no cell -/
theorem m_local {K : Int → rf_M → Prop} (hL : L ≤ 800) (hκ : κ L = 0) (hi : ∀ k, inr (κ k) ∧ inr (ν k)) (hν : ∀ k, κ k = 1 → 0 ≤ ν k) (hk : 25 ≤ p ∧ p ≤ 157) (tM : tkM κ ν L M) (h : mdS L p M s cc k par part d fg D lt a b N) (kk : ∀ z N', inr z → mdS L p M s cc k par part d fg (dQ (fun i' j => j = i' + 1 ∧ κ i' = 1 ∧ 16 ≤ ν i' ∧ ν i' = z) D) lt a b N' → K z N') : em_Q_local N K := by
  have no : ∀ N', ¬ gi N' 169 3 = -1 → eqy (stF p) M N' → gi N' 169 4 = fg → K 16 N' := fun N' q e f => kk 16 N' (inr_z (by omega) (by omega)) (mdS.bad e f q)
  refine fun _ => m_at hk tM h (fun hf h1 => ⟨fun q => absurd q (by decide), fun _ => ?_⟩) (fun h0 => ⟨fun _ => m_ref hk tM h0 no, fun q => absurd rfl q⟩)
  obtain ⟨i0, s0, c0, u0, a1, a2, a3, i1, ⟨e1, e2⟩, a4⟩ := h1.2.2 hf
  rw [a1.1.1, tn_, ((h.tk hk tM).2 i0 a1.1.2.1).2.1]
  refine x_isCell (fun hc => ⟨fun q => absurd q (by decide), fun _ => m_ref hk tM h1 no⟩) (fun hc => ⟨fun _ => ?_, fun q => absurd rfl q⟩)
  have h16 : 16 ≤ ν i0 := by have := hν i0 e2; omega
  have h2 : mdS L p M s cc k par part d fg (dQ (fun i' j => i' = j ∧ (κ j = 1 ∧ 16 ≤ ν j ∧ ν j = ν i0)) D) lt a b N := ⟨h.1, h.2.1, fun _ => ⟨i0, s0, c0, u0, a1, a2, a3, i1, ⟨e1, e2, h16, rfl⟩, a4⟩⟩
  refine m_adv hL hκ hk tM h2 (fun X i' s' c' u' q => ?_) (fun N' h3 => kk (ν i0) N' (hi i0).2 (h3.mono (fun X j s' c' u' q => ?_)))
  · obtain ⟨_, ⟨_, w, _⟩, _⟩ := q
    rw [w]; decide
  · obtain ⟨j1, w1, i2, ⟨w2, w3⟩, w4⟩ := q
    subst w2
    exact ⟨i2, ⟨w1, w3⟩, w4⟩
end MDS
