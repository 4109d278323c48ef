/-! TEXTS THAT ARE WELL MADE; the marks of the statements around a place -/
def lnk (n : Nat) (z : Int) (P : Nat → Prop) : Prop := z = -1 ∨ ∃ x : Nat, z = (x : Int) ∧ x < n ∧ P x
def opk (o : Int) : Prop := o = 0 ∨ o = 1 ∨ o = 2 ∨ o = 3 ∨ o = 35 ∨ o = 37 ∨ o = 42 ∨ o = 43 ∨ o = 45 ∨ o = 47 ∨ o = 60 ∨ o = 61
def psh (O : Nat → Int) : Nat → Nat
  | 0 => 0
  | i + 1 => psh O i + (if O i = 1 ∨ O i = 2 then 1 else 0)
/-- code from e on ends before cc -/
def cdo (X : txT) (cc : Nat) (e : Int) : Prop := 0 ≤ e ∧ (X.2.1 e.toNat = 1 ∨ X.2.1 e.toNat = 2) ∧ ∃ k, k ≤ 160 ∧ X.2.1 (e.toNat + k) = 0 ∧ e.toNat + k < cc
def knd (k : Int) : Prop := k = 1 ∨ k = 10 ∨ k = 12 ∨ k = 13 ∨ k = 14 ∨ k = 15 ∨ k = 17 ∨ k = 19
def kxp (k : Int) : Prop := k = 1 ∨ k = 10 ∨ k = 12 ∨ k = 14 ∨ k = 19
def wst (X : txT) (n cc s : Nat) : Prop :=
  ((X.1 3 s = -1 ∧ X.1 5 s = 0) ∨ ∃ p : Nat, X.1 3 s = (p : Int) ∧ p < n ∧ X.1 5 s = X.1 5 p + 1) ∧
  (X.1 4 s = 0 ∨ X.1 4 s = 1) ∧ (0 ≤ X.1 5 s ∧ X.1 5 s ≤ 8) ∧
  lnk n (X.1 6 s) (fun x => X.1 3 x = X.1 3 s ∧ X.1 4 x = X.1 4 s) ∧
  lnk n (X.1 7 s) (fun x => X.1 3 x = (s : Int) ∧ X.1 4 x = 0) ∧
  lnk n (X.1 8 s) (fun x => X.1 3 x = (s : Int) ∧ X.1 4 x = 1) ∧
  knd (X.1 0 s) ∧ (X.1 0 s = 15 ∨ X.1 0 s = 17 → X.1 5 s ≤ 7) ∧
  (X.1 0 s = 17 → 16 ≤ X.1 1 s ∧ X.1 1 s < 26) ∧ (X.1 0 s = 1 → 0 ≤ X.1 1 s ∧ X.1 1 s < 26) ∧
  (kxp (X.1 0 s) → cdo X cc (X.1 2 s))
/-- n statements, cc pieces of code, the entry -/
def wfx (X : txT) (n cc : Nat) (en : Int) : Prop := n ≤ 40 ∧ cc ≤ 160 ∧ psh X.2.1 cc ≤ 60 ∧ (∀ i, i < cc → opk (X.2.1 i) ∧ (X.2.1 i = 2 → 0 ≤ X.2.2 i ∧ X.2.2 i < 26)) ∧ lnk n en (fun x => X.1 3 x = -1) ∧ ∀ s, s < n → wst X n cc s
def plz (n : Nat) (z : Int) : Prop := z = -1 ∨ ∃ x : Nat, z = (x : Int) ∧ x < n
/-- P holds of the statements around s in whose first body s lies -/
def pok (X : txT) (P : Nat → Prop) (s : Int) : Prop := ∃ A : Nat → Prop, (∀ x : Nat, s = (x : Int) → A x) ∧ ∀ y, A y → ∀ p : Nat, X.1 3 y = (p : Int) → A p ∧ (X.1 4 y = 0 → P p)
theorem psh_mono (O : Nat → Int) {i j : Nat} (h : i ≤ j) : psh O i ≤ psh O j := by
  induction j with
  | zero => rw [Nat.le_zero.mp h]; exact Nat.le_refl _
  | succ j ih =>
    by_cases e : i = j + 1
    · rw [e]; exact Nat.le_refl _
    · exact Nat.le_trans (ih (by omega)) (Nat.le_add_right _ _)
section PT
variable {X : txT} {n cc : Nat} {en : Int} {P Q : Nat → Prop} {s : Nat}
theorem pok_neg {z : Int} (h : z < 0) : pok X P z := ⟨fun _ => False, fun x e => by omega, fun y h => h.elim⟩
theorem pok_up {p : Nat} (h : pok X P (s : Int)) (hp : X.1 3 s = (p : Int)) : pok X P (p : Int) ∧ (X.1 4 s = 0 → P p) := by
  obtain ⟨A, h1, h2⟩ := h
  obtain ⟨h3, h4⟩ := h2 s (h1 s rfl) p hp
  exact ⟨⟨A, fun x e => by rw [← Int.ofNat_inj.mp e]; exact h3, h2⟩, h4⟩
theorem pok_of {x : Nat} (h : ∀ p : Nat, X.1 3 x = (p : Int) → pok X P (p : Int) ∧ (X.1 4 x = 0 → P p)) : pok X P (x : Int) := by
  by_cases hp : ∃ p : Nat, X.1 3 x = (p : Int)
  · obtain ⟨p, hp⟩ := hp
    obtain ⟨⟨A, h1, h2⟩, h3⟩ := h p hp
    refine ⟨fun y => y = x ∨ A y, fun y e => Or.inl (Int.ofNat_inj.mp e).symm, fun y hy q hq => ?_⟩
    rcases hy with rfl | hy
    · have e : q = p := Int.ofNat_inj.mp (hq.symm.trans hp)
      subst e
      exact ⟨Or.inr (h1 q rfl), h3⟩
    · obtain ⟨a, b⟩ := h2 y hy q hq
      exact ⟨Or.inr a, b⟩
  · exact ⟨fun y => y = x, fun y e => (Int.ofNat_inj.mp e).symm, fun y hy q hq => by subst hy; exact absurd ⟨q, hq⟩ hp⟩
theorem pok_sib {x : Nat} (h : pok X P (s : Int)) (h3 : X.1 3 x = X.1 3 s) (h4 : X.1 4 x = X.1 4 s) : pok X P (x : Int) := pok_of (fun p hp => by
  rw [h3] at hp
  have := pok_up h hp
  exact ⟨this.1, fun q => this.2 (by rw [← h4]; exact q)⟩)
theorem pok_in {x : Nat} (h : pok X P (s : Int)) (h3 : X.1 3 x = (s : Int)) (h4 : X.1 4 x = 0 → P s) : pok X P (x : Int) := pok_of (fun p hp => by
  have e : p = s := Int.ofNat_inj.mp (hp.symm.trans h3)
  subst e
  exact ⟨h, h4⟩)
theorem pok_mono {z : Int} (h : pok X P z) (i : ∀ x, P x → Q x) : pok X Q z := by
  obtain ⟨A, h1, h2⟩ := h
  exact ⟨A, h1, fun y hy p hp => ⟨(h2 y hy p hp).1, fun q => i p ((h2 y hy p hp).2 q)⟩⟩
/-- what is around lies less deep -/
theorem pok_dep (hX : wfx X n cc en) (hs : s < n) (h : pok X P (s : Int)) : pok X (fun x => P x ∧ x < n ∧ X.1 5 x < X.1 5 s) (s : Int) := by
  obtain ⟨A, h1, h2⟩ := h
  refine ⟨fun y => A y ∧ y < n ∧ X.1 5 y ≤ X.1 5 s, fun x e => ?_, fun y hy p hp => ?_⟩
  · have e := Int.ofNat_inj.mp e
    subst e
    exact ⟨h1 _ rfl, hs, Int.le_refl _⟩
  · obtain ⟨a, b⟩ := h2 y hy.1 p hp
    have w := (hX.2.2.2.2.2 y hy.2.1).1
    rcases w with w | ⟨p', w1, w2, w3⟩
    · omega
    · have e : p = p' := Int.ofNat_inj.mp (hp.symm.trans w1)
      subst e
      have := hy.2.2
      exact ⟨⟨a, w2, by omega⟩, fun q => ⟨b q, w2, by omega⟩⟩
theorem plz_par (hX : wfx X n cc en) (hs : s < n) : plz n (X.1 3 s) := by
  rcases (hX.2.2.2.2.2 s hs).1 with w | ⟨p, w1, w2, _⟩
  · exact Or.inl w.1
  · exact Or.inr ⟨p, w1, w2⟩
theorem tn_ (x : Nat) : ((x : Nat) : Int).toNat = x := by omega
theorem pok_bhd (hX : wfx X n cc en) : ∀ (f : Nat) (z : Int), plz n z → pok X P z → plz n (bhd X f z) ∧ pok X P (bhd X f z)
  | 0, z, _, _ => ⟨Or.inl rfl, pok_neg (by show (-1 : Int) < 0; omega)⟩
  | f + 1, z, hz, hp => by
    unfold bhd
    rcases hz with rfl | ⟨x, rfl, hx⟩
    · rw [if_pos (by omega)]
      exact ⟨Or.inl rfl, pok_neg (by omega)⟩
    · rw [if_neg (by omega), tn_]
      have w := hX.2.2.2.2.2 x hx
      rcases w.2.2.2.1 with w6 | ⟨y, w6, hy, w7⟩
      · rw [if_neg (by omega)]
        have hup : plz n (X.1 3 x) ∧ pok X P (X.1 3 x) := by
          rcases w.1 with w1 | ⟨p, w1, w2, _⟩
          · rw [w1.1]; exact ⟨Or.inl rfl, pok_neg (by omega)⟩
          · rw [w1]; exact ⟨Or.inr ⟨p, rfl, w2⟩, (pok_up hp w1).1⟩
        split
        · exact hup
        · exact pok_bhd hX f _ hup.1 hup.2
      · rw [if_pos (by omega), w6]
        exact ⟨Or.inr ⟨y, rfl, hy⟩, pok_sib hp w7.1 w7.2⟩
theorem pok_gin (hX : wfx X n cc en) {z : Int} (hs : s < n) (hp : pok X P (s : Int)) (hz : lnk n z (fun x => X.1 3 x = (s : Int) ∧ (X.1 4 x = 0 → P s))) : plz n (gin X (s : Int) z) ∧ pok X P (gin X (s : Int) z) := by
  unfold gin
  rcases hz with rfl | ⟨x, rfl, hx, h3, h4⟩
  · rw [if_neg (by omega), tn_]
    split
    · exact ⟨Or.inr ⟨s, rfl, hs⟩, hp⟩
    · exact pok_bhd hX 9 _ (Or.inr ⟨s, rfl, hs⟩) hp
  · rw [if_pos (by omega)]
    exact ⟨Or.inr ⟨x, rfl, hx⟩, pok_in hp h3 h4⟩
theorem pok_ard (hX : wfx X n cc en) {k : Int} : ∀ (f : Nat) (z : Int), plz n z → pok X P z → (ard X k f z = -1 ∨ ∃ x : Nat, ard X k f z = (x : Int) ∧ x < n ∧ X.1 0 x = k ∧ pok X P (x : Int) ∧ P x)
  | 0, z, _, _ => Or.inl rfl
  | f + 1, z, hz, hp => by
    unfold ard
    rcases hz with rfl | ⟨x, rfl, hx⟩
    · rw [if_pos (by omega)]
      exact Or.inl rfl
    · rw [if_neg (by omega), tn_]
      rcases (hX.2.2.2.2.2 x hx).1 with w1 | ⟨p, w1, w2, _⟩
      · rw [w1.1, if_neg (by omega)]
        exact pok_ard hX f _ (Or.inl rfl) (pok_neg (by omega))
      · have hu := pok_up hp w1
        rw [w1, tn_]
        split
        · rename_i q
          exact Or.inr ⟨p, rfl, w2, q.2.1, hu.1, hu.2 q.2.2⟩
        · exact pok_ard hX f _ (Or.inr ⟨p, rfl, w2⟩) hu.1
end PT
/-! the same as far as it shows -/
def meq (m m' : mkT) : Prop := m'.1 = m.1 ∧ (∀ l, l < 16 → bt m.1 l = true → m'.2.1 l = m.2.1 l) ∧ (∀ l, l < 10 → m'.2.2.1 l = m.2.2.1 l) ∧ m'.2.2.2 = m.2.2.2
def req (r r' : rdT) : Prop := r'.1 = r.1 ∧ ∀ l, l < 16 → bt r.1 l = true → r'.2.1 l = r.2.1 l ∧ r'.2.2 l = r.2.2 l
theorem meq.rfl' (m : mkT) : meq m m := ⟨rfl, fun _ _ _ => rfl, fun _ _ => rfl, rfl⟩
theorem req.rfl' (r : rdT) : req r r := ⟨rfl, fun _ _ _ => ⟨rfl, rfl⟩⟩
theorem meq.trans {m m' m'' : mkT} (h : meq m m') (h' : meq m' m'') : meq m m'' := ⟨h'.1.trans h.1, fun l hl b => (h'.2.1 l hl (by rw [h.1]; exact b)).trans (h.2.1 l hl b), fun l hl => (h'.2.2.1 l hl).trans (h.2.2.1 l hl), h'.2.2.2.trans h.2.2.2⟩
theorem req.trans {m m' m'' : rdT} (h : req m m') (h' : req m' m'') : req m m'' := ⟨h'.1.trans h.1, fun l hl b => ⟨((h'.2 l hl (by rw [h.1]; exact b)).1).trans (h.2 l hl b).1, ((h'.2 l hl (by rw [h.1]; exact b)).2).trans (h.2 l hl b).2⟩⟩
theorem meq_asg {m m' : mkT} (h : meq m m') (l : Int) (v : Int64) : meq (asg m l v) (asg m' l v) := by
  unfold asg
  by_cases c : 0 ≤ l ∧ l < 16
  · rw [if_pos c, if_pos c]
    refine ⟨by rw [h.1], fun j hj b => ?_, h.2.2⟩
    by_cases e : j = l.toNat
    · subst e; exact (va_up_at _ _ _).trans (va_up_at _ _ _).symm
    · have b : bt (bs m.1 l.toNat) j = true := b
      rw [bt_bs (by omega) hj] at b
      have b : bt m.1 j = true := by simpa [e] using b
      exact (va_up_of e).trans ((h.2.1 j hj b).trans (va_up_of e).symm)
  · rw [if_neg c, if_neg c]
    split
    · refine ⟨h.1, h.2.1, fun j hj => ?_, h.2.2.2⟩
      by_cases e : j = l.toNat - 16
      · subst e; exact (va_up_at _ _ _).trans (va_up_at _ _ _).symm
      · exact (va_up_of e).trans ((h.2.2.1 j hj).trans (va_up_of e).symm)
    · exact h
/-- a statement that marks -/
def kmk (X : txT) (h : Nat) : Prop := X.1 0 h = 15 ∨ X.1 0 h = 17
/-- what a side holds of a run: what it has made, its rules' row, its marks -/
abbrev vwT : Type := mkT × (Nat → Int) × (Nat → mkT)
/-- it is the run g: f is how the side writes a rule, hw how many places of the rules' row are used -/
def grl (X : txT) (f : Int → Int) (hw : Nat) (g : sgT) (v : vwT) : Prop := meq g.2.1 v.1 ∧ (0 ≤ g.2.1.2.2.2 ∧ g.2.1.2.2.2 ≤ (hw : Int)) ∧ (∀ j, j < hw → v.2.1 j = f (g.2.2.1 j)) ∧ pok X (fun h => kmk X h → meq (g.2.2.2 h) (v.2.2 h) ∧ 0 ≤ (g.2.2.2 h).2.2.2 ∧ (g.2.2.2 h).2.2.2 ≤ (hw : Int)) g.1
section GR
variable {X : txT} {n cc : Nat} {en : Int} {f : Int → Int} {hw s : Nat} {g : sgT} {v v' : vwT}
/-- the side's cells change, but not what shows -/
theorem grl_v (h : grl X f hw g v) (h1 : meq v.1 v'.1) (h2 : ∀ j, j < hw → v'.2.1 j = v.2.1 j) (h3 : ∀ x, meq (v.2.2 x) (v'.2.2 x)) : grl X f hw g v' := ⟨h.1.trans h1, h.2.1, fun j hj => (h2 j hj).trans (h.2.2.1 j hj), pok_mono h.2.2.2 (fun x hx hk => ⟨(hx hk).1.trans (h3 x), (hx hk).2⟩)⟩
/-- nothing but the place changes -/
theorem grl_move {z : Int} (h : grl X f hw g v) (hz : ∀ P : Nat → Prop, (∀ h, ¬ kmk X h → P h) → pok X P g.1 → pok X P z) : grl X f hw (z, g.2) v := ⟨h.1, h.2.1, h.2.2.1, hz _ (fun h q k => absurd k q) h.2.2.2⟩
theorem grl_mark {z : Int} (hX : wfx X n cc en) (hs : s < n) (e : g.1 = (s : Int)) (h : grl X f hw g v) (h1 : meq v.1 v'.1) (h2 : ∀ j, j < hw → v'.2.1 j = v.2.1 j) (h3 : meq v.1 (v'.2.2 s)) (h4 : ∀ x, x < n → X.1 5 x < X.1 5 s → meq (v.2.2 x) (v'.2.2 x)) (hz : lnk n z (fun x => X.1 3 x = (s : Int))) : grl X f hw (gin X g.1 z, g.2.1, g.2.2.1, va_up g.2.2.2 s g.2.1) v' ∧ plz n (gin X g.1 z) := by
  obtain ⟨a1, a2, a3, a4⟩ := h
  rw [e] at a4 ⊢
  have b := pok_dep hX hs a4
  have b' : pok X (fun h => kmk X h → meq (va_up g.2.2.2 s g.2.1 h) (v'.2.2 h) ∧ 0 ≤ (va_up g.2.2.2 s g.2.1 h).2.2.2 ∧ (va_up g.2.2.2 s g.2.1 h).2.2.2 ≤ (hw : Int)) (s : Int) := pok_mono b (fun x hx hk => by
    have ne : x ≠ s := fun q => by have := hx.2.2; rw [q] at this; omega
    rw [va_up_of ne]
    exact ⟨(hx.1 hk).1.trans (h4 x hx.2.1 hx.2.2), (hx.1 hk).2⟩)
  have q := pok_gin hX (z := z) hs b' (Or.imp id (fun ⟨x, x1, x2, x3⟩ => ⟨x, x1, x2, x3, fun _ _ => by rw [va_up_at]; exact ⟨a1.trans h3, a2⟩⟩) hz)
  exact ⟨⟨a1.trans h1, a2, fun j hj => (h2 j hj).trans (a3 j hj), q.2⟩, q.1⟩
theorem grl_rule {z : Int} {c : Nat} (hc : g.2.1.2.2.2 = (c : Int)) (h : grl X f hw g v) (e1 : meq (v.1.1, v.1.2.1, v.1.2.2.1, v.1.2.2.2 + 1) v'.1) (e2 : v'.2.1 c = f g.1) (e3 : ∀ j, j < hw → j ≠ c → v'.2.1 j = v.2.1 j) (e4 : ∀ x, meq (v.2.2 x) (v'.2.2 x)) (hz : ∀ P : Nat → Prop, (∀ h, ¬ kmk X h → P h) → pok X P g.1 → pok X P z) : grl X f (max hw (c + 1)) (z, (g.2.1.1, g.2.1.2.1, g.2.1.2.2.1, g.2.1.2.2.2 + 1), va_up g.2.2.1 g.2.1.2.2.2.toNat g.1, g.2.2.2) v' := by
  obtain ⟨a1, a2, a3, a4⟩ := h
  refine ⟨?_, ⟨?_, ?_⟩, fun j hj => ?_, ?_⟩
  · refine meq.trans ?_ e1
    exact ⟨a1.1, a1.2.1, a1.2.2.1, congrArg (· + 1) a1.2.2.2⟩
  · show (0 : Int) ≤ g.2.1.2.2.2 + 1
    omega
  · show g.2.1.2.2.2 + 1 ≤ ((max hw (c + 1) : Nat) : Int)
    omega
  · show v'.2.1 j = f (va_up g.2.2.1 g.2.1.2.2.2.toNat g.1 j)
    have ec : g.2.1.2.2.2.toNat = c := by omega
    rw [ec]
    by_cases e : j = c
    · rw [e, va_up_at]; exact e2
    · rw [va_up_of e, e3 j (by omega) e]
      exact a3 j (by omega)
  · refine hz _ (fun h q k => absurd k q) (pok_mono a4 (fun x hx hk => ⟨(hx hk).1.trans (e4 x), (hx hk).2.1, ?_⟩))
    have := (hx hk).2.2
    show (g.2.2.2 x).2.2.2 ≤ ((max hw (c + 1) : Nat) : Int)
    omega
theorem grl_asg {z l : Int} {x : Int64} (h : grl X f hw g v) (hz : ∀ P : Nat → Prop, (∀ h, ¬ kmk X h → P h) → pok X P g.1 → pok X P z) : grl X f hw (z, asg g.2.1 l x, g.2.2) (asg v.1 l x, v.2) := by
  obtain ⟨a1, a2, a3, a4⟩ := h
  refine ⟨meq_asg a1 l x, ?_, a3, hz _ (fun h q k => absurd k q) a4⟩
  show 0 ≤ (asg g.2.1 l x).2.2.2 ∧ (asg g.2.1 l x).2.2.2 ≤ (hw : Int)
  unfold asg
  split
  · exact a2
  · split <;> exact a2
/-- back to the mark of x -/
theorem grl_back {z : Int} {x : Nat} (h : grl X f hw g v) (hx : meq (g.2.2.2 x) (v.2.2 x) ∧ 0 ≤ (g.2.2.2 x).2.2.2 ∧ (g.2.2.2 x).2.2.2 ≤ (hw : Int)) (hz : ∀ P : Nat → Prop, (∀ h, ¬ kmk X h → P h) → pok X P g.1 → pok X P z) : grl X f hw (z, g.2.2.2 x, g.2.2) (v.2.2 x, v.2) := by
  obtain ⟨a1, a2, a3, a4⟩ := h
  exact ⟨hx.1, hx.2, a3, hz _ (fun h q k => absurd k q) a4⟩
end GR
