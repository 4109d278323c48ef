/-- the bodies that are open: owners and parts -/
abbrev skT : Type := List (Nat × Int)
def zow : skT → Int
  | [] => -1
  | e :: _ => (e.1 : Int)
def zpt : skT → Int
  | [] => 0
  | e :: _ => e.2
/-- the link that is open is f: l is the last statement of the innermost body -/
def lkq (X : txT) (en : Int) (σ : skT) (l f : Int) : Prop := (l ≠ -1 → X.1 6 l.toNat = f) ∧ (l = -1 → (σ = [] → en = f) ∧ (∀ e ρ, σ = e :: ρ → (e.2 = 0 → X.1 7 e.1 = f) ∧ (e.2 = 1 → X.1 8 e.1 = f)))
abbrev zrT : Type := Nat → Nat → Nat → Nat → Prop
def zb (κ ν : Nat → Int) (X : txT) (d : Nat) (R : zrT) (o j s c u : Nat) : Prop := ∃ j' s' c' u', dB κ ν X (8 - d) o 1 j s c j' s' c' (X.1 8 o) u' ∧ R j' s' c' (u + u')
/-- behind the end of a body -/
def zc (κ ν : Nat → Int) (X : txT) (d : Nat) (R : zrT) (o : Nat) (q : Int) (j s c u : Nat) : Prop :=
  (q = 1 ∧ R j s c u) ∨ (q = 0 ∧ ((X.1 0 o = 12 ∧ X.1 8 o = -1 ∧ R j s c u) ∨ (X.1 0 o = 10 ∧ κ j ≠ 11 ∧ X.1 8 o = -1 ∧ R j s c u) ∨ (X.1 0 o = 10 ∧ κ j = 11 ∧ zb κ ν X d R o (j + 1) s c u) ∨ (X.1 0 o = 15 ∧ κ j = 16 ∧ zb κ ν X d R o (j + 1) s c u) ∨ (X.1 0 o = 17 ∧ κ j = 18 ∧ (κ (j + 1) = 1 ∧ 16 ≤ ν (j + 1) ∧ X.1 1 o = ν (j + 1)) ∧ zb κ ν X d R o (j + 2) s c u)))
/-- what is left: S statements, C pieces of code in all -/
def zr (κ ν : Nat → Int) (X : txT) (en : Int) (S C : Nat) : skT → Int → zrT
  | [], l => fun i s c u => ∃ n j f u', dSs κ ν X (dB κ ν X 8) (-1) 0 0 n i s c j S C f u' ∧ lkq X en [] l f ∧ κ j = 0 ∧ u + u' ≤ 60
  | e :: ρ, l => fun i s c u => ∃ n j s' c' f u', dSs κ ν X (dB κ ν X (8 - (ρ.length + 1))) (e.1 : Int) e.2 ((ρ.length + 1 : Nat) : Int) n i s c j s' c' f u' ∧ lkq X en (e :: ρ) l f ∧ κ j = 125 ∧ zc κ ν X ρ.length (zr κ ν X en S C ρ (e.1 : Int)) e.1 e.2 (j + 1) s' c' (u + u')
section ZR
variable {κ ν : Nat → Int} {X : txT} {en : Int} {S C : Nat}
theorem zc_le {R : zrT} {d o : Nat} {q : Int} {j s c u : Nat} (hR : ∀ i s c u, R i s c u → s ≤ S ∧ c ≤ C ∧ u ≤ 60) (h : zc κ ν X d R o q j s c u) : s ≤ S ∧ c ≤ C ∧ u ≤ 60 := by
  have hb : ∀ j, zb κ ν X d R o j s c u → s ≤ S ∧ c ≤ C ∧ u ≤ 60 := by
    rintro j ⟨j', s', c', u', h1, h2⟩
    have a := (dB.congr (X' := X) _ _ _ _ _ _ _ _ _ _ _ h1).1
    have b := hR _ _ _ _ h2
    clear h1 h2 hR h
    omega
  rcases h with ⟨_, h⟩ | ⟨_, ⟨_, _, h⟩ | ⟨_, _, _, h⟩ | ⟨_, _, h⟩ | ⟨_, _, h⟩ | ⟨_, _, _, h⟩⟩
  · exact hR _ _ _ _ h
  · exact hR _ _ _ _ h
  · exact hR _ _ _ _ h
  · exact hb _ h
  · exact hb _ h
  · exact hb _ h
theorem zr_le : ∀ (σ : skT) (l : Int) (i s c u : Nat), zr κ ν X en S C σ l i s c u → s ≤ S ∧ c ≤ C ∧ u ≤ 60
  | [], l, i, s, c, u, h => by
    obtain ⟨n, j, f, u', h1, -, -, h4⟩ := h
    have a := (dSs.congr (X' := X) (dB.congr 8) _ _ _ _ _ _ _ _ _ h1).1
    clear h1
    omega
  | e :: ρ, l, i, s, c, u, h => by
    obtain ⟨n, j, s', c', f, u', h1, -, -, h4⟩ := h
    have a := (dSs.congr (X' := X) (dB.congr _) _ _ _ _ _ _ _ _ _ h1).1
    have b := zc_le (zr_le ρ _) h4
    clear h1 h4
    omega
theorem dT_kd {B : bxT} {par part dep : Int} {i s cc j s' cc' u : Nat} (h : dT κ ν X B par part dep i s cc j s' cc' u) : knd (κ i) := by
  rcases h.2 with ⟨k, -⟩ | ⟨k, -⟩ | ⟨k, -⟩ | ⟨k, -⟩ | ⟨k, -⟩ | ⟨k, -⟩ | ⟨k, -⟩ | ⟨k, -⟩ <;> (unfold knd; omega)
theorem zr_step {σ : skT} {l : Int} {i s c u : Nat} (h : zr κ ν X en S C σ l i s c u) (hk : ¬ (κ i = 0 ∧ σ = [])) (hk2 : ¬ (κ i = 125 ∧ σ ≠ [])) : ∃ j1 s1 c1 u1, dT κ ν X (dB κ ν X (8 - σ.length)) (zow σ) (zpt σ) (σ.length : Int) i s c j1 s1 c1 u1 ∧ lkq X en σ l (s : Int) ∧ zr κ ν X en S C σ (s : Int) j1 s1 c1 (u + u1) := by
  cases σ with
  | nil =>
    obtain ⟨n, j, f, u', h1, h2, h3, h4⟩ := h
    cases n with
    | zero =>
      obtain ⟨rfl, -⟩ := h1
      exact absurd ⟨h3, rfl⟩ hk
    | succ n =>
      obtain ⟨rfl, j1, s1, c1, u1, f2, u2, d1, d2, d3, rfl⟩ := h1
      exact ⟨j1, s1, c1, u1, d1, h2, n, j, f2, u2, d2, ⟨fun _ => d3, fun q => absurd q (by omega)⟩, h3, by omega⟩
  | cons e ρ =>
    obtain ⟨n, j, s', c', f, u', h1, h2, h3, h4⟩ := h
    cases n with
    | zero =>
      obtain ⟨rfl, -⟩ := h1
      exact absurd ⟨h3, fun w => by cases w⟩ hk2
    | succ n =>
      obtain ⟨rfl, j1, s1, c1, u1, f2, u2, d1, d2, d3, rfl⟩ := h1
      exact ⟨j1, s1, c1, u1, d1, h2, n, j, s', c', f2, u2, d2, ⟨fun _ => d3, fun q => absurd q (by omega)⟩, h3, by rw [Nat.add_assoc]; exact h4⟩
theorem zr_end {l : Int} {i s c u : Nat} (h : zr κ ν X en S C [] l i s c u) (hk : κ i = 0) : s = S ∧ c = C ∧ lkq X en [] l (-1) := by
  obtain ⟨n, j, f, u', h1, h2, h3, h4⟩ := h
  cases n with
  | zero =>
    obtain ⟨-, rfl, rfl, rfl, -⟩ := h1
    exact ⟨rfl, rfl, h2⟩
  | succ n =>
    obtain ⟨-, j1, s1, c1, u1, f2, u2, d1, -⟩ := h1
    have := dT_kd d1
    unfold knd at this
    omega
theorem zr_close {e : Nat × Int} {ρ : skT} {l : Int} {i s c u : Nat} (h : zr κ ν X en S C (e :: ρ) l i s c u) (hk : κ i = 125) : lkq X en (e :: ρ) l (-1) ∧ zc κ ν X ρ.length (zr κ ν X en S C ρ (e.1 : Int)) e.1 e.2 (i + 1) s c u := by
  obtain ⟨n, j, s', c', f, u', h1, h2, h3, h4⟩ := h
  cases n with
  | zero =>
    obtain ⟨rfl, rfl, rfl, rfl, rfl⟩ := h1
    exact ⟨h2, h4⟩
  | succ n =>
    obtain ⟨-, j1, s1, c1, u1, f2, u2, d1, -⟩ := h1
    have := dT_kd d1
    unfold knd at this
    omega
theorem zr_open {σ : skT} {o : Nat} {q : Int} {i s c j s' c' u u' : Nat} {first : Int} (h : dB κ ν X (8 - σ.length) o q i s c j s' c' first u') (hf : (q = 0 ∧ X.1 7 o = first) ∨ (q = 1 ∧ X.1 8 o = first)) (hz : zc κ ν X σ.length (zr κ ν X en S C σ (o : Int)) o q j s' c' (u + u')) : κ i = 123 ∧ σ.length < 8 ∧ zr κ ν X en S C ((o, q) :: σ) (-1) (i + 1) s c u := by
  have hl : σ.length < 8 := by
    by_cases w : σ.length < 8
    · exact w
    · rw [show 8 - σ.length = 0 by omega] at h
      exact h.elim
  obtain ⟨f, ef⟩ : ∃ f, 8 - σ.length = f + 1 := ⟨7 - σ.length, by omega⟩
  rw [ef] at h
  obtain ⟨h1, n, j1, h2, h3, rfl⟩ := h
  refine ⟨h1, hl, n, j1, s', c', first, u', ?_, ⟨fun w => absurd rfl w, fun _ => ⟨fun w => (by cases w), fun e ρ he => ?_⟩⟩, h3, hz⟩
  · have e1 : 8 - (σ.length + 1) = f := by omega
    have e2 : 8 - (f : Int) = ((σ.length + 1 : Nat) : Int) := by omega
    rw [e2] at h2
    rw [e1]
    exact h2
  · injection he with he1 he2
    subst he1
    rcases hf with ⟨q0, q1⟩ | ⟨q0, q1⟩
    · exact ⟨fun _ => q1, fun w => absurd (q0.symm.trans w) (by decide)⟩
    · exact ⟨fun w => absurd (q0.symm.trans w) (by decide), fun _ => q1⟩
end ZR
/-! THE REFERENCE'S STATEMENTS: its memory, newStatement() -/
def pnA : skT → Nat → Prop
  | [], _ => False
  | e :: ρ, x => x = e.1 ∨ pnA ρ x
def pn0 : skT → Nat → Prop
  | [], _ => False
  | e :: ρ, x => (x = e.1 ∧ e.2 = 0) ∨ pn0 ρ x
def ptp (q : Int) (σ : skT) (x : Nat) : Prop := (x : Int) = zow σ ∧ zpt σ = q
def okz : skT → Int → Prop
  | [], l => -1 ≤ l
  | e :: ρ, l => (l = -1 ∨ (e.1 : Int) < l) ∧ (e.2 = 0 ∨ e.2 = 1) ∧ okz ρ (e.1 : Int)
theorem okz_lo : ∀ (σ : skT) (l : Int), okz σ l → -1 ≤ l
  | [], _, h => h
  | e :: ρ, l, h => by
    have := h.1
    omega
theorem pnA_lt : ∀ (σ : skT) (l : Int) (x : Nat), okz σ l → pnA σ x → l = -1 ∨ (x : Int) < l
  | [], _, _, _, h => h.elim
  | e :: ρ, l, x, h, h' => by
    obtain ⟨a, -, b⟩ := h
    rcases h' with h' | h'
    · rcases a with a | a
      · exact Or.inl a
      · exact Or.inr (by omega)
    · have c := pnA_lt ρ _ x b h'
      clear b h'
      rcases a with a | a
      · exact Or.inl a
      · exact Or.inr (by omega)
theorem pn0_A : ∀ (σ : skT) (x : Nat), pn0 σ x → pnA σ x
  | [], _, h => h
  | _ :: ρ, x, h => h.elim (fun w => Or.inl w.1) (fun w => Or.inr (pn0_A ρ x w))
/-- the open bodies lie there -/
def skm (M : rf_M) (r : Nat) : skT → Int → Prop
  | [], l => gi M 373 0 = -1 ∧ gi M 374 0 = 0 ∧ gi M 375 0 = lf r l
  | e :: ρ, l => gi M 373 (ρ.length + 1) = lf r (e.1 : Int) ∧ gi M 374 (ρ.length + 1) = e.2 ∧ gi M 375 (ρ.length + 1) = lf r l ∧ skm M r ρ (e.1 : Int)
theorem skm.hd {M : rf_M} {r : Nat} : ∀ {σ : skT} {l : Int}, skm M r σ l → gi M 373 σ.length = lf r (zow σ) ∧ gi M 374 σ.length = zpt σ ∧ gi M 375 σ.length = lf r l
  | [], l, h => ⟨h.1.trans (lf_neg (by show (-1 : Int) < 0; omega)).symm, h.2.1, h.2.2⟩
  | e :: ρ, l, h => ⟨h.1, h.2.1, h.2.2.1⟩
theorem skm.eq {M M' : rf_M} {r : Nat} : ∀ {σ : skT} {l : Int}, skm M r σ l → (∀ b k, 373 ≤ b → b ≤ 375 → k ≤ σ.length → gi M' b k = gi M b k) → skm M' r σ l
  | [], l, h, q => ⟨(q _ _ (by omega) (by omega) (Nat.zero_le _)).trans h.1, (q _ _ (by omega) (by omega) (Nat.zero_le _)).trans h.2.1, (q _ _ (by omega) (by omega) (Nat.zero_le _)).trans h.2.2⟩
  | e :: ρ, l, h, q => ⟨(q _ _ (by omega) (by omega) (Nat.le_refl _)).trans h.1, (q _ _ (by omega) (by omega) (Nat.le_refl _)).trans h.2.1, (q _ _ (by omega) (by omega) (Nat.le_refl _)).trans h.2.2.1, skm.eq h.2.2.2 (fun b k b1 b2 b3 => q b k b1 b2 (Nat.le_succ_of_le b3))⟩
theorem skm.top {M M' : rf_M} {r : Nat} {l' : Int} : ∀ {σ : skT} {l : Int}, skm M r σ l → (∀ b k, 373 ≤ b → b ≤ 375 → ¬ (b = 375 ∧ k = σ.length) → gi M' b k = gi M b k) → gi M' 375 σ.length = lf r l' → skm M' r σ l'
  | [], l, h, q, t => ⟨(q _ _ (by omega) (by omega) (by omega)).trans h.1, (q _ _ (by omega) (by omega) (by omega)).trans h.2.1, t⟩
  | e :: ρ, l, h, q, t => ⟨(q _ _ (by omega) (by omega) (by omega)).trans h.1, (q _ _ (by omega) (by omega) (by omega)).trans h.2.1, t, h.2.2.2.eq (fun b k b1 b2 b3 => q b k b1 b2 (fun w => by
    have := w.2
    rw [List.length_cons] at this
    omega))⟩
/-- a statement that lies there; p1 .. p5: links, letter, exp that are still to come -/
def srec (M : rf_M) (r : Nat) (X : txT) (p1 p2 p3 p4 p5 : Prop) (x : Nat) : Prop :=
  (gi M 360 (40 * r + x) = kf (X.1 0 x) ∧ gi M 362 (40 * r + x) = lf r (X.1 3 x) ∧ gi M 363 (40 * r + x) = X.1 4 x ∧ knd (X.1 0 x)) ∧
  ((kxp (X.1 0 x) ∧ ¬ p5 → gi M 364 (40 * r + x) = 200 * (r : Int) + X.1 2 x) ∧ (¬ (kxp (X.1 0 x) ∧ ¬ p5) → gi M 364 (40 * r + x) = -1)) ∧
  ((p1 → gi M 361 (40 * r + x) = -1) ∧ (¬ p1 → gi M 361 (40 * r + x) = lf r (X.1 6 x))) ∧
  ((p2 → gi M 365 (40 * r + x) = -1) ∧ (¬ p2 → gi M 365 (40 * r + x) = lf r (X.1 7 x))) ∧
  ((p3 → gi M 366 (40 * r + x) = -1) ∧ (¬ p3 → gi M 366 (40 * r + x) = lf r (X.1 8 x))) ∧
  (X.1 0 x = 1 ∨ (X.1 0 x = 17 ∧ ¬ p4) → gi M 367 (40 * r + x) = X.1 1 x)
section SRC
variable {M M' : rf_M} {r x : Nat} {X : txT} {p1 p2 p3 p4 p5 q1 q2 q3 q4 q5 : Prop}
theorem srec.eq (h : srec M r X p1 p2 p3 p4 p5 x) (e : ∀ b, 360 ≤ b → b ≤ 367 → gi M' b (40 * r + x) = gi M b (40 * r + x)) : srec M' r X p1 p2 p3 p4 p5 x := by
  unfold srec at h ⊢
  rw [e 360 (by omega) (by omega), e 361 (by omega) (by omega), e 362 (by omega) (by omega), e 363 (by omega) (by omega), e 364 (by omega) (by omega), e 365 (by omega) (by omega), e 366 (by omega) (by omega), e 367 (by omega) (by omega)]
  exact h
theorem srec.cg (h : srec M r X p1 p2 p3 p4 p5 x) (e1 : q1 ↔ p1) (e2 : q2 ↔ p2) (e3 : q3 ↔ p3) (e4 : q4 ↔ p4) (e5 : q5 ↔ p5) : srec M r X q1 q2 q3 q4 q5 x := by
  obtain rfl := propext e1
  obtain rfl := propext e2
  obtain rfl := propext e3
  obtain rfl := propext e4
  obtain rfl := propext e5
  exact h
theorem srec.set (h : srec M r X p1 p2 p3 p4 p5 x) (e : ∀ b, b = 360 ∨ b = 362 ∨ b = 363 ∨ b = 364 ∨ b = 367 → gi M' b (40 * r + x) = gi M b (40 * r + x)) (h1 : (q1 → gi M' 361 (40 * r + x) = -1) ∧ (¬ q1 → gi M' 361 (40 * r + x) = lf r (X.1 6 x))) (h2 : (q2 → gi M' 365 (40 * r + x) = -1) ∧ (¬ q2 → gi M' 365 (40 * r + x) = lf r (X.1 7 x))) (h3 : (q3 → gi M' 366 (40 * r + x) = -1) ∧ (¬ q3 → gi M' 366 (40 * r + x) = lf r (X.1 8 x))) : srec M' r X q1 q2 q3 p4 p5 x := by
  obtain ⟨a, b, -, -, -, g⟩ := h
  unfold srec
  rw [e 360 (by omega), e 362 (by omega), e 363 (by omega), e 364 (by omega), e 367 (by omega)]
  exact ⟨a, b, h1, h2, h3, g⟩
end SRC
def scod (M : rf_M) (r : Nat) (X : txT) (c : Nat) : Prop := ∀ k, k < c → gi M 368 (200 * r + k) = af (X.2.1 k) ∧ (X.2.1 k = 2 → gi M 369 (200 * r + k) = X.2.2 k) ∧ (X.2.1 k = 1 → gl M 370 (200 * r + k) = (Int32.ofInt (X.2.2 k)).toInt64)
/-- s statements, c pieces of code lie there; σ, l: what is open -/
def smem (M : rf_M) (r : Nat) (X : txT) (en : Int) (σ : skT) (l : Int) (s c pe : Nat) : Prop :=
  ((σ = [] ∧ l = -1 → gi M 358 r = -1) ∧ (¬ (σ = [] ∧ l = -1) → gi M 358 r = lf r en)) ∧
  (∀ x, x < s → srec M r X (pnA σ x ∨ (x : Int) = l) (ptp 0 σ x ∧ l = -1) (pn0 σ x ∨ (ptp 1 σ x ∧ l = -1)) (pn0 σ x) (x = pe) x) ∧ scod M r X c
def sB (M : rf_M) (r : Nat) (σ : skT) (l : Int) : Prop := gi M 353 37 = (σ.length : Int) ∧ σ.length ≤ 8 ∧ skm M r σ l
def teW (r : Nat) (a k : Nat) : Prop := (a = 353 ∧ ((3 ≤ k ∧ k ≤ 10) ∨ k = 30 ∨ k = 31 ∨ k = 33 ∨ k = 37)) ∨ ((355 ≤ a ∧ a ≤ 359) ∧ k = r) ∨ ((360 ≤ a ∧ a ≤ 367) ∧ 40 * r ≤ k) ∨ ((a = 368 ∨ a = 369 ∨ a = 370) ∧ 200 * r ≤ k) ∨ (371 ≤ a ∧ a ≤ 375)
def sA (T : tK) (r : Nat) (M0 M : rf_M) (i s c u : Nat) : Prop := (mtv M T i ∧ (gi M 353 28 = (r : Int) ∧ r < 12) ∧ eqy (teW r) M0 M ∧ gi M 353 9 = 0) ∧ (gi M 355 r = (s : Int) ∧ gi M 356 r = (u : Int) ∧ gi M 359 r = (c : Int) ∧ c ≤ 2400)
/-- a fault was found -/
def sfl (r : Nat) (M0 M : rf_M) : Prop := eqy (teW r) M0 M ∧ ¬ gi M 353 9 = 0
def nw8 (r s a k : Nat) : Prop := (a = 355 ∧ k = r) ∨ ((361 ≤ a ∧ a ≤ 367) ∧ k = 40 * r + s)
def nwW (r d a k : Nat) : Prop := ((a = 355 ∨ a = 358) ∧ k = r) ∨ ((361 ≤ a ∧ a ≤ 367) ∧ 40 * r ≤ k) ∨ (a = 375 ∧ k = d)
section WSM
variable {M M' M0 : rf_M} {T : tK} {r i s c u pe : Nat} {X : txT} {en l : Int} {σ : skT} {P : Nat → Nat → Prop}
theorem scod.eq (h : scod M r X c) (e : eqy P M M') (q : ∀ b k, 368 ≤ b → b ≤ 370 → 200 * r ≤ k → k < 200 * r + c → ¬ P b k) : scod M' r X c := fun k hk => by
  obtain ⟨h1, h2, h3⟩ := h k hk
  exact ⟨(e.i (q _ _ (by omega) (by omega) (by omega) (by omega))).trans h1, fun z => (e.i (q _ _ (by omega) (by omega) (by omega) (by omega))).trans (h2 z), fun z => (e.l (q _ _ (by omega) (by omega) (by omega) (by omega))).trans (h3 z)⟩
theorem smem.eq (h : smem M r X en σ l s c pe) (e : eqy P M M') (q : ∀ b k, (b = 358 ∧ k = r) ∨ ((360 ≤ b ∧ b ≤ 367) ∧ 40 * r ≤ k ∧ k < 40 * r + s) ∨ ((368 ≤ b ∧ b ≤ 370) ∧ 200 * r ≤ k ∧ k < 200 * r + c) → ¬ P b k) : smem M' r X en σ l s c pe := by
  obtain ⟨h1, h2, h3⟩ := h
  refine ⟨?_, fun x hx => (h2 x hx).eq (fun b b1 b2 => e.i (q _ _ (Or.inr (Or.inl ⟨⟨b1, b2⟩, by omega, by omega⟩)))), h3.eq e (fun b k b1 b2 b3 b4 => q b k (Or.inr (Or.inr ⟨⟨b1, b2⟩, b3, b4⟩)))⟩
  rw [e.i (q 358 r (Or.inl ⟨rfl, rfl⟩))]
  exact h1
theorem sB.eq (h : sB M r σ l) (e : eqy P M M') (q : ∀ b k, (b = 353 ∧ k = 37) ∨ (373 ≤ b ∧ b ≤ 375 ∧ k ≤ σ.length) → ¬ P b k) : sB M' r σ l := ⟨(e.i (q _ _ (Or.inl ⟨rfl, rfl⟩))).trans h.1, h.2.1, h.2.2.eq (fun b k b1 b2 b3 => e.i (q b k (Or.inr ⟨b1, b2, b3⟩)))⟩
theorem sA.fl (h : sA T r M0 M i s c u) (y : eqy (fun a k => a = 353 ∧ (k = 9 ∨ k = 10)) M M') (q : ¬ gi M' 353 9 = 0) : sfl r M0 M' := ⟨h.1.2.2.1.trans (y.mono (fun a k z => by unfold teW; omega)), q⟩
theorem sA.nx {i' : Nat} (h : sA T r M0 M i s c u) (y : eqy nxw M M') (hm : mtv M' T i') : sA T r M0 M' i' s c u := by
  obtain ⟨⟨a1, ⟨a2, a2'⟩, a3, a4⟩, b1, b2, b3, b4⟩ := h
  have g : ∀ a k, ¬ (a = 353 ∧ 3 ≤ k ∧ k ≤ 8) → gi M' a k = gi M a k := fun a k z => y.i z
  exact ⟨⟨hm, ⟨(g _ _ (by omega)).trans a2, a2'⟩, a3.trans (y.mono (fun a k z => by unfold nxw at z; unfold teW; omega)), (g _ _ (by omega)).trans a4⟩, (g _ _ (by omega)).trans b1, (g _ _ (by omega)).trans b2, (g _ _ (by omega)).trans b3, b4⟩
theorem sB.nx (h : sB M r σ l) (y : eqy nxw M M') : sB M' r σ l := h.eq y (fun b k z => by unfold nxw; omega)
theorem smem.nx (h : smem M r X en σ l s c pe) (y : eqy nxw M M') : smem M' r X en σ l s c pe := h.eq y (fun b k z => by unfold nxw; omega)
theorem y_new {K : Int → rf_M → Prop} (h28 : gi M 353 28 = (r : Int)) (hr : r < 12) (h55 : gi M 355 r = (s : Int)) (hs : s < 40) (hB : sB M r σ l) (ho : okz σ l) (hl : l < (s : Int)) (hw : zow σ < (s : Int)) (hlk : lkq X en σ l (s : Int)) (hm : smem M r X en σ l s c s)
    (kk : ∀ M', eqy (nwW r σ.length) M M' → gi M' 355 r = (s : Int) + 1 → sB M' r σ (s : Int) → (gi M' 361 (40 * r + s) = -1 ∧ gi M' 362 (40 * r + s) = lf r (zow σ) ∧ gi M' 363 (40 * r + s) = zpt σ ∧ gi M' 364 (40 * r + s) = -1 ∧ gi M' 365 (40 * r + s) = -1 ∧ gi M' 366 (40 * r + s) = -1) → smem M' r X en σ (s : Int) s c s → K (40 * (r : Int) + (s : Int)) M') : em_W_newStatement M K := by
  obtain ⟨b1, b2, b3⟩ := hB
  obtain ⟨t3, t4, t5⟩ := b3.hd
  have e0 : (gi M 353 28).toNat = r := by rw [h28]; omega
  have en' : (40 * (r : Int) + (s : Int)).toNat = 40 * r + s := by omega
  have iS : inr (40 * (r : Int) + (s : Int)) := inr_z (by omega) (by omega)
  have i1 : inr (-1) := inr_z (by omega) (by omega)
  have i3 : inr (lf r (zow σ)) := by rw [← t3]; exact inr_gi _ _ _
  have i4 : inr (zpt σ) := by rw [← t4]; exact inr_gi _ _ _
  show e_W_newStatement M K
  unfold e_W_newStatement
  rw [e0, h28, h55, en']
  intro _ _ _ M1 e1
  refine ⟨iS, fun hb M2 e2 _ _ M3 e3 _ _ M4 e4 _ M5 e5 _ M6 e6 _ M7 e7 _ M8 e8 _ _ => ?_⟩
  have y1 : eqy (nw8 r s) M M1 := by rw [e1]; exact (eqy.rfl' M).wi (Or.inl ⟨rfl, rfl⟩)
  have y2 : eqy (nw8 r s) M M2 := by rw [e2]; exact y1.wi (Or.inr ⟨by omega, rfl⟩)
  have y3 : eqy (nw8 r s) M M3 := by rw [e3]; exact y2.wi (Or.inr ⟨by omega, rfl⟩)
  have y4 : eqy (nw8 r s) M M4 := by rw [e4]; exact y3.wi (Or.inr ⟨by omega, rfl⟩)
  have y5 : eqy (nw8 r s) M M5 := by rw [e5]; exact y4.wi (Or.inr ⟨by omega, rfl⟩)
  have y6 : eqy (nw8 r s) M M6 := by rw [e6]; exact y5.wi (Or.inr ⟨by omega, rfl⟩)
  have y7 : eqy (nw8 r s) M M7 := by rw [e7]; exact y6.wi (Or.inr ⟨by omega, rfl⟩)
  have y8 : eqy (nw8 r s) M M8 := by rw [e8]; exact y7.wi (Or.inr ⟨by omega, rfl⟩)
  have g37 : ∀ {N : rf_M}, eqy (nw8 r s) M N → (gi N 353 37).toNat = σ.length := fun y => by rw [y.i (by unfold nw8; omega), b1]; omega
  have g3 : ∀ {N : rf_M}, eqy (nw8 r s) M N → gi N 373 σ.length = lf r (zow σ) := fun y => (y.i (by unfold nw8; omega)).trans t3
  have g4 : ∀ {N : rf_M}, eqy (nw8 r s) M N → gi N 374 σ.length = zpt σ := fun y => (y.i (by unfold nw8; omega)).trans t4
  have g5 : ∀ {N : rf_M}, eqy (nw8 r s) M N → gi N 375 σ.length = lf r l := fun y => (y.i (by unfold nw8; omega)).trans t5
  rw [g37 y2, g3 y2] at e3
  rw [g37 y3, g4 y3] at e4
  have f0 : gi M8 355 r = (s : Int) + 1 := by rw [e8, gi_of (Or.inl (by omega)), e7, gi_of (Or.inl (by omega)), e6, gi_of (Or.inl (by omega)), e5, gi_of (Or.inl (by omega)), e4, gi_of (Or.inl (by omega)), e3, gi_of (Or.inl (by omega)), e2, gi_of (Or.inl (by omega)), e1, gi_at (inr_z (by omega) (by omega))]
  have f1 : gi M8 361 (40 * r + s) = -1 := by rw [e8, gi_of (Or.inl (by omega)), e7, gi_of (Or.inl (by omega)), e6, gi_of (Or.inl (by omega)), e5, gi_of (Or.inl (by omega)), e4, gi_of (Or.inl (by omega)), e3, gi_of (Or.inl (by omega)), e2, gi_at i1]
  have f2 : gi M8 362 (40 * r + s) = lf r (zow σ) := by rw [e8, gi_of (Or.inl (by omega)), e7, gi_of (Or.inl (by omega)), e6, gi_of (Or.inl (by omega)), e5, gi_of (Or.inl (by omega)), e4, gi_of (Or.inl (by omega)), e3, gi_at i3]
  have f3 : gi M8 363 (40 * r + s) = zpt σ := by rw [e8, gi_of (Or.inl (by omega)), e7, gi_of (Or.inl (by omega)), e6, gi_of (Or.inl (by omega)), e5, gi_of (Or.inl (by omega)), e4, gi_at i4]
  have f4 : gi M8 364 (40 * r + s) = -1 := by rw [e8, gi_of (Or.inl (by omega)), e7, gi_of (Or.inl (by omega)), e6, gi_of (Or.inl (by omega)), e5, gi_at i1]
  have f5 : gi M8 365 (40 * r + s) = -1 := by rw [e8, gi_of (Or.inl (by omega)), e7, gi_of (Or.inl (by omega)), e6, gi_at i1]
  have f6 : gi M8 366 (40 * r + s) = -1 := by rw [e8, gi_of (Or.inl (by omega)), e7, gi_at i1]
  have e28 : (gi M8 353 28).toNat = r := by rw [y8.i (by unfold nw8; omega)]; exact e0
  have hm8 : smem M8 r X en σ l s c s := hm.eq y8 (fun b k z => by unfold nw8; omega)
  have fin : ∀ M9, eqy (fun a k => (a = 358 ∧ k = r) ∨ ((a = 361 ∨ a = 365 ∨ a = 366) ∧ 40 * r ≤ k ∧ k < 40 * r + s)) M8 M9 → smem M9 r X en σ (s : Int) s c s → e_W_newStatement_176 (40 * (r : Int) + (s : Int)) M9 K := by
    intro M9 y9 hm9 _ M' e'
    have q37 : (gi M9 353 37).toNat = σ.length := by rw [y9.i (by omega)]; exact g37 y8
    rw [q37] at e'
    have y' : eqy (fun a k => a = 375 ∧ k = σ.length) M9 M' := by rw [e']; exact (eqy.rfl' _).wi ⟨rfl, rfl⟩
    have g : ∀ b k, ¬ (b = 375 ∧ k = σ.length) → ¬ ((b = 358 ∧ k = r) ∨ ((b = 361 ∨ b = 365 ∨ b = 366) ∧ 40 * r ≤ k ∧ k < 40 * r + s)) → gi M' b k = gi M8 b k := fun b k z1 z2 => (y'.i z1).trans (y9.i z2)
    refine kk M' ?_ ((g _ _ (by omega) (by omega)).trans f0) ⟨?_, b2, b3.top (fun b k z1 z2 z3 => ?_) ?_⟩ ⟨(g _ _ (by omega) (by omega)).trans f1, (g _ _ (by omega) (by omega)).trans f2, (g _ _ (by omega) (by omega)).trans f3, (g _ _ (by omega) (by omega)).trans f4, (g _ _ (by omega) (by omega)).trans f5, (g _ _ (by omega) (by omega)).trans f6⟩ (hm9.eq y' (fun b k w => by omega))
    · exact ((y8.mono (fun a k z => by unfold nw8 at z; unfold nwW; omega)).trans (y9.mono (fun a k z => by unfold nwW; omega))).trans (y'.mono (fun a k z => by unfold nwW; omega))
    · rw [g _ _ (by omega) (by omega), y8.i (by unfold nw8; omega)]; exact b1
    · rw [g _ _ z3 (by omega), y8.i (by unfold nw8; omega)]
    · rw [e', gi_at iS, lf_nat]; omega
  rw [g37 y8, g5 y8, g3 y8, g4 y8, e28]
  by_cases hl1 : l = -1
  · subst hl1
    have n1 : lf r (-1) = -1 := lf_neg (by omega)
    refine ⟨fun _ => ?_, fun w => absurd (by rw [n1]; omega) w⟩
    cases σ with
    | nil =>
      refine ⟨fun w => absurd w (by show ¬ 0 ≤ lf r (-1); rw [n1]; omega), fun _ _ M11 e11 => ?_⟩
      have y11 : eqy (fun a k => a = 358 ∧ k = r) M8 M11 := by rw [e11]; exact (eqy.rfl' _).wi ⟨rfl, rfl⟩
      refine fin M11 (y11.mono (fun a k z => Or.inl z)) ⟨⟨fun w => absurd w.2 (by omega), fun _ => ?_⟩, fun x hx => ?_, hm8.2.2.eq y11 (fun b k z1 z2 z3 z4 => by omega)⟩
      · rw [e11, gi_at iS, (hlk.2 rfl).1 rfl, lf_nat]; omega
      · refine ((hm8.2.1 x hx).eq (fun b z1 z2 => y11.i (by omega))).cg ?_ ?_ ?_ Iff.rfl Iff.rfl
        · exact ⟨fun w => Or.inl (w.resolve_right (by omega)), fun w => Or.inl (w.resolve_right (by omega))⟩
        · exact ⟨fun w => absurd w.2 (by omega), fun w => absurd w.1.1 (by show ¬ ((x : Int) = -1); omega)⟩
        · exact ⟨fun w => absurd (w.resolve_left (fun z => z)).2 (by omega), fun w => absurd (w.resolve_left (fun z => z)).1.1 (by show ¬ ((x : Int) = -1); omega)⟩
    | cons e ρ =>
      obtain ⟨-, hq, hρ⟩ := ho
      have hw' : (e.1 : Int) < (s : Int) := hw
      have nz : ¬ pn0 ρ e.1 := fun w => by
        have := pnA_lt ρ _ _ hρ (pn0_A _ _ w)
        omega
      have ez : lf r (zow (e :: ρ)) = ((40 * r + e.1 : Nat) : Int) := lf_nat r e.1
      have lk2 := (hlk.2 rfl).2 e ρ rfl
      rw [ez, tn_]
      refine ⟨fun _ _ => ⟨fun q0 _ M10 e10 => ?_, fun q0 _ M10 e10 => ?_⟩, fun w => absurd (Int.natCast_nonneg _) w⟩
      · have q0 : e.2 = 0 := q0
        have y10 : eqy (fun a k => a = 365 ∧ k = 40 * r + e.1) M8 M10 := by rw [e10]; exact (eqy.rfl' _).wi ⟨rfl, rfl⟩
        refine fin M10 (y10.mono (fun a k z => by omega)) ⟨⟨fun w => absurd w.2 (by omega), fun _ => (y10.i (by omega)).trans (hm8.1.2 (fun w => by cases w.1))⟩, fun x hx => ?_, hm8.2.2.eq y10 (fun b k z1 z2 z3 z4 => by omega)⟩
        have R := hm8.2.1 x hx
        by_cases ex : x = e.1
        · refine R.set (fun b z => y10.i (by omega)) ⟨fun _ => (y10.i (by omega)).trans (R.2.2.1.1 (Or.inl (Or.inl ex))), fun w => absurd (Or.inl (Or.inl ex)) w⟩ ⟨fun w => absurd w.2 (by omega), fun _ => ?_⟩ ⟨fun _ => (y10.i (by omega)).trans (R.2.2.2.2.1.1 (Or.inl (Or.inl ⟨ex, q0⟩))), fun w => absurd (Or.inl (Or.inl ⟨ex, q0⟩)) w⟩
          rw [ex, e10, gi_at iS, lk2.1 q0, lf_nat]; omega
        · refine (R.eq (fun b z1 z2 => y10.i (by omega))).cg ?_ ?_ ?_ Iff.rfl Iff.rfl
          · exact ⟨fun w => Or.inl (w.resolve_right (by omega)), fun w => Or.inl (w.resolve_right (by omega))⟩
          · exact ⟨fun w => absurd w.2 (by omega), fun w => absurd w.1.1 (by show ¬ ((x : Int) = (e.1 : Int)); omega)⟩
          · exact ⟨fun w => Or.inl (w.resolve_right (fun w => absurd w.2 (by omega))), fun w => Or.inl (w.resolve_right (fun w => absurd w.1.1 (by show ¬ ((x : Int) = (e.1 : Int)); omega)))⟩
      · have q0 : ¬ e.2 = 0 := q0
        have q1 : e.2 = 1 := by omega
        have y10 : eqy (fun a k => a = 366 ∧ k = 40 * r + e.1) M8 M10 := by rw [e10]; exact (eqy.rfl' _).wi ⟨rfl, rfl⟩
        refine fin M10 (y10.mono (fun a k z => by omega)) ⟨⟨fun w => absurd w.2 (by omega), fun _ => (y10.i (by omega)).trans (hm8.1.2 (fun w => by cases w.1))⟩, fun x hx => ?_, hm8.2.2.eq y10 (fun b k z1 z2 z3 z4 => by omega)⟩
        have R := hm8.2.1 x hx
        by_cases ex : x = e.1
        · have nz' : ¬ pn0 (e :: ρ) x := fun w => w.elim (fun w => q0 w.2) (fun w => nz (ex ▸ w))
          refine R.set (fun b z => y10.i (by omega)) ⟨fun _ => (y10.i (by omega)).trans (R.2.2.1.1 (Or.inl (Or.inl ex))), fun w => absurd (Or.inl (Or.inl ex)) w⟩ ⟨fun w => absurd w.2 (by omega), fun _ => (y10.i (by omega)).trans (R.2.2.2.1.2 (fun w => q0 w.1.2))⟩ ⟨fun w => absurd (w.resolve_left nz').2 (by omega), fun _ => ?_⟩
          rw [ex, e10, gi_at iS, lk2.2 q1, lf_nat]; omega
        · refine (R.eq (fun b z1 z2 => y10.i (by omega))).cg ?_ ?_ ?_ Iff.rfl Iff.rfl
          · exact ⟨fun w => Or.inl (w.resolve_right (by omega)), fun w => Or.inl (w.resolve_right (by omega))⟩
          · exact ⟨fun w => absurd w.2 (by omega), fun w => absurd w.1.1 (by show ¬ ((x : Int) = (e.1 : Int)); omega)⟩
          · exact ⟨fun w => Or.inl (w.resolve_right (fun w => absurd w.2 (by omega))), fun w => Or.inl (w.resolve_right (fun w => absurd w.1.1 (by show ¬ ((x : Int) = (e.1 : Int)); omega)))⟩
  · obtain ⟨x0, rfl⟩ : ∃ x0 : Nat, l = (x0 : Int) := ⟨l.toNat, by have := okz_lo σ l ho; omega⟩
    rw [lf_nat, tn_]
    refine ⟨fun w => absurd w (by omega), fun _ _ M12 e12 => ?_⟩
    have y12 : eqy (fun a k => a = 361 ∧ k = 40 * r + x0) M8 M12 := by rw [e12]; exact (eqy.rfl' _).wi ⟨rfl, rfl⟩
    refine fin M12 (y12.mono (fun a k z => by omega)) ⟨⟨fun w => absurd w.2 (by omega), fun _ => (y12.i (by omega)).trans (hm8.1.2 (fun w => absurd w.2 (by omega)))⟩, fun x hx => ?_, hm8.2.2.eq y12 (fun b k z1 z2 z3 z4 => by omega)⟩
    have R := hm8.2.1 x hx
    by_cases ex : x = x0
    · subst ex
      refine R.set (fun b z => y12.i (by omega)) ⟨fun w => ?_, fun _ => ?_⟩ ⟨fun w => absurd w.2 (by omega), fun _ => (y12.i (by omega)).trans (R.2.2.2.1.2 (fun w => absurd w.2 (by omega)))⟩ ⟨fun w => (y12.i (by omega)).trans (R.2.2.2.2.1.1 (Or.inl (w.resolve_right (fun w => absurd w.2 (by omega))))), fun w => (y12.i (by omega)).trans (R.2.2.2.2.1.2 (fun w' => w (Or.inl (w'.resolve_right (fun w => absurd w.2 (by omega))))))⟩
      · have := pnA_lt σ _ _ ho (w.resolve_right (by omega))
        omega
      · rw [e12, gi_at iS]
        have lk1 : X.1 6 x = (s : Int) := hlk.1 hl1
        rw [lk1, lf_nat]; omega
    · refine (R.eq (fun b z1 z2 => y12.i (by omega))).cg ?_ ?_ ?_ Iff.rfl Iff.rfl
      · exact ⟨fun w => Or.inl (w.resolve_right (by omega)), fun w => Or.inl (w.resolve_right (by omega))⟩
      · exact ⟨fun w => absurd w.2 (by omega), fun w => absurd w.2 (by omega)⟩
      · exact ⟨fun w => Or.inl (w.resolve_right (fun w => absurd w.2 (by omega))), fun w => Or.inl (w.resolve_right (fun w => absurd w.2 (by omega)))⟩
end WSM
/-! THE REFERENCE'S STATEMENTS: take, takeWord, openBody, exps -/
