/-! code of an exp: no end within, a number or a letter first; what is left of a text -/
def hdc (c : cdT) : Prop := (∀ q ∈ c, q.1 ≠ 0) ∧ ∃ q c', c = q :: c' ∧ (q.1 = 1 ∨ q.1 = 2)
section GR3
variable {κ ν : Nat → Int} {ir : Bool} {U : rxT}
theorem hdc.app {c d : cdT} (h : hdc c) (h' : ∀ q ∈ d, q.1 ≠ 0) : hdc (c ++ d) := by
  obtain ⟨h1, q, c', rfl, h2⟩ := h
  refine ⟨fun x hx => ?_, q, c' ++ d, rfl, h2⟩
  rcases List.mem_append.mp hx with hx | hx
  · exact h1 x hx
  · exact h' x hx
theorem dL_hd {op : Int → Prop} (ho : ∀ o, op o → o ≠ 0) (hU : ∀ i j c u, U i j c u → hdc c) : ∀ (n i j : Nat) (c : cdT) (u : Nat), dL κ op U n i j c u → ∀ q ∈ c, q.1 ≠ 0
  | 0, i, j, c, u, h => by
    obtain ⟨-, rfl, rfl⟩ := h
    intro q hq
    cases hq
  | n + 1, i, j, c, u, h => by
    obtain ⟨j1, c1, u1, c2, u2, h1, h2, h3, rfl, rfl⟩ := h
    intro q hq
    rcases List.mem_append.mp hq with hq | hq
    · exact (hU _ _ _ _ h2).1 q hq
    · rcases List.mem_cons.mp hq with rfl | hq
      · exact ho _ h1
      · exact dL_hd ho hU n _ _ _ _ h3 q hq
theorem dP_hd (hU : ∀ i j c u, U i j c u → hdc c) : ∀ i j c u, dP κ U i j c u → hdc c := by
  rintro i j c u ⟨j1, c1, u1, n, c2, u2, h1, h2, rfl, rfl⟩
  exact (hU _ _ _ _ h1).app (dL_hd (fun o h => by unfold mop at h; omega) hU _ _ _ _ _ h2)
theorem dS_hd (hU : ∀ i j c u, U i j c u → hdc c) : ∀ i j c u, dS κ U i j c u → hdc c := by
  rintro i j c u ⟨j1, c1, u1, n, c2, u2, h1, h2, rfl, rfl⟩
  exact (dP_hd hU _ _ _ _ h1).app (dL_hd (fun o h => by unfold aop at h; omega) (dP_hd hU) _ _ _ _ _ h2)
theorem dE_hd (hU : ∀ i j c u, U i j c u → hdc c) : ∀ i j c u, dE κ U i j c u → hdc c := by
  rintro i j c u (h | ⟨j1, c1, u1, c2, u2, h1, h2, h3, rfl, rfl⟩)
  · exact dS_hd hU _ _ _ _ h
  · refine (dS_hd hU _ _ _ _ h1).app (fun q hq => ?_)
    rcases List.mem_append.mp hq with hq | hq
    · exact (dS_hd hU _ _ _ _ h3).1 q hq
    · have : q = (κ j1, 0) := by simpa using hq
      rw [this]
      show κ j1 ≠ 0
      unfold cop at h2
      omega
theorem dF_hd : ∀ i j c u, dF κ ν ir i j c u → hdc c := by
  rintro i j c u ⟨h, -, rfl⟩
  rcases h with ⟨h, rfl⟩ | ⟨h, -, rfl⟩
  · refine ⟨fun q hq => ?_, _, _, rfl, Or.inl rfl⟩
    have : q = (1, ν i) := by simpa using hq
    rw [this]
    show (1 : Int) ≠ 0
    decide
  · refine ⟨fun q hq => ?_, _, _, rfl, Or.inr rfl⟩
    have : q = (2, ν i) := by simpa using hq
    rw [this]
    show (2 : Int) ≠ 0
    decide
theorem dU_hd : ∀ (f i j : Nat) (c : cdT) (u : Nat), dU κ ν ir f i j c u → hdc c
  | 0, i, j, c, u, h => dF_hd i j c u h
  | f + 1, i, j, c, u, h => by
    rcases h with h | ⟨_, c1, u1, h, rfl, rfl⟩ | ⟨_, j1, u1, h, _, _, rfl⟩
    · exact dF_hd i j c u h
    · refine (dU_hd f _ _ _ _ h).app (fun q hq => ?_)
      have : q = (3, 0) := by simpa using hq
      rw [this]
      show (3 : Int) ≠ 0
      decide
    · exact dE_hd (dU_hd f) _ _ _ _ h
end GR3
/-- the bodies that are open: owners and parts -/
abbrev skT : Type := List (Nat × Int)
def zow : skT → Int
  | [] => -1
  | e :: _ => (e.1 : Int)
def zpt : skT → Int
  | [] => 0
  | e :: _ => e.2
/-- the link that is open is f: l is the last statement of the innermost body -/
def lkq (X : txT) (en : Int) (σ : skT) (l f : Int) : Prop := (l ≠ -1 → X.1 6 l.toNat = f) ∧ (l = -1 → (σ = [] → en = f) ∧ (∀ e ρ, σ = e :: ρ → (e.2 = 0 → X.1 7 e.1 = f) ∧ (e.2 = 1 → X.1 8 e.1 = f)))
abbrev zrT : Type := Nat → Nat → Nat → Nat → Prop
def zb (κ ν : Nat → Int) (X : txT) (d : Nat) (R : zrT) (o j s c u : Nat) : Prop := ∃ j' s' c' u', dB κ ν X (8 - d) o 1 j s c j' s' c' (X.1 8 o) u' ∧ R j' s' c' (u + u')
/-- behind the end of a body -/
def zc (κ ν : Nat → Int) (X : txT) (d : Nat) (R : zrT) (o : Nat) (q : Int) (j s c u : Nat) : Prop :=
  (q = 1 ∧ R j s c u) ∨ (q = 0 ∧ ((X.1 0 o = 12 ∧ X.1 8 o = -1 ∧ R j s c u) ∨ (X.1 0 o = 10 ∧ κ j ≠ 11 ∧ X.1 8 o = -1 ∧ R j s c u) ∨ (X.1 0 o = 10 ∧ κ j = 11 ∧ zb κ ν X d R o (j + 1) s c u) ∨ (X.1 0 o = 15 ∧ κ j = 16 ∧ zb κ ν X d R o (j + 1) s c u) ∨ (X.1 0 o = 17 ∧ κ j = 18 ∧ (κ (j + 1) = 1 ∧ 16 ≤ ν (j + 1) ∧ X.1 1 o = ν (j + 1)) ∧ zb κ ν X d R o (j + 2) s c u)))
/-- what is left: S statements, C pieces of code in all -/
def zr (κ ν : Nat → Int) (X : txT) (en : Int) (S C : Nat) : skT → Int → zrT
  | [], l => fun i s c u => ∃ n j f u', dSs κ ν X (dB κ ν X 8) (-1) 0 0 n i s c j S C f u' ∧ lkq X en [] l f ∧ κ j = 0 ∧ u + u' ≤ 60
  | e :: ρ, l => fun i s c u => ∃ n j s' c' f u', dSs κ ν X (dB κ ν X (8 - (ρ.length + 1))) (e.1 : Int) e.2 ((ρ.length + 1 : Nat) : Int) n i s c j s' c' f u' ∧ lkq X en (e :: ρ) l f ∧ κ j = 125 ∧ zc κ ν X ρ.length (zr κ ν X en S C ρ (e.1 : Int)) e.1 e.2 (j + 1) s' c' (u + u')
section ZR
variable {κ ν : Nat → Int} {X : txT} {en : Int} {S C : Nat}
theorem zc_le {R : zrT} {d o : Nat} {q : Int} {j s c u : Nat} (hR : ∀ i s c u, R i s c u → s ≤ S ∧ c ≤ C ∧ u ≤ 60) (h : zc κ ν X d R o q j s c u) : s ≤ S ∧ c ≤ C ∧ u ≤ 60 := by
  have hb : ∀ j, zb κ ν X d R o j s c u → s ≤ S ∧ c ≤ C ∧ u ≤ 60 := by
    rintro j ⟨j', s', c', u', h1, h2⟩
    have a := (dB.congr (X' := X) _ _ _ _ _ _ _ _ _ _ _ h1).1
    have b := hR _ _ _ _ h2
    clear h1 h2 hR h
    omega
  rcases h with ⟨_, h⟩ | ⟨_, ⟨_, _, h⟩ | ⟨_, _, _, h⟩ | ⟨_, _, h⟩ | ⟨_, _, h⟩ | ⟨_, _, _, h⟩⟩
  · exact hR _ _ _ _ h
  · exact hR _ _ _ _ h
  · exact hR _ _ _ _ h
  · exact hb _ h
  · exact hb _ h
  · exact hb _ h
theorem zr_le : ∀ (σ : skT) (l : Int) (i s c u : Nat), zr κ ν X en S C σ l i s c u → s ≤ S ∧ c ≤ C ∧ u ≤ 60
  | [], l, i, s, c, u, h => by
    obtain ⟨n, j, f, u', h1, -, -, h4⟩ := h
    have a := (dSs.congr (X' := X) (dB.congr 8) _ _ _ _ _ _ _ _ _ h1).1
    clear h1
    omega
  | e :: ρ, l, i, s, c, u, h => by
    obtain ⟨n, j, s', c', f, u', h1, -, -, h4⟩ := h
    have a := (dSs.congr (X' := X) (dB.congr _) _ _ _ _ _ _ _ _ _ h1).1
    have b := zc_le (zr_le ρ _) h4
    clear h1 h4
    omega
theorem dT_kd {B : bxT} {par part dep : Int} {i s cc j s' cc' u : Nat} (h : dT κ ν X B par part dep i s cc j s' cc' u) : knd (κ i) := by
  rcases h.2 with ⟨k, -⟩ | ⟨k, -⟩ | ⟨k, -⟩ | ⟨k, -⟩ | ⟨k, -⟩ | ⟨k, -⟩ | ⟨k, -⟩ | ⟨k, -⟩ <;> (unfold knd; omega)
theorem zr_step {σ : skT} {l : Int} {i s c u : Nat} (h : zr κ ν X en S C σ l i s c u) (hk : ¬ (κ i = 0 ∧ σ = [])) (hk2 : ¬ (κ i = 125 ∧ σ ≠ [])) : ∃ j1 s1 c1 u1, dT κ ν X (dB κ ν X (8 - σ.length)) (zow σ) (zpt σ) (σ.length : Int) i s c j1 s1 c1 u1 ∧ lkq X en σ l (s : Int) ∧ zr κ ν X en S C σ (s : Int) j1 s1 c1 (u + u1) := by
  cases σ with
  | nil =>
    obtain ⟨n, j, f, u', h1, h2, h3, h4⟩ := h
    cases n with
    | zero =>
      obtain ⟨rfl, -⟩ := h1
      exact absurd ⟨h3, rfl⟩ hk
    | succ n =>
      obtain ⟨rfl, j1, s1, c1, u1, f2, u2, d1, d2, d3, rfl⟩ := h1
      exact ⟨j1, s1, c1, u1, d1, h2, n, j, f2, u2, d2, ⟨fun _ => d3, fun q => absurd q (by omega)⟩, h3, by omega⟩
  | cons e ρ =>
    obtain ⟨n, j, s', c', f, u', h1, h2, h3, h4⟩ := h
    cases n with
    | zero =>
      obtain ⟨rfl, -⟩ := h1
      exact absurd ⟨h3, fun w => by cases w⟩ hk2
    | succ n =>
      obtain ⟨rfl, j1, s1, c1, u1, f2, u2, d1, d2, d3, rfl⟩ := h1
      exact ⟨j1, s1, c1, u1, d1, h2, n, j, s', c', f2, u2, d2, ⟨fun _ => d3, fun q => absurd q (by omega)⟩, h3, by rw [Nat.add_assoc]; exact h4⟩
theorem zr_end {l : Int} {i s c u : Nat} (h : zr κ ν X en S C [] l i s c u) (hk : κ i = 0) : s = S ∧ c = C ∧ lkq X en [] l (-1) := by
  obtain ⟨n, j, f, u', h1, h2, h3, h4⟩ := h
  cases n with
  | zero =>
    obtain ⟨-, rfl, rfl, rfl, -⟩ := h1
    exact ⟨rfl, rfl, h2⟩
  | succ n =>
    obtain ⟨-, j1, s1, c1, u1, f2, u2, d1, -⟩ := h1
    have := dT_kd d1
    unfold knd at this
    omega
theorem zr_close {e : Nat × Int} {ρ : skT} {l : Int} {i s c u : Nat} (h : zr κ ν X en S C (e :: ρ) l i s c u) (hk : κ i = 125) : lkq X en (e :: ρ) l (-1) ∧ zc κ ν X ρ.length (zr κ ν X en S C ρ (e.1 : Int)) e.1 e.2 (i + 1) s c u := by
  obtain ⟨n, j, s', c', f, u', h1, h2, h3, h4⟩ := h
  cases n with
  | zero =>
    obtain ⟨rfl, rfl, rfl, rfl, rfl⟩ := h1
    exact ⟨h2, h4⟩
  | succ n =>
    obtain ⟨-, j1, s1, c1, u1, f2, u2, d1, -⟩ := h1
    have := dT_kd d1
    unfold knd at this
    omega
theorem zr_open {σ : skT} {o : Nat} {q : Int} {i s c j s' c' u u' : Nat} {first : Int} (h : dB κ ν X (8 - σ.length) o q i s c j s' c' first u') (hf : (q = 0 ∧ X.1 7 o = first) ∨ (q = 1 ∧ X.1 8 o = first)) (hz : zc κ ν X σ.length (zr κ ν X en S C σ (o : Int)) o q j s' c' (u + u')) : κ i = 123 ∧ σ.length < 8 ∧ zr κ ν X en S C ((o, q) :: σ) (-1) (i + 1) s c u := by
  have hl : σ.length < 8 := by
    by_cases w : σ.length < 8
    · exact w
    · rw [show 8 - σ.length = 0 by omega] at h
      exact h.elim
  obtain ⟨f, ef⟩ : ∃ f, 8 - σ.length = f + 1 := ⟨7 - σ.length, by omega⟩
  rw [ef] at h
  obtain ⟨h1, n, j1, h2, h3, rfl⟩ := h
  refine ⟨h1, hl, n, j1, s', c', first, u', ?_, ⟨fun w => absurd rfl w, fun _ => ⟨fun w => (by cases w), fun e ρ he => ?_⟩⟩, h3, hz⟩
  · have e1 : 8 - (σ.length + 1) = f := by omega
    have e2 : 8 - (f : Int) = ((σ.length + 1 : Nat) : Int) := by omega
    rw [e2] at h2
    rw [e1]
    exact h2
  · injection he with he1 he2
    subst he1
    rcases hf with ⟨q0, q1⟩ | ⟨q0, q1⟩
    · exact ⟨fun _ => q1, fun w => absurd (q0.symm.trans w) (by decide)⟩
    · exact ⟨fun w => absurd (q0.symm.trans w) (by decide), fun _ => q1⟩
end ZR
