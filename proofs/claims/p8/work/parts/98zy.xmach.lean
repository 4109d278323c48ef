/-! THE REFERENCE'S EXPS: a machine with its pile and the code that it writes; it writes what the grammar says -/
abbrev xS : Type := Nat × Nat × Bool × List Int × List Bool × cdT
def pops (l : Int) : List Int → cdT
  | [] => []
  | x :: r => if isb x = true ∧ l ≤ stg x then (x, 0) :: pops l r else []
def negs : List Int → cdT
  | [] => []
  | x :: r => if x = 1000 then (3, 0) :: negs r else []
/-- token, unaries, is an operand wanted, pile, flags, code; at the end: token, unaries, good, code -/
def xst (κ ν : Nat → Int) (ir : Bool) (i u : Nat) (w : Bool) (π : List Int) (cs : List Bool) (o : cdT) : xS ⊕ (Nat × Nat × Bool × cdT) :=
  if w = true then
    (if κ i = 45 then (if u = 60 ∨ (fil π).length = 8 then .inr (i, u, false, o) else .inl (i + 1, u + 1, true, 1000 :: π, cs, o))
    else if κ i = 40 then (if u = 60 ∨ (fil π).length = 8 then .inr (i, u, false, o) else .inl (i + 1, u + 1, true, 40 :: π, false :: cs, o))
    else if κ i = 2 ∨ (κ i = 1 ∧ (ir = false ∨ ν i < 16)) then (if u = 60 then .inr (i, u, false, o) else .inl (i + 1, u + 1, false, dm π, cs, o ++ [(if κ i = 2 then 1 else 2, ν i)] ++ negs π))
    else .inr (i, u, false, o))
  else if κ i = 41 ∧ 0 < lv π then .inl (i + 1, u, false, dm (popr 1 π).tail, cs.tail, o ++ pops 1 π ++ negs (popr 1 π).tail)
  else if 1 < stg (κ i) then .inl (i + 1, u, true, κ i :: popr (stg (κ i)) π, cs, o ++ pops (stg (κ i)) π)
  else if stg (κ i) = 1 ∧ cs.head? = some false then .inl (i + 1, u, true, κ i :: popr 2 π, true :: cs.tail, o ++ pops 2 π)
  else .inr (i, u, decide (lv π = 0), o ++ pops 1 π)
def xru (κ ν : Nat → Int) (ir : Bool) : Nat → xS → xS → Prop
  | 0, σ, σ' => σ' = σ
  | k + 1, σ, σ' => ∃ σ1, xst κ ν ir σ.1 σ.2.1 σ.2.2.1 σ.2.2.2.1 σ.2.2.2.2.1 σ.2.2.2.2.2 = .inl σ1 ∧ xru κ ν ir k σ1 σ'
def xre (κ ν : Nat → Int) (ir : Bool) (σ σ' : xS) : Prop := ∃ k, xru κ ν ir k σ σ'
def opc (q : List Int) : cdT := q.map (fun x => (x, (0 : Int)))
def allb (l : Int) (q : List Int) : Prop := ∀ x ∈ q, isb x = true ∧ l ≤ stg x
/-- nothing on top that is as strong as l -/
def sty (l : Int) (Q : List Int) : Prop := ∀ x, Q.head? = some x → ¬ (isb x = true ∧ l ≤ stg x)
section XMA
variable {κ ν : Nat → Int} {ir : Bool}
theorem xru_app : ∀ {a b : Nat} {σ σ1 σ2 : xS}, xru κ ν ir a σ σ1 → xru κ ν ir b σ1 σ2 → xru κ ν ir (a + b) σ σ2
  | 0, b, σ, σ1, σ2, h, h' => by
    have e : σ1 = σ := h
    subst e
    rw [Nat.zero_add]
    exact h'
  | a + 1, b, σ, σ1, σ2, h, h' => by
    obtain ⟨τ, h1, h2⟩ := h
    rw [show a + 1 + b = (a + b) + 1 by omega]
    exact ⟨τ, h1, xru_app h2 h'⟩
theorem xre.trans {σ σ1 σ2 : xS} (h : xre κ ν ir σ σ1) (h' : xre κ ν ir σ1 σ2) : xre κ ν ir σ σ2 := by
  obtain ⟨a, h⟩ := h
  obtain ⟨b, h'⟩ := h'
  exact ⟨a + b, xru_app h h'⟩
theorem xre.rfl' (σ : xS) : xre κ ν ir σ σ := ⟨0, rfl⟩
theorem xre.one {i u : Nat} {w : Bool} {π : List Int} {cs : List Bool} {o : cdT} {σ : xS} (h : xst κ ν ir i u w π cs o = .inl σ) : xre κ ν ir (i, u, w, π, cs, o) σ := ⟨1, σ, h, rfl⟩
theorem popr_sty {l : Int} : ∀ {Q : List Int}, sty l Q → popr l Q = Q ∧ pops l Q = []
  | [], _ => ⟨rfl, rfl⟩
  | x :: r, h => ⟨if_neg (h x rfl), if_neg (h x rfl)⟩
theorem popr_app {l : Int} : ∀ {q Q : List Int}, allb l q → sty l Q → popr l (q ++ Q) = Q ∧ pops l (q ++ Q) = opc q
  | [], Q, _, h => popr_sty h
  | x :: q, Q, ha, h => by
    obtain ⟨h1, h2⟩ := popr_app (fun y hy => ha y (List.mem_cons_of_mem _ hy)) h
    have hx := ha x (List.mem_cons_self ..)
    constructor
    · show (if isb x = true ∧ l ≤ stg x then popr l (q ++ Q) else x :: (q ++ Q)) = Q
      rw [if_pos hx]
      exact h1
    · show (if isb x = true ∧ l ≤ stg x then (x, 0) :: pops l (q ++ Q) else []) = (x, 0) :: opc q
      rw [if_pos hx, h2]
theorem negs_no {π : List Int} (h : π.head? ≠ some 1000) : negs π = [] := by
  cases π with
  | nil => rfl
  | cons x r => exact if_neg (fun e => h (by rw [e]; rfl))
theorem mop_b {x : Int} (h : mop x) : isb x = true ∧ stg x = 3 := by
  rcases h with h | h | h <;> subst h <;> decide
theorem aop_b {x : Int} (h : aop x) : isb x = true ∧ stg x = 2 := by
  rcases h with h | h <;> subst h <;> decide
theorem cop_b {x : Int} (h : cop x) : isb x = true ∧ stg x = 1 := by
  rcases h with h | h | h <;> subst h <;> decide
theorem sty_le {l l' : Int} {Q : List Int} (h : sty l Q) (hl : l ≤ l') : sty l' Q := fun x hx z => h x hx ⟨z.1, by omega⟩
theorem sty_cons {l x : Int} {Q : List Int} (h : stg x < l) : sty l (x :: Q) := fun y hy z => by
  have e : x = y := by simpa using hy
  subst e
  omega
theorem fil_q : ∀ {q Q : List Int}, (∀ x ∈ q, isb x = true) → fil (q ++ Q) = fil Q ∧ lv (q ++ Q) = lv Q
  | [], Q, _ => ⟨rfl, rfl⟩
  | x :: q, Q, h => by
    obtain ⟨h1, h2⟩ := fil_q (q := q) (Q := Q) (fun y hy => h y (List.mem_cons_of_mem _ hy))
    have hb := fil_b (r := q ++ Q) (h x (List.mem_cons_self ..))
    exact ⟨hb.1.trans h1, hb.2.1.trans h2⟩
theorem opc_app (q q' : List Int) : opc (q ++ q') = opc q ++ opc q' := List.map_append
/-- what a grammar of unaries must do -/
def RU (κ ν : Nat → Int) (ir : Bool) (U : rxT) (m : Nat) : Prop := ∀ i j c du, U i j c du → ∀ π cs o u0, (fil π).length ≤ m → u0 + du ≤ 60 → xre κ ν ir (i, u0, true, π, cs, o) (j, u0 + du, false, dm π, cs, o ++ c ++ negs π)
theorem x_op {i u : Nat} {l : Int} {q Q : List Int} {cs : List Bool} {o : cdT} (hs : stg (κ i) = l) (hl : 1 < l) (h41 : κ i ≠ 41) (ha : allb l q) (hQ : sty l Q) : xre κ ν ir (i, u, false, q ++ Q, cs, o) (i + 1, u, true, κ i :: Q, cs, o ++ opc q) := by
  apply xre.one
  obtain ⟨h1, h2⟩ := popr_app ha hQ
  unfold xst
  rw [if_neg (by decide), if_neg (fun z => h41 z.1), hs, if_pos hl, h1, h2]
theorem x_dP {U : rxT} {m : Nat} (hU : RU κ ν ir U m) : ∀ i j c du, dP κ U i j c du → ∀ Q cs o u0, Q.head? ≠ some 1000 → sty 3 Q → (fil Q).length ≤ m → u0 + du ≤ 60 → ∃ q o', allb 3 q ∧ o' ++ opc q = o ++ c ∧ xre κ ν ir (i, u0, true, Q, cs, o) (j, u0 + du, false, q ++ Q, cs, o') := by
  intro i j c du h Q cs o u0 hQ h3 hf hu
  obtain ⟨j1, c1, u1, n, c2, u2, d1, d2, rfl, rfl⟩ := h
  have a1 := hU _ _ _ _ d1 Q cs o u0 hf (by omega)
  rw [dm_id hQ, negs_no hQ, List.append_nil] at a1
  have loop : ∀ (n j1 : Nat) (c2 : cdT) (u2 : Nat), dL κ mop U n j1 j c2 u2 → ∀ q o1 v c0, v + u2 ≤ 60 → allb 3 q → o1 ++ opc q = c0 → ∃ q' o', allb 3 q' ∧ o' ++ opc q' = c0 ++ c2 ∧ xre κ ν ir (j1, v, false, q ++ Q, cs, o1) (j, v + u2, false, q' ++ Q, cs, o') := by
    intro n
    induction n with
    | zero =>
      intro j1 c2 u2 d q o1 v c0 _ ha e
      obtain ⟨rfl, rfl, rfl⟩ := d
      exact ⟨q, o1, ha, by rw [e, List.append_nil], xre.rfl' _⟩
    | succ n ih =>
      intro j1 c2 u2 d q o1 v c0 hv ha e
      obtain ⟨j2, c3, u3, c4, u4, ho, e1, e2, rfl, rfl⟩ := d
      have hb := mop_b ho
      have s1 := x_op (ir := ir) (ν := ν) (u := v) (cs := cs) (o := o1) hb.2 (by decide) (by unfold mop at ho; omega) ha h3
      have s2 := hU _ _ _ _ e1 (κ j1 :: Q) cs (o1 ++ opc q) v (by rw [(fil_b hb.1).1]; exact hf) (by omega)
      have hh : (κ j1 :: Q).head? ≠ some 1000 := by
        simp only [List.head?_cons, ne_eq, Option.some.injEq]
        exact (isb_ne hb.1).2.1
      rw [dm_id hh, negs_no hh, List.append_nil] at s2
      obtain ⟨q', o', r1, r2, r3⟩ := ih j2 c4 u4 e2 [κ j1] (o1 ++ opc q ++ c3) (v + u3) (c0 ++ c3 ++ [(κ j1, 0)]) (by omega) (fun x hx => by
        have : x = κ j1 := by simpa using hx
        subst this
        exact ⟨hb.1, by omega⟩) (by rw [e]; rfl)
      refine ⟨q', o', r1, ?_, ?_⟩
      · rw [r2]; simp
      · rw [show v + (u3 + u4) = v + u3 + u4 by omega]
        exact (s1.trans s2).trans r3
  obtain ⟨q', o', r1, r2, r3⟩ := loop n j1 c2 u2 d2 [] (o ++ c1) (u0 + u1) (o ++ c1) (by omega) (fun x hx => by cases hx) (by simp [opc])
  refine ⟨q', o', r1, ?_, ?_⟩
  · rw [r2, List.append_assoc]
  · rw [show u0 + (u1 + u2) = u0 + u1 + u2 by omega]
    exact a1.trans r3
theorem x_dS {U : rxT} {m : Nat} (hU : RU κ ν ir U m) : ∀ i j c du, dS κ U i j c du → ∀ Q cs o u0, Q.head? ≠ some 1000 → sty 2 Q → (fil Q).length ≤ m → u0 + du ≤ 60 → ∃ q o', allb 2 q ∧ o' ++ opc q = o ++ c ∧ xre κ ν ir (i, u0, true, Q, cs, o) (j, u0 + du, false, q ++ Q, cs, o') := by
  intro i j c du h Q cs o u0 hQ h2 hf hu
  obtain ⟨j1, c1, u1, n, c2, u2, d1, d2, rfl, rfl⟩ := h
  obtain ⟨q1, o1, p1, p2, p3⟩ := x_dP hU _ _ _ _ d1 Q cs o u0 hQ (sty_le h2 (by decide)) hf (by omega)
  have loop : ∀ (n j1 : Nat) (c2 : cdT) (u2 : Nat), dL κ aop (dP κ U) n j1 j c2 u2 → ∀ q o1 v c0, v + u2 ≤ 60 → allb 2 q → o1 ++ opc q = c0 → ∃ q' o', allb 2 q' ∧ o' ++ opc q' = c0 ++ c2 ∧ xre κ ν ir (j1, v, false, q ++ Q, cs, o1) (j, v + u2, false, q' ++ Q, cs, o') := by
    intro n
    induction n with
    | zero =>
      intro j1 c2 u2 d q o1 v c0 _ ha e
      obtain ⟨rfl, rfl, rfl⟩ := d
      exact ⟨q, o1, ha, by rw [e, List.append_nil], xre.rfl' _⟩
    | succ n ih =>
      intro j1 c2 u2 d q o1 v c0 hv ha e
      obtain ⟨j2, c3, u3, c4, u4, ho, e1, e2, rfl, rfl⟩ := d
      have hb := aop_b ho
      have s1 := x_op (ir := ir) (ν := ν) (u := v) (cs := cs) (o := o1) hb.2 (by decide) (by unfold aop at ho; omega) ha h2
      have hh : (κ j1 :: Q).head? ≠ some 1000 := by
        simp only [List.head?_cons, ne_eq, Option.some.injEq]
        exact (isb_ne hb.1).2.1
      obtain ⟨q2, o2, t1, t2, t3⟩ := x_dP hU _ _ _ _ e1 (κ j1 :: Q) cs (o1 ++ opc q) v hh (sty_cons (by omega)) (by rw [(fil_b hb.1).1]; exact hf) (by omega)
      have t3' : xre κ ν ir (j1 + 1, v, true, κ j1 :: Q, cs, o1 ++ opc q) (j2, v + u3, false, (q2 ++ [κ j1]) ++ Q, cs, o2) := by
        rw [List.append_assoc]
        exact t3
      obtain ⟨q', o', r1, r2, r3⟩ := ih j2 c4 u4 e2 (q2 ++ [κ j1]) o2 (v + u3) (c0 ++ c3 ++ [(κ j1, 0)]) (by omega) (fun x hx => by
        rcases List.mem_append.mp hx with z | z
        · exact ⟨(t1 x z).1, by have := (t1 x z).2; omega⟩
        · have : x = κ j1 := by simpa using z
          subst this
          exact ⟨hb.1, by omega⟩) (by rw [opc_app, ← List.append_assoc, t2, e]; rfl)
      refine ⟨q', o', r1, ?_, ?_⟩
      · rw [r2]; simp
      · rw [show v + (u3 + u4) = v + u3 + u4 by omega]
        exact (s1.trans t3').trans r3
  obtain ⟨q', o', r1, r2, r3⟩ := loop n j1 c2 u2 d2 q1 o1 (u0 + u1) (o ++ c1) (by omega) (fun x hx => ⟨(p1 x hx).1, by have := (p1 x hx).2; omega⟩) p2
  refine ⟨q', o', r1, ?_, ?_⟩
  · rw [r2, List.append_assoc]
  · rw [show u0 + (u1 + u2) = u0 + u1 + u2 by omega]
    exact p3.trans r3
theorem x_dE {U : rxT} {m : Nat} (hU : RU κ ν ir U m) : ∀ i j c du, dE κ U i j c du → ∀ P cs o u0, P.head? ≠ some 1000 → sty 1 P → (fil P).length ≤ m → u0 + du ≤ 60 → ∃ q o' b, allb 1 q ∧ o' ++ opc q = o ++ c ∧ xre κ ν ir (i, u0, true, P, false :: cs, o) (j, u0 + du, false, q ++ P, b :: cs, o') := by
  intro i j c du h P cs o u0 hP h1 hf hu
  rcases h with h | ⟨j1, c1, u1, c2, u2, d1, ho, d2, rfl, rfl⟩
  · obtain ⟨q, o', p1, p2, p3⟩ := x_dS hU _ _ _ _ h P (false :: cs) o u0 hP (sty_le h1 (by decide)) hf hu
    exact ⟨q, o', false, fun x hx => ⟨(p1 x hx).1, by have := (p1 x hx).2; omega⟩, p2, p3⟩
  · obtain ⟨q, o1, p1, p2, p3⟩ := x_dS hU _ _ _ _ d1 P (false :: cs) o u0 hP (sty_le h1 (by decide)) hf (by omega)
    have hb := cop_b ho
    have hh : (κ j1 :: P).head? ≠ some 1000 := by
      simp only [List.head?_cons, ne_eq, Option.some.injEq]
      exact (isb_ne hb.1).2.1
    have s1 : xre κ ν ir (j1, u0 + u1, false, q ++ P, false :: cs, o1) (j1 + 1, u0 + u1, true, κ j1 :: P, true :: cs, o1 ++ opc q) := by
      apply xre.one
      obtain ⟨a1, a2⟩ := popr_app p1 (sty_le h1 (by decide))
      unfold xst
      rw [if_neg (by decide), if_neg (fun z => by have := z.1; unfold cop at ho; omega), if_neg (by omega), if_pos ⟨hb.2, rfl⟩, a1, a2]
      rfl
    obtain ⟨q2, o2, t1, t2, t3⟩ := x_dS hU _ _ _ _ d2 (κ j1 :: P) (true :: cs) (o1 ++ opc q) (u0 + u1) hh (sty_cons (by omega)) (by rw [(fil_b hb.1).1]; exact hf) (by omega)
    refine ⟨q2 ++ [κ j1], o2, true, fun x hx => ?_, ?_, ?_⟩
    · rcases List.mem_append.mp hx with z | z
      · exact ⟨(t1 x z).1, by have := (t1 x z).2; omega⟩
      · have : x = κ j1 := by simpa using z
        subst this
        exact ⟨hb.1, by omega⟩
    · rw [opc_app, ← List.append_assoc, t2, p2]
      simp [opc]
    · rw [List.append_assoc, show u0 + (u1 + u2) = u0 + u1 + u2 by omega]
      exact (p3.trans s1).trans t3
theorem x_dU : ∀ (f m : Nat), m + f ≤ 8 → RU κ ν ir (dU κ ν ir f) m := by
  have leaf : ∀ i j c du, dF κ ν ir i j c du → ∀ π cs o u0, u0 + du ≤ 60 → xre κ ν ir (i, u0, true, π, cs, o) (j, u0 + du, false, dm π, cs, o ++ c ++ negs π) := by
    intro i j c du h π cs o u0 hu
    obtain ⟨h1, rfl, rfl⟩ := h
    apply xre.one
    unfold xst
    rcases h1 with ⟨k, rfl⟩ | ⟨k, k2, rfl⟩
    · rw [if_pos rfl, if_neg (by omega), if_neg (by omega), if_pos (Or.inl k), if_neg (by omega), if_pos k]
    · rw [if_pos rfl, if_neg (by omega), if_neg (by omega), if_pos (Or.inr ⟨k, k2⟩), if_neg (by omega), if_neg (by omega)]
  intro f
  induction f with
  | zero => exact fun m _ i j c du h π cs o u0 _ hu => leaf i j c du h π cs o u0 hu
  | succ f ih =>
    intro m hm i j c du h π cs o u0 hf hu
    rcases h with h | ⟨k, c1, u1, d1, rfl, rfl⟩ | ⟨k, j1, u1, d1, k2, rfl, rfl⟩
    · exact leaf i j c du h π cs o u0 hu
    · have s1 : xre κ ν ir (i, u0, true, π, cs, o) (i + 1, u0 + 1, true, 1000 :: π, cs, o) := by
        apply xre.one
        unfold xst
        rw [if_pos rfl, if_pos k, if_neg (by omega)]
      have s2 := ih (m + 1) (by omega) _ _ _ _ d1 (1000 :: π) cs o (u0 + 1) (by rw [(fil_m π).1]; simp; omega) (by omega)
      have e1 : dm (1000 :: π) = dm π := if_pos rfl
      have e2 : negs (1000 :: π) = (3, 0) :: negs π := if_pos rfl
      rw [e1, e2] at s2
      have s3 := s1.trans s2
      rw [show u0 + (u1 + 1) = u0 + 1 + u1 by omega, show o ++ (c1 ++ [(3, 0)]) ++ negs π = o ++ c1 ++ (3, 0) :: negs π by simp]
      exact s3
    · have s1 : xre κ ν ir (i, u0, true, π, cs, o) (i + 1, u0 + 1, true, 40 :: π, false :: cs, o) := by
        apply xre.one
        unfold xst
        rw [if_pos rfl, if_neg (by omega), if_pos k, if_neg (by omega)]
      have hs : sty 1 (40 :: π) := fun x hx z => by
        have e : (40 : Int) = x := by simpa using hx
        subst e
        exact absurd z.1 (by decide)
      obtain ⟨q, o', b, t1, t2, t3⟩ := x_dE (ih (m + 1) (by omega)) _ _ _ _ d1 (40 :: π) cs o (u0 + 1) (by simp) hs (by rw [(fil_p π).1]; simp; omega) (by omega)
      have s4 : xre κ ν ir (j1, u0 + 1 + u1, false, q ++ 40 :: π, b :: cs, o') (j1 + 1, u0 + 1 + u1, false, dm π, cs, o' ++ opc q ++ negs π) := by
        apply xre.one
        obtain ⟨a1, a2⟩ := popr_app t1 hs
        unfold xst
        rw [if_neg (by decide), if_pos ⟨k2, by rw [(fil_q (fun x hx => (t1 x hx).1)).2, (fil_p π).2.1]; omega⟩, a1, a2]
        rfl
      rw [t2] at s4
      rw [show u0 + (u1 + 1) = u0 + 1 + u1 by omega]
      exact (s1.trans t3).trans s4
/-- an exp: from its first token to what stands behind it -/
theorem x_whole {i j : Nat} {cd : cdT} {du u0 : Nat} (h : dE κ (dU κ ν ir 8) i j cd du) (hu : u0 + du ≤ 60) (hj : κ j = 59 ∨ κ j = 41) : ∃ σ : xS, xre κ ν ir (i, u0, true, [], [false], []) σ ∧ xst κ ν ir σ.1 σ.2.1 σ.2.2.1 σ.2.2.2.1 σ.2.2.2.2.1 σ.2.2.2.2.2 = .inr (j, u0 + du, true, cd) := by
  obtain ⟨q, o', b, t1, t2, t3⟩ := x_dE (x_dU 8 0 (by omega)) _ _ _ _ h [] [] [] u0 (by simp) (fun x hx => by cases hx) (by simp [fil]) hu
  refine ⟨_, t3, ?_⟩
  have hl : lv (q ++ []) = 0 := (fil_q (fun x hx => (t1 x hx).1)).2
  have hp := (popr_app (Q := []) t1 (fun x hx => by cases hx)).2
  have hs : stg (κ j) = 0 := by rcases hj with e | e <;> rw [e] <;> decide
  show xst κ ν ir j (u0 + du) false (q ++ []) (b :: []) o' = _
  unfold xst
  rw [if_neg (by decide), if_neg (by rw [hl]; omega), if_neg (by omega), if_neg (by omega), hl, hp, t2]
  rfl
theorem xru_det : ∀ {a b : Nat} {σ σ1 σ2 : xS} {e : Nat × Nat × Bool × cdT}, xru κ ν ir a σ σ1 → xru κ ν ir b σ σ2 → xst κ ν ir σ2.1 σ2.2.1 σ2.2.2.1 σ2.2.2.2.1 σ2.2.2.2.2.1 σ2.2.2.2.2.2 = .inr e → xre κ ν ir σ1 σ2
  | 0, b, σ, σ1, σ2, e, h, h', _ => by
    have q : σ1 = σ := h
    subst q
    exact ⟨b, h'⟩
  | a + 1, 0, σ, σ1, σ2, e, h, h', he => by
    have q : σ2 = σ := h'
    subst q
    obtain ⟨τ, h1, _⟩ := h
    rw [he] at h1
    cases h1
  | a + 1, b + 1, σ, σ1, σ2, e, h, h', he => by
    obtain ⟨τ, h1, h2⟩ := h
    obtain ⟨τ', h1', h2'⟩ := h'
    rw [h1] at h1'
    injection h1' with q
    subst q
    exact xru_det h2 h2' he
end XMA
