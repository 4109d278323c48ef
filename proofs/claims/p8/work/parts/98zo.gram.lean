/-! WHAT A TEXT SAYS: exps; κ are the kinds of the tokens, ν their numbers -/
abbrev cdT : Type := List (Int × Int)
abbrev rxT : Type := Nat → Nat → cdT → Nat → Prop
def mop (o : Int) : Prop := o = 42 ∨ o = 47 ∨ o = 37
def aop (o : Int) : Prop := o = 43 ∨ o = 45
def cop (o : Int) : Prop := o = 60 ∨ o = 61 ∨ o = 35
/-- n times an operator and what follows it -/
def dL (κ : Nat → Int) (op : Int → Prop) (U : rxT) : Nat → Nat → Nat → cdT → Nat → Prop
  | 0, i, j, c, u => i = j ∧ c = [] ∧ u = 0
  | n + 1, i, j, c, u => ∃ j1 c1 u1 c2 u2, op (κ i) ∧ U (i + 1) j1 c1 u1 ∧ dL κ op U n j1 j c2 u2 ∧ c = c1 ++ (κ i, 0) :: c2 ∧ u = u1 + u2
def dP (κ : Nat → Int) (U : rxT) : rxT := fun i j c u => ∃ j1 c1 u1 n c2 u2, U i j1 c1 u1 ∧ dL κ mop U n j1 j c2 u2 ∧ c = c1 ++ c2 ∧ u = u1 + u2
def dS (κ : Nat → Int) (U : rxT) : rxT := fun i j c u => ∃ j1 c1 u1 n c2 u2, dP κ U i j1 c1 u1 ∧ dL κ aop (dP κ U) n j1 j c2 u2 ∧ c = c1 ++ c2 ∧ u = u1 + u2
def dE (κ : Nat → Int) (U : rxT) : rxT := fun i j c u => dS κ U i j c u ∨ ∃ j1 c1 u1 c2 u2, dS κ U i j1 c1 u1 ∧ cop (κ j1) ∧ dS κ U (j1 + 1) j c2 u2 ∧ c = c1 ++ (c2 ++ [(κ j1, 0)]) ∧ u = u1 + u2
def dF (κ ν : Nat → Int) (ir : Bool) : rxT := fun i j c u => ((κ i = 2 ∧ c = [(1, ν i)]) ∨ (κ i = 1 ∧ (ir = false ∨ ν i < 16) ∧ c = [(2, ν i)])) ∧ j = i + 1 ∧ u = 1
/-- a unary, f bodies of it may lie in one another -/
def dU (κ ν : Nat → Int) (ir : Bool) : Nat → Nat → Nat → cdT → Nat → Prop
  | 0, i, j, c, u => dF κ ν ir i j c u
  | f + 1, i, j, c, u => dF κ ν ir i j c u ∨ (κ i = 45 ∧ ∃ c1 u1, dU κ ν ir f (i + 1) j c1 u1 ∧ c = c1 ++ [(3, 0)] ∧ u = u1 + 1) ∨ (κ i = 40 ∧ ∃ j1 u1, dE κ (dU κ ν ir f) (i + 1) j1 c u1 ∧ κ j1 = 41 ∧ j = j1 + 1 ∧ u = u1 + 1)
/-- how many pieces of code lay a number -/
def lfs : cdT → Nat
  | [] => 0
  | q :: c => (if q.1 = 1 ∨ q.1 = 2 then 1 else 0) + lfs c
theorem lfs_app : ∀ (c d : cdT), lfs (c ++ d) = lfs c + lfs d
  | [], d => by show lfs d = 0 + lfs d; omega
  | q :: c, d => by
    show _ + lfs (c ++ d) = _ + lfs c + lfs d
    rw [lfs_app c d]; omega
/-- what is said of code -/
def gdc (ν : Nat → Int) (κ : Nat → Int) (c : cdT) (u : Nat) : Prop := c.length + 1 ≤ 2 * u ∧ lfs c ≤ u ∧ ∀ q ∈ c, opk q.1 ∧ (q.1 = 2 → ∃ i, κ i = 1 ∧ q.2 = ν i)
section GRM
variable {κ ν : Nat → Int} {ir : Bool} {U : rxT}
theorem dL_gd {op : Int → Prop} (ho : ∀ o, op o → opk o ∧ ¬ (o = 1 ∨ o = 2)) (hU : ∀ i j c u, U i j c u → gdc ν κ c u) : ∀ (n i j : Nat) (c : cdT) (u : Nat), dL κ op U n i j c u → c.length ≤ 2 * u ∧ lfs c ≤ u ∧ ∀ q ∈ c, opk q.1 ∧ (q.1 = 2 → ∃ i, κ i = 1 ∧ q.2 = ν i)
  | 0, i, j, c, u, h => by
    obtain ⟨-, rfl, rfl⟩ := h
    exact ⟨by simp, Nat.le_refl _, fun q hq => by cases hq⟩
  | n + 1, i, j, c, u, h => by
    obtain ⟨j1, c1, u1, c2, u2, h1, h2, h3, rfl, rfl⟩ := h
    obtain ⟨a1, a2, a3⟩ := hU _ _ _ _ h2
    obtain ⟨b1, b2, b3⟩ := dL_gd ho hU n _ _ _ _ h3
    obtain ⟨o1, o2⟩ := ho _ h1
    refine ⟨by simp; omega, ?_, fun q hq => ?_⟩
    · rw [lfs_app]
      show lfs c1 + ((if κ i = 1 ∨ κ i = 2 then 1 else 0) + lfs c2) ≤ _
      rw [if_neg o2]; omega
    · rcases List.mem_append.mp hq with hq | hq
      · exact a3 q hq
      · rcases List.mem_cons.mp hq with rfl | hq
        · exact ⟨o1, fun z => absurd (Or.inr z) o2⟩
        · exact b3 q hq
theorem mop_ok : ∀ o, mop o → opk o ∧ ¬ (o = 1 ∨ o = 2) := fun o h => by unfold mop at h; unfold opk; omega
theorem aop_ok : ∀ o, aop o → opk o ∧ ¬ (o = 1 ∨ o = 2) := fun o h => by unfold aop at h; unfold opk; omega
theorem cop_ok : ∀ o, cop o → opk o ∧ ¬ (o = 1 ∨ o = 2) := fun o h => by unfold cop at h; unfold opk; omega
theorem dP_gd (hU : ∀ i j c u, U i j c u → gdc ν κ c u) : ∀ i j c u, dP κ U i j c u → gdc ν κ c u := by
  rintro i j c u ⟨j1, c1, u1, n, c2, u2, h1, h2, rfl, rfl⟩
  obtain ⟨a1, a2, a3⟩ := hU _ _ _ _ h1
  obtain ⟨b1, b2, b3⟩ := dL_gd mop_ok hU _ _ _ _ _ h2
  refine ⟨by simp; omega, by rw [lfs_app]; omega, fun q hq => ?_⟩
  rcases List.mem_append.mp hq with hq | hq
  · exact a3 q hq
  · exact b3 q hq
theorem dS_gd (hU : ∀ i j c u, U i j c u → gdc ν κ c u) : ∀ i j c u, dS κ U i j c u → gdc ν κ c u := by
  rintro i j c u ⟨j1, c1, u1, n, c2, u2, h1, h2, rfl, rfl⟩
  obtain ⟨a1, a2, a3⟩ := dP_gd hU _ _ _ _ h1
  obtain ⟨b1, b2, b3⟩ := dL_gd aop_ok (dP_gd hU) _ _ _ _ _ h2
  refine ⟨by simp; omega, by rw [lfs_app]; omega, fun q hq => ?_⟩
  rcases List.mem_append.mp hq with hq | hq
  · exact a3 q hq
  · exact b3 q hq
theorem dE_gd (hU : ∀ i j c u, U i j c u → gdc ν κ c u) : ∀ i j c u, dE κ U i j c u → gdc ν κ c u := by
  rintro i j c u (h | ⟨j1, c1, u1, c2, u2, h1, h2, h3, rfl, rfl⟩)
  · exact dS_gd hU _ _ _ _ h
  · obtain ⟨a1, a2, a3⟩ := dS_gd hU _ _ _ _ h1
    obtain ⟨b1, b2, b3⟩ := dS_gd hU _ _ _ _ h3
    obtain ⟨o1, o2⟩ := cop_ok _ h2
    refine ⟨by simp; omega, ?_, fun q hq => ?_⟩
    · rw [lfs_app, lfs_app]
      show lfs c1 + (lfs c2 + ((if κ j1 = 1 ∨ κ j1 = 2 then 1 else 0) + 0)) ≤ _
      rw [if_neg o2]; omega
    · rcases List.mem_append.mp hq with hq | hq
      · exact a3 q hq
      · rcases List.mem_append.mp hq with hq | hq
        · exact b3 q hq
        · have : q = (κ j1, 0) := by simpa using hq
          rw [this]
          exact ⟨o1, fun z => absurd (Or.inr z) o2⟩
theorem dF_gd : ∀ i j c u, dF κ ν ir i j c u → gdc ν κ c u := by
  rintro i j c u ⟨h, -, rfl⟩
  rcases h with ⟨h, rfl⟩ | ⟨h, -, rfl⟩
  · refine ⟨by show 1 + 1 ≤ 2 * 1; omega, by show (if (1 : Int) = 1 ∨ (1 : Int) = 2 then 1 else 0) + 0 ≤ 1; simp, fun q hq => ?_⟩
    have : q = (1, ν i) := by simpa using hq
    rw [this]
    exact ⟨Or.inr (Or.inl rfl), fun (z : (1 : Int) = 2) => absurd z (by decide)⟩
  · refine ⟨by show 1 + 1 ≤ 2 * 1; omega, by show (if (2 : Int) = 1 ∨ (2 : Int) = 2 then 1 else 0) + 0 ≤ 1; simp, fun q hq => ?_⟩
    have : q = (2, ν i) := by simpa using hq
    rw [this]
    exact ⟨Or.inr (Or.inr (Or.inl rfl)), fun _ => ⟨i, h, rfl⟩⟩
theorem dU_gd : ∀ (f i j : Nat) (c : cdT) (u : Nat), dU κ ν ir f i j c u → gdc ν κ c u
  | 0, i, j, c, u, h => dF_gd i j c u h
  | f + 1, i, j, c, u, h => by
    rcases h with h | ⟨_, c1, u1, h, rfl, rfl⟩ | ⟨_, j1, u1, h, _, _, rfl⟩
    · exact dF_gd i j c u h
    · obtain ⟨a1, a2, a3⟩ := dU_gd f _ _ _ _ h
      refine ⟨by simp; omega, ?_, fun q hq => ?_⟩
      · rw [lfs_app]
        show lfs c1 + ((if (3 : Int) = 1 ∨ (3 : Int) = 2 then 1 else 0) + 0) ≤ _
        rw [if_neg (by decide)]; omega
      · rcases List.mem_append.mp hq with hq | hq
        · exact a3 q hq
        · have : q = (3, 0) := by simpa using hq
          rw [this]
          exact ⟨Or.inr (Or.inr (Or.inr (Or.inl rfl))), fun (z : (3 : Int) = 2) => absurd z (by decide)⟩
    · obtain ⟨a1, a2, a3⟩ := dE_gd (dU_gd f) _ _ _ _ h
      exact ⟨by omega, by omega, a3⟩
end GRM
/-! the program reads exps -/
/-- the tokens lie there -/
def tkM (κ ν : Nat → Int) (L : Nat) (M : rf_M) : Prop := gi M 170 3 = (L : Int) ∧ ∀ k, k ≤ L → gi M 171 k = κ k ∧ gi M 173 k = ν k ∧ 0 ≤ gi M 172 k
def exF (p b k : Nat) : Prop := (b = 169 ∧ (k = 2 ∨ k = 3)) ∨ (b = p ∧ (k = 1 ∨ k = 3)) ∨ b = p + 10 ∨ b = p + 11
/-- where the parser stands: token, code, unaries -/
def pat (p : Nat) (L : Nat) (M : rf_M) (i cc un : Nat) : Prop := gi M 169 2 = (i : Int) ∧ i ≤ L ∧ gi M p 3 = (cc : Int) ∧ gi M p 1 = (un : Int) ∧ un ≤ 60
def prE (κ ν : Nat → Int) (L p : Nat) (M : rf_M) : Prop := M.2.2 169 1 = some p ∧ tkM κ ν L M ∧ (gi M 169 3 = -1 → ∃ i cc un, pat p L M i cc un ∧ cc ≤ 2 * un)
/-- code c is there from cc on -/
def cap (p : Nat) (M M' : rf_M) (cc : Nat) (c : cdT) : Prop := (∀ k, k < cc → gi M' (p + 10) k = gi M (p + 10) k ∧ gi M' (p + 11) k = gi M (p + 11) k) ∧ ∀ k, k < c.length → gi M' (p + 10) (cc + k) = (c.getD k (0, 0)).1 ∧ gi M' (p + 11) (cc + k) = (c.getD k (0, 0)).2
def exq (L p : Nat) (R : rxT) (M M' : rf_M) : Prop := eqy (exF p) M M' ∧ (gi M' 169 3 = -1 → gi M 169 3 = -1 ∧ ∃ i cc un j c u, pat p L M i cc un ∧ R i j c u ∧ pat p L M' j (cc + c.length) (un + u) ∧ cap p M M' cc c)
section GRP
variable {κ ν : Nat → Int} {L p : Nat} {M M' M'' : rf_M} {K : Int → rf_M → Prop}
theorem tkM.eq {P : Nat → Nat → Prop} (h : tkM κ ν L M) (e : eqy P M M') (q : ∀ b k, (b = 170 ∧ k = 3) ∨ b = 171 ∨ b = 172 ∨ b = 173 → ¬ P b k) : tkM κ ν L M' := ⟨(e.i (q _ _ (by omega))).trans h.1, fun k hk => ⟨(e.i (q _ _ (by omega))).trans (h.2 k hk).1, (e.i (q _ _ (by omega))).trans (h.2 k hk).2.1, by rw [e.i (q _ _ (by omega))]; exact (h.2 k hk).2.2⟩⟩
theorem cap.nil (p : Nat) (M : rf_M) (cc : Nat) : cap p M M cc [] := ⟨fun _ _ => ⟨rfl, rfl⟩, fun k hk => absurd hk (by simp)⟩
theorem cap.app {cc : Nat} {c d : cdT} (h : cap p M M' cc c) (h' : cap p M' M'' (cc + c.length) d) : cap p M M'' cc (c ++ d) := by
  refine ⟨fun k hk => ?_, fun k hk => ?_⟩
  · have a := h'.1 k (by omega)
    have b := h.1 k hk
    exact ⟨a.1.trans b.1, a.2.trans b.2⟩
  · by_cases hc : k < c.length
    · have a := h'.1 (cc + k) (by omega)
      have b := h.2 k hc
      rw [app_getD1 hc]
      exact ⟨a.1.trans b.1, a.2.trans b.2⟩
    · have hk' : k - c.length < d.length := by rw [List.length_append] at hk; omega
      have a := h'.2 (k - c.length) hk'
      have e1 : cc + c.length + (k - c.length) = cc + k := by omega
      have e2 : (c ++ d).getD k (0, 0) = d.getD (k - c.length) (0, 0) := by
        have := app_getD2 (l := c) (m := d) (j := k - c.length) (d := (0, 0)) hk'
        rw [show c.length + (k - c.length) = k by omega] at this
        exact this
      rw [e1] at a
      rw [e2]
      exact a
theorem x_Qat {t : Int} (hP : tkM κ ν L M) (hi : gi M 169 3 = -1 → ∃ i, gi M 169 2 = ((i : Nat) : Int) ∧ i ≤ L) (h1 : gi M 169 3 = -1 → ∀ i : Nat, gi M 169 2 = (i : Int) → i ≤ L → κ i = t → K 1 M) (h0 : (gi M 169 3 = -1 → ∀ i : Nat, gi M 169 2 = (i : Int) → i ≤ L → ¬ κ i = t) → K 0 M) : em_Q_isAt t M K := by
  refine ⟨fun h _ => ?_, fun h => ⟨Or.inl rfl, h0 (fun q => absurd q h)⟩⟩
  obtain ⟨i, e, hl⟩ := hi h
  rw [e, tn_, (hP.2 i hl).1]
  exact ⟨fun q => ⟨Or.inr rfl, h1 h i e hl q⟩, fun q => ⟨Or.inl rfl, h0 (fun _ j ej hj z => q (by rw [show i = j by omega]; exact z))⟩⟩
theorem x_Qadv {K : rf_M → Prop} {i : Nat} (hP : tkM κ ν L M) (hi : gi M 169 2 = (i : Int)) (hl : i < L) (hL : L ≤ 800) (kk : ∀ M', eqy (fun b k => b = 169 ∧ k = 2) M M' → gi M' 169 2 = ((i + 1 : Nat) : Int) → K M') : em_Q_advance M K := by
  refine ⟨fun h => absurd h (by rw [hP.1, hi]; omega), fun _ M1 e1 => kk M1 (by rw [e1]; exact (eqy.rfl' M).wi ⟨rfl, rfl⟩) ?_⟩
  rw [e1, hi, gi_at (inr_z (by omega) (by omega))]
  omega
/-- advancing where nothing is known -/
theorem x_Qadv' {K : rf_M → Prop} (kk : ∀ M', eqy (fun b k => b = 169 ∧ k = 2) M M' → K M') : em_Q_advance M K := ⟨fun _ => kk M (eqy.rfl' M), fun _ M1 e1 => kk M1 (by rw [e1]; exact (eqy.rfl' M).wi ⟨rfl, rfl⟩)⟩
theorem x_Qref {K : rf_M → Prop} (hP : tkM κ ν L M) (hi : gi M 169 3 = -1 → ∃ i, gi M 169 2 = ((i : Nat) : Int) ∧ i ≤ L) (kk : ∀ M', eqy (fun b k => b = 169 ∧ k = 3) M M' → ¬ gi M' 169 3 = -1 → K M') : em_Q_refuse M K := by
  refine ⟨fun h _ M1 e1 => kk M1 (by rw [e1]; exact (eqy.rfl' M).wi ⟨rfl, rfl⟩) ?_, fun h => kk M (eqy.rfl' M) h⟩
  obtain ⟨i, e, hl⟩ := hi h
  rw [e1, gi_at (inr_gi _ _ _), e, tn_]
  have := (hP.2 i hl).2.2
  omega
theorem x_emit {K : rf_M → Prop} {o a : Int} {cc : Nat} (hc : gi M p 3 = (cc : Int)) (hc6 : cc < 160) (io : inr o) (ia : inr a) (kk : ∀ M', eqy (fun b k => (b = p ∧ k = 3) ∨ b = p + 10 ∨ b = p + 11) M M' → gi M' p 3 = ((cc + 1 : Nat) : Int) → cap p M M' cc [(o, a)] → K M') : em_P_emit p o a M K := by
  refine ⟨fun h => absurd h (by rw [hc]; omega), fun _ _ M1 e1 => ?_⟩
  rw [hc, tn_] at e1
  have g1 : gi M1 p 3 = (cc : Int) := by rw [e1, gi_of (Or.inl (by omega)), hc]
  intro _ M2 e2 M3 e3
  rw [g1, tn_] at e2
  have g2 : gi M2 p 3 = (cc : Int) := by rw [e2, gi_of (Or.inl (by omega)), g1]
  rw [g2] at e3
  refine kk M3 ?_ ?_ ⟨fun k hk => ⟨?_, ?_⟩, fun k hk => ?_⟩
  · rw [e3, e2, e1]
    exact (((eqy.rfl' M).wi (Or.inr (Or.inl rfl))).wi (Or.inr (Or.inr rfl))).wi (Or.inl ⟨rfl, rfl⟩)
  · rw [e3, gi_at (inr_z (by omega) (by omega))]
    omega
  · rw [e3, gi_of (Or.inl (by omega)), e2, gi_of (Or.inl (by omega)), e1, gi_of (Or.inr (by omega))]
  · rw [e3, gi_of (Or.inl (by omega)), e2, gi_of (Or.inr (by omega)), e1, gi_of (Or.inl (by omega))]
  · have : k = 0 := by simp at hk; omega
    subst this
    show gi M3 (p + 10) cc = o ∧ gi M3 (p + 11) cc = a
    constructor
    · rw [e3, gi_of (Or.inl (by omega)), e2, gi_of (Or.inl (by omega)), e1, gi_at io]
    · rw [e3, gi_of (Or.inl (by omega)), e2, gi_at ia]
/-- emitting where nothing is known -/
theorem x_emit' {K : rf_M → Prop} {o a : Int} (kk : ∀ M', eqy (fun b k => (b = p ∧ k = 3) ∨ b = p + 10 ∨ b = p + 11) M M' → K M') : em_P_emit p o a M K := by
  refine ⟨fun _ => kk M (eqy.rfl' M), fun _ _ M1 e1 _ M2 e2 M3 e3 => kk M3 ?_⟩
  rw [e3, e2, e1]
  exact (((eqy.rfl' M).wi (Or.inr (Or.inl rfl))).wi (Or.inr (Or.inr rfl))).wi (Or.inl ⟨rfl, rfl⟩)
end GRP
