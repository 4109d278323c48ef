/-! branches -/
abbrev sxB : Type := Jvm.ClassFile.Cond
def sx_rf (E : sxE) (x : sxV) (b : Int × Int) : Option sxE := match x with
  | (.inl (s, c)) => match E.1[s]? with
    | some d => if max d.1 (b.1 - c) ≤ min d.2 (b.2 - c) then some (E.1.set s (max d.1 (b.1 - c), min d.2 (b.2 - c)), E.2) else none
    | none => some E
  | (.inr (.inl c)) => if b.1 ≤ c ∧ c ≤ b.2 then some E else none
  | _ => some E
def sx_cc (c : sxB) (a b : Int) : Prop := match c with
  | .eq => a = b
  | .ne => ¬ a = b
  | .lt => a < b
  | .ge => b ≤ a
  | .gt => b < a
  | .le => a ≤ b
def sx_ng (c : sxB) : sxB := match c with
  | .eq => .ne
  | .ne => .eq
  | .lt => .ge
  | .ge => .lt
  | .gt => .le
  | .le => .gt
def sx_nx (p q : Int × Int) : Int × Int := if q.1 = q.2 then (if p.1 = q.1 then p.1 + 1 else p.1, if p.2 = q.1 then p.2 - 1 else p.2) else p
def sx_cb (c : sxB) (p q : Int × Int) : (Int × Int) × (Int × Int) := match c with
  | .lt => ((p.1, min p.2 (q.2 - 1)), (max q.1 (p.1 + 1), q.2))
  | .ge => ((max p.1 q.1, p.2), (q.1, min q.2 p.2))
  | .gt => ((max p.1 (q.1 + 1), p.2), (q.1, min q.2 (p.2 - 1)))
  | .le => ((p.1, min p.2 q.2), (max q.1 p.1, q.2))
  | .eq => ((max p.1 q.1, min p.2 q.2), (max p.1 q.1, min p.2 q.2))
  | .ne => (sx_nx p q, sx_nx q p)
/-- the knowledge if c holds between x and y; none: it can't -/
def sx_cs (E : sxE) (c : sxB) (x y : sxV) : Option (Option sxE) := match sx_b E x, sx_b E y with
  | some p, some q => some (match sx_rf E x (sx_cb c p q).1 with
    | none => none
    | some E1 => sx_rf E1 y (sx_cb c p q).2)
  | _, _ => none
def sx_nzm (E : sxE) (x : sxV) : sxE := match x with
  | (.inl (t, 0)) => match E.2.2.2.2.find? (fun q => q.1 == t) with
    | some q => match E.2.1[q.2]? with
      | some b => (E.1, E.2.1.set q.2 (b.1, b.2.1, true), E.2.2)
      | none => E
    | none => E
  | _ => E
def sx_nzc (c : sxB) (E : sxE) (x : sxV) : sxE := match c with
  | .ne => sx_nzm E x
  | _ => E
def sx_two (E : sxE) (c : sxB) (x y : sxV) (z : Bool) (tg fl : Nat) (r : List sxV) : Option (List (Nat × List sxV × sxE)) := match sx_cs E c x y, sx_cs E (sx_ng c) x y with
  | some t, some f => some (t.toList.map (fun E' => (tg, r, if z then sx_nzc c E' x else E')) ++ f.toList.map (fun E' => (fl, r, if z then sx_nzc (sx_ng c) E' x else E')))
  | _, _ => none
def sx_nul (E : sxE) (x : sxV) (yes no : Nat) (r : List sxV) : Option (List (Nat × List sxV × sxE)) := match x with
  | (.inr (.inr (.inr none))) => some [(yes, r, E)]
  | (.inr (.inr (.inr (some s)))) => match E.2.2.1[s]? with
    | some b => some ((no, r, (E.1, E.2.1, E.2.2.1.set s (b.1, false), E.2.2.2)) :: (if b.2 then [(yes, r, E)] else []))
    | none => none
  | _ => none
def sx_nn (E : sxE) (x : sxV) : Bool := match x with
  | (.inr (.inr (.inr (some s)))) => match E.2.2.1[s]? with
    | some b => !b.2
    | none => false
  | _ => false
def sx_lk (E : sxE) (x : sxV) (r : List sxV) : List (Int × Nat) → List (Nat × List sxV × sxE)
  | [] => []
  | q :: t => (match sx_rf E x (q.1, q.1) with | some E' => [(q.2, r, E')] | none => []) ++ sx_lk E x r t
def sx_br (J : Instr) (aux : List (Int × Nat)) (pc : Nat) (st : List sxV) (E : sxE) : Option (List (Nat × List sxV × sxE)) := match J, st with
  | .goto _, r => some [(rf_tg aux, r, E)]
  | .ifCond c _, x :: r => sx_two E c x ((.inr (.inl 0))) true (rf_tg aux) (pc + 3) r
  | .if_icmp c _, y :: x :: r => sx_two E c x y false (rf_tg aux) (pc + 3) r
  | .ifnull _, x :: r => sx_nul E x (rf_tg aux) (pc + 3) r
  | .ifnonnull _, x :: r => sx_nul E x (pc + 3) (rf_tg aux) r
  | .if_acmp c _, y :: x :: r => if sx_isR x = true ∧ sx_isR y = true ∧ (c = .eq ∨ c = .ne) then some [(rf_tg aux, r, E), (pc + 3, r, E)] else none
  | .tableswitch _ lo hi _, x :: r => if (hi - lo).toNat + 2 ≤ aux.length ∧ lo ≤ hi ∧ sx_isI x = true then some ((rf_tg aux, r, E) :: sx_lk E x r ((List.range ((hi - lo).toNat + 1)).map (fun i : Nat => (lo + (i : Int), ((aux[i + 1]?).getD (0, 0)).2)))) else none
  | .lookupswitch _ _, x :: r => if sx_isI x = true then some ((rf_tg aux, r, E) :: sx_lk E x r aux.tail) else none
  | _, _ => none
theorem rf_cc_iff (x y : Int32) (c : sxB) : rf_cc x y c = true ↔ sx_cc c x.toInt y.toInt := by
  cases c <;> simp only [rf_cc, sx_cc, decide_eq_true_eq, Bool.not_eq_true', decide_eq_false_iff_not, Int32.lt_iff_toInt_lt, Int32.le_iff_toInt_le, Int32.toInt_inj]
theorem sx_ng_of {c : sxB} {a b : Int} (h : ¬ sx_cc c a b) : sx_cc (sx_ng c) a b := by
  cases c <;> simp only [sx_cc, sx_ng] at h ⊢ <;> omega
theorem sx_cb_of {c : sxB} {a b : Int} {p q : Int × Int} (h : sx_cc c a b) (p1 : p.1 ≤ a) (p2 : a ≤ p.2) (q1 : q.1 ≤ b) (q2 : b ≤ q.2) : (sx_cb c p q).1.1 ≤ a ∧ a ≤ (sx_cb c p q).1.2 ∧ (sx_cb c p q).2.1 ≤ b ∧ b ≤ (sx_cb c p q).2.2 := by
  cases c <;> simp only [sx_cc, sx_cb] at h ⊢
  · omega
  · unfold sx_nx
    refine ⟨?_, ?_, ?_, ?_⟩ <;> split <;> (try dsimp only) <;> (try split) <;> omega
  · omega
  · omega
  · omega
  · omega
section SX5
variable {U : sxU} {W : sxW} {E : sxE} {M : rf_M} {sst : List sxV} {st : List Value}
theorem sx_rfo (hE : sx_e U W E M) {x : sxV} {z : Int32} {b : Int × Int} (hv : sx_v W x (.int z)) (h1 : b.1 ≤ z.toInt) (h2 : z.toInt ≤ b.2) : ∃ E', sx_rf E x b = some E' ∧ sx_e U W E' M ∧ E'.2.2.2.2 = E.2.2.2.2 ∧ E'.2.1 = E.2.1 := by
  rcases x with ⟨s, c⟩ | c | s | (_ | s)
  · obtain ⟨z', y, e1, e2, e3⟩ := hv
    cases e1
    unfold sx_rf
    dsimp only
    split
    · rename_i d hd
      obtain ⟨y', g1, g2, g3⟩ := hE.2.2.2.1 s d hd
      rw [e2] at g1
      cases g1
      rw [if_pos (by omega)]
      refine ⟨_, rfl, ⟨by simp only [List.length_set]; exact hE.1, hE.2.1, hE.2.2.1, ?_, hE.2.2.2.2.1, hE.2.2.2.2.2.1, hE.2.2.2.2.2.2.1, hE.2.2.2.2.2.2.2⟩, rfl, rfl⟩
      intro s' b' hs
      simp only [List.getElem?_set] at hs
      split at hs
      · rename_i e
        subst e
        split at hs
        · cases hs
          exact ⟨y, e2, by dsimp only; omega, by dsimp only; omega⟩
        · cases hs
      · exact hE.2.2.2.1 s' b' hs
    · exact ⟨E, rfl, hE, rfl, rfl⟩
  · obtain ⟨z', e1, e2⟩ := hv
    cases e1
    exact ⟨E, if_pos (by omega), hE, rfl, rfl⟩
  · exact ⟨E, rfl, hE, rfl, rfl⟩
  · exact ⟨E, rfl, hE, rfl, rfl⟩
  · exact ⟨E, rfl, hE, rfl, rfl⟩
theorem sx_cso (hE : sx_e U W E M) {c : sxB} {x y : sxV} {zx zy : Int32} (hx : sx_v W x (.int zx)) (hy : sx_v W y (.int zy)) (hc : sx_cc c zx.toInt zy.toInt) {o : Option sxE} (h : sx_cs E c x y = some o) : ∃ E', o = some E' ∧ sx_e U W E' M ∧ E'.2.2.2.2 = E.2.2.2.2 ∧ E'.2.1 = E.2.1 := by
  unfold sx_cs at h
  split at h
  · rename_i p q hp hq
    obtain ⟨z1, e1, p1, p2⟩ := sx_bo hE hp hx
    cases e1
    obtain ⟨z2, e2, q1, q2⟩ := sx_bo hE hq hy
    cases e2
    obtain ⟨k1, k2, k3, k4⟩ := sx_cb_of hc p1 p2 q1 q2
    obtain ⟨E1, r1, r2, r3, r4⟩ := sx_rfo hE hx k1 k2
    obtain ⟨E2, t1, t2, t3, t4⟩ := sx_rfo r2 hy k3 k4
    cases h
    rw [r1]
    exact ⟨E2, t1, t2, t3.trans r3, t4.trans r4⟩
  · cases h
theorem sx_nzmo (hE : sx_e U W E M) {x : sxV} {z : Int32} (hx : sx_v W x (.int z)) (hz : ¬ z.toInt = 0) : sx_e U W (sx_nzm E x) M := by
  unfold sx_nzm
  split
  · rename_i t
    split
    · rename_i q hq
      split
      · rename_i b hb
        refine ⟨hE.1, by simp only [List.length_set]; exact hE.2.1, hE.2.2.1, hE.2.2.2.1, ?_, hE.2.2.2.2.2.1, hE.2.2.2.2.2.2.1, hE.2.2.2.2.2.2.2⟩
        intro s b' hs
        simp only [List.getElem?_set] at hs
        split at hs
        · rename_i e
          subst e
          split at hs
          · cases hs
            obtain ⟨y, g1, g2, g3, -⟩ := hE.2.2.2.2.1 _ _ hb
            refine ⟨y, g1, g2, g3, fun _ => ?_⟩
            have hm := List.mem_of_find?_eq_some hq
            have hq1 : q.1 = t := by simpa using List.find?_some hq
            obtain ⟨y1, z1, m1, m2, m3⟩ := hE.2.2.2.2.2.2.2 q.1 q.2 hm
            rw [g1] at m2
            cases m2
            obtain ⟨z', y', e1, e2, e3⟩ := hx
            cases e1
            rw [hq1, e2] at m1
            cases m1
            intro e
            exact hz (by rw [e3, m3.mpr e]; rfl)
          · cases hs
        · exact hE.2.2.2.2.1 s b' hs
      · exact hE
    · exact hE
  · exact hE
theorem sx_twoo (hE : sx_e U W E M) {c : sxB} {x y : sxV} {zx zy : Int32} {z : Bool} {tg fl : Nat} {r : List sxV} {rc : List Value} {outs : List (Nat × List sxV × sxE)} (hx : sx_v W x (.int zx)) (hy : sx_v W y (.int zy)) (hz : z = true → zy.toInt = 0) (hr : sx_vs W r rc) (h : sx_two E c x y z tg fl r = some outs) : ∃ o ∈ outs, o.1 = (if rf_cc zx zy c = true then tg else fl) ∧ sx_e U W o.2.2 M ∧ sx_vs W o.2.1 rc := by
  unfold sx_two at h
  split at h
  · rename_i t f ht hf
    cases h
    have key : ∀ (c' : sxB) (E' : sxE), sx_e U W E' M → E'.2.2.2.2 = E.2.2.2.2 → sx_cc c' zx.toInt zy.toInt → sx_e U W (if z = true then sx_nzc c' E' x else E') M := by
      intro c' E' hE' _ hc'
      split
      · rename_i hzt
        unfold sx_nzc
        split
        · refine sx_nzmo hE' hx ?_
          have := hz hzt
          have hc2 : ¬ zx.toInt = zy.toInt := hc'
          omega
        · exact hE'
      · exact hE'
    by_cases hc : rf_cc zx zy c = true
    · obtain ⟨E', rfl, h2, h3, h4⟩ := sx_cso hE hx hy ((rf_cc_iff _ _ _).mp hc) ht
      refine ⟨(tg, r, if z = true then sx_nzc c E' x else E'), List.mem_append_left _ ?_, by rw [if_pos hc], key c E' h2 h3 ((rf_cc_iff _ _ _).mp hc), hr⟩
      simp
    · have hc' := sx_ng_of (fun q => hc ((rf_cc_iff _ _ _).mpr q))
      obtain ⟨E', rfl, h2, h3, h4⟩ := sx_cso hE hx hy hc' hf
      refine ⟨(fl, r, if z = true then sx_nzc (sx_ng c) E' x else E'), List.mem_append_right _ ?_, by rw [if_neg hc], key _ E' h2 h3 hc', hr⟩
      simp
  · cases h
theorem sx_csI {c : sxB} {x y : sxV} {o : Option sxE} (h : sx_cs E c x y = some o) : sx_isI x = true ∧ sx_isI y = true := by
  unfold sx_cs at h
  split at h
  · rename_i p q hp hq
    constructor
    · rcases x with ⟨_, _⟩ | _ | _ | (_ | _) <;> first | rfl | cases hp
    · rcases y with ⟨_, _⟩ | _ | _ | (_ | _) <;> first | rfl | cases hq
  · cases h
theorem sx_twoI {c : sxB} {x y : sxV} {z : Bool} {tg fl : Nat} {r : List sxV} {outs : List (Nat × List sxV × sxE)} (h : sx_two E c x y z tg fl r = some outs) : sx_isI x = true ∧ sx_isI y = true := by
  unfold sx_two at h
  split at h
  · rename_i t f ht hf
    exact sx_csI ht
  · cases h
theorem sx_nulo (hE : sx_e U W E M) {x : sxV} {v : Value} {yes no : Nat} {r : List sxV} {rc : List Value} {outs : List (Nat × List sxV × sxE)} (hx : sx_v W x v) (hr : sx_vs W r rc) (h : sx_nul E x yes no r = some outs) : ∃ o ∈ outs, ((v = .null ∧ o.1 = yes) ∨ ((∃ a, v = .ref a) ∧ o.1 = no)) ∧ sx_e U W o.2.2 M ∧ sx_vs W o.2.1 rc := by
  unfold sx_nul at h
  split at h
  · cases h
    exact ⟨_, List.mem_singleton_self _, Or.inl ⟨hx, rfl⟩, hE, hr⟩
  · rename_i s
    split at h
    · rename_i b hb
      cases h
      obtain ⟨o, rfl, ho⟩ := hx
      obtain ⟨o', g1, g2⟩ := hE.2.2.2.2.2.1 _ _ hb
      rw [ho] at g1
      cases g1
      cases o with
      | none =>
        have g2 : b.2 = true := g2
        exact ⟨(yes, r, E), by rw [g2]; simp, Or.inl ⟨rfl, rfl⟩, hE, hr⟩
      | some a =>
        refine ⟨_, List.mem_cons_self, Or.inr ⟨⟨a, rfl⟩, rfl⟩, ⟨hE.1, hE.2.1, by simp only [List.length_set]; exact hE.2.2.1, hE.2.2.2.1, hE.2.2.2.2.1, ?_, hE.2.2.2.2.2.2.1, hE.2.2.2.2.2.2.2⟩, hr⟩
        intro s' b' hs
        simp only [List.getElem?_set] at hs
        split at hs
        · rename_i e
          subst e
          split at hs
          · cases hs
            exact ⟨some a, ho, g2⟩
          · cases hs
        · exact hE.2.2.2.2.2.1 s' b' hs
    · cases h
  · cases h
theorem sx_nno (hE : sx_e U W E M) {x : sxV} {v : Value} (h : sx_nn E x = true) (hx : sx_v W x v) : ∃ a s b, x = (.inr (.inr (.inr (some s)))) ∧ v = .ref a ∧ E.2.2.1[s]? = some b ∧ W.2.2[s]? = some (some a) ∧ sx_rc U b.1 a := by
  unfold sx_nn at h
  split at h
  · rename_i s
    split at h
    · rename_i b hb
      obtain ⟨o, rfl, ho⟩ := hx
      obtain ⟨o', g1, g2⟩ := hE.2.2.2.2.2.1 _ _ hb
      rw [ho] at g1
      cases g1
      cases o with
      | none =>
        have g2 : b.2 = true := g2
        rw [g2] at h; cases h
      | some a => exact ⟨a, s, b, rfl, rfl, hb, ho, g2⟩
    · cases h
  · cases h
theorem sx_rno (hE : sx_e U W E M) {x : sxV} {v : Value} (h : sx_isR x = true) (hx : sx_v W x v) : v = .null ∨ ∃ a, v = .ref a ∧ U.1.1.2.2.2.2 ≤ a := by
  rcases x with ⟨s, c⟩ | c | s | (_ | s)
  · cases h
  · cases h
  · cases h
  · exact Or.inl hx
  · obtain ⟨o, rfl, ho⟩ := hx
    cases o with
    | none => exact Or.inl rfl
    | some a =>
      have hlt : s < E.2.2.1.length := by
        rw [← hE.2.2.1]
        exact (List.getElem?_eq_some_iff.mp ho).1
      obtain ⟨o', g1, g2⟩ := hE.2.2.2.2.2.1 s _ (List.getElem?_eq_getElem hlt)
      rw [ho] at g1
      cases g1
      have g2 : sx_rc U _ a := g2
      exact Or.inr ⟨a, rfl, g2.1⟩
theorem sx_lko (hE : sx_e U W E M) {x : sxV} {z : Int32} {r : List sxV} {rc : List Value} (hx : sx_v W x (.int z)) (hr : sx_vs W r rc) : ∀ {t : List (Int × Nat)} {q : Int × Nat}, q ∈ t → q.1 = z.toInt → ∃ o ∈ sx_lk E x r t, o.1 = q.2 ∧ sx_e U W o.2.2 M ∧ sx_vs W o.2.1 rc := by
  intro t
  induction t with
  | nil => intro q hq; cases hq
  | cons q0 t ih =>
    intro q hq hz
    rcases List.mem_cons.mp hq with e | e
    · subst e
      obtain ⟨E', h1, h2, -⟩ := sx_rfo hE (b := (q.1, q.1)) hx (Int.le_of_eq hz) (Int.le_of_eq hz.symm)
      refine ⟨(q.2, r, E'), List.mem_append_left _ ?_, rfl, h2, hr⟩
      rw [h1]
      simp
    · obtain ⟨o, h1, h2⟩ := ih e hz
      exact ⟨o, List.mem_append_right _ h1, h2⟩
theorem rf_sw_or (t : List (Int × Nat)) (d : Nat) (x : Int) : rf_sw t d x = d ∨ ∃ q ∈ t, q.1 = x ∧ rf_sw t d x = q.2 := by
  induction t with
  | nil => exact Or.inl rfl
  | cons q t ih =>
    unfold rf_sw
    split
    · rename_i h
      exact Or.inr ⟨q, List.mem_cons_self, h, rfl⟩
    · rcases ih with h | ⟨q', h1, h2⟩
      · exact Or.inl h
      · exact Or.inr ⟨q', List.mem_cons_of_mem _ h1, h2⟩
theorem sx_bro {J : Instr} {aux : List (Int × Nat)} {pc : Nat} {outs : List (Nat × List sxV × sxE)} (hE : sx_e U W E M) (hs : sx_vs W sst st) (h : sx_br J aux pc sst E = some outs) : ∃ pc' st', rf_br U.1.1.2.2.2.2 J aux pc st = some (pc', st') ∧ ∃ o ∈ outs, o.1 = pc' ∧ sx_e U W o.2.2 M ∧ sx_vs W o.2.1 st' := by
  unfold sx_br at h
  split at h
  · cases h
    exact ⟨_, st, rfl, _, List.mem_singleton_self _, rfl, hE, hs⟩
  · obtain ⟨v, r, rfl, h1, hs1⟩ := sx_cons hs
    obtain ⟨z, rfl⟩ := sx_vI (sx_twoI h).1 h1
    obtain ⟨o, o1, o2, o3, o4⟩ := sx_twoo hE h1 (y := (.inr (.inl 0))) (zy := 0) ⟨0, rfl, Int32.toInt_zero⟩ (fun _ => Int32.toInt_zero) hs1 h
    exact ⟨_, r, rfl, o, o1, o2, o3, o4⟩
  · obtain ⟨v, r, rfl, h1, hs1⟩ := sx_cons hs
    obtain ⟨w, r, rfl, h2, hs2⟩ := sx_cons hs1
    obtain ⟨zy, rfl⟩ := sx_vI (sx_twoI h).2 h1
    obtain ⟨zx, rfl⟩ := sx_vI (sx_twoI h).1 h2
    obtain ⟨o, o1, o2, o3, o4⟩ := sx_twoo hE h2 h1 (fun e => by cases e) hs2 h
    exact ⟨_, r, rfl, o, o1, o2, o3, o4⟩
  · obtain ⟨v, r, rfl, h1, hs1⟩ := sx_cons hs
    obtain ⟨o, o1, o2, o3, o4⟩ := sx_nulo hE h1 hs1 h
    rcases o2 with ⟨rfl, e⟩ | ⟨⟨a, rfl⟩, e⟩
    · exact ⟨_, r, rfl, o, o1, e, o3, o4⟩
    · exact ⟨_, r, rfl, o, o1, e, o3, o4⟩
  · obtain ⟨v, r, rfl, h1, hs1⟩ := sx_cons hs
    obtain ⟨o, o1, o2, o3, o4⟩ := sx_nulo hE h1 hs1 h
    rcases o2 with ⟨rfl, e⟩ | ⟨⟨a, rfl⟩, e⟩
    · exact ⟨_, r, rfl, o, o1, e, o3, o4⟩
    · exact ⟨_, r, rfl, o, o1, e, o3, o4⟩
  · obtain ⟨v, r, rfl, h1, hs1⟩ := sx_cons hs
    obtain ⟨w, r, rfl, h2, hs2⟩ := sx_cons hs1
    split at h
    · rename_i hc
      cases h
      rename_i rr
      have yes : ∀ pc', pc' = rf_tg aux ∨ pc' = pc + 3 → ∃ o ∈ [(rf_tg aux, rr, E), (pc + 3, rr, E)], o.1 = pc' ∧ sx_e U W o.2.2 M ∧ sx_vs W o.2.1 r := by
        intro pc' hp
        rcases hp with rfl | rfl
        · exact ⟨_, List.mem_cons_self, rfl, hE, hs2⟩
        · exact ⟨_, List.mem_cons_of_mem _ List.mem_cons_self, rfl, hE, hs2⟩
      rcases sx_rno hE hc.2.1 h1 with rfl | ⟨a, rfl, ha⟩
      · rcases sx_rno hE hc.1 h2 with rfl | ⟨a', rfl, ha'⟩
        · rcases hc.2.2 with rfl | rfl
          · exact ⟨_, r, rfl, yes _ (Or.inl rfl)⟩
          · exact ⟨_, r, rfl, yes _ (Or.inr rfl)⟩
        · rcases hc.2.2 with rfl | rfl
          · exact ⟨_, r, rfl, yes _ (Or.inr rfl)⟩
          · exact ⟨_, r, rfl, yes _ (Or.inl rfl)⟩
      · rcases sx_rno hE hc.1 h2 with rfl | ⟨a', rfl, ha'⟩
        · rcases hc.2.2 with rfl | rfl
          · exact ⟨_, r, rfl, yes _ (Or.inr rfl)⟩
          · exact ⟨_, r, rfl, yes _ (Or.inl rfl)⟩
        · have hlt : ¬ (a' < U.1.1.2.2.2.2 ∨ a < U.1.1.2.2.2.2) := fun z => z.elim (fun z => Nat.not_lt.mpr ha' z) (fun z => Nat.not_lt.mpr ha z)
          rcases hc.2.2 with rfl | rfl
          · by_cases e : a' = a
            · exact ⟨rf_tg aux, r, by show (if _ then _ else some (if a' = a then _ else _, r)) = _; rw [if_neg hlt, if_pos e], yes _ (Or.inl rfl)⟩
            · exact ⟨pc + 3, r, by show (if _ then _ else some (if a' = a then _ else _, r)) = _; rw [if_neg hlt, if_neg e], yes _ (Or.inr rfl)⟩
          · by_cases e : a' = a
            · exact ⟨pc + 3, r, by show (if _ then _ else some (if a' = a then _ else _, r)) = _; rw [if_neg hlt, if_pos e], yes _ (Or.inr rfl)⟩
            · exact ⟨rf_tg aux, r, by show (if _ then _ else some (if a' = a then _ else _, r)) = _; rw [if_neg hlt, if_neg e], yes _ (Or.inl rfl)⟩
    · cases h
  · obtain ⟨v, r, rfl, h1, hs1⟩ := sx_cons hs
    split at h
    · rename_i d lo hi ts x r' hc
      cases h
      obtain ⟨z, rfl⟩ := sx_vI hc.2.2 h1
      by_cases hz : z.toInt < lo ∨ hi < z.toInt
      · exact ⟨rf_tg aux, r, if_pos hz, _, List.mem_cons_self, rfl, hE, hs1⟩
      · have hlen : (z.toInt - lo).toNat + 1 < aux.length := by omega
        obtain ⟨o, o1, o2, o3, o4⟩ := sx_lko hE h1 hs1 (t := (List.range ((hi - lo).toNat + 1)).map (fun i : Nat => (lo + (i : Int), ((aux[i + 1]?).getD (0, 0)).2))) (q := (lo + ((z.toInt - lo).toNat : Int), ((aux[(z.toInt - lo).toNat + 1]?).getD (0, 0)).2)) (List.mem_map.mpr ⟨(z.toInt - lo).toNat, List.mem_range.mpr (by omega), rfl⟩) (by dsimp only; omega)
        refine ⟨_, r, ?_, o, List.mem_cons_of_mem _ o1, o2, o3, o4⟩
        show (if z.toInt < lo ∨ hi < z.toInt then _ else (match aux[(z.toInt - lo).toNat + 1]? with | some q => some (q.2, r) | none => none)) = _
        rw [if_neg hz, List.getElem?_eq_getElem hlen]
        rfl
    · cases h
  · obtain ⟨v, r, rfl, h1, hs1⟩ := sx_cons hs
    split at h
    · rename_i hc
      cases h
      obtain ⟨z, rfl⟩ := sx_vI hc h1
      rcases rf_sw_or aux.tail (rf_tg aux) z.toInt with e | ⟨q, q1, q2, q3⟩
      · exact ⟨_, r, rfl, _, List.mem_cons_self, e.symm, hE, hs1⟩
      · obtain ⟨o, o1, o2, o3, o4⟩ := sx_lko hE h1 hs1 q1 q2
        exact ⟨_, r, rfl, o, List.mem_cons_of_mem _ o1, o2.trans q3.symm, o3, o4⟩
    · cases h
  · cases h
end SX5
