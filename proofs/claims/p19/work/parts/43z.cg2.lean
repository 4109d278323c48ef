/-! two codes that differ at one method alone, into which no walk goes -/
section CG2
variable {T : sxT} {c c' : Nat → Nat → Option rf_I} {r : (Nat → rf_Mt) × (Int → Nat → FieldType) × List vw_C × Nat} {G : List sxR} {rg : Nat → Nat} {S : gS} {m : rf_M}
theorem sx_hp_c2 (p : 0 < r.2.2.2) (s : ∀ a, r.2.2.2 ≤ a → a < S.2.1 → sx_sh G (rg a) (S.1 a)) : sx_hp ⟨((c, r), G, rg, S, m), p, s⟩ = sx_hp ⟨((c', r), G, rg, S, m), p, s⟩ := rfl
theorem sx_bi_c2 (p : 0 < r.2.2.2) (s : ∀ a, r.2.2.2 ≤ a → a < S.2.1 → sx_sh G (rg a) (S.1 a)) : sx_bi ⟨((c, r), G, rg, S, m), p, s⟩ = sx_bi ⟨((c', r), G, rg, S, m), p, s⟩ := rfl
theorem sx_ca_c2 (p : 0 < r.2.2.2) (s : ∀ a, r.2.2.2 ≤ a → a < S.2.1 → sx_sh G (rg a) (S.1 a)) : sx_ca ⟨((c, r), G, rg, S, m), p, s⟩ = sx_ca ⟨((c', r), G, rg, S, m), p, s⟩ := rfl
theorem sx_go_c2 (p : 0 < r.2.2.2) (s : ∀ a, r.2.2.2 ≤ a → a < S.2.1 → sx_sh G (rg a) (S.1 a)) (hT : ∀ q ∈ T.1, q.1 ≠ 30) (hc : ∀ j, j ≠ 30 → ∀ pc, c j pc = c' j pc) : ∀ (n : Nat) (q : sxQ) (j : Nat), j ≠ 30 → sx_go T ⟨((c, r), G, rg, S, m), p, s⟩ n q j = sx_go T ⟨((c', r), G, rg, S, m), p, s⟩ n q j := by
  intro n
  induction n with
  | zero => intro q j _; rfl
  | succ n ih =>
    intro q j hj
    funext pc sl st E
    unfold sx_go
    dsimp only
    rw [hc j hj pc]
    cases c' j pc with
    | none => rfl
    | some I =>
      dsimp only
      rw [ih q j hj, sx_hp_c2 (c := c) (c' := c') p s, sx_bi_c2 (c := c) (c' := c') p s, sx_ca_c2 (c := c) (c' := c') p s]
      by_cases h10 : 10 ≤ (I.2.headD (0, 0)).1
      · rw [if_pos h10, if_pos h10]
      · rw [if_neg h10, if_neg h10]
        cases sx_ca ⟨((c', r), G, rg, S, m), p, s⟩ I.1 I.2 st E with
        | none =>
          have hb : ∀ F : Nat × List sxV × List sxV → Option sxO, Option.bind none F = none := fun _ => rfl
          rw [hb, hb]
        | some a =>
          have hb : ∀ F : Nat × List sxV × List sxV → Option sxO, Option.bind (some a) F = F a := fun _ => rfl
          rw [hb, hb]
          by_cases hl : (sx_args a.2.1).length ≤ (r.1 a.1).2.2.1 ∧ (r.1 a.1).2.2.1 + 19 ≤ T.2.2.2
          · rw [if_pos hl, if_pos hl]
            cases hf : T.1.find? (fun p => p.1 == a.1) with
            | none => rfl
            | some p' =>
              have hm := List.mem_of_find?_eq_some hf
              have he : p'.1 = a.1 := by simpa using List.find?_some hf
              have hne : a.1 ≠ 30 := fun z => hT p' hm (he.trans z)
              dsimp only
              rw [ih (q.1, p'.2, none, none) a.1 hne]
          · rw [if_neg hl, if_neg hl]
theorem sx_ckc_c2 (p : 0 < r.2.2.2) (s : ∀ a, r.2.2.2 ≤ a → a < S.2.1 → sx_sh G (rg a) (S.1 a)) (hT : ∀ q ∈ T.1, q.1 ≠ 30) (hc : ∀ j, j ≠ 30 → ∀ pc, c j pc = c' j pc) (n : Nat) (k : sxC) (hk : k.1 ≠ 30) : sx_ckc T ⟨((c, r), G, rg, S, m), p, s⟩ n k = sx_ckc T ⟨((c', r), G, rg, S, m), p, s⟩ n k := by
  have e : ∀ q, sx_go T ⟨((c, r), G, rg, S, m), p, s⟩ n q k.1 = sx_go T ⟨((c', r), G, rg, S, m), p, s⟩ n q k.1 := fun q => sx_go_c2 p s hT hc n q k.1 hk
  unfold sx_ckc sx_ckk
  simp only [e]
end CG2
theorem sx_ckc_c3 {T : sxT} {C C' : rf_C} {G : List sxR} {rg : Nat → Nat} {S : gS} {m : rf_M} (p : 0 < C.2.2.2.2) (s : ∀ a, C.2.2.2.2 ≤ a → a < S.2.1 → sx_sh G (rg a) (S.1 a)) (p' : 0 < C'.2.2.2.2) (s' : ∀ a, C'.2.2.2.2 ≤ a → a < S.2.1 → sx_sh G (rg a) (S.1 a)) (hr : C.2 = C'.2) (hT : ∀ q ∈ T.1, q.1 ≠ 30) (hc : ∀ j, j ≠ 30 → ∀ pc, C.1 j pc = C'.1 j pc) (n : Nat) (k : sxC) (hk : k.1 ≠ 30) : sx_ckc T ⟨(C, G, rg, S, m), p, s⟩ n k = sx_ckc T ⟨(C', G, rg, S, m), p', s'⟩ n k := by
  obtain ⟨c, r⟩ := C
  obtain ⟨c', r'⟩ := C'
  have hr : r = r' := hr
  subst hr
  exact sx_ckc_c2 p s hT hc n k hk
theorem ml0_ne (fz : Bool) {i : Nat} (h : i ≠ 30) : (ml0 fz).getD i rf_dm = (ml0 true).getD i rf_dm := by
  have e : ml0 fz = (ml0 true).set 30 (mi_30 fz) := by cases fz <;> rfl
  rw [e, List.getD_eq_getElem?_getD, List.getD_eq_getElem?_getD, List.getElem?_set_ne (Ne.symm h)]
theorem cx0_c3 (fz : Bool) : (cx0 fz).2 = (cx0 true).2 := by
  have e : (fun i => ((ml0 fz).getD i rf_dm).1) = (fun i => ((ml0 true).getD i rf_dm).1) := by
    funext i
    by_cases h : i = 30
    · subst h; cases fz <;> rfl
    · rw [ml0_ne fz h]
  show ((fun i => ((ml0 fz).getD i rf_dm).1), ty0, cl0, 22) = ((fun i => ((ml0 true).getD i rf_dm).1), ty0, cl0, 22)
  rw [e]
theorem cx0_c4 (fz : Bool) : ∀ j, j ≠ 30 → ∀ pc, (cx0 fz).1 j pc = (cx0 true).1 j pc := by
  intro j hj pc
  show (((ml0 fz).getD j rf_dm).2.2.find? (fun q => q.1 == pc)).map (fun q => q.2.1) = (((ml0 true).getD j rf_dm).2.2.find? (fun q => q.1 == pc)).map (fun q => q.2.1)
  rw [ml0_ne fz hj]
