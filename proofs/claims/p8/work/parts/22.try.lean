/-! a first contract, by hand: Program.has -/
theorem c_has (fz : Bool) {I : Nat → Nat → Int32} {L : Nat → Nat → Int64} {R : Nat → Nat → Option Nat} {S : gS} {a : Nat} {v : Int32} (hs : go (cx0 fz) S a 1) : gx (cx0 fz) (0, 0) 64 0 [(0, .ref a), (1, .int v)] [] ((I, L, R), S) (fun r h' => h' = ((I, L, R), S) ∧ r = some (.int (if v < 0 then 0 else if I a 0 ≤ v then 0 else 1))) := by
  refine g1 (n := 1) rfl rfl rfl rfl ?_
  refine g_if rfl (fun c1 => ?_) (fun c1 => ?_)
  · have c1 : v < 0 := of_decide_eq_true c1
    refine g1 (n := 1) rfl rfl rfl rfl ?_
    exact gx_ret rfl rfl ⟨rfl, by rw [if_pos c1]; rfl⟩
  · have c1 : ¬ v < 0 := fun z => c1 (decide_eq_true z)
    refine g1 (n := 1) rfl rfl rfl rfl ?_
    refine g1 (n := 1) rfl rfl rfl rfl ?_
    refine g_gf rfl hs rfl rfl ?_
    refine g_ic rfl (fun c2 => ?_) (fun c2 => ?_)
    · have c2 : I a 0 ≤ v := of_decide_eq_true c2
      refine g1 (n := 1) rfl rfl rfl rfl ?_
      exact gx_ret rfl rfl ⟨rfl, by rw [if_neg c1, if_pos c2]; rfl⟩
    · have c2 : ¬ I a 0 ≤ v := fun z => c2 (decide_eq_true z)
      refine g1 (n := 1) rfl rfl rfl rfl ?_
      refine g3 rfl rfl rfl ?_
      exact gx_ret rfl rfl ⟨rfl, by rw [if_neg c1, if_neg c2]; rfl⟩
theorem c_reset (fz : Bool) {I : Nat → Nat → Int32} {L : Nat → Nat → Int64} {R : Nat → Nat → Option Nat} {S : gS} {a : Nat} (hs : go (cx0 fz) S a 1) : gx (cx0 fz) (0, 0) 18 0 [(0, .ref a)] [] ((I, L, R), S) (fun r h' => r = none ∧ ∃ I', h' = ((I', L, R), S) ∧ I' a 0 = 0 ∧ ∀ b, b ≠ a → I' b = I b) := by
  refine g1 (n := 1) rfl rfl rfl rfl ?_
  refine g1 (n := 1) rfl rfl rfl rfl ?_
  refine g_pf rfl hs rfl rfl ?_
  refine g1 (n := 1) rfl rfl rfl rfl ?_
  refine g1 (n := 1) rfl rfl rfl rfl ?_
  refine g_pf rfl hs rfl rfl ?_
  refine g1 (n := 1) rfl rfl rfl rfl ?_
  refine g1 (n := 1) rfl rfl rfl rfl ?_
  refine g_pf rfl hs rfl rfl ?_
  refine g1 (n := 1) rfl rfl rfl rfl ?_
  refine g1 (n := 1) rfl rfl rfl rfl ?_
  refine g_pf rfl hs rfl rfl ?_
  refine g1 (n := 1) rfl rfl rfl rfl ?_
  refine g1 (n := 1) rfl rfl rfl rfl ?_
  refine g_pf rfl hs rfl rfl ?_
  refine gx_ret rfl rfl ⟨rfl, _, rfl, ?_, ?_⟩
  · simp [va_up]
  · intro b hb
    simp [va_up, hb]
