/-! EVERY RUN THAT ENDS, ENDS WITH Q (fuel at most n, any room): what is known to end needs no more than this -/
def lx (cx : rf_C) (n : Nat) (i pc : Nat) (ls : rf_L) (st : List Value) (h : rf_H) (Q : Option Value → rf_H → Prop) : Prop := ∀ m, m ≤ n → ∀ d r h', rf_ev cx m d i pc ls st h = some (r, h') → Q r h'
section LX
variable {cx : rf_C} {n i pc : Nat} {ls : rf_L} {st : List Value} {h : rf_H} {Q Q' : Option Value → rf_H → Prop}
theorem lx_step {I : rf_I} (hf : cx.1 i pc = some I) (hk : ∀ d o, rf_ex cx d i pc I ls st h = some o → ∃ pc' ls' st' h', o = .inl (pc', ls', st', h') ∧ lx cx (n - 1) i pc' ls' st' h' Q) : lx cx n i pc ls st h Q := by
  intro m hm d r h' he
  cases m with
  | zero => unfold rf_ev at he; cases he
  | succ m =>
    unfold rf_ev at he
    rw [hf] at he
    dsimp only at he
    cases hx : rf_ex cx d i pc I ls st h with
    | none => rw [hx] at he; cases he
    | some o =>
      obtain ⟨pc', ls', st', h2, rfl, k⟩ := hk d o hx
      rw [hx] at he
      exact k m (by omega) d r h' he
theorem lx_call {I : rf_I} {j : Nat} {as rest : List Value} (hf : cx.1 i pc = some I) (he : ∀ d o, rf_ex cx d i pc I ls st h = some o → o = .inr (.inl (j, as, rest))) (k : 0 < n → lx cx (n - 1) j 0 (lv_args 0 as) [] h (fun r h' => lx cx (n - 1) i (pc + 3) ls (r.toList ++ rest) h' Q)) : lx cx n i pc ls st h Q := by
  intro m hm d r h' hr
  cases m with
  | zero => unfold rf_ev at hr; cases hr
  | succ m =>
    unfold rf_ev at hr
    rw [hf] at hr
    dsimp only at hr
    cases hx : rf_ex cx d i pc I ls st h with
    | none => rw [hx] at hr; cases hr
    | some o =>
      have e := he d o hx
      subst e
      rw [hx] at hr
      dsimp only at hr
      split at hr
      · cases hc : rf_ev cx m (d.1 - 1, d.2 - ((cx.2.1 j).2.2.1 + 19)) j 0 (lv_args 0 as) [] h with
        | none => rw [hc] at hr; cases hr
        | some q =>
          rw [hc] at hr
          exact k (by omega) m (by omega) _ q.1 q.2 hc m (by omega) d r h' hr
      · cases hr
theorem lx_ret {I : rf_I} (hf : cx.1 i pc = some I) (he : ∀ d o, rf_ex cx d i pc I ls st h = some o → ∃ v, o = .inr (.inr v) ∧ Q v h) : lx cx n i pc ls st h Q := by
  intro m hm d r h' hr
  cases m with
  | zero => unfold rf_ev at hr; cases hr
  | succ m =>
    unfold rf_ev at hr
    rw [hf] at hr
    dsimp only at hr
    cases hx : rf_ex cx d i pc I ls st h with
    | none => rw [hx] at hr; cases hr
    | some o =>
      obtain ⟨v, rfl, q⟩ := he d o hx
      rw [hx] at hr
      injection hr with hr
      injection hr with h1 h2
      subst h1; subst h2
      exact q
theorem lx_zero : lx cx 0 i pc ls st h Q := fun m hm d r h' he => by
  obtain rfl : m = 0 := by omega
  unfold rf_ev at he
  cases he
theorem lx_mono (k : lx cx n i pc ls st h Q) (hq : ∀ r h', Q r h' → Q' r h') : lx cx n i pc ls st h Q' := fun m hm d r h' he => hq r h' (k m hm d r h' he)
theorem lx_less {n' : Nat} (k : lx cx n i pc ls st h Q) (hn : n' ≤ n) : lx cx n' i pc ls st h Q := fun m hm => k m (Nat.le_trans hm hn)
/-- what ends with Q, ends with all that every run ends with -/
theorem gx_lx {d : Nat × Nat} (k : gx cx d i pc ls st h Q) (l : ∀ n, lx cx n i pc ls st h Q') : gx cx d i pc ls st h (fun r h' => Q r h' ∧ Q' r h') := by
  obtain ⟨m, r, h', he, hq⟩ := k
  exact ⟨m, r, h', he, hq, l m m (Nat.le_refl _) d r h' he⟩
theorem lx_to {I : rf_I} {pc' : Nat} {ls' : rf_L} {st' : List Value} {h' : rf_H} (hf : cx.1 i pc = some I) (he : ∀ d, rf_ex cx d i pc I ls st h = some (.inl (pc', ls', st', h'))) (k : lx cx (n - 1) i pc' ls' st' h' Q) : lx cx n i pc ls st h Q := lx_step hf (fun d o ho => by
  rw [he d] at ho
  injection ho with ho
  exact ⟨_, _, _, _, ho.symm, k⟩)
theorem lx_no {I : rf_I} (hf : cx.1 i pc = some I) (he : ∀ d, rf_ex cx d i pc I ls st h = none) : lx cx n i pc ls st h Q := lx_step hf (fun d o ho => by
  rw [he d] at ho
  cases ho)
end LX
