/-! THE REFERENCE'S replays() leaves all as it was -/
def rpI (M : rf_M) (Ts : tsT) (c0 : Nat) (S : syT) : Prop := RRS M Ts c0 S ∧ gi M 353 42 = 1 ∧ ∃ rs, rrs M Ts 1 rs ∧ (∀ q ∈ rs, q.1 < c0 ∧ vld (Ts q.1).1 (Ts q.1).2.1 q.2) ∧ rs.length ≤ 32
section WRP

variable {M M' : rf_M} {c0 : Nat} {K : Int → rf_M → Prop} {Ts : tsT} {S : syT} {P : Nat → Nat → Prop}

theorem rpI.eq (hS : SI Ts c0 S) (h : rpI M Ts c0 S) (e : eqy P M M') (q : ∀ b k, pvR b k ∨ (b = 353 ∧ k = 42) ∨ (b = 378 ∧ k = 1) ∨ b = 379 → ¬ P b k) : rpI M' Ts c0 S := by
  obtain ⟨h1, h2, rs, h3, h4, h5⟩ := h
  refine ⟨h1.eq hS e (fun b k z => q b k (Or.inl z)), (e.i (q _ _ (Or.inr (Or.inl ⟨rfl, rfl⟩)))).trans h2, rs, ⟨(e.i (q _ _ (Or.inr (Or.inr (Or.inl ⟨rfl, rfl⟩))))).trans h3.1, fun j hj => (e.i (q _ _ (Or.inr (Or.inr (Or.inr rfl))))).trans (h3.2 j hj)⟩, h4, h5⟩
end WRP
