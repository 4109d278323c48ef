section ONE2
variable {X : txT} {w w0 : wdT} {g : sgT} {r ρ rF : rdT}
theorem stepp_one (hw : frsh w rF) (h1 : (stepp X w0 g r).1.1 ≠ 3) (h2 : rsub (stepp X w0 g r).2.2 rF) (h3 : frsh w ρ) (h4 : msub ρ rF) : ∃ ρ', stepp X w g ρ = ((stepp X w0 g r).1, (stepp X w0 g r).2.1, ρ') ∧ frsh w ρ' ∧ msub ρ' rF := by
  unfold stepp stpx at h1 h2 ⊢
  by_cases c0 : g.1 < 0
  · rw [if_pos c0, if_pos c0]; exact ⟨ρ, rfl, h3, h4⟩
  · rw [if_neg c0] at h1 h2 ⊢
    rw [if_neg c0]
    by_cases c1 : X.1 0 g.1.toNat = 15 ∨ X.1 0 g.1.toNat = 17
    · rw [if_pos c1, if_pos c1]; exact ⟨ρ, rfl, h3, h4⟩
    · rw [if_neg c1] at h1 h2 ⊢
      rw [if_neg c1]
      by_cases c2 : X.1 0 g.1.toNat = 19
      · rw [if_pos c2, if_pos c2]; exact ⟨ρ, rfl, h3, h4⟩
      · rw [if_neg c2] at h1 h2 ⊢
        rw [if_neg c2]
        by_cases c3 : X.1 0 g.1.toNat = 13
        · rw [if_pos c3, if_pos c3]
          split <;> exact ⟨ρ, rfl, h3, h4⟩
        · rw [if_neg c3] at h1 h2 ⊢
          rw [if_neg c3]
          by_cases d1 : (evc X.2.1 X.2.2 w0 g.2.1 161 (X.1 2 g.1.toNat).toNat [] r).1.1 = 1
          · rw [if_pos d1] at h1; exact absurd rfl h1
          · have hs : rsub (evc X.2.1 X.2.2 w0 g.2.1 161 (X.1 2 g.1.toNat).toNat [] r).2 rF := by
              rw [if_neg d1] at h2
              split at h2
              · split at h2 <;> exact h2
              · split at h2
                · split at h2 <;> exact h2
                · split at h2
                  · exact h2
                  · split at h2 <;> exact h2
            obtain ⟨ρ1, e1, e2, e3⟩ := evc_one (O := X.2.1) (A := X.2.2) (m := g.2.1) hw 161 (X.1 2 g.1.toNat).toNat [] r ρ d1 hs h3 h4
            rw [e1]
            dsimp only
            rw [if_neg d1, if_neg d1]
            refine ⟨ρ1, ?_, e2, e3⟩
            split
            · split <;> rfl
            · split
              · split <;> rfl
              · split
                · rfl
                · split <;> rfl
/-- k steps in one go -/
theorem wit_one {g0 : sgT} (hw : frsh w rF) (h3 : frsh w ρ) (h4 : msub ρ rF) : ∀ (k : Nat) (g : sgT) (r1 : rdT), wit X w0 g0 r k = some (g, r1) → rsub r1 rF → ∃ ρ', wit X w g0 ρ k = some (g, ρ') ∧ frsh w ρ' ∧ msub ρ' rF
  | 0, g, r1, h, _ => by
    injection h with h
    exact ⟨ρ, by rw [← (Prod.mk.inj h).1]; rfl, h3, h4⟩
  | k + 1, g, r1, h, hr => by
    have h : (wit X w0 g0 r k).bind (fun q => if (stepp X w0 q.1 q.2).1.1 = 0 then some (stepp X w0 q.1 q.2).2 else none) = some (g, r1) := h
    cases hk : wit X w0 g0 r k with
    | none => rw [hk] at h; cases h
    | some q =>
      rw [hk] at h
      have h : (if (stepp X w0 q.1 q.2).1.1 = 0 then some (stepp X w0 q.1 q.2).2 else none) = some (g, r1) := h
      split at h
      · rename_i hz
        injection h with h
        have hr1 : rsub (stepp X w0 q.1 q.2).2.2 rF := by rw [h]; exact hr
        obtain ⟨ρ1, e1, e2, e3⟩ := wit_one hw h3 h4 k q.1 q.2 hk ((stepp_mono X w0 q.1 q.2).trans hr1)
        obtain ⟨ρ2, f1, f2, f3⟩ := stepp_one (X := X) (w := w) (w0 := w0) (g := q.1) (r := q.2) (ρ := ρ1) hw (by rw [hz]; decide) hr1 e2 e3
        refine ⟨ρ2, ?_, f2, f3⟩
        show (wit X w g0 ρ k).bind _ = _
        rw [e1]
        show (if (stepp X w q.1 ρ1).1.1 = 0 then some (stepp X w q.1 ρ1).2 else none) = _
        rw [f1]
        dsimp only
        rw [if_pos hz, h]
      · cases h
end ONE2
