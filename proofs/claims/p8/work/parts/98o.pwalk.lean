section WK
variable {X : txT} {w w' : wdT} {g : sgT} {r r' : rdT}
theorem stepp_mono (X : txT) (w : wdT) (g : sgT) (r : rdT) : rsub r (stepp X w g r).2.2 := by
  unfold stepp stpx
  split
  · exact rsub.rfl' r
  · split
    · exact rsub.rfl' r
    · split
      · exact rsub.rfl' r
      · split
        · split <;> exact rsub.rfl' r
        · have e := evc_mono (O := X.2.1) (A := X.2.2) (w := w) (m := g.2.1) 161 (X.1 2 g.1.toNat).toNat [] r
          split
          · exact e
          · split
            · split <;> exact e
            · split
              · split <;> exact e
              · split
                · exact e
                · split <;> exact e
theorem stepp_sub (h1 : (stepp X w g r).1.1 ≠ 3) (h2 : rsub (stepp X w g r).2.2 r') : stepp X w' g r' = ((stepp X w g r).1, (stepp X w g r).2.1, r') := by
  unfold stepp stpx at h1 h2 ⊢
  by_cases c0 : g.1 < 0
  · rw [if_pos c0, if_pos c0]
  · rw [if_neg c0] at h1 h2 ⊢
    rw [if_neg c0]
    by_cases c1 : X.1 0 g.1.toNat = 15 ∨ X.1 0 g.1.toNat = 17
    · rw [if_pos c1, if_pos c1]
    · rw [if_neg c1] at h1 h2 ⊢
      rw [if_neg c1]
      by_cases c2 : X.1 0 g.1.toNat = 19
      · rw [if_pos c2, if_pos c2]
      · rw [if_neg c2] at h1 h2 ⊢
        rw [if_neg c2]
        by_cases c3 : X.1 0 g.1.toNat = 13
        · rw [if_pos c3, if_pos c3]
          split <;> rfl
        · rw [if_neg c3] at h1 h2 ⊢
          rw [if_neg c3]
          by_cases d1 : (evc X.2.1 X.2.2 w g.2.1 161 (X.1 2 g.1.toNat).toNat [] r).1.1 = 1
          · rw [if_pos d1] at h1; exact absurd rfl h1
          · have hs : rsub (evc X.2.1 X.2.2 w g.2.1 161 (X.1 2 g.1.toNat).toNat [] r).2 r' := by
              rw [if_neg d1] at h2
              split at h2
              · split at h2 <;> exact h2
              · split at h2
                · split at h2 <;> exact h2
                · split at h2
                  · exact h2
                  · split at h2 <;> exact h2
            rw [evc_sub (w' := w') 161 _ [] r r' d1 hs]
            dsimp only
            rw [if_neg d1, if_neg d1]
            split
            · split <;> rfl
            · split
              · split <;> rfl
              · split
                · rfl
                · split <;> rfl
/-- k steps, all of which go on -/
def wit (X : txT) (w : wdT) (g : sgT) (r : rdT) : Nat → Option (sgT × rdT)
  | 0 => some (g, r)
  | k + 1 => (wit X w g r k).bind (fun q => if (stepp X w q.1 q.2).1.1 = 0 then some (stepp X w q.1 q.2).2 else none)
/-- the beginning of a run -/
def mk0 : mkT := (0, fun _ => 0, fun _ => 0, 0)
def run0 (en : Int) : sgT := (en, mk0, fun _ => 0, fun _ => mk0)
def rd0 : rdT := (0, fun _ => 0, fun _ => 0)
/-- with what is read, or more, and whatever the world is, k steps come to g -/
def wkd (X : txT) (g0 : sgT) (k : Nat) (g : sgT) (r : rdT) : Prop := ∀ w r', rsub r r' → wit X w g0 r' k = some (g, r')
theorem wkd_0 (X : txT) (g0 : sgT) (r : rdT) : wkd X g0 0 g0 r := fun _ _ _ => rfl
theorem wkd_s {g0 : sgT} {k : Nat} (h : wkd X g0 k g r) (hs : (stepp X w g r).1.1 = 0) : wkd X g0 (k + 1) (stepp X w g r).2.1 (stepp X w g r).2.2 := by
  intro w' r' hr
  have e := h w' r' ((stepp_mono X w g r).trans hr)
  show (wit X w' g0 r' k).bind _ = _
  rw [e]
  show (if (stepp X w' g r').1.1 = 0 then some (stepp X w' g r').2 else none) = _
  rw [stepp_sub (w := w) (w' := w') (r := r) (r' := r') (by rw [hs]; decide) hr]
  exact if_pos hs
end WK
