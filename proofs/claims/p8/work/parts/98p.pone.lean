/-! IN ONE GO: what was read is as it is now, so it comes to the same -/
/-- what is read is as the world is -/
def frsh (w : wdT) (r : rdT) : Prop := ∀ l, l < 16 → bt r.1 l = true → r.2.1 l = w.1 l ∧ r.2.2 l = w.2 l
def msub (r r' : rdT) : Prop := ∀ l, l < 16 → bt r.1 l = true → bt r'.1 l = true
theorem frsh_stale {w : wdT} {r : rdT} (h : frsh w r) : stale w r = false := by
  unfold stale
  rw [List.any_eq_false]
  intro l hl
  rw [List.mem_range] at hl
  cases hb : bt r.1 l with
  | false => simp
  | true => simp [(h l hl hb).2]
theorem lval_one {w w0 : wdT} {m : mkT} {r ρ : rdT} {l : Int} {q : Int64 × rdT} (h : lval w0 m r l = some q) {rF : rdT} (hF : rsub q.2 rF) (hw : frsh w rF) (hρ : frsh w ρ) (hs : msub ρ rF) : ∃ ρ', lval w m ρ l = some (q.1, ρ') ∧ frsh w ρ' ∧ msub ρ' rF := by
  have h' := lval_sub (w' := w) h hF
  unfold lval at h' ⊢
  by_cases c1 : 0 ≤ l ∧ l < 16
  · rw [if_pos c1] at h' ⊢
    by_cases c2 : bt m.1 l.toNat = true
    · rw [if_pos c2] at h' ⊢; injection h' with h'; exact ⟨ρ, by rw [← (Prod.mk.inj h').1], hρ, hs⟩
    · rw [if_neg c2] at h' ⊢
      have hr : bt rF.1 l.toNat = true := by
        by_cases c3 : bt rF.1 l.toNat = true
        · exact c3
        · rw [if_neg c3, frsh_stale hw, if_neg (by decide)] at h'
          injection h' with h'
          have e := congrArg (fun z : rdT => bt z.1 l.toNat) (Prod.mk.inj h').2
          have e : bt (bs rF.1 l.toNat) l.toNat = bt rF.1 l.toNat := e
          rw [bt_bs (by omega) (by omega)] at e
          simp at e
          exact e
      rw [if_pos hr] at h'
      injection h' with h'
      have hv : q.1 = w.1 l.toNat := (Prod.mk.inj h').1.symm.trans (hw l.toNat (by omega) hr).1
      by_cases c3 : bt ρ.1 l.toNat = true
      · rw [if_pos c3]
        exact ⟨ρ, by rw [hv, (hρ l.toNat (by omega) c3).1], hρ, hs⟩
      · rw [if_neg c3, frsh_stale hρ, if_neg (by decide)]
        refine ⟨_, by rw [hv], ?_, ?_⟩
        · intro j hj b
          by_cases e : j = l.toNat
          · subst e
            exact ⟨va_up_at _ _ _, va_up_at _ _ _⟩
          · have b : bt (bs ρ.1 l.toNat) j = true := b
            rw [bt_bs (by omega) hj] at b
            have b : bt ρ.1 j = true := by simpa [e] using b
            have := hρ j hj b
            exact ⟨(va_up_of e).trans this.1, (va_up_of e).trans this.2⟩
        · intro j hj b
          have b : bt (bs ρ.1 l.toNat) j = true := b
          rw [bt_bs (by omega) hj] at b
          by_cases e : j = l.toNat
          · subst e; exact hr
          · have b : bt ρ.1 j = true := by simpa [e] using b
            exact hs j hj b
  · rw [if_neg c1] at h' ⊢
    by_cases c2 : 16 ≤ l ∧ l < 26
    · rw [if_pos c2] at h' ⊢; injection h' with h'; exact ⟨ρ, by rw [← (Prod.mk.inj h').1], hρ, hs⟩
    · rw [if_neg c2] at h' ⊢; injection h' with h'; exact ⟨ρ, by rw [← (Prod.mk.inj h').1], hρ, hs⟩
section ONE
variable {O A : Nat → Int} {w w0 : wdT} {m : mkT} {rF : rdT}
theorem evc_one (hw : frsh w rF) : ∀ (f i : Nat) (st : List Int64) (r ρ : rdT), (evc O A w0 m f i st r).1.1 ≠ 1 → rsub (evc O A w0 m f i st r).2 rF → frsh w ρ → msub ρ rF → ∃ ρ', evc O A w m f i st ρ = ((evc O A w0 m f i st r).1, ρ') ∧ frsh w ρ' ∧ msub ρ' rF
  | 0, _, _, _, ρ, _, _, h3, h4 => ⟨ρ, rfl, h3, h4⟩
  | f + 1, i, st, r, ρ, h1, h2, h3, h4 => by
    unfold evc at h1 h2 ⊢
    by_cases c0 : O i = 0
    · rw [if_pos c0, if_pos c0]; exact ⟨ρ, rfl, h3, h4⟩
    · rw [if_neg c0] at h1 h2 ⊢
      rw [if_neg c0]
      by_cases c1 : O i = 1
      · rw [if_pos c1] at h1 h2 ⊢
        rw [if_pos c1]
        exact evc_one hw f _ _ r ρ h1 h2 h3 h4
      · rw [if_neg c1] at h1 h2 ⊢
        rw [if_neg c1]
        by_cases c2 : O i = 2
        · rw [if_pos c2] at h1 h2 ⊢
          rw [if_pos c2]
          cases hq : lval w0 m r (A i) with
          | none => rw [hq] at h1; exact absurd rfl h1
          | some q =>
            rw [hq] at h1 h2
            dsimp only at h1 h2 ⊢
            obtain ⟨ρ1, e1, e2, e3⟩ := lval_one hq ((evc_mono f _ _ q.2).trans h2) hw h3 h4
            rw [e1]
            exact evc_one hw f _ _ q.2 ρ1 h1 h2 e2 e3
        · rw [if_neg c2] at h1 h2 ⊢
          rw [if_neg c2]
          by_cases c3 : O i = 3
          · rw [if_pos c3] at h1 h2 ⊢
            rw [if_pos c3]
            exact evc_one hw f _ _ r ρ h1 h2 h3 h4
          · rw [if_neg c3] at h1 h2 ⊢
            rw [if_neg c3]
            cases hj : jn (O i) (st.tail.headD 0) (st.headD 0) with
            | none => exact ⟨ρ, rfl, h3, h4⟩
            | some v =>
              rw [hj] at h1 h2
              exact evc_one hw f _ _ r ρ h1 h2 h3 h4
end ONE
