/-! more that is read does no harm -/
def rsub (r r' : rdT) : Prop := ∀ l, l < 16 → bt r.1 l = true → bt r'.1 l = true ∧ r'.2.1 l = r.2.1 l ∧ r'.2.2 l = r.2.2 l
theorem rsub.rfl' (r : rdT) : rsub r r := fun _ _ h => ⟨h, rfl, rfl⟩
theorem rsub.trans {r r' r'' : rdT} (h : rsub r r') (h' : rsub r' r'') : rsub r r'' := fun l q b => by
  obtain ⟨a1, a2, a3⟩ := h l q b
  obtain ⟨b1, b2, b3⟩ := h' l q a1
  exact ⟨b1, b2.trans a2, b3.trans a3⟩
theorem bt_bs {m : Int32} {l j : Nat} (hl : l < 16) (hj : j < 16) : bt (bs m l) j = (bt m j || decide (j = l)) := by
  have h : ∀ l, l < 16 → ∀ j, j < 16 → ((1 : Int32) <<< Int32.ofNat l).toBitVec.getLsbD j = decide (j = l) := by decide
  show (m.toBitVec ||| ((1 : Int32) <<< Int32.ofNat l).toBitVec).getLsbD j = _
  rw [BitVec.getLsbD_or, h l hl j hj]
  rfl
theorem lval_mono {w : wdT} {m : mkT} {r : rdT} {l : Int} {q : Int64 × rdT} (h : lval w m r l = some q) : rsub r q.2 := by
  unfold lval at h
  by_cases c1 : 0 ≤ l ∧ l < 16
  · rw [if_pos c1] at h
    by_cases c2 : bt m.1 l.toNat = true
    · rw [if_pos c2] at h; injection h with h; rw [← h]; exact rsub.rfl' r
    · rw [if_neg c2] at h
      by_cases c3 : bt r.1 l.toNat = true
      · rw [if_pos c3] at h; injection h with h; rw [← h]; exact rsub.rfl' r
      · rw [if_neg c3] at h
        by_cases c4 : stale w r = true
        · rw [if_pos c4] at h; cases h
        · rw [if_neg c4] at h
          injection h with h
          rw [← h]
          intro j hj b
          have hne : j ≠ l.toNat := fun e => c3 (e ▸ b)
          refine ⟨?_, va_up_of hne, va_up_of hne⟩
          show bt (bs r.1 l.toNat) j = true
          rw [bt_bs (by omega) hj, b]; rfl
  · rw [if_neg c1] at h
    split at h
    · injection h with h; rw [← h]; exact rsub.rfl' r
    · injection h with h; rw [← h]; exact rsub.rfl' r
theorem lval_sub {w w' : wdT} {m : mkT} {r r' : rdT} {l : Int} {q : Int64 × rdT} (h : lval w m r l = some q) (hs : rsub q.2 r') : lval w' m r' l = some (q.1, r') := by
  unfold lval at h ⊢
  by_cases c1 : 0 ≤ l ∧ l < 16
  · rw [if_pos c1] at h ⊢
    by_cases c2 : bt m.1 l.toNat = true
    · rw [if_pos c2] at h ⊢; injection h with h; rw [← h]
    · rw [if_neg c2] at h ⊢
      by_cases c3 : bt r.1 l.toNat = true
      · rw [if_pos c3] at h
        injection h with h
        rw [← h] at hs ⊢
        have := hs l.toNat (by omega) c3
        rw [if_pos this.1, this.2.1]
      · rw [if_neg c3] at h
        by_cases c4 : stale w r = true
        · rw [if_pos c4] at h; cases h
        · rw [if_neg c4] at h
          injection h with h
          rw [← h] at hs ⊢
          have := hs l.toNat (by omega) (by
            show bt (bs r.1 l.toNat) l.toNat = true
            rw [bt_bs (by omega) (by omega)]; simp)
          rw [if_pos this.1, this.2.1]
          show some (va_up r.2.1 l.toNat (w.1 l.toNat) l.toNat, r') = _
          rw [va_up_at]
  · rw [if_neg c1] at h ⊢
    by_cases c2 : 16 ≤ l ∧ l < 26
    · rw [if_pos c2] at h ⊢; injection h with h; rw [← h]
    · rw [if_neg c2] at h ⊢; injection h with h; rw [← h]
section EV
variable {O A : Nat → Int} {w w' : wdT} {m : mkT}
theorem evc_mono : ∀ (f i : Nat) (st : List Int64) (r : rdT), rsub r (evc O A w m f i st r).2
  | 0, _, _, r => rsub.rfl' r
  | f + 1, i, st, r => by
    unfold evc
    split
    · exact rsub.rfl' r
    · split
      · exact evc_mono f _ _ r
      · split
        · split
          · exact rsub.rfl' r
          · rename_i q hq
            exact (lval_mono hq).trans (evc_mono f _ _ q.2)
        · split
          · exact evc_mono f _ _ r
          · split
            · exact rsub.rfl' r
            · exact evc_mono f _ _ r
theorem evc_sub : ∀ (f i : Nat) (st : List Int64) (r r' : rdT), (evc O A w m f i st r).1.1 ≠ 1 → rsub (evc O A w m f i st r).2 r' → evc O A w' m f i st r' = ((evc O A w m f i st r).1, r')
  | 0, _, _, _, _, _, _ => rfl
  | f + 1, i, st, r, r', h1, h2 => by
    unfold evc at h1 h2 ⊢
    by_cases c0 : O i = 0
    · rw [if_pos c0, if_pos c0]
    · rw [if_neg c0] at h1 h2 ⊢
      rw [if_neg c0]
      by_cases c1 : O i = 1
      · rw [if_pos c1] at h1 h2 ⊢
        rw [if_pos c1]
        exact evc_sub f _ _ r r' h1 h2
      · rw [if_neg c1] at h1 h2 ⊢
        rw [if_neg c1]
        by_cases c2 : O i = 2
        · rw [if_pos c2] at h1 h2 ⊢
          rw [if_pos c2]
          cases hq : lval w m r (A i) with
          | none => rw [hq] at h1; exact absurd rfl h1
          | some q =>
            rw [hq] at h1 h2
            dsimp only at h1 h2 ⊢
            rw [lval_sub hq ((evc_mono f _ _ q.2).trans h2)]
            exact evc_sub f _ _ q.2 r' h1 h2
        · rw [if_neg c2] at h1 h2 ⊢
          rw [if_neg c2]
          by_cases c3 : O i = 3
          · rw [if_pos c3] at h1 h2 ⊢
            rw [if_pos c3]
            exact evc_sub f _ _ r r' h1 h2
          · rw [if_neg c3] at h1 h2 ⊢
            rw [if_neg c3]
            cases hj : jn (O i) (st.tail.headD 0) (st.headD 0) with
            | none => rfl
            | some v =>
              rw [hj] at h1 h2
              exact evc_sub f _ _ r r' h1 h2
end EV
