/-! RUNS OF THE EVALUATOR: more fuel and more room do no harm; a run to an end with Q -/
theorem rf_ev_mono (cx : rf_C) : ∀ (n : Nat) (d : Nat × Nat) (i pc : Nat) (ls : rf_L) (st : List Value) (h : rf_H) (x : Option Value × rf_H), rf_ev cx n d i pc ls st h = some x → ∀ m, n ≤ m → rf_ev cx m d i pc ls st h = some x := by
  intro n
  induction n with
  | zero =>
    intro d i pc ls st h x he
    unfold rf_ev at he
    cases he
  | succ n ih =>
    intro d i pc ls st h x he m hm
    obtain ⟨k, rfl⟩ : ∃ k, m = k + 1 := ⟨m - 1, by omega⟩
    have hk : n ≤ k := by omega
    unfold rf_ev at he ⊢
    cases hf : cx.1 i pc with
    | none => rw [hf] at he; cases he
    | some I =>
      rw [hf] at he
      dsimp only at he ⊢
      cases hx : rf_ex cx d i pc I ls st h with
      | none => rw [hx] at he; cases he
      | some o =>
        rw [hx] at he
        rcases o with q | q | v
        · exact ih _ _ _ _ _ _ _ he k hk
        · dsimp only at he ⊢
          split at he
          · rename_i hc
            rw [if_pos hc]
            cases hcal : rf_ev cx n (d.1 - 1, d.2 - ((cx.2.1 q.1).2.2.1 + 19)) q.1 0 (lv_args 0 q.2.1) [] h with
            | none => rw [hcal] at he; cases he
            | some r =>
              rw [hcal] at he
              rw [ih _ _ _ _ _ _ _ hcal k hk]
              exact ih _ _ _ _ _ _ _ he k hk
          · cases he
        · exact he
theorem rf_ok8_room {r : List Value} {d d' : Nat × Nat} {w : Nat} (h1 : d.1 ≤ d'.1) (h2 : d.2 ≤ d'.2) (h : rf_ok8 r d w = true) : rf_ok8 r d' w = true := by
  unfold rf_ok8 at h ⊢
  simp only [Bool.and_eq_true, decide_eq_true_eq] at h ⊢
  omega
theorem rf_bi_room {cx : rf_C} {kd : Int} {d d' : Nat × Nat} {st : List Value} {h : rf_H} {q : List Value × rf_H} (h1 : d.1 ≤ d'.1) (h2 : d.2 ≤ d'.2) (he : rf_bi cx kd d st h = some q) : rf_bi cx kd d' st h = some q := by
  unfold rf_bi at he ⊢
  split at he
  · rename_i hk
    rw [if_pos hk]
    split at he
    · split at he
      · rename_i h8
        rw [if_pos (rf_ok8_room h1 h2 h8)]
        exact he
      · cases he
    · cases he
  · rename_i hk
    rw [if_neg hk]
    split at he
    · rename_i hk
      rw [if_pos hk]
      split at he
      · split at he
        · rename_i h8
          rw [if_pos ⟨rf_ok8_room h1 h2 h8.1, h8.2⟩]
          exact he
        · cases he
      · cases he
    · rename_i hk
      rw [if_neg hk]
      split at he
      · rename_i hk
        rw [if_pos hk]
        split at he
        · split at he
          · rename_i h8
            rw [if_pos (rf_ok8_room h1 h2 h8)]
            exact he
          · cases he
        · cases he
      · rename_i hk
        rw [if_neg hk]
        split at he
        · rename_i hk
          rw [if_pos hk]
          split at he
          · split at he
            · rename_i h8
              rw [if_pos (rf_ok8_room h1 h2 h8)]
              exact he
            · cases he
          · cases he
        · cases he
theorem rf_ex_room {cx : rf_C} {d d' : Nat × Nat} {i pc : Nat} {I : rf_I} {ls : rf_L} {st : List Value} {h : rf_H} {o : rf_O} (h1 : d.1 ≤ d'.1) (h2 : d.2 ≤ d'.2) (he : rf_ex cx d i pc I ls st h = some o) : rf_ex cx d' i pc I ls st h = some o := by
  unfold rf_ex at he ⊢
  split at he
  all_goals first
    | exact he
    | skip
  split at he
  · rename_i hk
    rw [if_pos hk]
    obtain ⟨x, q1, q2⟩ := Option.map_eq_some_iff.mp he
    rw [rf_bi_room h1 h2 q1, Option.map_some, q2]
  · rename_i hk
    rw [if_neg hk]
    exact he
theorem rf_ev_room (cx : rf_C) : ∀ (n : Nat) (d d' : Nat × Nat) (i pc : Nat) (ls : rf_L) (st : List Value) (h : rf_H) (x : Option Value × rf_H), d.1 ≤ d'.1 → d.2 ≤ d'.2 → rf_ev cx n d i pc ls st h = some x → rf_ev cx n d' i pc ls st h = some x := by
  intro n
  induction n with
  | zero =>
    intro d d' i pc ls st h x h1 h2 he
    unfold rf_ev at he
    cases he
  | succ n ih =>
    intro d d' i pc ls st h x h1 h2 he
    unfold rf_ev at he ⊢
    cases hf : cx.1 i pc with
    | none => rw [hf] at he; cases he
    | some I =>
      rw [hf] at he
      dsimp only at he ⊢
      cases hx : rf_ex cx d i pc I ls st h with
      | none => rw [hx] at he; cases he
      | some o =>
        rw [hx] at he
        rw [rf_ex_room h1 h2 hx]
        rcases o with q | q | v
        · exact ih _ _ _ _ _ _ _ _ h1 h2 he
        · dsimp only at he ⊢
          split at he
          · rename_i hc
            rw [if_pos (show 1 ≤ d'.1 ∧ (cx.2.1 q.1).2.2.1 + 19 ≤ d'.2 ∧ (lg_sl q.2.1).length ≤ (cx.2.1 q.1).2.2.1 from ⟨by omega, by omega, hc.2.2⟩)]
            cases hcal : rf_ev cx n (d.1 - 1, d.2 - ((cx.2.1 q.1).2.2.1 + 19)) q.1 0 (lv_args 0 q.2.1) [] h with
            | none => rw [hcal] at he; cases he
            | some r =>
              rw [hcal] at he
              rw [ih _ (d'.1 - 1, d'.2 - ((cx.2.1 q.1).2.2.1 + 19)) _ _ _ _ _ _ (by dsimp only; omega) (by dsimp only; omega) hcal]
              exact ih _ _ _ _ _ _ _ _ h1 h2 he
          · cases he
        · exact he
/-- the run ends, and its end has Q -/
def gx (cx : rf_C) (d : Nat × Nat) (i pc : Nat) (ls : rf_L) (st : List Value) (h : rf_H) (Q : Option Value → rf_H → Prop) : Prop := ∃ (n : Nat) (r : Option Value) (hF : rf_H), rf_ev cx n d i pc ls st h = some (r, hF) ∧ Q r hF
section GX
variable {cx : rf_C} {d : Nat × Nat} {i pc : Nat} {ls : rf_L} {st : List Value} {h : rf_H} {Q : Option Value → rf_H → Prop}
theorem gx_step {I : rf_I} {pc' : Nat} {ls' : rf_L} {st' : List Value} {h' : rf_H} (hf : cx.1 i pc = some I) (he : rf_ex cx d i pc I ls st h = some (.inl (pc', ls', st', h'))) (k : gx cx d i pc' ls' st' h' Q) : gx cx d i pc ls st h Q := by
  obtain ⟨n, r, hF, h1, h2⟩ := k
  refine ⟨n + 1, r, hF, ?_, h2⟩
  unfold rf_ev
  rw [hf]
  dsimp only
  rw [he]
  exact h1
theorem gx_call {I : rf_I} {j : Nat} {as rest : List Value} (hf : cx.1 i pc = some I) (he : rf_ex cx d i pc I ls st h = some (.inr (.inl (j, as, rest)))) (hroom : 1 ≤ d.1 ∧ (cx.2.1 j).2.2.1 + 19 ≤ d.2 ∧ (lg_sl as).length ≤ (cx.2.1 j).2.2.1) (k : gx cx (d.1 - 1, d.2 - ((cx.2.1 j).2.2.1 + 19)) j 0 (lv_args 0 as) [] h (fun r h' => gx cx d i (pc + 3) ls (r.toList ++ rest) h' Q)) : gx cx d i pc ls st h Q := by
  obtain ⟨n, r, h', h1, m, r2, hF, h3, h4⟩ := k
  refine ⟨max n m + 1, r2, hF, ?_, h4⟩
  unfold rf_ev
  rw [hf]
  dsimp only
  rw [he]
  dsimp only
  rw [if_pos hroom, rf_ev_mono _ _ _ _ _ _ _ _ _ h1 _ (Nat.le_max_left n m)]
  exact rf_ev_mono _ _ _ _ _ _ _ _ _ h3 _ (Nat.le_max_right n m)
theorem gx_ret {I : rf_I} {v : Option Value} (hf : cx.1 i pc = some I) (he : rf_ex cx d i pc I ls st h = some (.inr (.inr v))) (hq : Q v h) : gx cx d i pc ls st h Q := by
  refine ⟨1, v, h, ?_, hq⟩
  unfold rf_ev
  rw [hf]
  dsimp only
  rw [he]
theorem gx_mono {Q' : Option Value → rf_H → Prop} (k : gx cx d i pc ls st h Q) (hq : ∀ r h', Q r h' → Q' r h') : gx cx d i pc ls st h Q' := by
  obtain ⟨n, r, hF, h1, h2⟩ := k
  exact ⟨n, r, hF, h1, hq _ _ h2⟩
theorem gx_room {d' : Nat × Nat} (k : gx cx d i pc ls st h Q) (h1 : d.1 ≤ d'.1) (h2 : d.2 ≤ d'.2) : gx cx d' i pc ls st h Q := by
  obtain ⟨n, r, hF, h3, h4⟩ := k
  exact ⟨n, r, hF, rf_ev_room _ _ _ _ _ _ _ _ _ _ h1 h2 h3, h4⟩
end GX
