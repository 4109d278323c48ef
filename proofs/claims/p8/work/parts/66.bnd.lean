/-! bounds of what the scanner lays down -/
theorem sp_end_all {p : Int32 → Bool} {b : Nat → Int32} {n : Nat} : ∀ (f i t : Nat), i ≤ t → t < sp_end p b n f i → p (b t) = true
  | 0, i, t, h1, h2 => by
    have h2 : t < i := h2
    omega
  | f + 1, i, t, h1, h2 => by
    have h2 : t < (if i < n ∧ p (b i) = true then sp_end p b n f (i + 1) else i) := h2
    split at h2
    · rename_i hc
      by_cases e : t = i
      · rw [e]; exact hc.2
      · exact sp_end_all f (i + 1) t (by omega) h2
    · omega
theorem sp_word_b (b : Nat → Int32) (i j : Nat) : 0 ≤ (sp_word b i j).toInt ∧ (sp_word b i j).toInt ≤ 125 := by
  unfold sp_word
  repeat' split
  all_goals exact ⟨by decide, by decide⟩
theorem sp_val_b {b : Nat → Int32} {i : Nat} : ∀ (k : Nat), k ≤ 9 → (∀ t, t < k → sp_d (b (i + t)) = true) → 0 ≤ (sp_val b i k).toInt ∧ (sp_val b i k).toInt < (10 : Int) ^ k
  | 0, _, _ => ⟨by show (0 : Int) ≤ (0 : Int32).toInt; decide, by show (0 : Int32).toInt < (10 : Int) ^ 0; decide⟩
  | k + 1, h, hd => by
    obtain ⟨h1, h2⟩ := sp_val_b (b := b) (i := i) k (by omega) (fun t ht => hd t (by omega))
    have hk := hd k (by omega)
    unfold sp_d at hk
    simp only [Bool.and_eq_true, decide_eq_true_eq] at hk
    have hp : (10 : Int) ^ k ≤ 100000000 := by
      have hk9 : k = 0 ∨ k = 1 ∨ k = 2 ∨ k = 3 ∨ k = 4 ∨ k = 5 ∨ k = 6 ∨ k = 7 ∨ k = 8 := by omega
      rcases hk9 with rfl | rfl | rfl | rfl | rfl | rfl | rfl | rfl | rfl <;> decide
    show 0 ≤ (sp_val b i k * 10 + (b (i + k) - 48)).toInt ∧ (sp_val b i k * 10 + (b (i + k) - 48)).toInt < (10 : Int) ^ (k + 1)
    have e10 : (10 : Int32).toInt = 10 := by decide
    have e48 : (48 : Int32).toInt = 48 := by decide
    have m1 : (sp_val b i k * 10).toInt = (sp_val b i k).toInt * 10 := by
      rw [Int32.toInt_mul, e10]
      exact Int.bmod_eq_of_le (by omega) (by omega)
    have m2 : (b (i + k) - 48).toInt = (b (i + k)).toInt - 48 := by
      rw [Int32.toInt_sub, e48]
      exact Int.bmod_eq_of_le (by omega) (by omega)
    have m3 : (sp_val b i k * 10 + (b (i + k) - 48)).toInt = (sp_val b i k).toInt * 10 + ((b (i + k)).toInt - 48) := by
      rw [Int32.toInt_add, m1, m2]
      exact Int.bmod_eq_of_le (by omega) (by omega)
    rw [m3, Int.pow_succ]
    omega
theorem sp_tok_b {b : Nat → Int32} {n i : Nat} (h : i < n) : 0 ≤ (sp_tok b n i).1.toInt ∧ (sp_tok b n i).1.toInt ≤ 125 ∧ 0 ≤ (sp_tok b n i).2.1.toInt ∧ (sp_tok b n i).2.1.toInt ≤ 999999999 := by
  unfold sp_tok
  by_cases h1 : sp_l (b i) = true
  · rw [if_pos h1]
    split
    · unfold sp_l at h1
      simp only [Bool.and_eq_true, decide_eq_true_eq] at h1
      have m2 : (b i - 97).toInt = (b i).toInt - 97 := by
        rw [Int32.toInt_sub, show (97 : Int32).toInt = 97 by decide]
        exact Int.bmod_eq_of_le (by omega) (by omega)
      dsimp only
      rw [m2, show (1 : Int32).toInt = 1 by decide]
      omega
    · dsimp only
      have := sp_word_b b i (sp_e sp_l b n i)
      rw [Int32.toInt_zero]
      omega
  · rw [if_neg h1]
    by_cases h2 : sp_d (b i) = true
    · rw [if_pos h2]
      dsimp only
      have hv := sp_val_b (b := b) (i := i) (min (sp_e sp_d b n i - i) 9) (by omega) (fun t ht => sp_end_all (n - i) i (i + t) (by omega) (by
        have : i + t < sp_e sp_d b n i := by omega
        exact this))
      have hp : (10 : Int) ^ (min (sp_e sp_d b n i - i) 9) ≤ 1000000000 := by
        generalize hk : min (sp_e sp_d b n i - i) 9 = k
        have hk9 : k = 0 ∨ k = 1 ∨ k = 2 ∨ k = 3 ∨ k = 4 ∨ k = 5 ∨ k = 6 ∨ k = 7 ∨ k = 8 ∨ k = 9 := by omega
        rcases hk9 with rfl | rfl | rfl | rfl | rfl | rfl | rfl | rfl | rfl | rfl <;> decide
      refine ⟨?_, ?_, by omega, by omega⟩
      · split <;> decide
      · split <;> decide
    · rw [if_neg h2]
      dsimp only
      refine ⟨?_, ?_, by decide, by decide⟩
      · split
        · rename_i h3
          have := List.elem_iff.mp h3
          simp only [List.mem_cons, List.not_mem_nil, or_false] at this
          omega
        · decide
      · split
        · rename_i h3
          have := List.elem_iff.mp h3
          simp only [List.mem_cons, List.not_mem_nil, or_false] at this
          omega
        · decide
theorem sp_scan_b {b : Nat → Int32} {n : Nat} : ∀ (f i : Nat) (e : Int32 × Nat × Int32), e ∈ sp_scan b n f i → (0 ≤ e.1.toInt ∧ e.1.toInt ≤ 125) ∧ e.2.1 < n ∧ (0 ≤ e.2.2.toInt ∧ e.2.2.toInt ≤ 999999999)
  | 0, _, _, h => by cases h
  | f + 1, i, e, h => by
    have h : e ∈ (if i < n then (if sp_bl (b i) = true then sp_scan b n f (i + 1) else ((sp_tok b n i).1, i, (sp_tok b n i).2.1) :: sp_scan b n f (sp_tok b n i).2.2) else []) := h
    split at h
    · rename_i hi
      split at h
      · exact sp_scan_b f (i + 1) e h
      · rcases List.mem_cons.mp h with rfl | h
        · obtain ⟨t1, t2, t3, t4⟩ := sp_tok_b (b := b) hi
          exact ⟨⟨t1, t2⟩, hi, t3, t4⟩
        · exact sp_scan_b f _ e h
    · cases h
