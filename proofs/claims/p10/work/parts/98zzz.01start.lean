section STF
variable (fz : Bool) (L : Nat) (xs : Nat → Int32)
theorem HK_lg (a k : Nat) : (HK fz L xs).1.2.1 a k = (K2 fz).1.2.1 a k := by rw [show (HK fz L xs).1.2 = (K2 fz).1.2 from pt_M2 xs (K2 fz).1]
theorem JF_0 : JF fz L xs (HK fz L xs).1 := by
  have z1 : ∀ c, c < 8 → (∀ k ∈ ([0, 1, 2, 5] : List Nat), gi (HK fz L xs).1 (196 + 16 * c) k = 0) ∧ ∀ a ∈ ([381, 382, 384, 385] : List Nat), gi (HK fz L xs).1 a c = 0 := fun c hc => by
    have h := List.all_eq_true.mp (zF1 fz) c (List.mem_range.mpr hc)
    rw [Bool.and_eq_true, List.all_eq_true, List.all_eq_true] at h
    refine ⟨fun k hk => ?_, fun a ha => ?_⟩
    · have := h.1 k hk
      rw [decide_eq_true_eq] at this
      unfold gi
      rw [HK_i fz L xs _ k (by omega), this]
      rfl
    · have := h.2 a ha
      rw [decide_eq_true_eq] at this
      have a1 : 1 < a := by
        simp only [List.mem_cons, List.not_mem_nil, or_false] at ha
        omega
      unfold gi
      rw [HK_i fz L xs a c a1, this]
      rfl
  have z2 : ∀ l, l < 16 → (HK fz L xs).1.1 189 l = 0 ∧ (HK fz L xs).1.1 377 l = 0 ∧ gl (HK fz L xs).1 188 l = 0 ∧ gl (HK fz L xs).1 376 l = 0 := fun l hl => by
    have h := List.all_eq_true.mp (zF2 fz) l (List.mem_range.mpr hl)
    rw [Bool.and_eq_true, Bool.and_eq_true, Bool.and_eq_true, decide_eq_true_eq, decide_eq_true_eq, decide_eq_true_eq, decide_eq_true_eq] at h
    refine ⟨(HK_i fz L xs _ _ (by omega)).trans h.1.1, (HK_i fz L xs _ _ (by omega)).trans h.1.2, (HK_lg fz L xs _ _).trans h.2.1, (HK_lg fz L xs _ _).trans h.2.2⟩
  have z3 : ∀ a k, (a, k) ∈ ([(187, 2), (324, 0), (331, 1), (332, 2), (378, 0), (353, 69), (353, 11)] : List (Nat × Nat)) → 1 < a → gi (HK fz L xs).1 a k = 0 := fun a k hm ha => by
    have := List.all_eq_true.mp (zF3 fz) (a, k) hm
    rw [decide_eq_true_eq] at this
    unfold gi
    rw [HK_i fz L xs a k ha, this]
    rfl
  refine ⟨JJ_0 fz L xs, fun q hq => ?_, EXJ_0 (cJ_0 fz L xs).2.2.2.1 z1 z2 z3⟩
  have hr := List.all_eq_true.mp (K2_rf fz) q (rfF_K q hq)
  simp only [decide_eq_true_eq] at hr
  rw [HK_r]
  exact hr
end STF
