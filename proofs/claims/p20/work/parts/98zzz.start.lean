/-! THE BEGINNING -/
theorem rfF_K : ∀ q ∈ rfF, q ∈ rfK := by decide +kernel
theorem EXJ_0 {M : rf_M} (e22 : M.1 22 3 = nI 0) (z1 : ∀ c, c < 8 → (∀ k ∈ ([0, 1, 2, 5] : List Nat), gi M (196 + 16 * c) k = 0) ∧ ∀ a ∈ ([381, 382, 384, 385] : List Nat), gi M a c = 0) (z2 : ∀ l, l < 16 → M.1 189 l = 0 ∧ M.1 377 l = 0 ∧ gl M 188 l = 0 ∧ gl M 376 l = 0) (z3 : ∀ a k, (a, k) ∈ ([(187, 2), (324, 0), (331, 1), (332, 2), (378, 0), (353, 69), (353, 11)] : List (Nat × Nat)) → 1 < a → gi M a k = 0) : EXJ M := by
  refine ⟨fun _ => ((fun _ _ => 0, fun _ => 0, fun _ => 0), 0, 0, -1), 0, (wd0, [], fun _ => clN, []), e22, z3 353 11 (by decide) (by omega), ?_, ?_, ?_, ?_⟩
  · refine ⟨⟨by omega, fun t ht => absurd ht (by omega)⟩, ⟨by show 0 ≤ 32; omega, fun q hq => (by cases hq)⟩, by show 0 ≤ 300; omega, fun l _ => ⟨by show (0 : Int) ≤ (0 : Int32).toInt; decide, by show (0 : Int32).toInt ≤ ((0 : Nat) : Int); decide⟩, fun c _ => ?_⟩
    refine ⟨⟨by show 0 ≤ 16; omega, fun t ht => (by cases ht)⟩, ⟨by show (0 : Int) ≤ 0; omega, by show (0 : Int) ≤ ((0 : Nat) : Int); omega⟩, fun (q : false = true) => absurd q (by decide), fun _ => rfl, by show 0 ≤ 2; omega, fun (q : (0 : Nat) = 1) => absurd q (by decide), fun (q : (0 : Nat) ≠ 0) => absurd rfl q⟩
  · refine ⟨fun t ht => absurd ht (by omega), fun l hl => ⟨(z2 l hl).2.2.1, (z2 l hl).1⟩, ⟨z3 187 2 (by decide) (by omega), fun j hj => absurd hj (by show ¬ j < 0; omega)⟩, fun c hc => ?_, z3 324 0 (by decide) (by omega), fun i hi => absurd hi (by show ¬ i < 0; omega)⟩
    have h := (z1 c hc).1
    exact ⟨⟨⟨h 5 (by decide), fun i hi => absurd hi (by show ¬ i < 0; omega)⟩, h 1 (by decide), h 2 (by decide)⟩, h 0 (by decide), fun (q : (0 : Nat) = 1) => absurd q (by decide), fun (q : (0 : Nat) = 2) => absurd q (by decide)⟩
  · refine ⟨fun t ht => absurd ht (by omega), fun l hl => ?_, ⟨z3 378 0 (by decide) (by omega), fun j hj => absurd hj (by show ¬ j < 0; omega)⟩, fun c hc => ?_, z3 353 69 (by decide) (by omega), fun i hi => absurd hi (by show ¬ i < 0; omega)⟩
    · have h := z2 l hl
      refine ⟨?_, ?_⟩
      · show gl M 376 (16 * 0 + l) = 0
        rw [show 16 * 0 + l = l by omega]; exact h.2.2.2
      · show M.1 377 (16 * 0 + l) = 0
        rw [show 16 * 0 + l = l by omega]; exact h.2.1
    · have h := (z1 c hc).2
      exact ⟨⟨⟨h 381 (by decide), fun j hj => absurd hj (by show ¬ j < 0; omega)⟩, h 384 (by decide), h 385 (by decide)⟩, fun (q : (0 : Nat) = 1) => absurd q (by decide), fun _ => Or.inl (h 382 (by decide)), fun (q : (0 : Nat) = 2) => absurd q (by decide)⟩
  · have h1 := z3 331 1 (by decide) (by omega)
    exact ⟨⟨[], ⟨z3 332 2 (by decide) (by omega), fun j hj => absurd hj (by show ¬ j < 0; omega)⟩, fun q hq => (by cases hq), by show 0 ≤ 32; omega⟩, by omega, by omega⟩
section STF
variable (fz : Bool) (L : Nat) (xs : Nat → Int32)
theorem HK_lg (a k : Nat) : (HK fz L xs).1.2.1 a k = (K2 fz).1.2.1 a k := by rw [show (HK fz L xs).1.2 = (K2 fz).1.2 from pt_M2 xs (K2 fz).1]
theorem JF_0 : JF fz L xs (HK fz L xs).1 := by
  have z1 : ∀ c, c < 8 → (∀ k ∈ ([0, 1, 2, 5] : List Nat), gi (HK fz L xs).1 (196 + 16 * c) k = 0) ∧ ∀ a ∈ ([381, 382, 384, 385] : List Nat), gi (HK fz L xs).1 a c = 0 := fun c hc => by
    have h := List.all_eq_true.mp (zF1 fz) c (List.mem_range.mpr hc)
    rw [Bool.and_eq_true, List.all_eq_true, List.all_eq_true] at h
    refine ⟨fun k hk => ?_, fun a ha => ?_⟩
    · have := h.1 k hk
      rw [decide_eq_true_eq] at this
      unfold gi
      rw [HK_i fz L xs _ k (by omega), this]
      rfl
    · have := h.2 a ha
      rw [decide_eq_true_eq] at this
      have a1 : 1 < a := by
        simp only [List.mem_cons, List.not_mem_nil, or_false] at ha
        omega
      unfold gi
      rw [HK_i fz L xs a c a1, this]
      rfl
  have z2 : ∀ l, l < 16 → (HK fz L xs).1.1 189 l = 0 ∧ (HK fz L xs).1.1 377 l = 0 ∧ gl (HK fz L xs).1 188 l = 0 ∧ gl (HK fz L xs).1 376 l = 0 := fun l hl => by
    have h := List.all_eq_true.mp (zF2 fz) l (List.mem_range.mpr hl)
    rw [Bool.and_eq_true, Bool.and_eq_true, Bool.and_eq_true, decide_eq_true_eq, decide_eq_true_eq, decide_eq_true_eq, decide_eq_true_eq] at h
    refine ⟨(HK_i fz L xs _ _ (by omega)).trans h.1.1, (HK_i fz L xs _ _ (by omega)).trans h.1.2, (HK_lg fz L xs _ _).trans h.2.1, (HK_lg fz L xs _ _).trans h.2.2⟩
  have z3 : ∀ a k, (a, k) ∈ ([(187, 2), (324, 0), (331, 1), (332, 2), (378, 0), (353, 69), (353, 11)] : List (Nat × Nat)) → 1 < a → gi (HK fz L xs).1 a k = 0 := fun a k hm ha => by
    have := List.all_eq_true.mp (zF3 fz) (a, k) hm
    rw [decide_eq_true_eq] at this
    unfold gi
    rw [HK_i fz L xs a k ha, this]
    rfl
  refine ⟨JJ_0 fz L xs, fun q hq => ?_, EXJ_0 (cJ_0 fz L xs).2.2.2.1 z1 z2 z3⟩
  have hr := List.all_eq_true.mp (K2_rf fz) q (rfF_K q hq)
  simp only [decide_eq_true_eq] at hr
  rw [HK_r]
  exact hr
end STF
