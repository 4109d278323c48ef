/-! THE BEGINNING -/
theorem zF1 (fz : Bool) : (List.range 8).all (fun c => ([0, 1, 2, 5] : List Nat).all (fun k => decide ((K2 fz).1.1 (196 + 16 * c) k = 0)) && ([381, 382, 384, 385] : List Nat).all (fun a => decide ((K2 fz).1.1 a c = 0))) = true := by cases fz <;> decide +kernel
theorem zF2 (fz : Bool) : (List.range 16).all (fun l => (decide ((K2 fz).1.1 189 l = 0) && decide ((K2 fz).1.1 377 l = 0)) && (decide ((K2 fz).1.2.1 188 l = 0) && decide ((K2 fz).1.2.1 376 l = 0))) = true := by cases fz <;> decide +kernel
theorem zF3 (fz : Bool) : ([(187, 2), (324, 0), (331, 1), (332, 2), (378, 0), (353, 69), (353, 11)] : List (Nat × Nat)).all (fun q => decide ((K2 fz).1.1 q.1 q.2 = 0)) = true := by cases fz <;> decide +kernel
theorem rfF_K : ∀ q ∈ rfF, q ∈ rfK := by decide +kernel
theorem EXJ_0 {M : rf_M} (e22 : M.1 22 3 = nI 0) (z1 : ∀ c, c < 8 → (∀ k ∈ ([0, 1, 2, 5] : List Nat), gi M (196 + 16 * c) k = 0) ∧ ∀ a ∈ ([381, 382, 384, 385] : List Nat), gi M a c = 0) (z2 : ∀ l, l < 16 → M.1 189 l = 0 ∧ M.1 377 l = 0 ∧ gl M 188 l = 0 ∧ gl M 376 l = 0) (z3 : ∀ a k, (a, k) ∈ ([(187, 2), (324, 0), (331, 1), (332, 2), (378, 0), (353, 69), (353, 11)] : List (Nat × Nat)) → 1 < a → gi M a k = 0) : EXJ M := by
  refine ⟨fun _ => ((fun _ _ => 0, fun _ => 0, fun _ => 0), 0, 0, -1), 0, (wd0, [], fun _ => clN, []), e22, z3 353 11 (by decide) (by omega), ?_, ?_, ?_, ?_⟩
  · refine ⟨⟨by omega, fun t ht => absurd ht (by omega)⟩, ⟨by show 0 ≤ 32; omega, fun q hq => (by cases hq)⟩, by show 0 ≤ 300; omega, fun l _ => ⟨by show (0 : Int) ≤ (0 : Int32).toInt; decide, by show (0 : Int32).toInt ≤ ((0 : Nat) : Int); decide⟩, fun c _ => ?_⟩
    refine ⟨⟨by show 0 ≤ 16; omega, fun t ht => (by cases ht)⟩, ⟨by show (0 : Int) ≤ 0; omega, by show (0 : Int) ≤ ((0 : Nat) : Int); omega⟩, fun (q : false = true) => absurd q (by decide), fun _ => rfl, by show 0 ≤ 2; omega, fun (q : (0 : Nat) = 1) => absurd q (by decide), fun (q : (0 : Nat) ≠ 0) => absurd rfl q⟩
  · refine ⟨fun t ht => absurd ht (by omega), fun l hl => ⟨(z2 l hl).2.2.1, (z2 l hl).1⟩, ⟨z3 187 2 (by decide) (by omega), fun j hj => absurd hj (by show ¬ j < 0; omega)⟩, fun c hc => ?_, z3 324 0 (by decide) (by omega), fun i hi => absurd hi (by show ¬ i < 0; omega)⟩
    have h := (z1 c hc).1
    exact ⟨⟨⟨h 5 (by decide), fun i hi => absurd hi (by show ¬ i < 0; omega)⟩, h 1 (by decide), h 2 (by decide)⟩, h 0 (by decide), fun (q : (0 : Nat) = 1) => absurd q (by decide), fun (q : (0 : Nat) = 2) => absurd q (by decide)⟩
  · refine ⟨fun t ht => absurd ht (by omega), fun l hl => ?_, ⟨z3 378 0 (by decide) (by omega), fun j hj => absurd hj (by show ¬ j < 0; omega)⟩, fun c hc => ?_, z3 353 69 (by decide) (by omega), fun i hi => absurd hi (by show ¬ i < 0; omega)⟩
    · have h := z2 l hl
      refine ⟨?_, ?_⟩
      · show gl M 376 (16 * 0 + l) = 0
        rw [show 16 * 0 + l = l by omega]; exact h.2.2.2
      · show M.1 377 (16 * 0 + l) = 0
        rw [show 16 * 0 + l = l by omega]; exact h.2.1
    · have h := (z1 c hc).2
      exact ⟨⟨⟨h 381 (by decide), fun j hj => absurd hj (by show ¬ j < 0; omega)⟩, h 384 (by decide), h 385 (by decide)⟩, fun (q : (0 : Nat) = 1) => absurd q (by decide), fun _ => Or.inl (h 382 (by decide)), fun (q : (0 : Nat) = 2) => absurd q (by decide)⟩
  · have h1 := z3 331 1 (by decide) (by omega)
    exact ⟨⟨[], ⟨z3 332 2 (by decide) (by omega), fun j hj => absurd hj (by show ¬ j < 0; omega)⟩, fun q hq => (by cases hq), by show 0 ≤ 32; omega⟩, by omega, by omega⟩
