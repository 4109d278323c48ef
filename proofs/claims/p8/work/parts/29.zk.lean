/-! arrays are 0 behind the constructors -/
def zk_Ms : List Nat := [1, 2, 3, 4, 5, 6, 7, 8, 9, 10, 11, 12, 127]
theorem zk_ml (fz : Bool) : zk_Ms.all (fun i => ((ml0 fz).getD i rf_dm).2.2.all (fun q => zr_row zk_Ms q.2.1)) = true := by cases fz <;> decide +kernel
theorem zk_cx (fz : Bool) : ∀ i ∈ zk_Ms, ∀ pc I, (cx0 fz).1 i pc = some I → zr_row zk_Ms I = true := by
  intro i hi pc I h
  have h0 : (((ml0 fz).getD i rf_dm).2.2.find? (fun q => q.1 == pc)).map (fun q => q.2.1) = some I := h
  obtain ⟨e, he, heI⟩ := Option.map_eq_some_iff.mp h0
  have h1 := List.all_eq_true.mp (zk_ml fz) i hi
  have h2 := List.all_eq_true.mp h1 e (List.mem_of_find?_eq_some he)
  rw [← heI]
  exact h2
theorem zk_0 : zr_P (rf_nw hPo (.inl 0) 10) := by
  intro a ha q h1 h22 hs k
  have ha : a < 22 + 1 := ha
  have e : a = 22 := by omega
  subst e
  have hs : va_up hPo.2.1 22 (.inl 0) 22 = .inr q := hs
  rw [va_up_self] at hs
  cases hs
theorem zk_1 (fz : Bool) : zr_P (K1 fz) := by
  have h1 : (1 : Nat) ∈ zk_Ms := by decide
  have h := K1_eq fz
  unfold K1r at h
  generalize K1 fz = k at h ⊢
  exact zr_ev (zk_cx fz) _ _ _ _ _ _ _ (none, k) h1 zk_0 h
theorem zk_2 (fz : Bool) : zr_P (K2 fz) := by
  have h1 : (127 : Nat) ∈ zk_Ms := by decide
  have h := K2_eq fz
  unfold K2r at h
  have hz := zr_nw (zk_1 fz) (.inl 11) 76
  generalize K2 fz = k at h ⊢
  generalize K1 fz = k1 at h hz
  exact zr_ev (zk_cx fz) _ _ _ _ _ _ _ (none, k) h1 hz h
