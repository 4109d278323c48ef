/-! text() and told(): what they do -/
section TX2
variable {cx : rf_C} {d : Nat × Nat} {i pc : Nat} {ls : rf_L} {st : List Value} {Q : Option Value → rf_H → Prop} {M : rf_M} {S : gS} {aux : List (Int × Nat)}
theorem m_aal {a n k : Nat} {C : String} {j : Int32} {v : Value} (hf : cx.1 i pc = some (.aaload, aux)) (hs : oa S a (.object C) n) (hj : j.toInt = (k : Int)) (hk : k < n) (hv : va_rf (M.2.2 a k) = v) (kk : gx cx d i (pc + 1) ls (v :: st) (M, S) Q) : gx cx d i pc ls (.int j :: .ref a :: st) (M, S) Q := by
  refine g4 hf rfl rfl (st' := v :: st) (h' := (M, S)) ?_ kk
  show (match rf_aa (M, S) a with
    | some (.object C, n) => match rf_el (M, S) (.object C) a j with
      | some v => some (v :: st, (M, S))
      | none => none
    | some (.array t, n) => match rf_el (M, S) (.array t) a j with
      | some v => some (v :: st, (M, S))
      | none => none
    | _ => none) = _
  rw [hs.aa M]
  dsimp only
  rw [hs.el _ (ix_ok hj hk), ix_nat hj]
  show some (va_rf (M.2.2 a k) :: st, (M, S)) = _
  rw [hv]
end TX2
/-- what text() wants to find -/
def tq (fz : Bool) (S : gS) (M : rf_M) : Prop := (go (cx0 fz) S 22 0 ∧ ga (cx0 fz) S 23 .int 800 ∧ ga (cx0 fz) S 24 (.object "MemoryTransactions$Program") 12) ∧ (M.2.2 22 0 = some 23 ∧ M.2.2 22 2 = some 24 ∧ M.2.2 22 5 = some 169) ∧ (∀ c, c < 12 → M.2.2 24 c = some (25 + 12 * c)) ∧ ∀ c, c < 12 → pq fz S (25 + 12 * c) M
/-- what text() leaves as it was -/
def tq_fr (c : Nat) (M M' : rf_M) : Prop := (∀ a k, ¬ (25 + 12 * c ≤ a ∧ a ≤ 36 + 12 * c) → ¬ (169 ≤ a ∧ a ≤ 173) → ¬ (a = 22 ∧ (k = 1 ∨ k = 3 ∨ k = 4)) → M'.1 a k = M.1 a k) ∧ M'.2.1 = M.2.1 ∧ ∀ a k, ¬ (a = 169 ∧ k = 1) → ¬ (a = 170 ∧ k = 4) → M'.2.2 a k = M.2.2 a k
section TX3
variable {fz : Bool} {S : gS} {M M' : rf_M} {n c : Nat}
theorem t_text (h : tq fz S M) (hn : M.1 22 1 = nI n) (h8 : n ≤ 800) (hc : M.1 22 3 = nI c) (hc12 : c ≤ 12) : gx (cx0 fz) (81, 2010) 16 0 [(0, .ref 22)] [] (M, S) (fun r h' => (c = 12 ∧ r = some (.int (Int32.ofInt (-1))) ∧ h' = (M, S)) ∨ (c < 12 ∧ ∃ M', h' = (M', S) ∧ M'.1 22 1 = nI 0 ∧ (((p_all (p_T (M.1 23) n)).2.2.2.2.2 = true ∧ r = some (.int (nI c)) ∧ M'.1 22 3 = nI (c + 1)) ∨ ((p_all (p_T (M.1 23) n)).2.2.2.2.2 = false ∧ r = some (.int (Int32.ofInt (-2))) ∧ M'.1 22 3 = nI c)) ∧ M'.1 (25 + 12 * c) 0 = nI (p_all (p_T (M.1 23) n)).2.2.1 ∧ M'.1 (25 + 12 * c) 1 = nI (p_all (p_T (M.1 23) n)).2.2.2.1 ∧ M'.1 (25 + 12 * c) 2 = nI (p_all (p_T (M.1 23) n)).2.2.2.2.1 ∧ tq_fr c M M')) := by
  obtain ⟨⟨hg, ht, hp⟩, ⟨r0, r2, r5⟩, rp, hq⟩ := h
  refine g1 (n := 1) rfl rfl rfl rfl ?_
  refine m_gf rfl hg rfl (v := .int (nI c)) (by show Value.int (M.1 22 3) = _; rw [hc]) ?_
  refine g1 (n := 2) rfl rfl rfl rfl ?_
  refine g_ic rfl (fun k => ?_) (fun k => ?_)
  rotate_left
  · have k : ¬ (nI c).toInt < 12 := fun z => k ((rf_cc_iff _ 12 .lt).mpr z)
    rw [nI_int (by omega)] at k
    refine g1 (n := 1) rfl rfl rfl rfl ?_
    exact gx_ret rfl rfl (Or.inl ⟨by omega, rfl, rfl⟩)
  have k : (nI c).toInt < 12 := (rf_cc_iff _ 12 .lt).mp k
  rw [nI_int (by omega)] at k
  have k12 : c < 12 := by omega
  refine g1 (n := 1) rfl rfl rfl rfl ?_
  refine g1 (n := 1) rfl rfl rfl rfl ?_
  refine m_gf rfl hg rfl (v := .ref 169) (by show va_rf (M.2.2 22 5) = _; rw [r5]; rfl) ?_
  refine g1 (n := 1) rfl rfl rfl rfl ?_
  refine m_gf rfl hg rfl (v := .ref 23) (by show va_rf (M.2.2 22 0) = _; rw [r0]; rfl) ?_
  refine g1 (n := 1) rfl rfl rfl rfl ?_
  refine m_gf rfl hg rfl (v := .int (nI n)) (by show Value.int (M.1 22 1) = _; rw [hn]) ?_
  refine g1 (n := 1) rfl rfl rfl rfl ?_
  refine m_gf rfl hg rfl (v := .ref 24) (by show va_rf (M.2.2 22 2) = _; rw [r2]; rfl) ?_
  refine g1 (n := 1) rfl rfl rfl rfl ?_
  refine m_gf rfl hg rfl (v := .int (nI c)) (by show Value.int (M.1 22 3) = _; rw [hc]) ?_
  refine m_aal rfl hp.oa (nI_int (by omega)) k12 (v := .ref (25 + 12 * c)) (by rw [rp c k12]; rfl) ?_
  have hqc := hq c k12
  have hpc : 25 + 12 * c + 11 ≤ 168 := by omega
  refine m_iv (a := 169) (as := [.ref 23, .int (nI n), .ref (25 + 12 * c)]) (rest := [.ref 22]) rfl (by decide) hqc.1.1 rfl rfl (Nat.le_of_ble_eq_true rfl) ⟨Nat.le_of_ble_eq_true rfl, Nat.le_of_ble_eq_true rfl, Nat.le_of_ble_eq_true rfl⟩ ?_
  refine gx_room (gx_mono (p_parse hqc h8) ?_) (Nat.le_of_ble_eq_true rfl) (Nat.le_of_ble_eq_true rfl)
  rintro r h' ⟨z, M1, rfl, rfl, z1, z2, z3, z4, ⟨f1, f2, f3⟩⟩
  generalize p_all (p_T (M.1 23) n) = s at z1 z2 z3 z4 ⊢
  refine m_pf rfl hg rfl (M' := rf_wi M1 22 4 z) rfl ?_
  refine g1 (n := 1) rfl rfl rfl rfl ?_
  refine g1 (n := 1) rfl rfl rfl rfl ?_
  refine m_pf rfl hg rfl (M' := rf_wi (rf_wi M1 22 4 z) 22 1 (nI 0)) rfl ?_
  refine g1 (n := 1) rfl rfl rfl rfl ?_
  refine m_gf rfl hg rfl (v := .int z) (by show Value.int ((rf_wi (rf_wi M1 22 4 z) 22 1 (nI 0)).1 22 4) = _; rw [rf_wi_of _ _ (by omega), rf_wi_at]) ?_
  have hc1 : (rf_wi (rf_wi M1 22 4 z) 22 1 (nI 0)).1 22 3 = nI c := by
    rw [rf_wi_of _ _ (by omega), rf_wi_of _ _ (by omega), f1 22 3 (by omega) (by omega)]; exact hc
  refine g1 (n := 1) rfl rfl rfl rfl ?_
  refine g_ic rfl (fun e => ?_) (fun e => ?_)
  · have e : z = -1 := of_decide_eq_true e
    refine g1 (n := 1) rfl rfl rfl rfl ?_
    refine g0 rfl rfl rfl ?_
    refine m_gf rfl hg rfl (v := .int (nI c)) (by show Value.int ((rf_wi (rf_wi M1 22 4 z) 22 1 (nI 0)).1 22 3) = _; rw [hc1]) ?_
    refine g1 (n := 1) rfl rfl rfl rfl ?_
    refine g0 rfl rfl rfl ?_
    refine m_pf rfl hg rfl (M' := rf_wi (rf_wi (rf_wi M1 22 4 z) 22 1 (nI 0)) 22 3 (nI c + Int32.ofInt 1)) rfl ?_
    rw [nI_suc (by omega)]
    refine g1 (n := 1) rfl rfl rfl rfl ?_
    refine m_gf rfl hg rfl (v := .int (nI (c + 1))) (by show Value.int ((rf_wi (rf_wi (rf_wi M1 22 4 z) 22 1 (nI 0)) 22 3 (nI (c + 1))).1 22 3) = _; rw [rf_wi_at]) ?_
    refine g1 (n := 1) rfl rfl rfl rfl ?_
    refine g0 rfl rfl rfl ?_
    have es : nI (c + 1) - Int32.ofInt 1 = nI c := by
      refine Int32.toInt_inj.mp ?_
      rw [Int32.toInt_sub, nI_int (by omega), nI_int (by omega), Int32.toInt_ofInt_of_le (by omega) (by omega), Int.bmod_eq_of_le (by omega) (by omega)]
      omega
    rw [es]
    refine gx_ret rfl rfl (Or.inr ⟨k12, _, rfl, ?_, Or.inl ⟨?_, rfl, rf_wi_at _ _ _ _⟩, ?_, ?_, ?_, fun a k h1 h2 h3 => ?_, f2, f3⟩)
    · rw [rf_wi_of _ _ (by omega), rf_wi_at]
    · rw [← z1]; exact decide_eq_true e
    · rw [rf_wi_of _ _ (by omega), rf_wi_of _ _ (by omega), rf_wi_of _ _ (by omega)]; exact z2
    · rw [rf_wi_of _ _ (by omega), rf_wi_of _ _ (by omega), rf_wi_of _ _ (by omega)]; exact z3
    · rw [rf_wi_of _ _ (by omega), rf_wi_of _ _ (by omega), rf_wi_of _ _ (by omega)]; exact z4
    · rw [rf_wi_of _ _ (by omega), rf_wi_of _ _ (by omega), rf_wi_of _ _ (by omega)]
      exact f1 a k (by omega) h2
  · have e : ¬ z = -1 := fun w => e (decide_eq_true w)
    refine g1 (n := 2) rfl rfl rfl rfl ?_
    refine gx_ret rfl rfl (Or.inr ⟨k12, _, rfl, rf_wi_at _ _ _ _, Or.inr ⟨?_, rfl, hc1⟩, ?_, ?_, ?_, fun a k h1 h2 h3 => ?_, f2, f3⟩)
    · rw [← z1]; exact decide_eq_false e
    · rw [rf_wi_of _ _ (by omega), rf_wi_of _ _ (by omega)]; exact z2
    · rw [rf_wi_of _ _ (by omega), rf_wi_of _ _ (by omega)]; exact z3
    · rw [rf_wi_of _ _ (by omega), rf_wi_of _ _ (by omega)]; exact z4
    · rw [rf_wi_of _ _ (by omega), rf_wi_of _ _ (by omega)]
      exact f1 a k (by omega) h2
end TX3
