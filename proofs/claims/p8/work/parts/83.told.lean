/-! TOLD: the counts of a text that was taken -/
/-- what told(a, w) answers: the counts lie in the program's cell -/
def ct_told (M : rf_M) (c : Nat) (a w : Int32) : Int32 := if 0 ≤ a.toInt ∧ a.toInt < c then (if w.toInt = 0 then M.1 (25 + 12 * a.toInt.toNat) 0 else if w.toInt = 1 then M.1 (25 + 12 * a.toInt.toNat) 1 else if w.toInt = 2 then M.1 (25 + 12 * a.toInt.toNat) 2 else Int32.ofInt (-1)) else Int32.ofInt (-1)
section TOLD
variable {fz : Bool} {S : gS} {M : rf_M} {c : Nat}
theorem t_isT (hg : go (cx0 fz) S 22 0) (hc : M.1 22 3 = nI c) (hc12 : c ≤ 12) (a : Int32) : gx (cx0 fz) (0, 0) 58 0 (lv_args 0 [.ref 22, .int a]) [] (M, S) (fun r h' => h' = (M, S) ∧ (((0 ≤ a.toInt ∧ a.toInt < c) ∧ r = some (.int 1)) ∨ (¬ (0 ≤ a.toInt ∧ a.toInt < c) ∧ r = some (.int 0)))) := by
  show gx (cx0 fz) (0, 0) 58 0 [(0, .ref 22), (1, .int a)] [] (M, S) _
  refine g1 (n := 1) rfl rfl rfl rfl ?_
  refine g_if rfl (fun k => ?_) (fun k => ?_)
  · have k : a.toInt < 0 := (rf_cc_iff a 0 .lt).mp k
    refine g1 (n := 1) rfl rfl rfl rfl ?_
    exact gx_ret rfl rfl ⟨rfl, Or.inr ⟨by omega, rfl⟩⟩
  have k : ¬ a.toInt < 0 := fun z => k ((rf_cc_iff a 0 .lt).mpr z)
  refine g1 (n := 1) rfl rfl rfl rfl ?_
  refine g1 (n := 1) rfl rfl rfl rfl ?_
  refine m_gf rfl hg rfl (v := .int (nI c)) (by show Value.int (M.1 22 3) = _; rw [hc]) ?_
  refine g_ic rfl (fun q => ?_) (fun q => ?_)
  · have q : (nI c).toInt ≤ a.toInt := (rf_cc_iff a (nI c) .ge).mp q
    rw [nI_int (by omega)] at q
    refine g1 (n := 1) rfl rfl rfl rfl ?_
    exact gx_ret rfl rfl ⟨rfl, Or.inr ⟨by omega, rfl⟩⟩
  have q : ¬ (nI c).toInt ≤ a.toInt := fun z => q ((rf_cc_iff a (nI c) .ge).mpr z)
  rw [nI_int (by omega)] at q
  refine g1 (n := 1) rfl rfl rfl rfl ?_
  refine g3 rfl rfl rfl ?_
  exact gx_ret rfl rfl ⟨rfl, Or.inl ⟨by omega, rfl⟩⟩
theorem t_told (h : tq fz S M) (hc : M.1 22 3 = nI c) (hc12 : c ≤ 12) (a w : Int32) : gx (cx0 fz) (5, 200) 57 0 (lv_args 0 [.ref 22, .int a, .int w]) [] (M, S) (fun r h' => h' = (M, S) ∧ r = some (.int (ct_told M c a w))) := by
  obtain ⟨⟨hg, ht, hp⟩, ⟨r0, r2, r5⟩, rp, hq⟩ := h
  show gx (cx0 fz) (5, 200) 57 0 [(0, .ref 22), (1, .int a), (2, .int w)] [] (M, S) _
  refine g1 (n := 1) rfl rfl rfl rfl ?_
  refine g1 (n := 1) rfl rfl rfl rfl ?_
  refine m_iv (a := 22) (as := [.int a]) (rest := []) rfl (by decide) hg rfl rfl (Nat.le_of_ble_eq_true rfl) ⟨Nat.le_of_ble_eq_true rfl, Nat.le_of_ble_eq_true rfl, Nat.le_of_ble_eq_true rfl⟩ ?_
  refine gx_room (gx_mono (t_isT hg hc hc12 a) ?_) (Nat.zero_le _) (Nat.zero_le _)
  rintro r h' ⟨rfl, ⟨ha, rfl⟩ | ⟨ha, rfl⟩⟩
  rotate_left
  · refine g_if rfl (fun k => absurd k (by decide)) (fun _ => ?_)
    refine g1 (n := 1) rfl rfl rfl rfl ?_
    exact gx_ret rfl rfl ⟨rfl, by unfold ct_told; rw [if_neg ha]⟩
  refine g_if rfl (fun _ => ?_) (fun k => absurd (by decide) k)
  have e : ct_told M c a w = if w.toInt = 0 then M.1 (25 + 12 * a.toInt.toNat) 0 else if w.toInt = 1 then M.1 (25 + 12 * a.toInt.toNat) 1 else if w.toInt = 2 then M.1 (25 + 12 * a.toInt.toNat) 2 else Int32.ofInt (-1) := by
    unfold ct_told
    rw [if_pos ha]
  rw [e]
  have hp12 : a.toInt.toNat < 12 := by omega
  have hgp : go (cx0 fz) S (25 + 12 * a.toInt.toNat) 1 := (hq _ hp12).1.2.2.1
  have rq := rp _ hp12
  have ea : a.toInt = (a.toInt.toNat : Int) := by omega
  generalize a.toInt.toNat = p at hp12 hgp rq ea
  refine g1 (n := 1) rfl rfl rfl rfl ?_
  refine m_gf rfl hg rfl (v := .ref 24) (by show va_rf (M.2.2 22 2) = _; rw [r2]; rfl) ?_
  refine g1 (n := 1) rfl rfl rfl rfl ?_
  refine m_aal rfl hp.oa ea hp12 (v := .ref (25 + 12 * p)) (by rw [rq]; rfl) ?_
  refine g2 (n := 1) rfl rfl rfl rfl ?_
  refine g1 (n := 1) rfl rfl rfl rfl ?_
  by_cases w0 : w.toInt = 0
  · rw [if_pos w0]
    refine g3 rfl rfl (pc' := 44) (st' := []) ?_ ?_
    · show (if w.toInt < 0 ∨ 2 < w.toInt then some (59, []) else (match ([(0, 59), (0, 44), (1, 49), (2, 54)] : List (Int × Nat))[(w.toInt - 0).toNat + 1]? with | some q => some (q.2, []) | none => none)) = some (44, ([] : List Value))
      rw [w0]
      rfl
    refine g1 (n := 1) rfl rfl rfl rfl ?_
    refine m_gf rfl hgp rfl (v := .int (M.1 (25 + 12 * p) 0)) rfl ?_
    exact gx_ret rfl rfl ⟨rfl, rfl⟩
  rw [if_neg w0]
  by_cases w1 : w.toInt = 1
  · rw [if_pos w1]
    refine g3 rfl rfl (pc' := 49) (st' := []) ?_ ?_
    · show (if w.toInt < 0 ∨ 2 < w.toInt then some (59, []) else (match ([(0, 59), (0, 44), (1, 49), (2, 54)] : List (Int × Nat))[(w.toInt - 0).toNat + 1]? with | some q => some (q.2, []) | none => none)) = some (49, ([] : List Value))
      rw [w1]
      rfl
    refine g1 (n := 1) rfl rfl rfl rfl ?_
    refine m_gf rfl hgp rfl (v := .int (M.1 (25 + 12 * p) 1)) rfl ?_
    exact gx_ret rfl rfl ⟨rfl, rfl⟩
  rw [if_neg w1]
  by_cases w2 : w.toInt = 2
  · rw [if_pos w2]
    refine g3 rfl rfl (pc' := 54) (st' := []) ?_ ?_
    · show (if w.toInt < 0 ∨ 2 < w.toInt then some (59, []) else (match ([(0, 59), (0, 44), (1, 49), (2, 54)] : List (Int × Nat))[(w.toInt - 0).toNat + 1]? with | some q => some (q.2, []) | none => none)) = some (54, ([] : List Value))
      rw [w2]
      rfl
    refine g1 (n := 1) rfl rfl rfl rfl ?_
    refine m_gf rfl hgp rfl (v := .int (M.1 (25 + 12 * p) 2)) rfl ?_
    exact gx_ret rfl rfl ⟨rfl, rfl⟩
  rw [if_neg w2]
  refine g3 rfl rfl (pc' := 59) (st' := []) ?_ ?_
  · show (if w.toInt < 0 ∨ 2 < w.toInt then some (59, []) else (match ([(0, 59), (0, 44), (1, 49), (2, 54)] : List (Int × Nat))[(w.toInt - 0).toNat + 1]? with | some q => some (q.2, []) | none => none)) = some (59, ([] : List Value))
    rw [if_pos (by omega)]
  refine g1 (n := 1) rfl rfl rfl rfl ?_
  exact gx_ret rfl rfl ⟨rfl, rfl⟩
end TOLD
/-- told in the program's half: the memory stands as it was -/
theorem cf_told {fz : Bool} {L : Nat} {xs : Nat → Int32} {M : rf_M} {n c : Nat} (h : cJ fz L xs M n c) (a w : Int32) : gx (cx0 fz) (2000, 80000) 57 0 (lv_args 0 [.ref 22, .int a, .int w]) [] (M, (HK fz L xs).2) (fun r h' => h' = (M, (HK fz L xs).2) ∧ r = some (.int (ct_told M c a w))) :=
  gx_room (t_told (cJ_tq h) h.2.2.2.1 h.2.2.2.2 a w) (Nat.le_of_ble_eq_true rfl) (Nat.le_of_ble_eq_true rfl)
