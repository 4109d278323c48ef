/-! text() and told(): what they do -/
section TX2
variable {cx : rf_C} {d : Nat × Nat} {i pc : Nat} {ls : rf_L} {st : List Value} {Q : Option Value → rf_H → Prop} {M : rf_M} {S : gS} {aux : List (Int × Nat)}
theorem m_aal {a n k : Nat} {C : String} {j : Int32} {v : Value} (hf : cx.1 i pc = some (.aaload, aux)) (hs : oa S a (.object C) n) (hj : j.toInt = (k : Int)) (hk : k < n) (hv : va_rf (M.2.2 a k) = v) (kk : gx cx d i (pc + 1) ls (v :: st) (M, S) Q) : gx cx d i pc ls (.int j :: .ref a :: st) (M, S) Q := by
  refine g4 hf rfl rfl (st' := v :: st) (h' := (M, S)) ?_ kk
  show (match rf_aa (M, S) a with
    | some (.object C, n) => match rf_el (M, S) (.object C) a j with
      | some v => some (v :: st, (M, S))
      | none => none
    | some (.array t, n) => match rf_el (M, S) (.array t) a j with
      | some v => some (v :: st, (M, S))
      | none => none
    | _ => none) = _
  rw [hs.aa M]
  dsimp only
  rw [hs.el _ (ix_ok hj hk), ix_nat hj]
  show some (va_rf (M.2.2 a k) :: st, (M, S)) = _
  rw [hv]
end TX2
/-- what text() wants to find -/
def tq (fz : Bool) (S : gS) (M : rf_M) : Prop := (go (cx0 fz) S 22 0 ∧ ga (cx0 fz) S 23 .int 800 ∧ ga (cx0 fz) S 24 (.object "MemoryTransactions$Program") 12) ∧ (M.2.2 22 0 = some 23 ∧ M.2.2 22 2 = some 24 ∧ M.2.2 22 5 = some 169) ∧ (∀ c, c < 12 → M.2.2 24 c = some (25 + 12 * c)) ∧ ∀ c, c < 12 → pq fz S (25 + 12 * c) M
/-- what text() leaves as it was -/
def tq_fr (c : Nat) (M M' : rf_M) : Prop := (∀ a k, ¬ (25 + 12 * c ≤ a ∧ a ≤ 36 + 12 * c) → ¬ (169 ≤ a ∧ a ≤ 173) → ¬ (a = 22 ∧ (k = 1 ∨ k = 3 ∨ k = 4)) → M'.1 a k = M.1 a k) ∧ M'.2.1 = M.2.1 ∧ ∀ a k, ¬ (a = 169 ∧ k = 1) → ¬ (a = 170 ∧ k = 4) → M'.2.2 a k = M.2.2 a k
section TX3
variable {fz : Bool} {S : gS} {M M' : rf_M} {n c : Nat}
theorem t_text (h : tq fz S M) (hn : M.1 22 1 = nI n) (h8 : n ≤ 800) (hc : M.1 22 3 = nI c) (hc12 : c ≤ 12) : gx (cx0 fz) (81, 2010) 16 0 [(0, .ref 22)] [] (M, S) (fun r h' => (c = 12 ∧ r = some (.int (Int32.ofInt (-1))) ∧ h' = (M, S)) ∨ (c < 12 ∧ ∃ M', h' = (M', S) ∧ M'.1 22 1 = nI 0 ∧ (((p_all (p_T (M.1 23) n)).2.2.2.2.2 = true ∧ r = some (.int (nI c)) ∧ M'.1 22 3 = nI (c + 1)) ∨ ((p_all (p_T (M.1 23) n)).2.2.2.2.2 = false ∧ r = some (.int (Int32.ofInt (-2))) ∧ M'.1 22 3 = nI c)) ∧ M'.1 (25 + 12 * c) 0 = nI (p_all (p_T (M.1 23) n)).2.2.1 ∧ M'.1 (25 + 12 * c) 1 = nI (p_all (p_T (M.1 23) n)).2.2.2.1 ∧ M'.1 (25 + 12 * c) 2 = nI (p_all (p_T (M.1 23) n)).2.2.2.2.1 ∧ tq_fr c M M')) := by
  obtain ⟨⟨hg, ht, hp⟩, ⟨r0, r2, r5⟩, rp, hq⟩ := h
  refine g1 (n := 1) rfl rfl rfl rfl ?_
  refine m_gf rfl hg rfl (v := .int (nI c)) (by show Value.int (M.1 22 3) = _; rw [hc]) ?_
  refine g1 (n := 2) rfl rfl rfl rfl ?_
  refine g_ic rfl (fun k => ?_) (fun k => ?_)
  rotate_left
  · have k : ¬ (nI c).toInt < 12 := fun z => k ((rf_cc_iff _ 12 .lt).mpr z)
    rw [nI_int (by omega)] at k
    refine g1 (n := 1) rfl rfl rfl rfl ?_
    exact gx_ret rfl rfl (Or.inl ⟨by omega, rfl, rfl⟩)
  have k : (nI c).toInt < 12 := (rf_cc_iff _ 12 .lt).mp k
  rw [nI_int (by omega)] at k
  have k12 : c < 12 := by omega
  refine g1 (n := 1) rfl rfl rfl rfl ?_
  refine g1 (n := 1) rfl rfl rfl rfl ?_
  refine m_gf rfl hg rfl (v := .ref 169) (by show va_rf (M.2.2 22 5) = _; rw [r5]; rfl) ?_
  refine g1 (n := 1) rfl rfl rfl rfl ?_
  refine m_gf rfl hg rfl (v := .ref 23) (by show va_rf (M.2.2 22 0) = _; rw [r0]; rfl) ?_
  refine g1 (n := 1) rfl rfl rfl rfl ?_
  refine m_gf rfl hg rfl (v := .int (nI n)) (by show Value.int (M.1 22 1) = _; rw [hn]) ?_
  refine g1 (n := 1) rfl rfl rfl rfl ?_
  refine m_gf rfl hg rfl (v := .ref 24) (by show va_rf (M.2.2 22 2) = _; rw [r2]; rfl) ?_
  refine g1 (n := 1) rfl rfl rfl rfl ?_
  refine m_gf rfl hg rfl (v := .int (nI c)) (by show Value.int (M.1 22 3) = _; rw [hc]) ?_
  refine m_aal rfl hp.oa (nI_int (by omega)) k12 (v := .ref (25 + 12 * c)) (by rw [rp c k12]; rfl) ?_
  have hqc := hq c k12
  have hpc : 25 + 12 * c + 11 ≤ 168 := by omega
  refine m_iv (a := 169) (as := [.ref 23, .int (nI n), .ref (25 + 12 * c)]) (rest := [.ref 22]) rfl (by decide) hqc.1.1 rfl rfl (Nat.le_of_ble_eq_true rfl) ⟨Nat.le_of_ble_eq_true rfl, Nat.le_of_ble_eq_true rfl, Nat.le_of_ble_eq_true rfl⟩ ?_
  refine gx_room (gx_mono (p_parse hqc h8) ?_) (Nat.le_of_ble_eq_true rfl) (Nat.le_of_ble_eq_true rfl)
  rintro r h' ⟨z, M1, rfl, rfl, z1, z2, z3, z4, ⟨f1, f2, f3⟩⟩
  generalize p_all (p_T (M.1 23) n) = s at z1 z2 z3 z4 ⊢
  refine m_pf rfl hg rfl (M' := rf_wi M1 22 4 z) rfl ?_
  refine g1 (n := 1) rfl rfl rfl rfl ?_
  refine g1 (n := 1) rfl rfl rfl rfl ?_
  refine m_pf rfl hg rfl (M' := rf_wi (rf_wi M1 22 4 z) 22 1 (nI 0)) rfl ?_
  refine g1 (n := 1) rfl rfl rfl rfl ?_
  refine m_gf rfl hg rfl (v := .int z) (by show Value.int ((rf_wi (rf_wi M1 22 4 z) 22 1 (nI 0)).1 22 4) = _; rw [rf_wi_of _ _ (by omega), rf_wi_at]) ?_
  have hc1 : (rf_wi (rf_wi M1 22 4 z) 22 1 (nI 0)).1 22 3 = nI c := by
    rw [rf_wi_of _ _ (by omega), rf_wi_of _ _ (by omega), f1 22 3 (by omega) (by omega)]; exact hc
  refine g1 (n := 1) rfl rfl rfl rfl ?_
  refine g_ic rfl (fun e => ?_) (fun e => ?_)
  · have e : z = -1 := of_decide_eq_true e
    refine g1 (n := 1) rfl rfl rfl rfl ?_
    refine g0 rfl rfl rfl ?_
    refine m_gf rfl hg rfl (v := .int (nI c)) (by show Value.int ((rf_wi (rf_wi M1 22 4 z) 22 1 (nI 0)).1 22 3) = _; rw [hc1]) ?_
    refine g1 (n := 1) rfl rfl rfl rfl ?_
    refine g0 rfl rfl rfl ?_
    refine m_pf rfl hg rfl (M' := rf_wi (rf_wi (rf_wi M1 22 4 z) 22 1 (nI 0)) 22 3 (nI c + Int32.ofInt 1)) rfl ?_
    rw [nI_suc (by omega)]
    refine g1 (n := 1) rfl rfl rfl rfl ?_
    refine m_gf rfl hg rfl (v := .int (nI (c + 1))) (by show Value.int ((rf_wi (rf_wi (rf_wi M1 22 4 z) 22 1 (nI 0)) 22 3 (nI (c + 1))).1 22 3) = _; rw [rf_wi_at]) ?_
    refine g1 (n := 1) rfl rfl rfl rfl ?_
    refine g0 rfl rfl rfl ?_
    have es : nI (c + 1) - Int32.ofInt 1 = nI c := by
      refine Int32.toInt_inj.mp ?_
      rw [Int32.toInt_sub, nI_int (by omega), nI_int (by omega), Int32.toInt_ofInt_of_le (by omega) (by omega), Int.bmod_eq_of_le (by omega) (by omega)]
      omega
    rw [es]
    refine gx_ret rfl rfl (Or.inr ⟨k12, _, rfl, ?_, Or.inl ⟨?_, rfl, rf_wi_at _ _ _ _⟩, ?_, ?_, ?_, fun a k h1 h2 h3 => ?_, f2, f3⟩)
    · rw [rf_wi_of _ _ (by omega), rf_wi_at]
    · rw [← z1]; exact decide_eq_true e
    · rw [rf_wi_of _ _ (by omega), rf_wi_of _ _ (by omega), rf_wi_of _ _ (by omega)]; exact z2
    · rw [rf_wi_of _ _ (by omega), rf_wi_of _ _ (by omega), rf_wi_of _ _ (by omega)]; exact z3
    · rw [rf_wi_of _ _ (by omega), rf_wi_of _ _ (by omega), rf_wi_of _ _ (by omega)]; exact z4
    · rw [rf_wi_of _ _ (by omega), rf_wi_of _ _ (by omega), rf_wi_of _ _ (by omega)]
      exact f1 a k (by omega) h2
  · have e : ¬ z = -1 := fun w => e (decide_eq_true w)
    refine g1 (n := 2) rfl rfl rfl rfl ?_
    refine gx_ret rfl rfl (Or.inr ⟨k12, _, rfl, rf_wi_at _ _ _ _, Or.inr ⟨?_, rfl, hc1⟩, ?_, ?_, ?_, fun a k h1 h2 h3 => ?_, f2, f3⟩)
    · rw [← z1]; exact decide_eq_false e
    · rw [rf_wi_of _ _ (by omega), rf_wi_of _ _ (by omega)]; exact z2
    · rw [rf_wi_of _ _ (by omega), rf_wi_of _ _ (by omega)]; exact z3
    · rw [rf_wi_of _ _ (by omega), rf_wi_of _ _ (by omega)]; exact z4
    · rw [rf_wi_of _ _ (by omega), rf_wi_of _ _ (by omega)]
      exact f1 a k (by omega) h2
end TX3
/-! WHAT EVERY CALL KEEPS of the tape, of the number of texts and of the references -/
theorem gx_and {cx : rf_C} {d : Nat × Nat} {i pc : Nat} {ls : rf_L} {st : List Value} {h : rf_H} {P P' : Option Value → rf_H → Prop} (h1 : gx cx d i pc ls st h P) (h2 : gx cx d i pc ls st h P') : gx cx d i pc ls st h (fun r h => P r h ∧ P' r h) := by
  obtain ⟨n, r, hF, e1, p1⟩ := h1
  obtain ⟨n', r', hF', e2, p2⟩ := h2
  have m1 := rf_ev_mono cx _ _ _ _ _ _ _ _ e1 (max n n') (Nat.le_max_left _ _)
  have m2 := rf_ev_mono cx _ _ _ _ _ _ _ _ e2 (max n n') (Nat.le_max_right _ _)
  rw [m1] at m2
  cases m2
  exact ⟨_, r, hF, m1, p1, p2⟩
/-- the references that never change -/
def cl_ref (M : rf_M) : Prop := (M.2.2 22 0 = some 23 ∧ M.2.2 22 2 = some 24 ∧ M.2.2 22 5 = some 169) ∧ (∀ c, c < 12 → M.2.2 24 c = some (25 + 12 * c)) ∧ (∀ c, c < 12 → ∀ k, 5 ≤ k → k ≤ 15 → M.2.2 (25 + 12 * c) k = some (25 + 12 * c + (k - 4))) ∧ M.2.2 169 0 = some 170
def md_ok (md : List (Nat × Nat)) : Bool := md.all (fun q => !(q.1 == 1) && (!(q.1 == 2) && (!(q.1 == 0 && (q.2 == 0 || (q.2 == 1 || (q.2 == 2 || (q.2 == 3 || (q.2 == 4 || q.2 == 6)))))) && (!(q.1 == 4 && (q.2 == 0 || decide (6 ≤ q.2))) && !(q.1 == 16 && decide (q.2 ≤ 1))))))
theorem rg_p : ∀ c, c < 12 → xk_rg (25 + 12 * c) = 4 := by decide
theorem rg_pk : ∀ c, c < 12 → ∀ k, k < 12 → xk_rg (25 + 12 * c + k) = 4 + k := by decide
section KEEP

variable {fz : Bool} {S : gS} {m0 : rf_M} {hp : 0 < (cx0 fz).2.2.2.2} {hs : ∀ a, (cx0 fz).2.2.2.2 ≤ a → a < S.2.1 → sx_sh xk_G (xk_rg a) (S.1 a)} {M M' : rf_M} {md : List (Nat × Nat)}

theorem md_no {md : List (Nat × Nat)} {g k : Nat} (h : md_ok md = true) (hb : md_ok [(g, k)] = false) : (g, k) ∉ md := by
  intro hm
  have h1 := List.all_eq_true.mp h (g, k) hm
  unfold md_ok at hb
  simp only [List.all_cons, List.all_nil, Bool.and_true] at hb
  rw [h1] at hb
  cases hb
/-- what a call within such a list leaves -/
theorem cl_keep (hm : md_ok md = true) (hf : sx_fr ⟨(cx0 fz, xk_G, xk_rg, S, m0), hp, hs⟩ md M M') : M'.1 22 1 = M.1 22 1 ∧ M'.1 22 3 = M.1 22 3 ∧ (∀ k, M'.1 23 k = M.1 23 k) ∧ (∀ k, M'.1 1 k = M.1 1 k) ∧ (cl_ref M → cl_ref M') := by
  have h22 : ∀ k, (k = 0 ∨ k = 1 ∨ k = 2 ∨ k = 3 ∨ k = 5) → sx_same M M' 22 k := fun k hk => hf 22 k (Or.inr ⟨md_no hm rfl, by
    rcases hk with rfl | rfl | rfl | rfl | rfl
    · exact md_no (g := 0) (k := 1) hm rfl
    · exact md_no (g := 0) (k := 2) hm rfl
    · exact md_no (g := 0) (k := 3) hm rfl
    · exact md_no (g := 0) (k := 4) hm rfl
    · exact md_no (g := 0) (k := 6) hm rfl⟩)
  have h23 : ∀ k, sx_same M M' 23 k := fun k => hf 23 k (Or.inr ⟨md_no (g := 1) (k := 0) hm rfl, md_no (g := 1) (k := k + 1) hm rfl⟩)
  have h24 : ∀ k, sx_same M M' 24 k := fun k => hf 24 k (Or.inr ⟨md_no (g := 2) (k := 0) hm rfl, md_no (g := 2) (k := k + 1) hm rfl⟩)
  have h169 : sx_same M M' 169 0 := hf 169 0 (Or.inr ⟨md_no (g := 16) (k := 0) hm rfl, md_no (g := 16) (k := 1) hm rfl⟩)
  have hpk : ∀ c, c < 12 → ∀ k, 5 ≤ k → k ≤ 15 → sx_same M M' (25 + 12 * c) k := fun c hc k k1 k2 => hf _ k (Or.inr (by
    show (xk_rg (25 + 12 * c), 0) ∉ md ∧ (xk_rg (25 + 12 * c), k + 1) ∉ md
    rw [rg_p c hc]
    refine ⟨md_no (g := 4) (k := 0) hm rfl, md_no (g := 4) (k := k + 1) hm ?_⟩
    unfold md_ok
    simp
    omega))
  refine ⟨(h22 1 (by omega)).1, (h22 3 (by omega)).1, fun k => (h23 k).1, fun k => (hf 1 k (Or.inl (by show 1 < 22; omega))).1, fun hr => ?_⟩
  obtain ⟨⟨q0, q2, q5⟩, q24, qp, q169⟩ := hr
  exact ⟨⟨(h22 0 (by omega)).2.2.trans q0, (h22 2 (by omega)).2.2.trans q2, (h22 5 (by omega)).2.2.trans q5⟩, fun c hc => (h24 c).2.2.trans (q24 c hc), fun c hc k k1 k2 => (hpk c hc k k1 k2).2.2.trans (qp c hc k k1 k2), h169.2.2.trans q169⟩
theorem cl_tq (hn : S.2.1 = 406) (hw : xk_old fz S m0) (hin : sx_in ⟨(cx0 fz, xk_G, xk_rg, S, m0), hp, hs⟩ M) (hr : cl_ref M) : tq fz S M := by
  obtain ⟨⟨q0, q2, q5⟩, q24, qp, q169⟩ := hr
  refine ⟨⟨xk_go hs (by omega) (by omega) (g := 0) rfl rfl, xk_ga hs (by omega) (by omega) (g := 1) rfl rfl, xk_ga hs (by omega) (by omega) (g := 2) rfl rfl⟩, ⟨q0, q2, q5⟩, q24, fun c hc => ?_⟩
  refine ⟨⟨xk_go hs (by omega) (by omega) (g := 16) rfl rfl, xk_scS hn hs, xk_go hs (by omega) (by omega) (g := 4) (rg_p c hc) rfl, by omega, by omega, fun k k1 k2 => ?_, fun k k1 k2 => ?_⟩, ⟨q169, qp c hc⟩, xk_scM (hp := hp) (hs := hs) hn hw hin⟩
  · have hk : k = 1 ∨ k = 2 ∨ k = 3 ∨ k = 4 ∨ k = 5 ∨ k = 6 ∨ k = 7 ∨ k = 8 ∨ k = 9 := by omega
    rcases hk with rfl | rfl | rfl | rfl | rfl | rfl | rfl | rfl | rfl
    · exact xk_ga hs (by omega) (by omega) (g := 5) (rg_pk c hc 1 (by omega)) rfl
    · exact xk_ga hs (by omega) (by omega) (g := 6) (rg_pk c hc 2 (by omega)) rfl
    · exact xk_ga hs (by omega) (by omega) (g := 7) (rg_pk c hc 3 (by omega)) rfl
    · exact xk_ga hs (by omega) (by omega) (g := 8) (rg_pk c hc 4 (by omega)) rfl
    · exact xk_ga hs (by omega) (by omega) (g := 9) (rg_pk c hc 5 (by omega)) rfl
    · exact xk_ga hs (by omega) (by omega) (g := 10) (rg_pk c hc 6 (by omega)) rfl
    · exact xk_ga hs (by omega) (by omega) (g := 11) (rg_pk c hc 7 (by omega)) rfl
    · exact xk_ga hs (by omega) (by omega) (g := 12) (rg_pk c hc 8 (by omega)) rfl
    · exact xk_ga hs (by omega) (by omega) (g := 13) (rg_pk c hc 9 (by omega)) rfl
  · have hk : k = 10 ∨ k = 11 := by omega
    rcases hk with rfl | rfl
    · exact xk_ga hs (by omega) (by omega) (g := 14) (rg_pk c hc 10 (by omega)) rfl
    · exact xk_ga hs (by omega) (by omega) (g := 15) (rg_pk c hc 11 (by omega)) rfl
end KEEP
/-! THE PROGRAM'S HALF of a pair (printed by wip/tools/quiet.py) -/
/-- what holds of the program between two calls: regions, references; the tape has n bytes, there are c texts -/
def cJ (fz : Bool) (L : Nat) (xs : Nat → Int32) (M : rf_M) (n c : Nat) : Prop := sx_in (xk_W fz L xs) M ∧ cl_ref M ∧ (M.1 22 1 = nI n ∧ n ≤ 800) ∧ (M.1 22 3 = nI c ∧ c ≤ 12)
def md_far (md : List (Nat × Nat)) : Bool := md.all (fun q => decide (q.1 < 100))
theorem rg_far {a : Nat} (h : 353 ≤ a) : xk_rg a = 999 := by
  unfold xk_rg
  by_cases h2 : a < 406
  · have e : (List.range 53).all (fun k => decide (xk_rgL.getD (k + 331) 999 = 999)) = true := by decide +kernel
    have e2 := List.all_eq_true.mp e (a - 353) (List.mem_range.mpr (by omega))
    simp only [decide_eq_true_eq] at e2
    rw [show a - 353 + 331 = a - 22 by omega] at e2
    exact e2
  · have hl : xk_rgL.length = 384 := by decide +kernel
    rw [List.getD_eq_getElem?_getD, List.getElem?_eq_none (by omega)]
    rfl
theorem cl_far (fz : Bool) (L : Nat) (xs : Nat → Int32) {M M' : rf_M} {md : List (Nat × Nat)} (hm : md_far md = true) (hf : sx_fr (xk_W fz L xs) md M M') {a : Nat} (ha : 353 ≤ a) (k : Nat) : sx_same M M' a k := by
  refine hf a k (Or.inr ?_)
  show (xk_rg a, 0) ∉ md ∧ (xk_rg a, k + 1) ∉ md
  rw [rg_far ha]
  constructor
  · intro h
    have := List.all_eq_true.mp hm _ h
    simp at this
  · intro h
    have := List.all_eq_true.mp hm _ h
    simp at this
def md_pro (md : List (Nat × Nat)) : Bool := md.all (fun q => !(q.1 == 4))
theorem cl_pro (fz : Bool) (L : Nat) (xs : Nat → Int32) {M M' : rf_M} {md : List (Nat × Nat)} (hm : md_pro md = true) (hf : sx_fr (xk_W fz L xs) md M M') {i : Nat} (hi : i < 12) (k : Nat) : M'.1 (25 + 12 * i) k = M.1 (25 + 12 * i) k := by
  refine (hf _ k (Or.inr ?_)).1
  show (xk_rg (25 + 12 * i), 0) ∉ md ∧ (xk_rg (25 + 12 * i), k + 1) ∉ md
  rw [rg_p i hi]
  constructor
  · intro h
    have := List.all_eq_true.mp hm _ h
    simp at this
  · intro h
    have := List.all_eq_true.mp hm _ h
    simp at this
theorem HK_row (fz : Bool) (L : Nat) (xs : Nat → Int32) (k : Nat) : (HK fz L xs).1.1 1 k = xs k := by
  show va_up (K2 fz).1.1 1 xs 1 k = _
  rw [va_up_self]
theorem cJ.row {fz : Bool} {L : Nat} {xs : Nat → Int32} {M : rf_M} {n c : Nat} (h : cJ fz L xs M n c) (k : Nat) : M.1 1 k = xs k := ((h.1.2 1 k (by show 1 < 22; omega)).1).trans (HK_row fz L xs k)
theorem cJ.keep {fz : Bool} {L : Nat} {xs : Nat → Int32} {M M' : rf_M} {n c : Nat} {md : List (Nat × Nat)} (h : cJ fz L xs M n c) (hm : md_ok md = true) (hin : sx_in (xk_W fz L xs) M') (hf : sx_fr (xk_W fz L xs) md M M') : cJ fz L xs M' n c ∧ ∀ k, M'.1 23 k = M.1 23 k := by
  obtain ⟨k1, k2, k3, -, k5⟩ := cl_keep (hp := (xk_W fz L xs).2.1) (hs := (xk_W fz L xs).2.2) hm hf
  exact ⟨⟨hin, k5 h.2.1, ⟨k1.trans h.2.2.1.1, h.2.2.1.2⟩, ⟨k2.trans h.2.2.2.1, h.2.2.2.2⟩⟩, k3⟩
theorem cq_place (fz : Bool) (L : Nat) (xs : Nat → Int32) {M : rf_M} {n c : Nat} (h : cJ fz L xs M n c) : gx (cx0 fz) (2000, 80000) 56 0 (lv_args 0 [.ref 22]) [] (M, (HK fz L xs).2) (fun r h' => ∃ (z : Int32) (M' : rf_M), r = some (.int z) ∧ h' = (M', (HK fz L xs).2) ∧ cJ fz L xs M' n c ∧ (∀ k, M'.1 23 k = M.1 23 k) ∧ (∀ i k, i < 12 → M'.1 (25 + 12 * i) k = M.1 (25 + 12 * i) k) ∧ ∀ a k, 353 ≤ a → sx_same M M' a k) := by
  refine gx_mono (cl_place fz L xs h.1) ?_
  rintro r h' ⟨z, M', rfl, rfl, h1, h2⟩
  obtain ⟨k1, k2⟩ := h.keep (md := xk_c_4.2.2.2.1) (by decide) h1 h2
  exact ⟨z, M', rfl, rfl, k1, k2, fun i k hi => cl_pro fz L xs (md := xk_c_4.2.2.2.1) (by decide) h2 hi k, fun a k ha => cl_far fz L xs (md := xk_c_4.2.2.2.1) (by decide) h2 ha k⟩
theorem cq_put (fz : Bool) (L : Nat) (xs : Nat → Int32) {M : rf_M} {n c : Nat} (h : cJ fz L xs M n c) (a0 : Int32) (a1 : Int64) : gx (cx0 fz) (2000, 80000) 59 0 (lv_args 0 [.ref 22, .int a0, .long a1]) [] (M, (HK fz L xs).2) (fun r h' => ∃ (z : Int32) (M' : rf_M), r = some (.int z) ∧ h' = (M', (HK fz L xs).2) ∧ cJ fz L xs M' n c ∧ (∀ k, M'.1 23 k = M.1 23 k) ∧ (∀ i k, i < 12 → M'.1 (25 + 12 * i) k = M.1 (25 + 12 * i) k) ∧ ∀ a k, 353 ≤ a → sx_same M M' a k) := by
  refine gx_mono (cl_put fz L xs h.1 a0 a1) ?_
  rintro r h' ⟨z, M', rfl, rfl, h1, h2⟩
  obtain ⟨k1, k2⟩ := h.keep (md := xk_c_6.2.2.2.1) (by decide) h1 h2
  exact ⟨z, M', rfl, rfl, k1, k2, fun i k hi => cl_pro fz L xs (md := xk_c_6.2.2.2.1) (by decide) h2 hi k, fun a k ha => cl_far fz L xs (md := xk_c_6.2.2.2.1) (by decide) h2 ha k⟩
theorem cq_cell (fz : Bool) (L : Nat) (xs : Nat → Int32) {M : rf_M} {n c : Nat} (h : cJ fz L xs M n c) (a0 : Int32) : gx (cx0 fz) (2000, 80000) 79 0 (lv_args 0 [.ref 22, .int a0]) [] (M, (HK fz L xs).2) (fun r h' => ∃ (z : Int64) (M' : rf_M), r = some (.long z) ∧ h' = (M', (HK fz L xs).2) ∧ cJ fz L xs M' n c ∧ (∀ k, M'.1 23 k = M.1 23 k) ∧ (∀ i k, i < 12 → M'.1 (25 + 12 * i) k = M.1 (25 + 12 * i) k) ∧ ∀ a k, 353 ≤ a → sx_same M M' a k) := by
  refine gx_mono (cl_cell fz L xs h.1 a0) ?_
  rintro r h' ⟨z, M', rfl, rfl, h1, h2⟩
  obtain ⟨k1, k2⟩ := h.keep (md := xk_c_7.2.2.2.1) (by decide) h1 h2
  exact ⟨z, M', rfl, rfl, k1, k2, fun i k hi => cl_pro fz L xs (md := xk_c_7.2.2.2.1) (by decide) h2 hi k, fun a k ha => cl_far fz L xs (md := xk_c_7.2.2.2.1) (by decide) h2 ha k⟩
theorem cq_version (fz : Bool) (L : Nat) (xs : Nat → Int32) {M : rf_M} {n c : Nat} (h : cJ fz L xs M n c) (a0 : Int32) : gx (cx0 fz) (2000, 80000) 80 0 (lv_args 0 [.ref 22, .int a0]) [] (M, (HK fz L xs).2) (fun r h' => ∃ (z : Int32) (M' : rf_M), r = some (.int z) ∧ h' = (M', (HK fz L xs).2) ∧ cJ fz L xs M' n c ∧ (∀ k, M'.1 23 k = M.1 23 k) ∧ (∀ i k, i < 12 → M'.1 (25 + 12 * i) k = M.1 (25 + 12 * i) k) ∧ ∀ a k, 353 ≤ a → sx_same M M' a k) := by
  refine gx_mono (cl_version fz L xs h.1 a0) ?_
  rintro r h' ⟨z, M', rfl, rfl, h1, h2⟩
  obtain ⟨k1, k2⟩ := h.keep (md := xk_c_8.2.2.2.1) (by decide) h1 h2
  exact ⟨z, M', rfl, rfl, k1, k2, fun i k hi => cl_pro fz L xs (md := xk_c_8.2.2.2.1) (by decide) h2 hi k, fun a k ha => cl_far fz L xs (md := xk_c_8.2.2.2.1) (by decide) h2 ha k⟩
theorem cq_add (fz : Bool) (L : Nat) (xs : Nat → Int32) {M : rf_M} {n c : Nat} (h : cJ fz L xs M n c) (a0 : Int32) (a1 : Int32) : gx (cx0 fz) (2000, 80000) 81 0 (lv_args 0 [.ref 22, .int a0, .int a1]) [] (M, (HK fz L xs).2) (fun r h' => ∃ (z : Int32) (M' : rf_M), r = some (.int z) ∧ h' = (M', (HK fz L xs).2) ∧ cJ fz L xs M' n c ∧ (∀ k, M'.1 23 k = M.1 23 k) ∧ (∀ i k, i < 12 → M'.1 (25 + 12 * i) k = M.1 (25 + 12 * i) k) ∧ ∀ a k, 353 ≤ a → sx_same M M' a k) := by
  refine gx_mono (cl_add fz L xs h.1 a0 a1) ?_
  rintro r h' ⟨z, M', rfl, rfl, h1, h2⟩
  obtain ⟨k1, k2⟩ := h.keep (md := xk_c_9.2.2.2.1) (by decide) h1 h2
  exact ⟨z, M', rfl, rfl, k1, k2, fun i k hi => cl_pro fz L xs (md := xk_c_9.2.2.2.1) (by decide) h2 hi k, fun a k ha => cl_far fz L xs (md := xk_c_9.2.2.2.1) (by decide) h2 ha k⟩
theorem cq_turn (fz : Bool) (L : Nat) (xs : Nat → Int32) {M : rf_M} {n c : Nat} (h : cJ fz L xs M n c) (a0 : Int32) : gx (cx0 fz) (2000, 80000) 84 0 (lv_args 0 [.ref 22, .int a0]) [] (M, (HK fz L xs).2) (fun r h' => ∃ (z : Int32) (M' : rf_M), r = some (.int z) ∧ h' = (M', (HK fz L xs).2) ∧ cJ fz L xs M' n c ∧ (∀ k, M'.1 23 k = M.1 23 k) ∧ (∀ i k, i < 12 → M'.1 (25 + 12 * i) k = M.1 (25 + 12 * i) k) ∧ ∀ a k, 353 ≤ a → sx_same M M' a k) := by
  refine gx_mono (cl_turn fz L xs h.1 a0) ?_
  rintro r h' ⟨z, M', rfl, rfl, h1, h2⟩
  obtain ⟨k1, k2⟩ := h.keep (md := xk_c_10.2.2.2.1) (by decide) h1 h2
  exact ⟨z, M', rfl, rfl, k1, k2, fun i k hi => cl_pro fz L xs (md := xk_c_10.2.2.2.1) (by decide) h2 hi k, fun a k ha => cl_far fz L xs (md := xk_c_10.2.2.2.1) (by decide) h2 ha k⟩
theorem cq_play (fz : Bool) (L : Nat) (xs : Nat → Int32) {M : rf_M} {n c : Nat} (h : cJ fz L xs M n c) (a0 : Int64) (a1 : Int32) : gx (cx0 fz) (2000, 80000) 108 0 (lv_args 0 [.ref 22, .long a0, .int a1]) [] (M, (HK fz L xs).2) (fun r h' => ∃ (z : Int32) (M' : rf_M), r = some (.int z) ∧ h' = (M', (HK fz L xs).2) ∧ cJ fz L xs M' n c ∧ (∀ k, M'.1 23 k = M.1 23 k) ∧ (∀ i k, i < 12 → M'.1 (25 + 12 * i) k = M.1 (25 + 12 * i) k) ∧ ∀ a k, 353 ≤ a → sx_same M M' a k) := by
  refine gx_mono (cl_play fz L xs h.1 a0 a1) ?_
  rintro r h' ⟨z, M', rfl, rfl, h1, h2⟩
  obtain ⟨k1, k2⟩ := h.keep (md := xk_c_11.2.2.2.1) (by decide) h1 h2
  exact ⟨z, M', rfl, rfl, k1, k2, fun i k hi => cl_pro fz L xs (md := xk_c_11.2.2.2.1) (by decide) h2 hi k, fun a k ha => cl_far fz L xs (md := xk_c_11.2.2.2.1) (by decide) h2 ha k⟩
theorem cq_client (fz : Bool) (L : Nat) (xs : Nat → Int32) {M : rf_M} {n c : Nat} (h : cJ fz L xs M n c) (a0 : Int32) (a1 : Int32) : gx (cx0 fz) (2000, 80000) 109 0 (lv_args 0 [.ref 22, .int a0, .int a1]) [] (M, (HK fz L xs).2) (fun r h' => ∃ (z : Int32) (M' : rf_M), r = some (.int z) ∧ h' = (M', (HK fz L xs).2) ∧ cJ fz L xs M' n c ∧ (∀ k, M'.1 23 k = M.1 23 k) ∧ (∀ i k, i < 12 → M'.1 (25 + 12 * i) k = M.1 (25 + 12 * i) k) ∧ ∀ a k, 353 ≤ a → sx_same M M' a k) := by
  refine gx_mono (cl_client fz L xs h.1 a0 a1) ?_
  rintro r h' ⟨z, M', rfl, rfl, h1, h2⟩
  obtain ⟨k1, k2⟩ := h.keep (md := xk_c_12.2.2.2.1) (by decide) h1 h2
  exact ⟨z, M', rfl, rfl, k1, k2, fun i k hi => cl_pro fz L xs (md := xk_c_12.2.2.2.1) (by decide) h2 hi k, fun a k ha => cl_far fz L xs (md := xk_c_12.2.2.2.1) (by decide) h2 ha k⟩
theorem cq_sees (fz : Bool) (L : Nat) (xs : Nat → Int32) {M : rf_M} {n c : Nat} (h : cJ fz L xs M n c) (a0 : Int32) (a1 : Int32) : gx (cx0 fz) (2000, 80000) 111 0 (lv_args 0 [.ref 22, .int a0, .int a1]) [] (M, (HK fz L xs).2) (fun r h' => ∃ (z : Int64) (M' : rf_M), r = some (.long z) ∧ h' = (M', (HK fz L xs).2) ∧ cJ fz L xs M' n c ∧ (∀ k, M'.1 23 k = M.1 23 k) ∧ (∀ i k, i < 12 → M'.1 (25 + 12 * i) k = M.1 (25 + 12 * i) k) ∧ ∀ a k, 353 ≤ a → sx_same M M' a k) := by
  refine gx_mono (cl_sees fz L xs h.1 a0 a1) ?_
  rintro r h' ⟨z, M', rfl, rfl, h1, h2⟩
  obtain ⟨k1, k2⟩ := h.keep (md := xk_c_13.2.2.2.1) (by decide) h1 h2
  exact ⟨z, M', rfl, rfl, k1, k2, fun i k hi => cl_pro fz L xs (md := xk_c_13.2.2.2.1) (by decide) h2 hi k, fun a k ha => cl_far fz L xs (md := xk_c_13.2.2.2.1) (by decide) h2 ha k⟩
theorem cq_rules (fz : Bool) (L : Nat) (xs : Nat → Int32) {M : rf_M} {n c : Nat} (h : cJ fz L xs M n c) : gx (cx0 fz) (2000, 80000) 112 0 (lv_args 0 [.ref 22]) [] (M, (HK fz L xs).2) (fun r h' => ∃ (z : Int32) (M' : rf_M), r = some (.int z) ∧ h' = (M', (HK fz L xs).2) ∧ cJ fz L xs M' n c ∧ (∀ k, M'.1 23 k = M.1 23 k) ∧ (∀ i k, i < 12 → M'.1 (25 + 12 * i) k = M.1 (25 + 12 * i) k) ∧ ∀ a k, 353 ≤ a → sx_same M M' a k) := by
  refine gx_mono (cl_rules fz L xs h.1) ?_
  rintro r h' ⟨z, M', rfl, rfl, h1, h2⟩
  obtain ⟨k1, k2⟩ := h.keep (md := xk_c_14.2.2.2.1) (by decide) h1 h2
  exact ⟨z, M', rfl, rfl, k1, k2, fun i k hi => cl_pro fz L xs (md := xk_c_14.2.2.2.1) (by decide) h2 hi k, fun a k ha => cl_far fz L xs (md := xk_c_14.2.2.2.1) (by decide) h2 ha k⟩
theorem cq_rows (fz : Bool) (L : Nat) (xs : Nat → Int32) {M : rf_M} {n c : Nat} (h : cJ fz L xs M n c) : gx (cx0 fz) (2000, 80000) 113 0 (lv_args 0 [.ref 22]) [] (M, (HK fz L xs).2) (fun r h' => ∃ (z : Int32) (M' : rf_M), r = some (.int z) ∧ h' = (M', (HK fz L xs).2) ∧ cJ fz L xs M' n c ∧ (∀ k, M'.1 23 k = M.1 23 k) ∧ (∀ i k, i < 12 → M'.1 (25 + 12 * i) k = M.1 (25 + 12 * i) k) ∧ ∀ a k, 353 ≤ a → sx_same M M' a k) := by
  refine gx_mono (cl_rows fz L xs h.1) ?_
  rintro r h' ⟨z, M', rfl, rfl, h1, h2⟩
  obtain ⟨k1, k2⟩ := h.keep (md := xk_c_15.2.2.2.1) (by decide) h1 h2
  exact ⟨z, M', rfl, rfl, k1, k2, fun i k hi => cl_pro fz L xs (md := xk_c_15.2.2.2.1) (by decide) h2 hi k, fun a k ha => cl_far fz L xs (md := xk_c_15.2.2.2.1) (by decide) h2 ha k⟩
theorem cq_row (fz : Bool) (L : Nat) (xs : Nat → Int32) {M : rf_M} {n c : Nat} (h : cJ fz L xs M n c) (a0 : Int32) (a1 : Int32) : gx (cx0 fz) (2000, 80000) 114 0 (lv_args 0 [.ref 22, .int a0, .int a1]) [] (M, (HK fz L xs).2) (fun r h' => ∃ (z : Int32) (M' : rf_M), r = some (.int z) ∧ h' = (M', (HK fz L xs).2) ∧ cJ fz L xs M' n c ∧ (∀ k, M'.1 23 k = M.1 23 k) ∧ (∀ i k, i < 12 → M'.1 (25 + 12 * i) k = M.1 (25 + 12 * i) k) ∧ ∀ a k, 353 ≤ a → sx_same M M' a k) := by
  refine gx_mono (cl_row fz L xs h.1 a0 a1) ?_
  rintro r h' ⟨z, M', rfl, rfl, h1, h2⟩
  obtain ⟨k1, k2⟩ := h.keep (md := xk_c_16.2.2.2.1) (by decide) h1 h2
  exact ⟨z, M', rfl, rfl, k1, k2, fun i k hi => cl_pro fz L xs (md := xk_c_16.2.2.2.1) (by decide) h2 hi k, fun a k ha => cl_far fz L xs (md := xk_c_16.2.2.2.1) (by decide) h2 ha k⟩
theorem cq_value (fz : Bool) (L : Nat) (xs : Nat → Int32) {M : rf_M} {n c : Nat} (h : cJ fz L xs M n c) (a0 : Int32) : gx (cx0 fz) (2000, 80000) 117 0 (lv_args 0 [.ref 22, .int a0]) [] (M, (HK fz L xs).2) (fun r h' => ∃ (z : Int64) (M' : rf_M), r = some (.long z) ∧ h' = (M', (HK fz L xs).2) ∧ cJ fz L xs M' n c ∧ (∀ k, M'.1 23 k = M.1 23 k) ∧ (∀ i k, i < 12 → M'.1 (25 + 12 * i) k = M.1 (25 + 12 * i) k) ∧ ∀ a k, 353 ≤ a → sx_same M M' a k) := by
  refine gx_mono (cl_value fz L xs h.1 a0) ?_
  rintro r h' ⟨z, M', rfl, rfl, h1, h2⟩
  obtain ⟨k1, k2⟩ := h.keep (md := xk_c_17.2.2.2.1) (by decide) h1 h2
  exact ⟨z, M', rfl, rfl, k1, k2, fun i k hi => cl_pro fz L xs (md := xk_c_17.2.2.2.1) (by decide) h2 hi k, fun a k ha => cl_far fz L xs (md := xk_c_17.2.2.2.1) (by decide) h2 ha k⟩
theorem cq_replays (fz : Bool) (L : Nat) (xs : Nat → Int32) {M : rf_M} {n c : Nat} (h : cJ fz L xs M n c) : gx (cx0 fz) (2000, 80000) 118 0 (lv_args 0 [.ref 22]) [] (M, (HK fz L xs).2) (fun r h' => ∃ (z : Int32) (M' : rf_M), r = some (.int z) ∧ h' = (M', (HK fz L xs).2) ∧ cJ fz L xs M' n c ∧ (∀ k, M'.1 23 k = M.1 23 k) ∧ (∀ i k, i < 12 → M'.1 (25 + 12 * i) k = M.1 (25 + 12 * i) k) ∧ ∀ a k, 353 ≤ a → sx_same M M' a k) := by
  refine gx_mono (cl_replays fz L xs h.1) ?_
  rintro r h' ⟨z, M', rfl, rfl, h1, h2⟩
  obtain ⟨k1, k2⟩ := h.keep (md := xk_c_18.2.2.2.1) (by decide) h1 h2
  exact ⟨z, M', rfl, rfl, k1, k2, fun i k hi => cl_pro fz L xs (md := xk_c_18.2.2.2.1) (by decide) h2 hi k, fun a k ha => cl_far fz L xs (md := xk_c_18.2.2.2.1) (by decide) h2 ha k⟩
theorem cq_clear (fz : Bool) (L : Nat) (xs : Nat → Int32) {M : rf_M} {n c : Nat} (h : cJ fz L xs M n c) : gx (cx0 fz) (2000, 80000) 122 0 (lv_args 0 [.ref 22]) [] (M, (HK fz L xs).2) (fun r h' => ∃ (z : Int32) (M' : rf_M), r = some (.int z) ∧ h' = (M', (HK fz L xs).2) ∧ cJ fz L xs M' n c ∧ (∀ k, M'.1 23 k = M.1 23 k) ∧ (∀ i k, i < 12 → M'.1 (25 + 12 * i) k = M.1 (25 + 12 * i) k) ∧ ∀ a k, 353 ≤ a → sx_same M M' a k) := by
  refine gx_mono (cl_clear fz L xs h.1) ?_
  rintro r h' ⟨z, M', rfl, rfl, h1, h2⟩
  obtain ⟨k1, k2⟩ := h.keep (md := xk_c_19.2.2.2.1) (by decide) h1 h2
  exact ⟨z, M', rfl, rfl, k1, k2, fun i k hi => cl_pro fz L xs (md := xk_c_19.2.2.2.1) (by decide) h2 hi k, fun a k ha => cl_far fz L xs (md := xk_c_19.2.2.2.1) (by decide) h2 ha k⟩
/-! THE PROGRAM'S HALF of a pair: feed, end, text -/
section LOUD
variable {fz : Bool} {L : Nat} {xs : Nat → Int32} {M : rf_M} {n c : Nat}
theorem cJ_tq (h : cJ fz L xs M n c) : tq fz (HK fz L xs).2 M := cl_tq (hp := (xk_W fz L xs).2.1) (hs := (xk_W fz L xs).2.2) (HK_n fz L xs) (xk_oldHK fz L xs) h.1 h.2.1
theorem cl_ref_of {M M' : rf_M} (h : ∀ a k, ¬ (a = 169 ∧ k = 1) → ¬ (a = 170 ∧ k = 4) → M'.2.2 a k = M.2.2 a k) (hr : cl_ref M) : cl_ref M' := by
  obtain ⟨⟨q0, q2, q5⟩, q24, qp, q169⟩ := hr
  exact ⟨⟨(h _ _ (by omega) (by omega)).trans q0, (h _ _ (by omega) (by omega)).trans q2, (h _ _ (by omega) (by omega)).trans q5⟩, fun c hc => (h _ _ (by omega) (by omega)).trans (q24 c hc), fun c hc k k1 k2 => (h _ _ (by omega) (by omega)).trans (qp c hc k k1 k2), (h _ _ (by omega) (by omega)).trans q169⟩
theorem cf_feed (h : cJ fz L xs M n c) (a b e d g : Int32) : gx (cx0 fz) (2000, 80000) 13 0 (lv_args 0 [.ref 22, .int a, .int b, .int e, .int d, .int g]) [] (M, (HK fz L xs).2) (fun r h' => ∃ (z : Int32) (M' : rf_M), r = some (.int z) ∧ h' = (M', (HK fz L xs).2) ∧ ((n ≤ 780 ∧ z = nI (n + 20) ∧ cJ fz L xs M' (n + 20) c ∧ (∀ t, t < 20 → M'.1 23 (n + t) = fb5 a b e d g t) ∧ ∀ k, k < n → M'.1 23 k = M.1 23 k) ∨ (780 < n ∧ z = Int32.ofInt (-1) ∧ cJ fz L xs M' n c ∧ ∀ k, M'.1 23 k = M.1 23 k)) ∧ (∀ i k, i < 12 → M'.1 (25 + 12 * i) k = M.1 (25 + 12 * i) k) ∧ ∀ a k, 353 ≤ a → sx_same M M' a k) := by
  have htq := cJ_tq h
  refine gx_mono (gx_and (gx_room (tp_feed (a := a) (b := b) (c := e) (d := d) (e := g) htq.1.1 htq.1.2.1 htq.2.1.1 h.2.2.1.1 h.2.2.1.2) (Nat.le_of_ble_eq_true rfl) (Nat.le_of_ble_eq_true rfl)) (cl_feed fz L xs h.1 a b e d g)) ?_
  rintro r h' ⟨h1, z, M', rfl, rfl, h2, h3⟩
  have hpro : ∀ i k, i < 12 → M'.1 (25 + 12 * i) k = M.1 (25 + 12 * i) k := fun i k hi => cl_pro fz L xs (by decide) h3 hi k
  have hfar : ∀ a k, 353 ≤ a → sx_same M M' a k := fun a k ha => cl_far fz L xs (by decide) h3 ha k
  rcases h1 with ⟨q1, q2, M1, q3, q4, q5, q6⟩ | ⟨q1, q2, q3⟩
  · cases q3
    cases q2
    refine ⟨_, M', rfl, rfl, Or.inl ⟨q1, rfl, ⟨h2, ?_, ⟨q4, by omega⟩, ⟨?_, h.2.2.2.2⟩⟩, q5, fun k hk => q6.1 23 k (by omega) (by omega)⟩, hpro, hfar⟩
    · exact cl_ref_of (fun a k _ _ => by rw [q6.2]) h.2.1
    · rw [q6.1 22 3 (by omega) (by omega)]; exact h.2.2.2.1
  · cases q2
    have q4 : M' = M := (Prod.mk.inj q3).1
    subst q4
    exact ⟨_, M', rfl, rfl, Or.inr ⟨q1, rfl, h, fun _ => rfl⟩, hpro, hfar⟩
theorem cf_end (h : cJ fz L xs M n c) (x : Int32) : gx (cx0 fz) (2000, 80000) 15 0 (lv_args 0 [.ref 22, .int x]) [] (M, (HK fz L xs).2) (fun r h' => ∃ (z : Int32) (M' : rf_M), r = some (.int z) ∧ h' = (M', (HK fz L xs).2) ∧ (((0 ≤ x.toInt ∧ x.toInt ≤ 20 ∧ 20 ≤ n) ∧ z = nI (n - 20 + x.toInt.toNat) ∧ cJ fz L xs M' (n - 20 + x.toInt.toNat) c) ∨ (¬ (0 ≤ x.toInt ∧ x.toInt ≤ 20 ∧ 20 ≤ n) ∧ z = Int32.ofInt (-1) ∧ cJ fz L xs M' n c)) ∧ (∀ k, M'.1 23 k = M.1 23 k) ∧ (∀ i k, i < 12 → M'.1 (25 + 12 * i) k = M.1 (25 + 12 * i) k) ∧ ∀ a k, 353 ≤ a → sx_same M M' a k) := by
  have htq := cJ_tq h
  refine gx_mono (gx_and (gx_room (tp_end (x := x) htq.1.1 h.2.2.1.1 h.2.2.1.2) (Nat.zero_le _) (Nat.zero_le _)) (cl_end fz L xs h.1 x)) ?_
  rintro r h' ⟨h1, z, M', rfl, rfl, h2, h3⟩
  have hpro : ∀ i k, i < 12 → M'.1 (25 + 12 * i) k = M.1 (25 + 12 * i) k := fun i k hi => cl_pro fz L xs (by decide) h3 hi k
  have hfar : ∀ a k, 353 ≤ a → sx_same M M' a k := fun a k ha => cl_far fz L xs (by decide) h3 ha k
  have h8 := h.2.2.1.2
  rcases h1 with ⟨q1, q2, q3⟩ | ⟨q1, q2, q3⟩
  · cases q2
    have q4 : M' = rf_wi M 22 1 (nI (n - 20 + x.toInt.toNat)) := (Prod.mk.inj q3).1
    refine ⟨_, M', rfl, rfl, Or.inl ⟨q1, rfl, ⟨h2, ?_, ⟨?_, by omega⟩, ⟨?_, h.2.2.2.2⟩⟩⟩, fun k => ?_, hpro, hfar⟩
    · exact cl_ref_of (fun a k _ _ => by rw [q4]; rfl) h.2.1
    · rw [q4, rf_wi_at]
    · rw [q4, rf_wi_of _ _ (by omega)]; exact h.2.2.2.1
    · rw [q4, rf_wi_of _ _ (by omega)]
  · cases q2
    have q4 : M' = M := (Prod.mk.inj q3).1
    subst q4
    exact ⟨_, M', rfl, rfl, Or.inr ⟨q1, rfl, h⟩, fun _ => rfl, hpro, hfar⟩
/-- text: the text is taken just where p_all says so -/
theorem cf_text (h : cJ fz L xs M n c) : gx (cx0 fz) (2000, 80000) 16 0 (lv_args 0 [.ref 22]) [] (M, (HK fz L xs).2) (fun r h' => ∃ (z : Int32) (M' : rf_M), r = some (.int z) ∧ h' = (M', (HK fz L xs).2) ∧ ((c = 12 ∧ z = Int32.ofInt (-1) ∧ cJ fz L xs M' n c ∧ ∀ k, M'.1 23 k = M.1 23 k) ∨ (c < 12 ∧ (p_all (p_T (M.1 23) n)).2.2.2.2.2 = true ∧ z = nI c ∧ cJ fz L xs M' 0 (c + 1) ∧ (M'.1 (25 + 12 * c) 0 = nI (p_all (p_T (M.1 23) n)).2.2.1 ∧ M'.1 (25 + 12 * c) 1 = nI (p_all (p_T (M.1 23) n)).2.2.2.1 ∧ M'.1 (25 + 12 * c) 2 = nI (p_all (p_T (M.1 23) n)).2.2.2.2.1)) ∨ (c < 12 ∧ (p_all (p_T (M.1 23) n)).2.2.2.2.2 = false ∧ z = Int32.ofInt (-2) ∧ cJ fz L xs M' 0 c)) ∧ (∀ i k, i < c → M'.1 (25 + 12 * i) k = M.1 (25 + 12 * i) k) ∧ ∀ a k, 353 ≤ a → sx_same M M' a k) := by
  have htq := cJ_tq h
  refine gx_mono (gx_and (gx_room (t_text htq h.2.2.1.1 h.2.2.1.2 h.2.2.2.1 h.2.2.2.2) (Nat.le_of_ble_eq_true rfl) (Nat.le_of_ble_eq_true rfl)) (cl_text fz L xs h.1)) ?_
  rintro r h' ⟨h1, z, M', rfl, rfl, h2, h3⟩
  have hfar : ∀ a k, 353 ≤ a → sx_same M M' a k := fun a k ha => cl_far fz L xs (by decide) h3 ha k
  rcases h1 with ⟨q1, q2, q3⟩ | ⟨q1, M1, q3, q4, q5, u0, u1, u2, q6⟩
  · cases q2
    have q4 : M' = M := (Prod.mk.inj q3).1
    subst q4
    exact ⟨_, M', rfl, rfl, Or.inl ⟨q1, rfl, h, fun _ => rfl⟩, fun _ _ _ => rfl, hfar⟩
  · have q7 : M' = M1 := (Prod.mk.inj q3).1
    subst q7
    have hr := cl_ref_of q6.2.2 h.2.1
    have hold : ∀ i k, i < c → M'.1 (25 + 12 * i) k = M.1 (25 + 12 * i) k := fun i k hi => q6.1 _ k (by omega) (by omega) (by omega)
    rcases q5 with ⟨e1, e2, e3⟩ | ⟨e1, e2, e3⟩
    · cases e2
      exact ⟨_, M', rfl, rfl, Or.inr (Or.inl ⟨q1, e1, rfl, ⟨h2, hr, ⟨q4, by omega⟩, ⟨e3, by omega⟩⟩, u0, u1, u2⟩), hold, hfar⟩
    · cases e2
      exact ⟨_, M', rfl, rfl, Or.inr (Or.inr ⟨q1, e1, rfl, h2, hr, ⟨q4, by omega⟩, ⟨e3, by omega⟩⟩), hold, hfar⟩
end LOUD
theorem HK_i (fz : Bool) (L : Nat) (xs : Nat → Int32) (a k : Nat) (ha : 1 < a) : (HK fz L xs).1.1 a k = (K2 fz).1.1 a k := by
  unfold HK
  generalize K2 fz = h
  show va_up h.1.1 1 xs a k = _
  unfold va_up
  rw [if_neg (by omega)]
/-- at the beginning -/
theorem cJ_0 (fz : Bool) (L : Nat) (xs : Nat → Int32) : cJ fz L xs (HK fz L xs).1 0 0 := by
  have hr := List.all_eq_true.mp (K2_rf fz)
  have rf : ∀ a k b, (a, k, b) ∈ rfK → (HK fz L xs).1.2.2 a k = some b := fun a k b hm => by
    have := hr (a, k, b) hm
    simp only [decide_eq_true_eq] at this
    rw [show (HK fz L xs).1.2 = (K2 fz).1.2 from pt_M2 xs (K2 fz).1]
    exact this
  have ib : (List.range 2).all (fun t => decide ((K2 fz).1.1 22 (2 * t + 1) = 0)) = true := K2_ib fz
  have iz : ∀ t, t < 2 → (HK fz L xs).1.1 22 (2 * t + 1) = nI 0 := fun t ht => by
    have := List.all_eq_true.mp ib t (List.mem_range.mpr ht)
    simp only [decide_eq_true_eq] at this
    rw [HK_i fz L xs 22 (2 * t + 1) (by omega), this]
    rfl
  have e1 : ∀ c, c < 12 → (24, c, 25 + 12 * c) ∈ rfK := by decide
  have e2 : ∀ c, c < 12 → ∀ k, k < 11 → (25 + 12 * c, k + 5, 25 + 12 * c + (k + 1)) ∈ rfK := by decide
  refine ⟨xk_in fz L xs, ⟨⟨rf 22 0 23 (by decide), rf 22 2 24 (by decide), rf 22 5 169 (by decide)⟩, fun c hc => rf _ _ _ (e1 c hc), fun c hc k k1 k2 => ?_, rf 169 0 170 (by decide)⟩, ⟨iz 0 (by omega), by omega⟩, ⟨iz 1 (by omega), by omega⟩⟩
  obtain ⟨j, rfl⟩ : ∃ j, k = j + 5 := ⟨k - 5, by omega⟩
  have := rf _ _ _ (e2 c hc j (by omega))
  rw [show j + 5 - 4 = j + 1 by omega]
  exact this
/-! TOLD: the counts of a text that was taken -/
/-- what told(a, w) answers: the counts lie in the program's cell -/
def ct_told (M : rf_M) (c : Nat) (a w : Int32) : Int32 := if 0 ≤ a.toInt ∧ a.toInt < c then (if w.toInt = 0 then M.1 (25 + 12 * a.toInt.toNat) 0 else if w.toInt = 1 then M.1 (25 + 12 * a.toInt.toNat) 1 else if w.toInt = 2 then M.1 (25 + 12 * a.toInt.toNat) 2 else Int32.ofInt (-1)) else Int32.ofInt (-1)
section TOLD
variable {fz : Bool} {S : gS} {M : rf_M} {c : Nat}
theorem t_isT (hg : go (cx0 fz) S 22 0) (hc : M.1 22 3 = nI c) (hc12 : c ≤ 12) (a : Int32) : gx (cx0 fz) (0, 0) 58 0 (lv_args 0 [.ref 22, .int a]) [] (M, S) (fun r h' => h' = (M, S) ∧ (((0 ≤ a.toInt ∧ a.toInt < c) ∧ r = some (.int 1)) ∨ (¬ (0 ≤ a.toInt ∧ a.toInt < c) ∧ r = some (.int 0)))) := by
  show gx (cx0 fz) (0, 0) 58 0 [(0, .ref 22), (1, .int a)] [] (M, S) _
  refine g1 (n := 1) rfl rfl rfl rfl ?_
  refine g_if rfl (fun k => ?_) (fun k => ?_)
  · have k : a.toInt < 0 := (rf_cc_iff a 0 .lt).mp k
    refine g1 (n := 1) rfl rfl rfl rfl ?_
    exact gx_ret rfl rfl ⟨rfl, Or.inr ⟨by omega, rfl⟩⟩
  have k : ¬ a.toInt < 0 := fun z => k ((rf_cc_iff a 0 .lt).mpr z)
  refine g1 (n := 1) rfl rfl rfl rfl ?_
  refine g1 (n := 1) rfl rfl rfl rfl ?_
  refine m_gf rfl hg rfl (v := .int (nI c)) (by show Value.int (M.1 22 3) = _; rw [hc]) ?_
  refine g_ic rfl (fun q => ?_) (fun q => ?_)
  · have q : (nI c).toInt ≤ a.toInt := (rf_cc_iff a (nI c) .ge).mp q
    rw [nI_int (by omega)] at q
    refine g1 (n := 1) rfl rfl rfl rfl ?_
    exact gx_ret rfl rfl ⟨rfl, Or.inr ⟨by omega, rfl⟩⟩
  have q : ¬ (nI c).toInt ≤ a.toInt := fun z => q ((rf_cc_iff a (nI c) .ge).mpr z)
  rw [nI_int (by omega)] at q
  refine g1 (n := 1) rfl rfl rfl rfl ?_
  refine g3 rfl rfl rfl ?_
  exact gx_ret rfl rfl ⟨rfl, Or.inl ⟨by omega, rfl⟩⟩
theorem t_told (h : tq fz S M) (hc : M.1 22 3 = nI c) (hc12 : c ≤ 12) (a w : Int32) : gx (cx0 fz) (5, 200) 57 0 (lv_args 0 [.ref 22, .int a, .int w]) [] (M, S) (fun r h' => h' = (M, S) ∧ r = some (.int (ct_told M c a w))) := by
  obtain ⟨⟨hg, ht, hp⟩, ⟨r0, r2, r5⟩, rp, hq⟩ := h
  show gx (cx0 fz) (5, 200) 57 0 [(0, .ref 22), (1, .int a), (2, .int w)] [] (M, S) _
  refine g1 (n := 1) rfl rfl rfl rfl ?_
  refine g1 (n := 1) rfl rfl rfl rfl ?_
  refine m_iv (a := 22) (as := [.int a]) (rest := []) rfl (by decide) hg rfl rfl (Nat.le_of_ble_eq_true rfl) ⟨Nat.le_of_ble_eq_true rfl, Nat.le_of_ble_eq_true rfl, Nat.le_of_ble_eq_true rfl⟩ ?_
  refine gx_room (gx_mono (t_isT hg hc hc12 a) ?_) (Nat.zero_le _) (Nat.zero_le _)
  rintro r h' ⟨rfl, ⟨ha, rfl⟩ | ⟨ha, rfl⟩⟩
  rotate_left
  · refine g_if rfl (fun k => absurd k (by decide)) (fun _ => ?_)
    refine g1 (n := 1) rfl rfl rfl rfl ?_
    exact gx_ret rfl rfl ⟨rfl, by unfold ct_told; rw [if_neg ha]⟩
  refine g_if rfl (fun _ => ?_) (fun k => absurd (by decide) k)
  have e : ct_told M c a w = if w.toInt = 0 then M.1 (25 + 12 * a.toInt.toNat) 0 else if w.toInt = 1 then M.1 (25 + 12 * a.toInt.toNat) 1 else if w.toInt = 2 then M.1 (25 + 12 * a.toInt.toNat) 2 else Int32.ofInt (-1) := by
    unfold ct_told
    rw [if_pos ha]
  rw [e]
  have hp12 : a.toInt.toNat < 12 := by omega
  have hgp : go (cx0 fz) S (25 + 12 * a.toInt.toNat) 1 := (hq _ hp12).1.2.2.1
  have rq := rp _ hp12
  have ea : a.toInt = (a.toInt.toNat : Int) := by omega
  generalize a.toInt.toNat = p at hp12 hgp rq ea
  refine g1 (n := 1) rfl rfl rfl rfl ?_
  refine m_gf rfl hg rfl (v := .ref 24) (by show va_rf (M.2.2 22 2) = _; rw [r2]; rfl) ?_
  refine g1 (n := 1) rfl rfl rfl rfl ?_
  refine m_aal rfl hp.oa ea hp12 (v := .ref (25 + 12 * p)) (by rw [rq]; rfl) ?_
  refine g2 (n := 1) rfl rfl rfl rfl ?_
  refine g1 (n := 1) rfl rfl rfl rfl ?_
  by_cases w0 : w.toInt = 0
  · rw [if_pos w0]
    refine g3 rfl rfl (pc' := 44) (st' := []) ?_ ?_
    · show (if w.toInt < 0 ∨ 2 < w.toInt then some (59, []) else (match ([(0, 59), (0, 44), (1, 49), (2, 54)] : List (Int × Nat))[(w.toInt - 0).toNat + 1]? with | some q => some (q.2, []) | none => none)) = some (44, ([] : List Value))
      rw [w0]
      rfl
    refine g1 (n := 1) rfl rfl rfl rfl ?_
    refine m_gf rfl hgp rfl (v := .int (M.1 (25 + 12 * p) 0)) rfl ?_
    exact gx_ret rfl rfl ⟨rfl, rfl⟩
  rw [if_neg w0]
  by_cases w1 : w.toInt = 1
  · rw [if_pos w1]
    refine g3 rfl rfl (pc' := 49) (st' := []) ?_ ?_
    · show (if w.toInt < 0 ∨ 2 < w.toInt then some (59, []) else (match ([(0, 59), (0, 44), (1, 49), (2, 54)] : List (Int × Nat))[(w.toInt - 0).toNat + 1]? with | some q => some (q.2, []) | none => none)) = some (49, ([] : List Value))
      rw [w1]
      rfl
    refine g1 (n := 1) rfl rfl rfl rfl ?_
    refine m_gf rfl hgp rfl (v := .int (M.1 (25 + 12 * p) 1)) rfl ?_
    exact gx_ret rfl rfl ⟨rfl, rfl⟩
  rw [if_neg w1]
  by_cases w2 : w.toInt = 2
  · rw [if_pos w2]
    refine g3 rfl rfl (pc' := 54) (st' := []) ?_ ?_
    · show (if w.toInt < 0 ∨ 2 < w.toInt then some (59, []) else (match ([(0, 59), (0, 44), (1, 49), (2, 54)] : List (Int × Nat))[(w.toInt - 0).toNat + 1]? with | some q => some (q.2, []) | none => none)) = some (54, ([] : List Value))
      rw [w2]
      rfl
    refine g1 (n := 1) rfl rfl rfl rfl ?_
    refine m_gf rfl hgp rfl (v := .int (M.1 (25 + 12 * p) 2)) rfl ?_
    exact gx_ret rfl rfl ⟨rfl, rfl⟩
  rw [if_neg w2]
  refine g3 rfl rfl (pc' := 59) (st' := []) ?_ ?_
  · show (if w.toInt < 0 ∨ 2 < w.toInt then some (59, []) else (match ([(0, 59), (0, 44), (1, 49), (2, 54)] : List (Int × Nat))[(w.toInt - 0).toNat + 1]? with | some q => some (q.2, []) | none => none)) = some (59, ([] : List Value))
    rw [if_pos (by omega)]
  refine g1 (n := 1) rfl rfl rfl rfl ?_
  exact gx_ret rfl rfl ⟨rfl, rfl⟩
end TOLD
/-- told in the program's half: the memory stands as it was -/
theorem cf_told {fz : Bool} {L : Nat} {xs : Nat → Int32} {M : rf_M} {n c : Nat} (h : cJ fz L xs M n c) (a w : Int32) : gx (cx0 fz) (2000, 80000) 57 0 (lv_args 0 [.ref 22, .int a, .int w]) [] (M, (HK fz L xs).2) (fun r h' => h' = (M, (HK fz L xs).2) ∧ r = some (.int (ct_told M c a w))) :=
  gx_room (t_told (cJ_tq h) h.2.2.2.1 h.2.2.2.2 a w) (Nat.le_of_ble_eq_true rfl) (Nat.le_of_ble_eq_true rfl)
/-! see wip/tools/vc.py -/
/-! THE REFERENCE AS FORMULAS: ints as numbers, reads and writes of slots, rows over them -/
def gi (M : rf_M) (a k : Nat) : Int := (M.1 a k).toInt
def wi (M : rf_M) (a k : Nat) (z : Int) : rf_M := rf_wi M a k (Int32.ofInt z)
def gl (M : rf_M) (a k : Nat) : Int64 := M.2.1 a k
def wl (M : rf_M) (a k : Nat) (x : Int64) : rf_M := rf_wl M a k x
def inr (z : Int) : Prop := -2147483648 ≤ z ∧ z ≤ 2147483647
abbrev zv (z : Int) : Value := .int (Int32.ofInt z)
theorem inr_ti (x : Int32) : inr x.toInt := ⟨Int32.le_toInt x, by have := Int32.toInt_lt x; omega⟩
theorem inr_gi (M : rf_M) (a k : Nat) : inr (gi M a k) := inr_ti _
theorem ofi_ti (x : Int32) : Int32.ofInt x.toInt = x := Int32.ofInt_toInt x
theorem ti_ofi {z : Int} (h : inr z) : (Int32.ofInt z).toInt = z := Int32.toInt_ofInt_of_le (by have := h.1; omega) (by have := h.2; omega)
theorem gi_at {M : rf_M} {a k : Nat} {z : Int} (h : inr z) : gi (wi M a k z) a k = z := by
  show ((rf_wi M a k (Int32.ofInt z)).1 a k).toInt = z
  rw [rf_wi_at, ti_ofi h]
theorem gi_of {M : rf_M} {a k a' k' : Nat} {z : Int} (h : a' ≠ a ∨ k' ≠ k) : gi (wi M a k z) a' k' = gi M a' k' := by
  show ((rf_wi M a k (Int32.ofInt z)).1 a' k').toInt = _
  rw [rf_wi_of _ _ h]; rfl
theorem gi_wl (M : rf_M) (a k a' k' : Nat) (x : Int64) : gi (wl M a k x) a' k' = gi M a' k' := rfl
theorem gl_wi (M : rf_M) (a k a' k' : Nat) (z : Int) : gl (wi M a k z) a' k' = gl M a' k' := rfl
theorem gl_at (M : rf_M) (a k : Nat) (x : Int64) : gl (wl M a k x) a k = x := rf_up2s _ _ _ _
theorem gl_of {M : rf_M} {a k a' k' : Nat} {x : Int64} (h : a' ≠ a ∨ k' ≠ k) : gl (wl M a k x) a' k' = gl M a' k' := rf_up2 _ _ h
theorem li_of {ls : rf_L} {k : Nat} {z : Int} {st : List Value} (h : rf_ld ls k = some (zv z)) : rf_li ls k st = some (zv z :: st) := by unfold rf_li; rw [h]
theorem ll_of {ls : rf_L} {k : Nat} {x : Int64} {st : List Value} (h : rf_ld ls k = some (.long x)) : rf_ll ls k st = some (.long x :: st) := by unfold rf_ll; rw [h]
theorem la_of {ls : rf_L} {k a : Nat} {st : List Value} (h : rf_ld ls k = some (.ref a)) : rf_la ls k st = some (.ref a :: st) := by unfold rf_la; rw [h]
/-- the cells of the program, and all references, are as in B -/
def fq (B M : rf_M) : Prop := M.2.2 = B.2.2 ∧ ∀ a k, a < 353 → M.1 a k = B.1 a k ∧ M.2.1 a k = B.2.1 a k
theorem fq.rfl' (B : rf_M) : fq B B := ⟨rfl, fun _ _ _ => ⟨rfl, rfl⟩⟩
theorem fq.trans {B M M' : rf_M} (h : fq B M) (h' : fq M M') : fq B M' := ⟨h'.1.trans h.1, fun a k q => ⟨(h'.2 a k q).1.trans (h.2 a k q).1, (h'.2 a k q).2.trans (h.2 a k q).2⟩⟩
theorem fq_wi (M : rf_M) {c k : Nat} {z : Int} (hc : 353 ≤ c) : fq M (wi M c k z) := ⟨rfl, fun a k' q => ⟨rf_wi_of _ _ (Or.inl (by omega)), rfl⟩⟩
theorem fq_wl (M : rf_M) {c k : Nat} {x : Int64} (hc : 353 ≤ c) : fq M (wl M c k x) := ⟨rfl, fun a k' q => ⟨rfl, rf_up2 _ _ (Or.inl (by omega))⟩⟩
section VC
variable {cx : rf_C} {d : Nat × Nat} {i pc : Nat} {ls : rf_L} {st : List Value} {h : rf_H} {Q : Option Value → rf_H → Prop} {M : rf_M} {S : gS} {aux : List (Int × Nat)} {a b z : Int}
theorem n_bi {n : Int} (hf : cx.1 i pc = some (.bipush n, aux)) (hz : (Int8.ofInt n).toInt32 = Int32.ofInt n) (kk : gx cx d i (pc + 2) ls (zv n :: st) h Q) : gx cx d i pc ls st h Q := g1 (n := 2) hf rfl rfl (st' := zv n :: st) (by show some (Value.int (Int8.ofInt n).toInt32 :: st) = _; rw [hz]) kk
theorem n_si {n : Int} (hf : cx.1 i pc = some (.sipush n, aux)) (hz : (Int16.ofInt n).toInt32 = Int32.ofInt n) (kk : gx cx d i (pc + 3) ls (zv n :: st) h Q) : gx cx d i pc ls st h Q := g1 (n := 3) hf rfl rfl (st' := zv n :: st) (by show some (Value.int (Int16.ofInt n).toInt32 :: st) = _; rw [hz]) kk
theorem n_s1 {J : Instr} {n k : Nat} {v : Value} (hf : cx.1 i pc = some (J, aux)) (hk : rf_kd J = 2) (hn : rf_len J = n) (he : rf_so J (cx.2.1 i).2.2.1 ls (v :: st) = some (rf_s1 ls k v, st)) (kk : ∀ ls', rf_ld ls' k = some v → (∀ j w, k ≠ j → ¬ (j + 1 = k ∧ w.category = 2) → rf_ld ls j = some w → rf_ld ls' j = some w) → gx cx d i (pc + n) ls' st h Q) : gx cx d i pc ls (v :: st) h Q := g2 hf hk hn he (kk _ (rf_ld_hd _ _ _) (fun _ _ h1 h2 h3 => rf_s1_ne h1 h3 h2))
theorem n_s2 {J : Instr} {n k : Nat} {v : Value} (hf : cx.1 i pc = some (J, aux)) (hk : rf_kd J = 2) (hn : rf_len J = n) (he : rf_so J (cx.2.1 i).2.2.1 ls (v :: st) = some (rf_s2 ls k v, st)) (kk : ∀ ls', rf_ld ls' k = some v → (∀ j w, k ≠ j → k + 1 ≠ j → ¬ (j + 1 = k ∧ w.category = 2) → rf_ld ls j = some w → rf_ld ls' j = some w) → gx cx d i (pc + n) ls' st h Q) : gx cx d i pc ls (v :: st) h Q := g2 hf hk hn he (kk _ (rf_ld_hd _ _ _) (fun _ _ h1 h2 h3 h4 => rf_s2_ne h1 h2 h4 h3))
theorem n_ii {k : Nat} {n : Int} (hf : cx.1 i pc = some (.iinc k n, aux)) (hl : rf_ld ls k = some (zv z)) (hL : k < (cx.2.1 i).2.2.1) (kk : ∀ ls', rf_ld ls' k = some (zv (z + n)) → (∀ j w, k ≠ j → ¬ (j + 1 = k ∧ w.category = 2) → rf_ld ls j = some w → rf_ld ls' j = some w) → gx cx d i (pc + 3) ls' st h Q) : gx cx d i pc ls st h Q := by
  refine g2 (n := 3) hf rfl rfl (ls' := rf_s1 ls k (zv (z + n))) (st' := st) ?_ (kk _ (rf_ld_hd _ _ _) (fun _ _ h1 h2 h3 => rf_s1_ne h1 h3 h2))
  show (match rf_ld ls k with
    | some (.int x) => if k < (cx.2.1 i).2.2.1 then some (rf_s1 ls k (.int (x + Int32.ofInt n)), st) else none
    | _ => none) = _
  rw [hl]
  dsimp only
  rw [if_pos hL, ← Int32.ofInt_add]
theorem n_add (hf : cx.1 i pc = some (.iadd, aux)) (kk : gx cx d i (pc + 1) ls (zv (a + b) :: st) h Q) : gx cx d i pc ls (zv b :: zv a :: st) h Q := g0 hf rfl (st' := zv (a + b) :: st) (by show some (Value.int (Int32.ofInt a + Int32.ofInt b) :: st) = _; rw [← Int32.ofInt_add]) kk
theorem n_sub (hf : cx.1 i pc = some (.isub, aux)) (kk : gx cx d i (pc + 1) ls (zv (a - b) :: st) h Q) : gx cx d i pc ls (zv b :: zv a :: st) h Q := g0 hf rfl (st' := zv (a - b) :: st) (by show some (Value.int (Int32.ofInt a - Int32.ofInt b) :: st) = _; rw [← Int32.ofInt_sub]) kk
theorem n_mul (hf : cx.1 i pc = some (.imul, aux)) (kk : gx cx d i (pc + 1) ls (zv (a * b) :: st) h Q) : gx cx d i pc ls (zv b :: zv a :: st) h Q := g0 hf rfl (st' := zv (a * b) :: st) (by show some (Value.int (Int32.ofInt a * Int32.ofInt b) :: st) = _; rw [← Int32.ofInt_mul]) kk
theorem n_op {J : Instr} {T : Int32} {st' : List Value} (hf : cx.1 i pc = some (J, aux)) (hk : rf_kd J = 0) (he : rf_ar J st = some (.int T :: st')) (kk : gx cx d i (pc + 1) ls (zv T.toInt :: st') h Q) : gx cx d i pc ls st h Q := g0 hf hk (st' := zv T.toInt :: st') (by rw [he]; show _ = some (Value.int (Int32.ofInt T.toInt) :: st'); rw [ofi_ti]) kk
theorem n_if {c : Jvm.ClassFile.Cond} {o : Int} (hf : cx.1 i pc = some (.ifCond c o, aux)) (ha : inr a) (kt : sx_cc c a 0 → gx cx d i (rf_tg aux) ls st h Q) (kf : ¬ sx_cc c a 0 → gx cx d i (pc + 3) ls st h Q) : gx cx d i pc ls (zv a :: st) h Q := by
  have e : ∀ k, rf_cc (Int32.ofInt a) 0 k = true ↔ sx_cc k a 0 := fun k => by
    rw [rf_cc_iff, ti_ofi ha]; rfl
  exact g_if hf (fun q => kt ((e c).mp q)) (fun q => kf (fun w => q ((e c).mpr w)))
theorem n_ic {c : Jvm.ClassFile.Cond} {o : Int} (hf : cx.1 i pc = some (.if_icmp c o, aux)) (ha : inr a) (hb : inr b) (kt : sx_cc c a b → gx cx d i (rf_tg aux) ls st h Q) (kf : ¬ sx_cc c a b → gx cx d i (pc + 3) ls st h Q) : gx cx d i pc ls (zv b :: zv a :: st) h Q := by
  have e : ∀ k, rf_cc (Int32.ofInt a) (Int32.ofInt b) k = true ↔ sx_cc k a b := fun k => by
    rw [rf_cc_iff, ti_ofi ha, ti_ofi hb]
  exact g_ic hf (fun q => kt ((e c).mp q)) (fun q => kf (fun w => q ((e c).mpr w)))
theorem n_gi {idx c ci k : Nat} (hf : cx.1 i pc = some (.getfield idx, aux)) (hs : go cx S c ci) (hl : rf_lk aux (ci : Int) = some k) (hv : ∀ M : rf_M, rf_rd M (cx.2.2.1 (ci : Int) k) c k = .int (M.1 c k)) (kk : gx cx d i (pc + 3) ls (zv (gi M c k) :: st) (M, S) Q) : gx cx d i pc ls (.ref c :: st) (M, S) Q := m_gf hf hs hl (by rw [hv]; show _ = Value.int (Int32.ofInt (M.1 c k).toInt); rw [ofi_ti]) kk
theorem n_gl {idx c ci k : Nat} (hf : cx.1 i pc = some (.getfield idx, aux)) (hs : go cx S c ci) (hl : rf_lk aux (ci : Int) = some k) (hv : ∀ M : rf_M, rf_rd M (cx.2.2.1 (ci : Int) k) c k = .long (M.2.1 c k)) (kk : gx cx d i (pc + 3) ls (.long (gl M c k) :: st) (M, S) Q) : gx cx d i pc ls (.ref c :: st) (M, S) Q := m_gf hf hs hl (hv M) kk
theorem n_gr {idx c ci k e : Nat} {B : rf_M} (hf : cx.1 i pc = some (.getfield idx, aux)) (hs : go cx S c ci) (hl : rf_lk aux (ci : Int) = some k) (hv : ∀ M : rf_M, rf_rd M (cx.2.2.1 (ci : Int) k) c k = va_rf (M.2.2 c k)) (hR : fq B M) (hr : B.2.2 c k = some e) (kk : gx cx d i (pc + 3) ls (.ref e :: st) (M, S) Q) : gx cx d i pc ls (.ref c :: st) (M, S) Q := m_gf hf hs hl (by rw [hv, hR.1, hr]; rfl) kk
theorem n_pi {idx c ci k : Nat} (hc : 353 ≤ c) (hf : cx.1 i pc = some (.putfield idx, aux)) (hs : go cx S c ci) (hl : rf_lk aux (ci : Int) = some k) (hv : ∀ (M : rf_M) x, rf_wr M (cx.2.2.1 (ci : Int) k) c k (.int x) = some (rf_wi M c k x)) (kk : ∀ M', M' = wi M c k z → fq M M' → gx cx d i (pc + 3) ls st (M', S) Q) : gx cx d i pc ls (zv z :: .ref c :: st) (M, S) Q := m_pf hf hs hl (hv M _) (kk _ rfl (fq_wi M hc))
theorem n_pb {idx c ci k : Nat} (hc : 353 ≤ c) (hf : cx.1 i pc = some (.putfield idx, aux)) (hs : go cx S c ci) (hl : rf_lk aux (ci : Int) = some k) (hv : cx.2.2.1 (ci : Int) k = .boolean) (hz : z = 0 ∨ z = 1) (kk : ∀ M', M' = wi M c k z → fq M M' → gx cx d i (pc + 3) ls st (M', S) Q) : gx cx d i pc ls (zv z :: .ref c :: st) (M, S) Q := by
  refine m_pf hf hs hl (M' := wi M c k z) ?_ (kk _ rfl (fq_wi M hc))
  rw [hv]
  rcases hz with rfl | rfl
  · show (if narrow .boolean (.int (Int32.ofInt 0)) = .int (Int32.ofInt 0) ∧ fits .boolean (.int (Int32.ofInt 0)) = true then some (rf_wi M c k (Int32.ofInt 0)) else none) = _
    rw [if_pos ⟨rfl, rfl⟩]; rfl
  · show (if narrow .boolean (.int (Int32.ofInt 1)) = .int (Int32.ofInt 1) ∧ fits .boolean (.int (Int32.ofInt 1)) = true then some (rf_wi M c k (Int32.ofInt 1)) else none) = _
    rw [if_pos ⟨rfl, rfl⟩]; rfl
theorem n_pl {idx c ci k : Nat} {x : Int64} (hc : 353 ≤ c) (hf : cx.1 i pc = some (.putfield idx, aux)) (hs : go cx S c ci) (hl : rf_lk aux (ci : Int) = some k) (hv : ∀ (M : rf_M) x, rf_wr M (cx.2.2.1 (ci : Int) k) c k (.long x) = some (rf_wl M c k x)) (kk : ∀ M', M' = wl M c k x → fq M M' → gx cx d i (pc + 3) ls st (M', S) Q) : gx cx d i pc ls (.long x :: .ref c :: st) (M, S) Q := m_pf hf hs hl (hv M _) (kk _ rfl (fq_wl M hc))
theorem ix_z {n : Nat} (h : 0 ≤ a ∧ a < n) (hn : n ≤ 100000) : ¬ (Int32.ofInt a < 0 ∨ n ≤ (Int32.ofInt a).toNatClampNeg) ∧ (Int32.ofInt a).toNatClampNeg = a.toNat := by
  have e : (Int32.ofInt a).toInt = ((a.toNat : Nat) : Int) := by rw [ti_ofi ⟨by omega, by omega⟩]; omega
  exact ⟨ix_ok e (by omega), ix_nat e⟩
theorem n_ia {c n : Nat} (hf : cx.1 i pc = some (.iaload, aux)) (hs : ga cx S c .int n) (hn : n ≤ 100000) (hj : 0 ≤ a ∧ a < n) (kk : gx cx d i (pc + 1) ls (zv (gi M c a.toNat) :: st) (M, S) Q) : gx cx d i pc ls (zv a :: .ref c :: st) (M, S) Q := by
  refine g4 hf rfl rfl (st' := zv (gi M c a.toNat) :: st) (h' := (M, S)) ?_ kk
  show (match rf_el (M, S) .int c (Int32.ofInt a) with | some v => some (v :: st, (M, S)) | none => none) = some (Value.int (Int32.ofInt (M.1 c a.toNat).toInt) :: st, (M, S))
  rw [hs.el _ (ix_z hj hn).1, (ix_z hj hn).2, ofi_ti]
  rfl
theorem n_la {c n : Nat} (hf : cx.1 i pc = some (.laload, aux)) (hs : ga cx S c .long n) (hn : n ≤ 100000) (hj : 0 ≤ a ∧ a < n) (kk : gx cx d i (pc + 1) ls (.long (gl M c a.toNat) :: st) (M, S) Q) : gx cx d i pc ls (zv a :: .ref c :: st) (M, S) Q := by
  refine g4 hf rfl rfl (st' := .long (gl M c a.toNat) :: st) (h' := (M, S)) ?_ kk
  show (match rf_el (M, S) .long c (Int32.ofInt a) with | some v => some (v :: st, (M, S)) | none => none) = _
  rw [hs.el _ (ix_z hj hn).1, (ix_z hj hn).2]
  rfl
theorem n_ba {c n : Nat} (hf : cx.1 i pc = some (.baload, aux)) (hs : ga cx S c .byte n) (hn : n ≤ 100000) (hj : 0 ≤ a ∧ a < n) (kk : gx cx d i (pc + 1) ls (zv (gi M c a.toNat) :: st) (M, S) Q) : gx cx d i pc ls (zv a :: .ref c :: st) (M, S) Q := by
  refine g4 hf rfl rfl (st' := zv (gi M c a.toNat) :: st) (h' := (M, S)) ?_ kk
  show (match rf_el (M, S) .byte c (Int32.ofInt a) with
    | some v => some (v :: st, (M, S))
    | none => match rf_el (M, S) .boolean c (Int32.ofInt a) with
      | some v => some (v :: st, (M, S))
      | none => none) = some (Value.int (Int32.ofInt (M.1 c a.toNat).toInt) :: st, (M, S))
  rw [hs.el _ (ix_z hj hn).1, (ix_z hj hn).2, ofi_ti]
  rfl
theorem ga_nob {c n : Nat} (hs : ga cx S c .boolean n) (M : rf_M) (j : Int32) : rf_el (M, S) .byte c j = none := by
  unfold rf_el
  rw [hs.aa M]
  exact if_neg (fun q => by cases q.1)
theorem n_za {c n : Nat} (hf : cx.1 i pc = some (.baload, aux)) (hs : ga cx S c .boolean n) (hn : n ≤ 100000) (hj : 0 ≤ a ∧ a < n) (kk : gx cx d i (pc + 1) ls (zv (gi M c a.toNat) :: st) (M, S) Q) : gx cx d i pc ls (zv a :: .ref c :: st) (M, S) Q := by
  refine g4 hf rfl rfl (st' := zv (gi M c a.toNat) :: st) (h' := (M, S)) ?_ kk
  show (match rf_el (M, S) .byte c (Int32.ofInt a) with
    | some v => some (v :: st, (M, S))
    | none => match rf_el (M, S) .boolean c (Int32.ofInt a) with
      | some v => some (v :: st, (M, S))
      | none => none) = some (Value.int (Int32.ofInt (M.1 c a.toNat).toInt) :: st, (M, S))
  rw [ga_nob hs]
  dsimp only
  rw [hs.el _ (ix_z hj hn).1, (ix_z hj hn).2, ofi_ti]
  rfl
theorem n_is {c n : Nat} (hc : 353 ≤ c) (hf : cx.1 i pc = some (.iastore, aux)) (hs : ga cx S c .int n) (hn : n ≤ 100000) (hj : 0 ≤ a ∧ a < n) (kk : ∀ M', M' = wi M c a.toNat z → fq M M' → gx cx d i (pc + 1) ls st (M', S) Q) : gx cx d i pc ls (zv z :: zv a :: .ref c :: st) (M, S) Q := by
  refine g4 hf rfl rfl (st' := st) (h' := (wi M c a.toNat z, S)) ?_ (kk _ rfl (fq_wi M hc))
  show (if c < cx.2.2.2.2 then none else match rf_el (M, S) .int c (Int32.ofInt a) with | some _ => some (st, (rf_wi M c (Int32.ofInt a).toNatClampNeg (Int32.ofInt z), S)) | none => none) = _
  rw [if_neg (Nat.not_lt.mpr hs.1), hs.el _ (ix_z hj hn).1, (ix_z hj hn).2]
  rfl
theorem n_ls {c n : Nat} {x : Int64} (hc : 353 ≤ c) (hf : cx.1 i pc = some (.lastore, aux)) (hs : ga cx S c .long n) (hn : n ≤ 100000) (hj : 0 ≤ a ∧ a < n) (kk : ∀ M', M' = wl M c a.toNat x → fq M M' → gx cx d i (pc + 1) ls st (M', S) Q) : gx cx d i pc ls (.long x :: zv a :: .ref c :: st) (M, S) Q := by
  refine g4 hf rfl rfl (st' := st) (h' := (wl M c a.toNat x, S)) ?_ (kk _ rfl (fq_wl M hc))
  show (if c < cx.2.2.2.2 then none else match rf_el (M, S) .long c (Int32.ofInt a) with | some _ => some (st, (rf_wl M c (Int32.ofInt a).toNatClampNeg x, S)) | none => none) = _
  rw [if_neg (Nat.not_lt.mpr hs.1), hs.el _ (ix_z hj hn).1, (ix_z hj hn).2]
  rfl
theorem n_bs {c n : Nat} (hc : 353 ≤ c) (hf : cx.1 i pc = some (.bastore, aux)) (hs : ga cx S c .byte n) (hn : n ≤ 100000) (hj : 0 ≤ a ∧ a < n) (kk : ∀ M', M' = wi M c a.toNat (Int32.ofInt z).toInt8.toInt32.toInt → fq M M' → gx cx d i (pc + 1) ls st (M', S) Q) : gx cx d i pc ls (zv z :: zv a :: .ref c :: st) (M, S) Q := by
  refine g4 hf rfl rfl (st' := st) (h' := (wi M c a.toNat (Int32.ofInt z).toInt8.toInt32.toInt, S)) ?_ (kk _ rfl (fq_wi M hc))
  show (if c < cx.2.2.2.2 then none else match rf_el (M, S) .byte c (Int32.ofInt a) with
    | some _ => some (st, (rf_wi M c (Int32.ofInt a).toNatClampNeg (Int32.ofInt z).toInt8.toInt32, S))
    | none => match rf_el (M, S) .boolean c (Int32.ofInt a) with
      | some _ => some (st, (rf_wi M c (Int32.ofInt a).toNatClampNeg (Int32.ofInt z &&& 1), S))
      | none => none) = some (st, (rf_wi M c a.toNat (Int32.ofInt (Int32.ofInt z).toInt8.toInt32.toInt), S))
  rw [if_neg (Nat.not_lt.mpr hs.1), hs.el _ (ix_z hj hn).1, (ix_z hj hn).2, ofi_ti]
theorem n_zs {c n : Nat} (hc : 353 ≤ c) (hf : cx.1 i pc = some (.bastore, aux)) (hs : ga cx S c .boolean n) (hn : n ≤ 100000) (hj : 0 ≤ a ∧ a < n) (kk : ∀ M', M' = wi M c a.toNat (Int32.ofInt z &&& 1).toInt → fq M M' → gx cx d i (pc + 1) ls st (M', S) Q) : gx cx d i pc ls (zv z :: zv a :: .ref c :: st) (M, S) Q := by
  refine g4 hf rfl rfl (st' := st) (h' := (wi M c a.toNat (Int32.ofInt z &&& 1).toInt, S)) ?_ (kk _ rfl (fq_wi M hc))
  show (if c < cx.2.2.2.2 then none else match rf_el (M, S) .byte c (Int32.ofInt a) with
    | some _ => some (st, (rf_wi M c (Int32.ofInt a).toNatClampNeg (Int32.ofInt z).toInt8.toInt32, S))
    | none => match rf_el (M, S) .boolean c (Int32.ofInt a) with
      | some _ => some (st, (rf_wi M c (Int32.ofInt a).toNatClampNeg (Int32.ofInt z &&& 1), S))
      | none => none) = some (st, (rf_wi M c a.toNat (Int32.ofInt (Int32.ofInt z &&& 1).toInt), S))
  rw [if_neg (Nat.not_lt.mpr hs.1), ga_nob hs]
  dsimp only
  rw [hs.el _ (ix_z hj hn).1, (ix_z hj hn).2, ofi_ti]
theorem n_sw {J : Instr} {pc' : Nat} {v : Int} (e : a = v) (hf : cx.1 i pc = some (J, aux)) (hk : rf_kd J = 3) (he : rf_br cx.2.2.2.2 J aux pc (zv v :: st) = some (pc', st)) (kk : gx cx d i pc' ls st h Q) : gx cx d i pc ls (zv a :: st) h Q := by
  subst e; exact g3 hf hk he kk
theorem n_swl {q0 : Int} {q1 : Array (Int × Int)} {t : Nat} (hf : cx.1 i pc = some (.lookupswitch q0 q1, aux)) (ha : inr a) (he : rf_sw aux.tail (rf_tg aux) a = t) (kk : gx cx d i t ls st h Q) : gx cx d i pc ls (zv a :: st) h Q := by
  refine g3 hf rfl (pc' := t) ?_ kk
  show some (rf_sw aux.tail (rf_tg aux) (Int32.ofInt a).toInt, st) = _
  rw [ti_ofi ha, he]
theorem n_swt {q0 lo hi : Int} {q1 : Array Int} (hf : cx.1 i pc = some (.tableswitch q0 lo hi q1, aux)) (ha : inr a) (he : a < lo ∨ hi < a) (kk : gx cx d i (rf_tg aux) ls st h Q) : gx cx d i pc ls (zv a :: st) h Q := by
  refine g3 hf rfl (pc' := rf_tg aux) ?_ kk
  show (if (Int32.ofInt a).toInt < lo ∨ hi < (Int32.ofInt a).toInt then some (rf_tg aux, st) else _) = _
  rw [ti_ofi ha, if_pos he]
/-- answers -/
def vq_i (B : rf_M) (S : gS) (K : Int → rf_M → Prop) (r : Option Value) (h' : rf_H) : Prop := ∃ z M', r = some (zv z) ∧ h' = (M', S) ∧ fq B M' ∧ K z M'
def vq_l (B : rf_M) (S : gS) (K : Int64 → rf_M → Prop) (r : Option Value) (h' : rf_H) : Prop := ∃ z M', r = some (.long z) ∧ h' = (M', S) ∧ fq B M' ∧ K z M'
def vq_v (B : rf_M) (S : gS) (K : rf_M → Prop) (r : Option Value) (h' : rf_H) : Prop := ∃ M', r = none ∧ h' = (M', S) ∧ fq B M' ∧ K M'
theorem n_rb {B : rf_M} {K : Int → rf_M → Prop} (hf : cx.1 i pc = some (.ireturn, aux)) (hr : (cx.2.1 i).2.2.2 = some .boolean) (hz : z = 0 ∨ z = 1) (hR : fq B M) (hK : K z M) : gx cx d i pc ls [zv z] (M, S) (vq_i B S K) := by
  refine gx_ret hf (v := some (zv z)) ?_ ⟨z, M, rfl, rfl, hR, hK⟩
  show (rf_rt .ireturn (cx.2.1 i).2.2.2 [zv z]).map _ = _
  rw [hr]
  rcases hz with rfl | rfl <;> rfl
end VC
/-! a switch with none of its cases -/
theorem swo_1 {a : Int} (k k2 : Int) (hk : k + 1 = k2) (h : k ≤ a) (e : ¬ a = k) : k2 ≤ a := by omega
theorem swo_0_4 {a : Int} (e0 : ¬ a = 0) (e1 : ¬ a = 1) (e2 : ¬ a = 2) (e3 : ¬ a = 3) (e4 : ¬ a = 4) : a < 0 ∨ 4 < a := by
  by_cases q : a < 0
  · exact Or.inl q
  have h : 0 ≤ a := Int.not_lt.mp q
  have h : 1 ≤ a := swo_1 0 1 (by decide) h e0
  have h : 2 ≤ a := swo_1 1 2 (by decide) h e1
  have h : 3 ≤ a := swo_1 2 3 (by decide) h e2
  have h : 4 ≤ a := swo_1 3 4 (by decide) h e3
  have h : 5 ≤ a := swo_1 4 5 (by decide) h e4
  exact Or.inr (Int.lt_of_lt_of_le (b := 5) (by decide) h)
theorem swo_0_7 {a : Int} (e0 : ¬ a = 0) (e1 : ¬ a = 1) (e2 : ¬ a = 2) (e3 : ¬ a = 3) (e4 : ¬ a = 4) (e5 : ¬ a = 5) (e6 : ¬ a = 6) (e7 : ¬ a = 7) : a < 0 ∨ 7 < a := by
  by_cases q : a < 0
  · exact Or.inl q
  have h : 0 ≤ a := Int.not_lt.mp q
  have h : 1 ≤ a := swo_1 0 1 (by decide) h e0
  have h : 2 ≤ a := swo_1 1 2 (by decide) h e1
  have h : 3 ≤ a := swo_1 2 3 (by decide) h e2
  have h : 4 ≤ a := swo_1 3 4 (by decide) h e3
  have h : 5 ≤ a := swo_1 4 5 (by decide) h e4
  have h : 6 ≤ a := swo_1 5 6 (by decide) h e5
  have h : 7 ≤ a := swo_1 6 7 (by decide) h e6
  have h : 8 ≤ a := swo_1 7 8 (by decide) h e7
  exact Or.inr (Int.lt_of_lt_of_le (b := 8) (by decide) h)
theorem swo_1_19 {a : Int} (e1 : ¬ a = 1) (e2 : ¬ a = 2) (e3 : ¬ a = 3) (e4 : ¬ a = 4) (e5 : ¬ a = 5) (e6 : ¬ a = 6) (e7 : ¬ a = 7) (e8 : ¬ a = 8) (e9 : ¬ a = 9) (e10 : ¬ a = 10) (e11 : ¬ a = 11) (e12 : ¬ a = 12) (e13 : ¬ a = 13) (e14 : ¬ a = 14) (e15 : ¬ a = 15) (e16 : ¬ a = 16) (e17 : ¬ a = 17) (e18 : ¬ a = 18) (e19 : ¬ a = 19) : a < 1 ∨ 19 < a := by
  by_cases q : a < 1
  · exact Or.inl q
  have h : 1 ≤ a := Int.not_lt.mp q
  have h : 2 ≤ a := swo_1 1 2 (by decide) h e1
  have h : 3 ≤ a := swo_1 2 3 (by decide) h e2
  have h : 4 ≤ a := swo_1 3 4 (by decide) h e3
  have h : 5 ≤ a := swo_1 4 5 (by decide) h e4
  have h : 6 ≤ a := swo_1 5 6 (by decide) h e5
  have h : 7 ≤ a := swo_1 6 7 (by decide) h e6
  have h : 8 ≤ a := swo_1 7 8 (by decide) h e7
  have h : 9 ≤ a := swo_1 8 9 (by decide) h e8
  have h : 10 ≤ a := swo_1 9 10 (by decide) h e9
  have h : 11 ≤ a := swo_1 10 11 (by decide) h e10
  have h : 12 ≤ a := swo_1 11 12 (by decide) h e11
  have h : 13 ≤ a := swo_1 12 13 (by decide) h e12
  have h : 14 ≤ a := swo_1 13 14 (by decide) h e13
  have h : 15 ≤ a := swo_1 14 15 (by decide) h e14
  have h : 16 ≤ a := swo_1 15 16 (by decide) h e15
  have h : 17 ≤ a := swo_1 16 17 (by decide) h e16
  have h : 18 ≤ a := swo_1 17 18 (by decide) h e17
  have h : 19 ≤ a := swo_1 18 19 (by decide) h e18
  have h : 20 ≤ a := swo_1 19 20 (by decide) h e19
  exact Or.inr (Int.lt_of_lt_of_le (b := 20) (by decide) h)
theorem swo_10_14 {a : Int} (e10 : ¬ a = 10) (e11 : ¬ a = 11) (e12 : ¬ a = 12) (e13 : ¬ a = 13) (e14 : ¬ a = 14) : a < 10 ∨ 14 < a := by
  by_cases q : a < 10
  · exact Or.inl q
  have h : 10 ≤ a := Int.not_lt.mp q
  have h : 11 ≤ a := swo_1 10 11 (by decide) h e10
  have h : 12 ≤ a := swo_1 11 12 (by decide) h e11
  have h : 13 ≤ a := swo_1 12 13 (by decide) h e12
  have h : 14 ≤ a := swo_1 13 14 (by decide) h e13
  have h : 15 ≤ a := swo_1 14 15 (by decide) h e14
  exact Or.inr (Int.lt_of_lt_of_le (b := 15) (by decide) h)
theorem swo_13_19 {a : Int} (e13 : ¬ a = 13) (e14 : ¬ a = 14) (e15 : ¬ a = 15) (e16 : ¬ a = 16) (e17 : ¬ a = 17) (e18 : ¬ a = 18) (e19 : ¬ a = 19) : a < 13 ∨ 19 < a := by
  by_cases q : a < 13
  · exact Or.inl q
  have h : 13 ≤ a := Int.not_lt.mp q
  have h : 14 ≤ a := swo_1 13 14 (by decide) h e13
  have h : 15 ≤ a := swo_1 14 15 (by decide) h e14
  have h : 16 ≤ a := swo_1 15 16 (by decide) h e15
  have h : 17 ≤ a := swo_1 16 17 (by decide) h e16
  have h : 18 ≤ a := swo_1 17 18 (by decide) h e17
  have h : 19 ≤ a := swo_1 18 19 (by decide) h e18
  have h : 20 ≤ a := swo_1 19 20 (by decide) h e19
  exact Or.inr (Int.lt_of_lt_of_le (b := 20) (by decide) h)
theorem swo_37_61 {a : Int} (e37 : ¬ a = 37) (e38 : ¬ a = 38) (e39 : ¬ a = 39) (e40 : ¬ a = 40) (e41 : ¬ a = 41) (e42 : ¬ a = 42) (e43 : ¬ a = 43) (e44 : ¬ a = 44) (e45 : ¬ a = 45) (e46 : ¬ a = 46) (e47 : ¬ a = 47) (e48 : ¬ a = 48) (e49 : ¬ a = 49) (e50 : ¬ a = 50) (e51 : ¬ a = 51) (e52 : ¬ a = 52) (e53 : ¬ a = 53) (e54 : ¬ a = 54) (e55 : ¬ a = 55) (e56 : ¬ a = 56) (e57 : ¬ a = 57) (e58 : ¬ a = 58) (e59 : ¬ a = 59) (e60 : ¬ a = 60) (e61 : ¬ a = 61) : a < 37 ∨ 61 < a := by
  by_cases q : a < 37
  · exact Or.inl q
  have h : 37 ≤ a := Int.not_lt.mp q
  have h : 38 ≤ a := swo_1 37 38 (by decide) h e37
  have h : 39 ≤ a := swo_1 38 39 (by decide) h e38
  have h : 40 ≤ a := swo_1 39 40 (by decide) h e39
  have h : 41 ≤ a := swo_1 40 41 (by decide) h e40
  have h : 42 ≤ a := swo_1 41 42 (by decide) h e41
  have h : 43 ≤ a := swo_1 42 43 (by decide) h e42
  have h : 44 ≤ a := swo_1 43 44 (by decide) h e43
  have h : 45 ≤ a := swo_1 44 45 (by decide) h e44
  have h : 46 ≤ a := swo_1 45 46 (by decide) h e45
  have h : 47 ≤ a := swo_1 46 47 (by decide) h e46
  have h : 48 ≤ a := swo_1 47 48 (by decide) h e47
  have h : 49 ≤ a := swo_1 48 49 (by decide) h e48
  have h : 50 ≤ a := swo_1 49 50 (by decide) h e49
  have h : 51 ≤ a := swo_1 50 51 (by decide) h e50
  have h : 52 ≤ a := swo_1 51 52 (by decide) h e51
  have h : 53 ≤ a := swo_1 52 53 (by decide) h e52
  have h : 54 ≤ a := swo_1 53 54 (by decide) h e53
  have h : 55 ≤ a := swo_1 54 55 (by decide) h e54
  have h : 56 ≤ a := swo_1 55 56 (by decide) h e55
  have h : 57 ≤ a := swo_1 56 57 (by decide) h e56
  have h : 58 ≤ a := swo_1 57 58 (by decide) h e57
  have h : 59 ≤ a := swo_1 58 59 (by decide) h e58
  have h : 60 ≤ a := swo_1 59 60 (by decide) h e59
  have h : 61 ≤ a := swo_1 60 61 (by decide) h e60
  have h : 62 ≤ a := swo_1 61 62 (by decide) h e61
  exact Or.inr (Int.lt_of_lt_of_le (b := 62) (by decide) h)
/-! what lies in the reference: its object and its arrays -/
def shM (a : Nat) : rf_S := ([.inr (.byte, 800), .inr (.int, 12), .inr (.int, 12), .inr (.int, 12), .inr (.int, 12), .inr (.int, 12), .inr (.int, 480), .inr (.int, 480), .inr (.int, 480), .inr (.int, 480), .inr (.int, 480), .inr (.int, 480), .inr (.int, 480), .inr (.int, 480), .inr (.int, 2400), .inr (.int, 2400), .inr (.long, 2400), .inr (.int, 64), .inr (.boolean, 16), .inr (.int, 10), .inr (.int, 10), .inr (.int, 10), .inr (.long, 32), .inr (.int, 32), .inr (.int, 2), .inr (.int, 64), .inr (.int, 128), .inr (.int, 8), .inr (.int, 8), .inr (.int, 8), .inr (.int, 8), .inr (.boolean, 8), .inr (.int, 8), .inr (.long, 128), .inr (.int, 128), .inr (.long, 16), .inr (.int, 16), .inr (.long, 16), .inr (.long, 10), .inr (.int, 400), .inr (.int, 480), .inr (.long, 7680), .inr (.long, 4800), .inr (.int, 480), .inr (.long, 64), .inr (.long, 16), .inr (.int, 300), .inr (.int, 300), .inr (.int, 300), .inr (.int, 300), .inr (.int, 300), .inr (.long, 300)] : List rf_S).getD (a - 354) (.inl 0)
def rfM : List (Nat × Nat) := [(1, 354), (12, 355), (13, 356), (14, 357), (15, 358), (16, 359), (17, 360), (18, 361), (19, 362), (20, 363), (21, 364), (22, 365), (23, 366), (24, 367), (25, 368), (26, 369), (27, 370), (29, 371), (32, 372), (34, 373), (35, 374), (36, 375), (38, 376), (39, 377), (40, 378), (41, 379), (43, 380), (44, 381), (45, 382), (46, 383), (47, 384), (48, 385), (49, 386), (50, 387), (51, 388), (53, 389), (54, 390), (56, 391), (57, 392), (59, 393), (61, 394), (62, 395), (63, 396), (64, 397), (67, 398), (68, 399), (70, 400), (71, 401), (72, 402), (73, 403), (74, 404), (75, 405)]
def rk (fz : Bool) (S : gS) (R : Nat → Nat → Option Nat) : Prop := go (cx0 fz) S 353 11 ∧ (405 < S.2.1 ∧ ∀ a, 354 ≤ a → a ≤ 405 → S.1 a = shM a) ∧ ∀ q ∈ rfM, R 353 q.1 = some q.2
theorem rk_354 {fz : Bool} {S : gS} {R : Nat → Nat → Option Nat} (h : rk fz S R) : ga (cx0 fz) S 354 .byte 800 ∧ R 353 1 = some 354 := ⟨⟨Nat.le_of_ble_eq_true rfl, by decide, Nat.lt_of_le_of_lt (Nat.le_of_ble_eq_true rfl) h.2.1.1, h.2.1.2 354 (by decide) (by decide)⟩, h.2.2 (1, 354) (by decide)⟩
theorem rk_355 {fz : Bool} {S : gS} {R : Nat → Nat → Option Nat} (h : rk fz S R) : ga (cx0 fz) S 355 .int 12 ∧ R 353 12 = some 355 := ⟨⟨Nat.le_of_ble_eq_true rfl, by decide, Nat.lt_of_le_of_lt (Nat.le_of_ble_eq_true rfl) h.2.1.1, h.2.1.2 355 (by decide) (by decide)⟩, h.2.2 (12, 355) (by decide)⟩
theorem rk_356 {fz : Bool} {S : gS} {R : Nat → Nat → Option Nat} (h : rk fz S R) : ga (cx0 fz) S 356 .int 12 ∧ R 353 13 = some 356 := ⟨⟨Nat.le_of_ble_eq_true rfl, by decide, Nat.lt_of_le_of_lt (Nat.le_of_ble_eq_true rfl) h.2.1.1, h.2.1.2 356 (by decide) (by decide)⟩, h.2.2 (13, 356) (by decide)⟩
theorem rk_357 {fz : Bool} {S : gS} {R : Nat → Nat → Option Nat} (h : rk fz S R) : ga (cx0 fz) S 357 .int 12 ∧ R 353 14 = some 357 := ⟨⟨Nat.le_of_ble_eq_true rfl, by decide, Nat.lt_of_le_of_lt (Nat.le_of_ble_eq_true rfl) h.2.1.1, h.2.1.2 357 (by decide) (by decide)⟩, h.2.2 (14, 357) (by decide)⟩
theorem rk_358 {fz : Bool} {S : gS} {R : Nat → Nat → Option Nat} (h : rk fz S R) : ga (cx0 fz) S 358 .int 12 ∧ R 353 15 = some 358 := ⟨⟨Nat.le_of_ble_eq_true rfl, by decide, Nat.lt_of_le_of_lt (Nat.le_of_ble_eq_true rfl) h.2.1.1, h.2.1.2 358 (by decide) (by decide)⟩, h.2.2 (15, 358) (by decide)⟩
theorem rk_359 {fz : Bool} {S : gS} {R : Nat → Nat → Option Nat} (h : rk fz S R) : ga (cx0 fz) S 359 .int 12 ∧ R 353 16 = some 359 := ⟨⟨Nat.le_of_ble_eq_true rfl, by decide, Nat.lt_of_le_of_lt (Nat.le_of_ble_eq_true rfl) h.2.1.1, h.2.1.2 359 (by decide) (by decide)⟩, h.2.2 (16, 359) (by decide)⟩
theorem rk_360 {fz : Bool} {S : gS} {R : Nat → Nat → Option Nat} (h : rk fz S R) : ga (cx0 fz) S 360 .int 480 ∧ R 353 17 = some 360 := ⟨⟨Nat.le_of_ble_eq_true rfl, by decide, Nat.lt_of_le_of_lt (Nat.le_of_ble_eq_true rfl) h.2.1.1, h.2.1.2 360 (by decide) (by decide)⟩, h.2.2 (17, 360) (by decide)⟩
theorem rk_361 {fz : Bool} {S : gS} {R : Nat → Nat → Option Nat} (h : rk fz S R) : ga (cx0 fz) S 361 .int 480 ∧ R 353 18 = some 361 := ⟨⟨Nat.le_of_ble_eq_true rfl, by decide, Nat.lt_of_le_of_lt (Nat.le_of_ble_eq_true rfl) h.2.1.1, h.2.1.2 361 (by decide) (by decide)⟩, h.2.2 (18, 361) (by decide)⟩
theorem rk_362 {fz : Bool} {S : gS} {R : Nat → Nat → Option Nat} (h : rk fz S R) : ga (cx0 fz) S 362 .int 480 ∧ R 353 19 = some 362 := ⟨⟨Nat.le_of_ble_eq_true rfl, by decide, Nat.lt_of_le_of_lt (Nat.le_of_ble_eq_true rfl) h.2.1.1, h.2.1.2 362 (by decide) (by decide)⟩, h.2.2 (19, 362) (by decide)⟩
theorem rk_363 {fz : Bool} {S : gS} {R : Nat → Nat → Option Nat} (h : rk fz S R) : ga (cx0 fz) S 363 .int 480 ∧ R 353 20 = some 363 := ⟨⟨Nat.le_of_ble_eq_true rfl, by decide, Nat.lt_of_le_of_lt (Nat.le_of_ble_eq_true rfl) h.2.1.1, h.2.1.2 363 (by decide) (by decide)⟩, h.2.2 (20, 363) (by decide)⟩
theorem rk_364 {fz : Bool} {S : gS} {R : Nat → Nat → Option Nat} (h : rk fz S R) : ga (cx0 fz) S 364 .int 480 ∧ R 353 21 = some 364 := ⟨⟨Nat.le_of_ble_eq_true rfl, by decide, Nat.lt_of_le_of_lt (Nat.le_of_ble_eq_true rfl) h.2.1.1, h.2.1.2 364 (by decide) (by decide)⟩, h.2.2 (21, 364) (by decide)⟩
theorem rk_365 {fz : Bool} {S : gS} {R : Nat → Nat → Option Nat} (h : rk fz S R) : ga (cx0 fz) S 365 .int 480 ∧ R 353 22 = some 365 := ⟨⟨Nat.le_of_ble_eq_true rfl, by decide, Nat.lt_of_le_of_lt (Nat.le_of_ble_eq_true rfl) h.2.1.1, h.2.1.2 365 (by decide) (by decide)⟩, h.2.2 (22, 365) (by decide)⟩
theorem rk_366 {fz : Bool} {S : gS} {R : Nat → Nat → Option Nat} (h : rk fz S R) : ga (cx0 fz) S 366 .int 480 ∧ R 353 23 = some 366 := ⟨⟨Nat.le_of_ble_eq_true rfl, by decide, Nat.lt_of_le_of_lt (Nat.le_of_ble_eq_true rfl) h.2.1.1, h.2.1.2 366 (by decide) (by decide)⟩, h.2.2 (23, 366) (by decide)⟩
theorem rk_367 {fz : Bool} {S : gS} {R : Nat → Nat → Option Nat} (h : rk fz S R) : ga (cx0 fz) S 367 .int 480 ∧ R 353 24 = some 367 := ⟨⟨Nat.le_of_ble_eq_true rfl, by decide, Nat.lt_of_le_of_lt (Nat.le_of_ble_eq_true rfl) h.2.1.1, h.2.1.2 367 (by decide) (by decide)⟩, h.2.2 (24, 367) (by decide)⟩
theorem rk_368 {fz : Bool} {S : gS} {R : Nat → Nat → Option Nat} (h : rk fz S R) : ga (cx0 fz) S 368 .int 2400 ∧ R 353 25 = some 368 := ⟨⟨Nat.le_of_ble_eq_true rfl, by decide, Nat.lt_of_le_of_lt (Nat.le_of_ble_eq_true rfl) h.2.1.1, h.2.1.2 368 (by decide) (by decide)⟩, h.2.2 (25, 368) (by decide)⟩
theorem rk_369 {fz : Bool} {S : gS} {R : Nat → Nat → Option Nat} (h : rk fz S R) : ga (cx0 fz) S 369 .int 2400 ∧ R 353 26 = some 369 := ⟨⟨Nat.le_of_ble_eq_true rfl, by decide, Nat.lt_of_le_of_lt (Nat.le_of_ble_eq_true rfl) h.2.1.1, h.2.1.2 369 (by decide) (by decide)⟩, h.2.2 (26, 369) (by decide)⟩
theorem rk_370 {fz : Bool} {S : gS} {R : Nat → Nat → Option Nat} (h : rk fz S R) : ga (cx0 fz) S 370 .long 2400 ∧ R 353 27 = some 370 := ⟨⟨Nat.le_of_ble_eq_true rfl, by decide, Nat.lt_of_le_of_lt (Nat.le_of_ble_eq_true rfl) h.2.1.1, h.2.1.2 370 (by decide) (by decide)⟩, h.2.2 (27, 370) (by decide)⟩
theorem rk_371 {fz : Bool} {S : gS} {R : Nat → Nat → Option Nat} (h : rk fz S R) : ga (cx0 fz) S 371 .int 64 ∧ R 353 29 = some 371 := ⟨⟨Nat.le_of_ble_eq_true rfl, by decide, Nat.lt_of_le_of_lt (Nat.le_of_ble_eq_true rfl) h.2.1.1, h.2.1.2 371 (by decide) (by decide)⟩, h.2.2 (29, 371) (by decide)⟩
theorem rk_372 {fz : Bool} {S : gS} {R : Nat → Nat → Option Nat} (h : rk fz S R) : ga (cx0 fz) S 372 .boolean 16 ∧ R 353 32 = some 372 := ⟨⟨Nat.le_of_ble_eq_true rfl, by decide, Nat.lt_of_le_of_lt (Nat.le_of_ble_eq_true rfl) h.2.1.1, h.2.1.2 372 (by decide) (by decide)⟩, h.2.2 (32, 372) (by decide)⟩
theorem rk_373 {fz : Bool} {S : gS} {R : Nat → Nat → Option Nat} (h : rk fz S R) : ga (cx0 fz) S 373 .int 10 ∧ R 353 34 = some 373 := ⟨⟨Nat.le_of_ble_eq_true rfl, by decide, Nat.lt_of_le_of_lt (Nat.le_of_ble_eq_true rfl) h.2.1.1, h.2.1.2 373 (by decide) (by decide)⟩, h.2.2 (34, 373) (by decide)⟩
theorem rk_374 {fz : Bool} {S : gS} {R : Nat → Nat → Option Nat} (h : rk fz S R) : ga (cx0 fz) S 374 .int 10 ∧ R 353 35 = some 374 := ⟨⟨Nat.le_of_ble_eq_true rfl, by decide, Nat.lt_of_le_of_lt (Nat.le_of_ble_eq_true rfl) h.2.1.1, h.2.1.2 374 (by decide) (by decide)⟩, h.2.2 (35, 374) (by decide)⟩
theorem rk_375 {fz : Bool} {S : gS} {R : Nat → Nat → Option Nat} (h : rk fz S R) : ga (cx0 fz) S 375 .int 10 ∧ R 353 36 = some 375 := ⟨⟨Nat.le_of_ble_eq_true rfl, by decide, Nat.lt_of_le_of_lt (Nat.le_of_ble_eq_true rfl) h.2.1.1, h.2.1.2 375 (by decide) (by decide)⟩, h.2.2 (36, 375) (by decide)⟩
theorem rk_376 {fz : Bool} {S : gS} {R : Nat → Nat → Option Nat} (h : rk fz S R) : ga (cx0 fz) S 376 .long 32 ∧ R 353 38 = some 376 := ⟨⟨Nat.le_of_ble_eq_true rfl, by decide, Nat.lt_of_le_of_lt (Nat.le_of_ble_eq_true rfl) h.2.1.1, h.2.1.2 376 (by decide) (by decide)⟩, h.2.2 (38, 376) (by decide)⟩
theorem rk_377 {fz : Bool} {S : gS} {R : Nat → Nat → Option Nat} (h : rk fz S R) : ga (cx0 fz) S 377 .int 32 ∧ R 353 39 = some 377 := ⟨⟨Nat.le_of_ble_eq_true rfl, by decide, Nat.lt_of_le_of_lt (Nat.le_of_ble_eq_true rfl) h.2.1.1, h.2.1.2 377 (by decide) (by decide)⟩, h.2.2 (39, 377) (by decide)⟩
theorem rk_378 {fz : Bool} {S : gS} {R : Nat → Nat → Option Nat} (h : rk fz S R) : ga (cx0 fz) S 378 .int 2 ∧ R 353 40 = some 378 := ⟨⟨Nat.le_of_ble_eq_true rfl, by decide, Nat.lt_of_le_of_lt (Nat.le_of_ble_eq_true rfl) h.2.1.1, h.2.1.2 378 (by decide) (by decide)⟩, h.2.2 (40, 378) (by decide)⟩
theorem rk_379 {fz : Bool} {S : gS} {R : Nat → Nat → Option Nat} (h : rk fz S R) : ga (cx0 fz) S 379 .int 64 ∧ R 353 41 = some 379 := ⟨⟨Nat.le_of_ble_eq_true rfl, by decide, Nat.lt_of_le_of_lt (Nat.le_of_ble_eq_true rfl) h.2.1.1, h.2.1.2 379 (by decide) (by decide)⟩, h.2.2 (41, 379) (by decide)⟩
theorem rk_380 {fz : Bool} {S : gS} {R : Nat → Nat → Option Nat} (h : rk fz S R) : ga (cx0 fz) S 380 .int 128 ∧ R 353 43 = some 380 := ⟨⟨Nat.le_of_ble_eq_true rfl, by decide, Nat.lt_of_le_of_lt (Nat.le_of_ble_eq_true rfl) h.2.1.1, h.2.1.2 380 (by decide) (by decide)⟩, h.2.2 (43, 380) (by decide)⟩
theorem rk_381 {fz : Bool} {S : gS} {R : Nat → Nat → Option Nat} (h : rk fz S R) : ga (cx0 fz) S 381 .int 8 ∧ R 353 44 = some 381 := ⟨⟨Nat.le_of_ble_eq_true rfl, by decide, Nat.lt_of_le_of_lt (Nat.le_of_ble_eq_true rfl) h.2.1.1, h.2.1.2 381 (by decide) (by decide)⟩, h.2.2 (44, 381) (by decide)⟩
theorem rk_382 {fz : Bool} {S : gS} {R : Nat → Nat → Option Nat} (h : rk fz S R) : ga (cx0 fz) S 382 .int 8 ∧ R 353 45 = some 382 := ⟨⟨Nat.le_of_ble_eq_true rfl, by decide, Nat.lt_of_le_of_lt (Nat.le_of_ble_eq_true rfl) h.2.1.1, h.2.1.2 382 (by decide) (by decide)⟩, h.2.2 (45, 382) (by decide)⟩
theorem rk_383 {fz : Bool} {S : gS} {R : Nat → Nat → Option Nat} (h : rk fz S R) : ga (cx0 fz) S 383 .int 8 ∧ R 353 46 = some 383 := ⟨⟨Nat.le_of_ble_eq_true rfl, by decide, Nat.lt_of_le_of_lt (Nat.le_of_ble_eq_true rfl) h.2.1.1, h.2.1.2 383 (by decide) (by decide)⟩, h.2.2 (46, 383) (by decide)⟩
theorem rk_384 {fz : Bool} {S : gS} {R : Nat → Nat → Option Nat} (h : rk fz S R) : ga (cx0 fz) S 384 .int 8 ∧ R 353 47 = some 384 := ⟨⟨Nat.le_of_ble_eq_true rfl, by decide, Nat.lt_of_le_of_lt (Nat.le_of_ble_eq_true rfl) h.2.1.1, h.2.1.2 384 (by decide) (by decide)⟩, h.2.2 (47, 384) (by decide)⟩
theorem rk_385 {fz : Bool} {S : gS} {R : Nat → Nat → Option Nat} (h : rk fz S R) : ga (cx0 fz) S 385 .boolean 8 ∧ R 353 48 = some 385 := ⟨⟨Nat.le_of_ble_eq_true rfl, by decide, Nat.lt_of_le_of_lt (Nat.le_of_ble_eq_true rfl) h.2.1.1, h.2.1.2 385 (by decide) (by decide)⟩, h.2.2 (48, 385) (by decide)⟩
theorem rk_386 {fz : Bool} {S : gS} {R : Nat → Nat → Option Nat} (h : rk fz S R) : ga (cx0 fz) S 386 .int 8 ∧ R 353 49 = some 386 := ⟨⟨Nat.le_of_ble_eq_true rfl, by decide, Nat.lt_of_le_of_lt (Nat.le_of_ble_eq_true rfl) h.2.1.1, h.2.1.2 386 (by decide) (by decide)⟩, h.2.2 (49, 386) (by decide)⟩
theorem rk_387 {fz : Bool} {S : gS} {R : Nat → Nat → Option Nat} (h : rk fz S R) : ga (cx0 fz) S 387 .long 128 ∧ R 353 50 = some 387 := ⟨⟨Nat.le_of_ble_eq_true rfl, by decide, Nat.lt_of_le_of_lt (Nat.le_of_ble_eq_true rfl) h.2.1.1, h.2.1.2 387 (by decide) (by decide)⟩, h.2.2 (50, 387) (by decide)⟩
theorem rk_388 {fz : Bool} {S : gS} {R : Nat → Nat → Option Nat} (h : rk fz S R) : ga (cx0 fz) S 388 .int 128 ∧ R 353 51 = some 388 := ⟨⟨Nat.le_of_ble_eq_true rfl, by decide, Nat.lt_of_le_of_lt (Nat.le_of_ble_eq_true rfl) h.2.1.1, h.2.1.2 388 (by decide) (by decide)⟩, h.2.2 (51, 388) (by decide)⟩
theorem rk_389 {fz : Bool} {S : gS} {R : Nat → Nat → Option Nat} (h : rk fz S R) : ga (cx0 fz) S 389 .long 16 ∧ R 353 53 = some 389 := ⟨⟨Nat.le_of_ble_eq_true rfl, by decide, Nat.lt_of_le_of_lt (Nat.le_of_ble_eq_true rfl) h.2.1.1, h.2.1.2 389 (by decide) (by decide)⟩, h.2.2 (53, 389) (by decide)⟩
theorem rk_390 {fz : Bool} {S : gS} {R : Nat → Nat → Option Nat} (h : rk fz S R) : ga (cx0 fz) S 390 .int 16 ∧ R 353 54 = some 390 := ⟨⟨Nat.le_of_ble_eq_true rfl, by decide, Nat.lt_of_le_of_lt (Nat.le_of_ble_eq_true rfl) h.2.1.1, h.2.1.2 390 (by decide) (by decide)⟩, h.2.2 (54, 390) (by decide)⟩
theorem rk_391 {fz : Bool} {S : gS} {R : Nat → Nat → Option Nat} (h : rk fz S R) : ga (cx0 fz) S 391 .long 16 ∧ R 353 56 = some 391 := ⟨⟨Nat.le_of_ble_eq_true rfl, by decide, Nat.lt_of_le_of_lt (Nat.le_of_ble_eq_true rfl) h.2.1.1, h.2.1.2 391 (by decide) (by decide)⟩, h.2.2 (56, 391) (by decide)⟩
theorem rk_392 {fz : Bool} {S : gS} {R : Nat → Nat → Option Nat} (h : rk fz S R) : ga (cx0 fz) S 392 .long 10 ∧ R 353 57 = some 392 := ⟨⟨Nat.le_of_ble_eq_true rfl, by decide, Nat.lt_of_le_of_lt (Nat.le_of_ble_eq_true rfl) h.2.1.1, h.2.1.2 392 (by decide) (by decide)⟩, h.2.2 (57, 392) (by decide)⟩
theorem rk_393 {fz : Bool} {S : gS} {R : Nat → Nat → Option Nat} (h : rk fz S R) : ga (cx0 fz) S 393 .int 400 ∧ R 353 59 = some 393 := ⟨⟨Nat.le_of_ble_eq_true rfl, by decide, Nat.lt_of_le_of_lt (Nat.le_of_ble_eq_true rfl) h.2.1.1, h.2.1.2 393 (by decide) (by decide)⟩, h.2.2 (59, 393) (by decide)⟩
theorem rk_394 {fz : Bool} {S : gS} {R : Nat → Nat → Option Nat} (h : rk fz S R) : ga (cx0 fz) S 394 .int 480 ∧ R 353 61 = some 394 := ⟨⟨Nat.le_of_ble_eq_true rfl, by decide, Nat.lt_of_le_of_lt (Nat.le_of_ble_eq_true rfl) h.2.1.1, h.2.1.2 394 (by decide) (by decide)⟩, h.2.2 (61, 394) (by decide)⟩
theorem rk_395 {fz : Bool} {S : gS} {R : Nat → Nat → Option Nat} (h : rk fz S R) : ga (cx0 fz) S 395 .long 7680 ∧ R 353 62 = some 395 := ⟨⟨Nat.le_of_ble_eq_true rfl, by decide, Nat.lt_of_le_of_lt (Nat.le_of_ble_eq_true rfl) h.2.1.1, h.2.1.2 395 (by decide) (by decide)⟩, h.2.2 (62, 395) (by decide)⟩
theorem rk_396 {fz : Bool} {S : gS} {R : Nat → Nat → Option Nat} (h : rk fz S R) : ga (cx0 fz) S 396 .long 4800 ∧ R 353 63 = some 396 := ⟨⟨Nat.le_of_ble_eq_true rfl, by decide, Nat.lt_of_le_of_lt (Nat.le_of_ble_eq_true rfl) h.2.1.1, h.2.1.2 396 (by decide) (by decide)⟩, h.2.2 (63, 396) (by decide)⟩
theorem rk_397 {fz : Bool} {S : gS} {R : Nat → Nat → Option Nat} (h : rk fz S R) : ga (cx0 fz) S 397 .int 480 ∧ R 353 64 = some 397 := ⟨⟨Nat.le_of_ble_eq_true rfl, by decide, Nat.lt_of_le_of_lt (Nat.le_of_ble_eq_true rfl) h.2.1.1, h.2.1.2 397 (by decide) (by decide)⟩, h.2.2 (64, 397) (by decide)⟩
theorem rk_398 {fz : Bool} {S : gS} {R : Nat → Nat → Option Nat} (h : rk fz S R) : ga (cx0 fz) S 398 .long 64 ∧ R 353 67 = some 398 := ⟨⟨Nat.le_of_ble_eq_true rfl, by decide, Nat.lt_of_le_of_lt (Nat.le_of_ble_eq_true rfl) h.2.1.1, h.2.1.2 398 (by decide) (by decide)⟩, h.2.2 (67, 398) (by decide)⟩
theorem rk_399 {fz : Bool} {S : gS} {R : Nat → Nat → Option Nat} (h : rk fz S R) : ga (cx0 fz) S 399 .long 16 ∧ R 353 68 = some 399 := ⟨⟨Nat.le_of_ble_eq_true rfl, by decide, Nat.lt_of_le_of_lt (Nat.le_of_ble_eq_true rfl) h.2.1.1, h.2.1.2 399 (by decide) (by decide)⟩, h.2.2 (68, 399) (by decide)⟩
theorem rk_400 {fz : Bool} {S : gS} {R : Nat → Nat → Option Nat} (h : rk fz S R) : ga (cx0 fz) S 400 .int 300 ∧ R 353 70 = some 400 := ⟨⟨Nat.le_of_ble_eq_true rfl, by decide, Nat.lt_of_le_of_lt (Nat.le_of_ble_eq_true rfl) h.2.1.1, h.2.1.2 400 (by decide) (by decide)⟩, h.2.2 (70, 400) (by decide)⟩
theorem rk_401 {fz : Bool} {S : gS} {R : Nat → Nat → Option Nat} (h : rk fz S R) : ga (cx0 fz) S 401 .int 300 ∧ R 353 71 = some 401 := ⟨⟨Nat.le_of_ble_eq_true rfl, by decide, Nat.lt_of_le_of_lt (Nat.le_of_ble_eq_true rfl) h.2.1.1, h.2.1.2 401 (by decide) (by decide)⟩, h.2.2 (71, 401) (by decide)⟩
theorem rk_402 {fz : Bool} {S : gS} {R : Nat → Nat → Option Nat} (h : rk fz S R) : ga (cx0 fz) S 402 .int 300 ∧ R 353 72 = some 402 := ⟨⟨Nat.le_of_ble_eq_true rfl, by decide, Nat.lt_of_le_of_lt (Nat.le_of_ble_eq_true rfl) h.2.1.1, h.2.1.2 402 (by decide) (by decide)⟩, h.2.2 (72, 402) (by decide)⟩
theorem rk_403 {fz : Bool} {S : gS} {R : Nat → Nat → Option Nat} (h : rk fz S R) : ga (cx0 fz) S 403 .int 300 ∧ R 353 73 = some 403 := ⟨⟨Nat.le_of_ble_eq_true rfl, by decide, Nat.lt_of_le_of_lt (Nat.le_of_ble_eq_true rfl) h.2.1.1, h.2.1.2 403 (by decide) (by decide)⟩, h.2.2 (73, 403) (by decide)⟩
theorem rk_404 {fz : Bool} {S : gS} {R : Nat → Nat → Option Nat} (h : rk fz S R) : ga (cx0 fz) S 404 .int 300 ∧ R 353 74 = some 404 := ⟨⟨Nat.le_of_ble_eq_true rfl, by decide, Nat.lt_of_le_of_lt (Nat.le_of_ble_eq_true rfl) h.2.1.1, h.2.1.2 404 (by decide) (by decide)⟩, h.2.2 (74, 404) (by decide)⟩
theorem rk_405 {fz : Bool} {S : gS} {R : Nat → Nat → Option Nat} (h : rk fz S R) : ga (cx0 fz) S 405 .long 300 ∧ R 353 75 = some 405 := ⟨⟨Nat.le_of_ble_eq_true rfl, by decide, Nat.lt_of_le_of_lt (Nat.le_of_ble_eq_true rfl) h.2.1.1, h.2.1.2 405 (by decide) (by decide)⟩, h.2.2 (75, 405) (by decide)⟩
