/-! WHAT EVERY CALL KEEPS of the tape, of the number of texts and of the references -/
theorem gx_and {cx : rf_C} {d : Nat × Nat} {i pc : Nat} {ls : rf_L} {st : List Value} {h : rf_H} {P P' : Option Value → rf_H → Prop} (h1 : gx cx d i pc ls st h P) (h2 : gx cx d i pc ls st h P') : gx cx d i pc ls st h (fun r h => P r h ∧ P' r h) := by
  obtain ⟨n, r, hF, e1, p1⟩ := h1
  obtain ⟨n', r', hF', e2, p2⟩ := h2
  have m1 := rf_ev_mono cx _ _ _ _ _ _ _ _ e1 (max n n') (Nat.le_max_left _ _)
  have m2 := rf_ev_mono cx _ _ _ _ _ _ _ _ e2 (max n n') (Nat.le_max_right _ _)
  rw [m1] at m2
  cases m2
  exact ⟨_, r, hF, m1, p1, p2⟩
/-- the references that never change -/
def cl_ref (M : rf_M) : Prop := (M.2.2 22 0 = some 23 ∧ M.2.2 22 2 = some 24 ∧ M.2.2 22 5 = some 169) ∧ (∀ c, c < 12 → M.2.2 24 c = some (25 + 12 * c)) ∧ (∀ c, c < 12 → ∀ k, 5 ≤ k → k ≤ 15 → M.2.2 (25 + 12 * c) k = some (25 + 12 * c + (k - 4))) ∧ M.2.2 169 0 = some 170
def md_ok (md : List (Nat × Nat)) : Bool := md.all (fun q => !(q.1 == 1) && (!(q.1 == 2) && (!(q.1 == 0 && (q.2 == 0 || (q.2 == 1 || (q.2 == 2 || (q.2 == 3 || (q.2 == 4 || q.2 == 6)))))) && (!(q.1 == 4 && (q.2 == 0 || decide (6 ≤ q.2))) && !(q.1 == 16 && decide (q.2 ≤ 1))))))
theorem rg_p : ∀ c, c < 12 → xk_rg (25 + 12 * c) = 4 := by decide
theorem rg_pk : ∀ c, c < 12 → ∀ k, k < 12 → xk_rg (25 + 12 * c + k) = 4 + k := by decide
section KEEP
variable {fz : Bool} {S : gS} {m0 : rf_M} {hp : 0 < (cx0 fz).2.2.2.2} {hs : ∀ a, (cx0 fz).2.2.2.2 ≤ a → a < S.2.1 → sx_sh xk_G (xk_rg a) (S.1 a)} {M M' : rf_M} {md : List (Nat × Nat)}
theorem md_no {md : List (Nat × Nat)} {g k : Nat} (h : md_ok md = true) (hb : md_ok [(g, k)] = false) : (g, k) ∉ md := by
  intro hm
  have h1 := List.all_eq_true.mp h (g, k) hm
  unfold md_ok at hb
  simp only [List.all_cons, List.all_nil, Bool.and_true] at hb
  rw [h1] at hb
  cases hb
/-- what a call within such a list leaves -/
theorem cl_keep (hm : md_ok md = true) (hf : sx_fr ⟨(cx0 fz, xk_G, xk_rg, S, m0), hp, hs⟩ md M M') : M'.1 22 1 = M.1 22 1 ∧ M'.1 22 3 = M.1 22 3 ∧ (∀ k, M'.1 23 k = M.1 23 k) ∧ (∀ k, M'.1 1 k = M.1 1 k) ∧ (cl_ref M → cl_ref M') := by
  have h22 : ∀ k, (k = 0 ∨ k = 1 ∨ k = 2 ∨ k = 3 ∨ k = 5) → sx_same M M' 22 k := fun k hk => hf 22 k (Or.inr ⟨md_no hm rfl, by
    rcases hk with rfl | rfl | rfl | rfl | rfl
    · exact md_no (g := 0) (k := 1) hm rfl
    · exact md_no (g := 0) (k := 2) hm rfl
    · exact md_no (g := 0) (k := 3) hm rfl
    · exact md_no (g := 0) (k := 4) hm rfl
    · exact md_no (g := 0) (k := 6) hm rfl⟩)
  have h23 : ∀ k, sx_same M M' 23 k := fun k => hf 23 k (Or.inr ⟨md_no (g := 1) (k := 0) hm rfl, md_no (g := 1) (k := k + 1) hm rfl⟩)
  have h24 : ∀ k, sx_same M M' 24 k := fun k => hf 24 k (Or.inr ⟨md_no (g := 2) (k := 0) hm rfl, md_no (g := 2) (k := k + 1) hm rfl⟩)
  have h169 : sx_same M M' 169 0 := hf 169 0 (Or.inr ⟨md_no (g := 16) (k := 0) hm rfl, md_no (g := 16) (k := 1) hm rfl⟩)
  have hpk : ∀ c, c < 12 → ∀ k, 5 ≤ k → k ≤ 15 → sx_same M M' (25 + 12 * c) k := fun c hc k k1 k2 => hf _ k (Or.inr (by
    show (xk_rg (25 + 12 * c), 0) ∉ md ∧ (xk_rg (25 + 12 * c), k + 1) ∉ md
    rw [rg_p c hc]
    refine ⟨md_no (g := 4) (k := 0) hm rfl, md_no (g := 4) (k := k + 1) hm ?_⟩
    unfold md_ok
    simp
    omega))
  refine ⟨(h22 1 (by omega)).1, (h22 3 (by omega)).1, fun k => (h23 k).1, fun k => (hf 1 k (Or.inl (by show 1 < 22; omega))).1, fun hr => ?_⟩
  obtain ⟨⟨q0, q2, q5⟩, q24, qp, q169⟩ := hr
  exact ⟨⟨(h22 0 (by omega)).2.2.trans q0, (h22 2 (by omega)).2.2.trans q2, (h22 5 (by omega)).2.2.trans q5⟩, fun c hc => (h24 c).2.2.trans (q24 c hc), fun c hc k k1 k2 => (hpk c hc k k1 k2).2.2.trans (qp c hc k k1 k2), h169.2.2.trans q169⟩
theorem cl_tq (hn : S.2.1 = 406) (hw : xk_old fz S m0) (hin : sx_in ⟨(cx0 fz, xk_G, xk_rg, S, m0), hp, hs⟩ M) (hr : cl_ref M) : tq fz S M := by
  obtain ⟨⟨q0, q2, q5⟩, q24, qp, q169⟩ := hr
  refine ⟨⟨xk_go hs (by omega) (by omega) (g := 0) rfl rfl, xk_ga hs (by omega) (by omega) (g := 1) rfl rfl, xk_ga hs (by omega) (by omega) (g := 2) rfl rfl⟩, ⟨q0, q2, q5⟩, q24, fun c hc => ?_⟩
  refine ⟨⟨xk_go hs (by omega) (by omega) (g := 16) rfl rfl, xk_scS hn hs, xk_go hs (by omega) (by omega) (g := 4) (rg_p c hc) rfl, by omega, by omega, fun k k1 k2 => ?_, fun k k1 k2 => ?_⟩, ⟨q169, qp c hc⟩, xk_scM (hp := hp) (hs := hs) hn hw hin⟩
  · have hk : k = 1 ∨ k = 2 ∨ k = 3 ∨ k = 4 ∨ k = 5 ∨ k = 6 ∨ k = 7 ∨ k = 8 ∨ k = 9 := by omega
    rcases hk with rfl | rfl | rfl | rfl | rfl | rfl | rfl | rfl | rfl
    · exact xk_ga hs (by omega) (by omega) (g := 5) (rg_pk c hc 1 (by omega)) rfl
    · exact xk_ga hs (by omega) (by omega) (g := 6) (rg_pk c hc 2 (by omega)) rfl
    · exact xk_ga hs (by omega) (by omega) (g := 7) (rg_pk c hc 3 (by omega)) rfl
    · exact xk_ga hs (by omega) (by omega) (g := 8) (rg_pk c hc 4 (by omega)) rfl
    · exact xk_ga hs (by omega) (by omega) (g := 9) (rg_pk c hc 5 (by omega)) rfl
    · exact xk_ga hs (by omega) (by omega) (g := 10) (rg_pk c hc 6 (by omega)) rfl
    · exact xk_ga hs (by omega) (by omega) (g := 11) (rg_pk c hc 7 (by omega)) rfl
    · exact xk_ga hs (by omega) (by omega) (g := 12) (rg_pk c hc 8 (by omega)) rfl
    · exact xk_ga hs (by omega) (by omega) (g := 13) (rg_pk c hc 9 (by omega)) rfl
  · have hk : k = 10 ∨ k = 11 := by omega
    rcases hk with rfl | rfl
    · exact xk_ga hs (by omega) (by omega) (g := 14) (rg_pk c hc 10 (by omega)) rfl
    · exact xk_ga hs (by omega) (by omega) (g := 15) (rg_pk c hc 11 (by omega)) rfl
/-- the tape's length and the number of texts lie within their bounds -/
theorem cl_bnd (hn : S.2.1 = 406) (hin : sx_in ⟨(cx0 fz, xk_G, xk_rg, S, m0), hp, hs⟩ M) : ∃ n c, M.1 22 1 = nI n ∧ n ≤ 800 ∧ M.1 22 3 = nI c ∧ c ≤ 12 := by
  have b1 : (0 : Int) ≤ (M.1 22 1).toInt ∧ (M.1 22 1).toInt ≤ 800 := hin.1 22 1 (.inl (0, 800)) (by show 22 ≤ 22; omega) (by show 22 < S.2.1; omega) rfl
  have b3 : (0 : Int) ≤ (M.1 22 3).toInt ∧ (M.1 22 3).toInt ≤ 12 := hin.1 22 3 (.inl (0, 12)) (by show 22 ≤ 22; omega) (by show 22 < S.2.1; omega) rfl
  refine ⟨(M.1 22 1).toInt.toNat, (M.1 22 3).toInt.toNat, Int32.toInt_inj.mp ?_, by omega, Int32.toInt_inj.mp ?_, by omega⟩
  · rw [nI_int (by omega)]; omega
  · rw [nI_int (by omega)]; omega
end KEEP
