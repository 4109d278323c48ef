/-! THE PARSER: statements -/
def p_beg (x : Int32) : Bool := [1, 10, 12, 13, 14, 15, 17, 19].elem x.toInt
def p_c1 (s : pS) : pS := (s.1, s.2.1, s.2.2.1 + 1, s.2.2.2)
def p_ir (b : Bool) (s : pS) : pS := (s.1, b, s.2.2)
def p_dp (m : Nat) (s : pS) : pS := (s.1, s.2.1, s.2.2.1, s.2.2.2.1, max s.2.2.2.2.1 m, s.2.2.2.2.2)
def p_exq (T : tK) (s : pS) : pS := p_expr T (p_un T 8) s
def p_cl (T : tK) (s : pS) : pS := p_ex T 59 (p_exq T s)
def p_loc (T : tK) (s : pS) : pS := if p_is T 1 s = true ∧ p_cell (nb T s.1) = false then p_adv T s else p_bad s
def p_if (T : tK) (k : Int32) (s : pS) : pS := if k = 10 ∨ k = 12 then p_ex T 41 (p_exq T (p_ex T 40 s)) else s
def p_el (T : tK) (k : Int32) (b : pS → pS) (s : pS) : pS := if k = 10 ∧ p_is T 11 s = true then b (p_adv T s) else s
def p_or (T : tK) (k : Int32) (b : pS → pS) (s : pS) : pS := if k = 15 then b (p_ex T 16 s) else s
def p_ca (T : tK) (k : Int32) (b : pS → pS) (s : pS) : pS := if k = 17 then b (p_loc T (p_ex T 18 s)) else s
def p_com (T : tK) (k : Int32) (b : pS → pS) (s : pS) : pS := p_ca T k b (p_or T k b (p_el T k b (b (p_if T k s))))
def p_st1 (T : tK) (b : pS → pS) (k : Int32) (s : pS) : pS := if k = 1 then p_cl T (p_ex T 61 s) else if k = 13 then p_ex T 59 s else if k = 14 then p_cl T s else if k = 19 then p_ir false (p_cl T (p_ir true s)) else p_com T k b s
def p_st (T : tK) (b : pS → pS) (s : pS) : pS := if p_beg (kd T s.1) = true ∧ s.2.2.1 < 40 then p_st1 T b (kd T s.1) (p_adv T (p_c1 s)) else p_bad s
def p_go (T : tK) (s : pS) : Bool := s.2.2.2.2.2 && (!(p_is T 0 s) && !(p_is T 125 s))
def p_sts (T : tK) (b : pS → pS) (s : pS) : pS := p_loop (p_go T) (p_st T b) 41 s
def p_body (T : tK) : Nat → pS → pS
  | 0, s => p_bad s
  | f + 1, s => if p_is T 123 s = true then p_ex T 125 (p_sts T (p_body T f) (p_dp (8 - f) (p_adv T s))) else p_bad s
def pdi (fz : Bool) (S : gS) (p : Nat) (T : tK) (d : Nat × Nat) (j : Nat) (args : List Value) (f : pS → pS) : Prop := ∀ (M : rf_M) (s : pS), pz fz S p T M s → gx (cx0 fz) d j 0 (lv_args 0 (.ref 169 :: args)) [] (M, S) (fun r h' => ∃ z M', r = some (.int z) ∧ h' = (M', S) ∧ pz fz S p T M' (f s) ∧ pz_fr p M M')
section PG
variable {fz : Bool} {S : gS} {p : Nat} {T : tK} {M M' : rf_M} {s : pS}
theorem pz.c1 (h : pz fz S p T M s) (hc : s.2.2.1 < 40) : pz fz S p T (rf_wi M p 0 (nI (s.2.2.1 + 1))) (p_c1 s) := by
  obtain ⟨h0, h1, h2, h3, h4, h5, ⟨cc, h6, h7⟩, h8⟩ := h
  have hp : p + 11 ≤ 168 := h0.1.2.2.2.2.1
  have hf : pz_fr p M (rf_wi M p 0 (nI (s.2.2.1 + 1))) := (pz_fr.rfl' p M).wi (by omega)
  refine ⟨h0.fr hf, ⟨?_, h1.2⟩, ?_, ⟨rf_wi_at _ _ _ _, hc⟩, ⟨?_, h4.2⟩, ⟨?_, h5.2⟩, ⟨cc, h6, ?_⟩, ?_⟩
  · rw [rf_wi_of _ _ (by omega)]; exact h1.1
  · rw [rf_wi_of _ _ (by omega)]; exact h2
  · rw [rf_wi_of _ _ (by omega)]; exact h4.1
  · rw [rf_wi_of _ _ (by omega)]; exact h5.1
  · rw [rf_wi_of _ _ (by omega)]; exact h7
  · rw [rf_wi_of _ _ (by omega)]; exact h8
theorem pz.ir (h : pz fz S p T M s) {b : Bool} : pz fz S p T (rf_wi M 169 4 (bI b)) (p_ir b s) := by
  obtain ⟨h0, h1, h2, h3, h4, h5, ⟨cc, h6, h7⟩, h8⟩ := h
  have hp : p + 11 ≤ 168 := h0.1.2.2.2.2.1
  have hf : pz_fr p M (rf_wi M 169 4 (bI b)) := (pz_fr.rfl' p M).wi (by omega)
  refine ⟨h0.fr hf, ⟨?_, h1.2⟩, rf_wi_at _ _ _ _, ⟨?_, h3.2⟩, ⟨?_, h4.2⟩, ⟨?_, h5.2⟩, ⟨cc, h6, ?_⟩, ?_⟩
  · rw [rf_wi_of _ _ (by omega)]; exact h1.1
  · rw [rf_wi_of _ _ (by omega)]; exact h3.1
  · rw [rf_wi_of _ _ (by omega)]; exact h4.1
  · rw [rf_wi_of _ _ (by omega)]; exact h5.1
  · rw [rf_wi_of _ _ (by omega)]; exact h7
  · rw [rf_wi_of _ _ (by omega)]; exact h8
theorem pz.dp (h : pz fz S p T M s) {m : Nat} (hm : m ≤ 8) : pz fz S p T (rf_wi M p 2 (nI (max s.2.2.2.2.1 m))) (p_dp m s) := by
  obtain ⟨h0, h1, h2, h3, h4, h5, ⟨cc, h6, h7⟩, h8⟩ := h
  have hp : p + 11 ≤ 168 := h0.1.2.2.2.2.1
  have hf : pz_fr p M (rf_wi M p 2 (nI (max s.2.2.2.2.1 m))) := (pz_fr.rfl' p M).wi (by omega)
  refine ⟨h0.fr hf, ⟨?_, h1.2⟩, ?_, ⟨?_, h3.2⟩, ⟨?_, h4.2⟩, ⟨rf_wi_at _ _ _ _, (by show max s.2.2.2.2.1 m ≤ 8; omega)⟩, ⟨cc, h6, ?_⟩, ?_⟩
  · rw [rf_wi_of _ _ (by omega)]; exact h1.1
  · rw [rf_wi_of _ _ (by omega)]; exact h2
  · rw [rf_wi_of _ _ (by omega)]; exact h3.1
  · rw [rf_wi_of _ _ (by omega)]; exact h4.1
  · rw [rf_wi_of _ _ (by omega)]; exact h7
  · rw [rf_wi_of _ _ (by omega)]; exact h8
theorem p_canBegin {x : Int32} : gx (cx0 fz) (0, 0) 40 0 [(0, .int x)] [] (M, S) (fun r h' => r = some (.int (bI (p_beg x))) ∧ h' = (M, S)) := by
  refine g1 (n := 1) rfl rfl rfl rfl ?_
  refine g3 (pc' := if p_beg x then 92 else 94) (st' := []) rfl rfl ?_ ?_
  · by_cases ho : x.toInt < 1 ∨ 19 < x.toInt
    · have e : p_beg x = false := by
        unfold p_beg
        rw [Bool.eq_false_iff]
        intro hh
        have := List.elem_iff.mp hh
        simp only [List.mem_cons, List.not_mem_nil, or_false] at this
        omega
      rw [e]
      exact if_pos ho
    · have hx : ∃ k : Nat, k < 19 ∧ x = Int32.ofNat (k + 1) := by
        refine ⟨(x.toInt - 1).toNat, by omega, Int32.toInt_inj.mp ?_⟩
        rw [Int32.toInt_ofNat']
        rw [Int.bmod_eq_of_le (by have : Int32.size = 4294967296 := rfl; omega) (by have : Int32.size = 4294967296 := rfl; omega)]
        omega
      obtain ⟨k, hk, rfl⟩ := hx
      have hk19 : k = 0 ∨ k = 1 ∨ k = 2 ∨ k = 3 ∨ k = 4 ∨ k = 5 ∨ k = 6 ∨ k = 7 ∨ k = 8 ∨ k = 9 ∨ k = 10 ∨ k = 11 ∨ k = 12 ∨ k = 13 ∨ k = 14 ∨ k = 15 ∨ k = 16 ∨ k = 17 ∨ k = 18 := by omega
      rcases hk19 with rfl | rfl | rfl | rfl | rfl | rfl | rfl | rfl | rfl | rfl | rfl | rfl | rfl | rfl | rfl | rfl | rfl | rfl | rfl <;> rfl
  · cases hc : p_beg x
    · refine g1 (n := 1) rfl rfl rfl rfl ?_
      exact gx_ret rfl rfl ⟨rfl, rfl⟩
    · refine g1 (n := 1) rfl rfl rfl rfl ?_
      exact gx_ret rfl rfl ⟨rfl, rfl⟩
theorem p_open (h : pz fz S p T M s) {a b c e : Int32} : gx (cx0 fz) (0, 0) 41 0 [(0, .ref p), (1, .int a), (2, .int b), (3, .int c), (4, .int e)] [] (M, S) (fun r h' => (s.2.2.1 < 40 ∧ r = some (.int (nI s.2.2.1)) ∧ ∃ M', h' = (M', S) ∧ pz fz S p T M' (p_c1 s) ∧ pz_fr p M M') ∨ (¬ s.2.2.1 < 40 ∧ r = some (.int (Int32.ofInt (-1))) ∧ h' = (M, S))) := by
  have h' := h
  obtain ⟨h0, h1, h2, h3, h4, h5, ⟨cc, h6, h7⟩, h8⟩ := h
  obtain ⟨hh, ⟨r0, r1, r2, r3, r4, r5⟩, hT, hl, hrow⟩ := h0
  have hp : 25 ≤ p ∧ p + 11 ≤ 168 := ⟨hh.2.2.2.1, hh.2.2.2.2.1⟩
  have h3b := h3.2
  refine g1 (n := 1) rfl rfl rfl rfl ?_
  refine m_gf rfl hh.2.2.1 rfl (v := .int (nI s.2.2.1)) (by show Value.int (M.1 p 0) = _; rw [h3.1]) ?_
  refine g1 (n := 2) rfl rfl rfl rfl ?_
  refine g_ic rfl (fun k => ?_) (fun k => ?_)
  rotate_left
  · have k : ¬ (nI s.2.2.1).toInt < 40 := fun z => k ((rf_cc_iff _ 40 .lt).mpr z)
    rw [nI_int (by omega)] at k
    refine g1 (n := 1) rfl rfl rfl rfl ?_
    exact gx_ret rfl rfl (Or.inr ⟨by omega, rfl, rfl⟩)
  have k : (nI s.2.2.1).toInt < 40 := (rf_cc_iff _ 40 .lt).mp k
  rw [nI_int (by omega)] at k
  have k : s.2.2.1 < 40 := by omega
  refine g1 (n := 1) rfl rfl rfl rfl ?_
  refine m_gf rfl hh.2.2.1 rfl (v := .int (nI s.2.2.1)) (by show Value.int (M.1 p 0) = _; rw [h3.1]) ?_
  refine g2 (n := 2) rfl rfl rfl rfl ?_
  refine g1 (n := 1) rfl rfl rfl rfl ?_
  refine g0 rfl rfl rfl ?_
  refine m_gf rfl hh.2.2.1 rfl (v := .int (nI s.2.2.1)) (by show Value.int (M.1 p 0) = _; rw [h3.1]) ?_
  refine g1 (n := 1) rfl rfl rfl rfl ?_
  refine g0 rfl rfl rfl ?_
  refine m_pf rfl hh.2.2.1 rfl (M' := rf_wi M p 0 (nI s.2.2.1 + Int32.ofInt 1)) rfl ?_
  rw [nI_suc (by omega)]
  have H := h'.c1 k
  have F : pz_fr p M (rf_wi M p 0 (nI (s.2.2.1 + 1))) := (pz_fr.rfl' p M).wi (by omega)
  have C : (rf_wi M p 0 (nI (s.2.2.1 + 1))).1 p 3 = nI cc := by rw [rf_wi_of _ _ (by omega)]; exact h7
  have R : (rf_wi M p 0 (nI (s.2.2.1 + 1))).2 = M.2 := rfl
  generalize rf_wi M p 0 (nI (s.2.2.1 + 1)) = M1 at H F C R ⊢
  have R5 : ∀ k, 5 ≤ k → k ≤ 15 → M1.2.2 p k = some (p + (k - 4)) := fun k k1 k2 => by rw [R]; exact r5 k k1 k2
  clear R
  refine g1 (n := 1) rfl rfl rfl rfl ?_
  refine m_gf rfl hh.2.2.1 rfl (v := .ref (p + 1)) (by show va_rf (M1.2.2 p 5) = _; rw [R5 5 (by omega) (by omega)]; rfl) ?_
  refine g1 (n := 2) rfl rfl rfl rfl ?_
  refine g1 (n := 1) rfl rfl rfl rfl ?_
  refine m_is rfl (hh.2.2.2.2.2.1 1 (by omega) (by omega)) (nI_int (by omega)) k ?_
  generalize hM2 : rf_wi M1 (p + 1) s.2.2.1 _ = M2
  replace H : pz fz S p T M2 (p_c1 s) := by rw [← hM2]; exact H.cc (by omega)
  replace F : pz_fr p M M2 := by rw [← hM2]; exact F.wi (by omega)
  replace C : M2.1 p 3 = nI cc := by rw [← hM2, rf_wi_of _ _ (by omega)]; exact C
  replace R5 : ∀ k, 5 ≤ k → k ≤ 15 → M2.2.2 p k = some (p + (k - 4)) := fun k k1 k2 => by rw [← hM2]; exact R5 k k1 k2
  clear hM2 M1
  obtain ⟨M1, hM1⟩ : ∃ M1, M1 = M2 := ⟨M2, rfl⟩
  subst hM1
  refine g1 (n := 1) rfl rfl rfl rfl ?_
  refine m_gf rfl hh.2.2.1 rfl (v := .ref (p + 2)) (by show va_rf (M1.2.2 p 6) = _; rw [R5 6 (by omega) (by omega)]; rfl) ?_
  refine g1 (n := 2) rfl rfl rfl rfl ?_
  refine g1 (n := 1) rfl rfl rfl rfl ?_
  refine m_is rfl (hh.2.2.2.2.2.1 2 (by omega) (by omega)) (nI_int (by omega)) k ?_
  generalize hM2 : rf_wi M1 (p + 2) s.2.2.1 _ = M2
  replace H : pz fz S p T M2 (p_c1 s) := by rw [← hM2]; exact H.cc (by omega)
  replace F : pz_fr p M M2 := by rw [← hM2]; exact F.wi (by omega)
  replace C : M2.1 p 3 = nI cc := by rw [← hM2, rf_wi_of _ _ (by omega)]; exact C
  replace R5 : ∀ k, 5 ≤ k → k ≤ 15 → M2.2.2 p k = some (p + (k - 4)) := fun k k1 k2 => by rw [← hM2]; exact R5 k k1 k2
  clear hM2 M1
  obtain ⟨M1, hM1⟩ : ∃ M1, M1 = M2 := ⟨M2, rfl⟩
  subst hM1
  refine g1 (n := 1) rfl rfl rfl rfl ?_
  refine m_gf rfl hh.2.2.1 rfl (v := .ref (p + 3)) (by show va_rf (M1.2.2 p 7) = _; rw [R5 7 (by omega) (by omega)]; rfl) ?_
  refine g1 (n := 2) rfl rfl rfl rfl ?_
  refine g1 (n := 1) rfl rfl rfl rfl ?_
  refine m_gf rfl hh.2.2.1 rfl (v := .int (nI cc)) (by show Value.int (M1.1 p 3) = _; rw [C]) ?_
  refine m_is rfl (hh.2.2.2.2.2.1 3 (by omega) (by omega)) (nI_int (by omega)) k ?_
  generalize hM2 : rf_wi M1 (p + 3) s.2.2.1 _ = M2
  replace H : pz fz S p T M2 (p_c1 s) := by rw [← hM2]; exact H.cc (by omega)
  replace F : pz_fr p M M2 := by rw [← hM2]; exact F.wi (by omega)
  replace C : M2.1 p 3 = nI cc := by rw [← hM2, rf_wi_of _ _ (by omega)]; exact C
  replace R5 : ∀ k, 5 ≤ k → k ≤ 15 → M2.2.2 p k = some (p + (k - 4)) := fun k k1 k2 => by rw [← hM2]; exact R5 k k1 k2
  clear hM2 M1
  obtain ⟨M1, hM1⟩ : ∃ M1, M1 = M2 := ⟨M2, rfl⟩
  subst hM1
  refine g1 (n := 1) rfl rfl rfl rfl ?_
  refine m_gf rfl hh.2.2.1 rfl (v := .ref (p + 4)) (by show va_rf (M1.2.2 p 8) = _; rw [R5 8 (by omega) (by omega)]; rfl) ?_
  refine g1 (n := 2) rfl rfl rfl rfl ?_
  refine g1 (n := 1) rfl rfl rfl rfl ?_
  refine m_is rfl (hh.2.2.2.2.2.1 4 (by omega) (by omega)) (nI_int (by omega)) k ?_
  generalize hM2 : rf_wi M1 (p + 4) s.2.2.1 _ = M2
  replace H : pz fz S p T M2 (p_c1 s) := by rw [← hM2]; exact H.cc (by omega)
  replace F : pz_fr p M M2 := by rw [← hM2]; exact F.wi (by omega)
  replace C : M2.1 p 3 = nI cc := by rw [← hM2, rf_wi_of _ _ (by omega)]; exact C
  replace R5 : ∀ k, 5 ≤ k → k ≤ 15 → M2.2.2 p k = some (p + (k - 4)) := fun k k1 k2 => by rw [← hM2]; exact R5 k k1 k2
  clear hM2 M1
  obtain ⟨M1, hM1⟩ : ∃ M1, M1 = M2 := ⟨M2, rfl⟩
  subst hM1
  refine g1 (n := 1) rfl rfl rfl rfl ?_
  refine m_gf rfl hh.2.2.1 rfl (v := .ref (p + 5)) (by show va_rf (M1.2.2 p 9) = _; rw [R5 9 (by omega) (by omega)]; rfl) ?_
  refine g1 (n := 2) rfl rfl rfl rfl ?_
  refine g1 (n := 1) rfl rfl rfl rfl ?_
  refine m_is rfl (hh.2.2.2.2.2.1 5 (by omega) (by omega)) (nI_int (by omega)) k ?_
  generalize hM2 : rf_wi M1 (p + 5) s.2.2.1 _ = M2
  replace H : pz fz S p T M2 (p_c1 s) := by rw [← hM2]; exact H.cc (by omega)
  replace F : pz_fr p M M2 := by rw [← hM2]; exact F.wi (by omega)
  replace C : M2.1 p 3 = nI cc := by rw [← hM2, rf_wi_of _ _ (by omega)]; exact C
  replace R5 : ∀ k, 5 ≤ k → k ≤ 15 → M2.2.2 p k = some (p + (k - 4)) := fun k k1 k2 => by rw [← hM2]; exact R5 k k1 k2
  clear hM2 M1
  obtain ⟨M1, hM1⟩ : ∃ M1, M1 = M2 := ⟨M2, rfl⟩
  subst hM1
  refine g1 (n := 1) rfl rfl rfl rfl ?_
  refine m_gf rfl hh.2.2.1 rfl (v := .ref (p + 6)) (by show va_rf (M1.2.2 p 10) = _; rw [R5 10 (by omega) (by omega)]; rfl) ?_
  refine g1 (n := 2) rfl rfl rfl rfl ?_
  refine g1 (n := 2) rfl rfl rfl rfl ?_
  refine m_is rfl (hh.2.2.2.2.2.1 6 (by omega) (by omega)) (nI_int (by omega)) k ?_
  generalize hM2 : rf_wi M1 (p + 6) s.2.2.1 _ = M2
  replace H : pz fz S p T M2 (p_c1 s) := by rw [← hM2]; exact H.cc (by omega)
  replace F : pz_fr p M M2 := by rw [← hM2]; exact F.wi (by omega)
  replace C : M2.1 p 3 = nI cc := by rw [← hM2, rf_wi_of _ _ (by omega)]; exact C
  replace R5 : ∀ k, 5 ≤ k → k ≤ 15 → M2.2.2 p k = some (p + (k - 4)) := fun k k1 k2 => by rw [← hM2]; exact R5 k k1 k2
  clear hM2 M1
  obtain ⟨M1, hM1⟩ : ∃ M1, M1 = M2 := ⟨M2, rfl⟩
  subst hM1
  refine g1 (n := 1) rfl rfl rfl rfl ?_
  refine m_gf rfl hh.2.2.1 rfl (v := .ref (p + 7)) (by show va_rf (M1.2.2 p 11) = _; rw [R5 11 (by omega) (by omega)]; rfl) ?_
  refine g1 (n := 2) rfl rfl rfl rfl ?_
  refine g1 (n := 1) rfl rfl rfl rfl ?_
  refine m_is rfl (hh.2.2.2.2.2.1 7 (by omega) (by omega)) (nI_int (by omega)) k ?_
  generalize hM2 : rf_wi M1 (p + 7) s.2.2.1 _ = M2
  replace H : pz fz S p T M2 (p_c1 s) := by rw [← hM2]; exact H.cc (by omega)
  replace F : pz_fr p M M2 := by rw [← hM2]; exact F.wi (by omega)
  replace C : M2.1 p 3 = nI cc := by rw [← hM2, rf_wi_of _ _ (by omega)]; exact C
  replace R5 : ∀ k, 5 ≤ k → k ≤ 15 → M2.2.2 p k = some (p + (k - 4)) := fun k k1 k2 => by rw [← hM2]; exact R5 k k1 k2
  clear hM2 M1
  obtain ⟨M1, hM1⟩ : ∃ M1, M1 = M2 := ⟨M2, rfl⟩
  subst hM1
  refine g1 (n := 1) rfl rfl rfl rfl ?_
  refine m_gf rfl hh.2.2.1 rfl (v := .ref (p + 8)) (by show va_rf (M1.2.2 p 12) = _; rw [R5 12 (by omega) (by omega)]; rfl) ?_
  refine g1 (n := 2) rfl rfl rfl rfl ?_
  refine g1 (n := 1) rfl rfl rfl rfl ?_
  refine m_is rfl (hh.2.2.2.2.2.1 8 (by omega) (by omega)) (nI_int (by omega)) k ?_
  generalize hM2 : rf_wi M1 (p + 8) s.2.2.1 _ = M2
  replace H : pz fz S p T M2 (p_c1 s) := by rw [← hM2]; exact H.cc (by omega)
  replace F : pz_fr p M M2 := by rw [← hM2]; exact F.wi (by omega)
  replace C : M2.1 p 3 = nI cc := by rw [← hM2, rf_wi_of _ _ (by omega)]; exact C
  replace R5 : ∀ k, 5 ≤ k → k ≤ 15 → M2.2.2 p k = some (p + (k - 4)) := fun k k1 k2 => by rw [← hM2]; exact R5 k k1 k2
  clear hM2 M1
  obtain ⟨M1, hM1⟩ : ∃ M1, M1 = M2 := ⟨M2, rfl⟩
  subst hM1
  refine g1 (n := 1) rfl rfl rfl rfl ?_
  refine m_gf rfl hh.2.2.1 rfl (v := .ref (p + 9)) (by show va_rf (M1.2.2 p 13) = _; rw [R5 13 (by omega) (by omega)]; rfl) ?_
  refine g1 (n := 2) rfl rfl rfl rfl ?_
  refine g1 (n := 1) rfl rfl rfl rfl ?_
  refine m_is rfl (hh.2.2.2.2.2.1 9 (by omega) (by omega)) (nI_int (by omega)) k ?_
  generalize hM2 : rf_wi M1 (p + 9) s.2.2.1 _ = M2
  replace H : pz fz S p T M2 (p_c1 s) := by rw [← hM2]; exact H.cc (by omega)
  replace F : pz_fr p M M2 := by rw [← hM2]; exact F.wi (by omega)
  replace C : M2.1 p 3 = nI cc := by rw [← hM2, rf_wi_of _ _ (by omega)]; exact C
  replace R5 : ∀ k, 5 ≤ k → k ≤ 15 → M2.2.2 p k = some (p + (k - 4)) := fun k k1 k2 => by rw [← hM2]; exact R5 k k1 k2
  clear hM2 M1
  obtain ⟨M1, hM1⟩ : ∃ M1, M1 = M2 := ⟨M2, rfl⟩
  subst hM1
  refine g1 (n := 2) rfl rfl rfl rfl ?_
  exact gx_ret rfl rfl (Or.inl ⟨k, rfl, _, rfl, H, F⟩)
end PG
