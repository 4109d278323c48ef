/-! THE PARSER: a closed exp, a catch's letter, bodies -/
def p_ix (z : Int32) : Prop := z = Int32.ofInt (-1) ∨ ∃ c, c < 40 ∧ z = nI c
def pdj (fz : Bool) (S : gS) (p : Nat) (T : tK) (d : Nat × Nat) (j : Nat) (args : List Value) (f : pS → pS) : Prop := ∀ (M : rf_M) (s : pS), pz fz S p T M s → gx (cx0 fz) d j 0 (lv_args 0 (.ref 169 :: args)) [] (M, S) (fun r h' => ∃ z M', r = some (.int z) ∧ p_ix z ∧ h' = (M', S) ∧ pz fz S p T M' (f s) ∧ pz_fr p M M')
section M4
variable {cx : rf_C} {d : Nat × Nat} {i pc : Nat} {ls : rf_L} {st : List Value} {Q : Option Value → rf_H → Prop} {M : rf_M} {S : gS}
theorem m_max {J : Instr} {x y : Int32} (hf : cx.1 i pc = some (J, [(13, 0)])) (hk : rf_kd J = 5) (hd : rf_ok8 st d 13 = true) (k : gx cx d i (pc + 3) ls (.int (if x < y then y else x) :: st) (M, S) Q) : gx cx d i pc ls (.int y :: .int x :: st) (M, S) Q := by
  refine gx_step hf (pc' := pc + 3) (ls' := ls) (st' := .int (if x < y then y else x) :: st) (h' := (M, S)) ?_ k
  unfold rf_ex
  simp only [hk]
  show (if (10 : Int) ≤ 13 then (rf_bi cx 13 d (.int y :: .int x :: st) (M, S)).map _ else _) = _
  rw [if_pos (by decide)]
  show ((if rf_ok8 st d 13 = true then some (Value.int (if x < y then y else x) :: st, (M, S)) else none).map _) = _
  rw [if_pos hd]
  rfl
theorem m_lsw {J : Instr} {aux : List (Int × Nat)} {x : Int32} {q0 : Int} {q1 : Array (Int × Int)} {t : Nat} (hf : cx.1 i pc = some (.lookupswitch q0 q1, aux)) (ht : rf_sw aux.tail (rf_tg aux) x.toInt = t) (k : gx cx d i t ls st (M, S) Q) : gx cx d i pc ls (.int x :: st) (M, S) Q := by
  refine g3 hf rfl (pc' := t) (st' := st) ?_ k
  show some (rf_sw aux.tail (rf_tg aux) x.toInt, st) = _
  rw [ht]
end M4
section PH
variable {fz : Bool} {S : gS} {p : Nat} {T : tK} {M M' : rf_M} {s : pS}
theorem p_closed : pdo fz S p T (40, 1020) 46 [] (p_cl T) := by
  intro M s hq
  refine g1 (n := 1) rfl rfl rfl rfl ?_
  refine g1 (n := 1) rfl rfl rfl rfl ?_
  refine m_iv (a := 169) (as := [.int (nI 0)]) (rest := []) rfl (by decide) hq.1.1.1 rfl rfl (Nat.le_of_ble_eq_true rfl) ⟨by show 1 ≤ 40; omega, by show 3 + 19 ≤ 1020; omega, Nat.le_of_ble_eq_true rfl⟩ ?_
  refine gx_room (gx_mono (p_exp0 M s hq) ?_) (by show 39 ≤ 40 - 1; omega) (by show 995 ≤ 1020 - (3 + 19); omega)
  rintro r h' ⟨rfl, M1, rfl, q1, q2⟩
  refine g1 (n := 1) rfl rfl rfl rfl ?_
  refine m_gf rfl q1.1.1.1 rfl (pz_prog q1) ?_
  refine g1 (n := 1) rfl rfl rfl rfl ?_
  refine g1 (n := 1) rfl rfl rfl rfl ?_
  refine m_iv (a := p) (as := [.int _, .int _]) (rest := []) rfl (by decide) q1.1.1.2.2.1 rfl rfl (Nat.le_of_ble_eq_true rfl) ⟨by show 1 ≤ 40; omega, by show 3 + 19 ≤ 1020; omega, Nat.le_of_ble_eq_true rfl⟩ ?_
  refine gx_room (gx_mono (p_emit q1) ?_) (Nat.zero_le _) (Nat.zero_le _)
  rintro r h' ⟨rfl, M2, rfl, q3, q4⟩
  refine g1 (n := 1) rfl rfl rfl rfl ?_
  refine g1 (n := 2) rfl rfl rfl rfl ?_
  refine m_iv (a := 169) (as := [.int 59]) (rest := []) rfl (by decide) q3.1.1.1 rfl rfl (Nat.le_of_ble_eq_true rfl) ⟨by show 1 ≤ 40; omega, by show 2 + 19 ≤ 1020; omega, Nat.le_of_ble_eq_true rfl⟩ ?_
  refine gx_room (gx_mono (p_expect M2 _ q3) ?_) (by show 1 ≤ 40 - 1; omega) (by show 40 ≤ 1020 - (2 + 19); omega)
  rintro r h' ⟨rfl, M3, rfl, q5, q6⟩
  exact gx_ret rfl rfl ⟨rfl, M3, rfl, q5, (q2.trans q4).trans q6⟩
theorem p_local : pdi fz S p T (1, 40) 55 [] (p_loc T) := by
  intro M s hq
  have bad : ¬ (p_is T 1 s = true ∧ p_cell (nb T s.1) = false) → gx (cx0 fz) (1, 40) 55 20 [(1, .int (nb T s.1)), (0, .ref 169)] [] (M, S) (fun r h' => ∃ z M', r = some (.int z) ∧ h' = (M', S) ∧ pz fz S p T M' (p_loc T s) ∧ pz_fr p M M') := by
    intro hc
    refine g1 (n := 1) rfl rfl rfl rfl ?_
    refine m_iv (a := 169) (as := []) (rest := []) rfl (by decide) hq.1.1.1 rfl rfl (Nat.le_of_ble_eq_true rfl) ⟨by show 1 ≤ 1; omega, by show 1 + 19 ≤ 40; omega, Nat.le_of_ble_eq_true rfl⟩ ?_
    refine gx_room (gx_mono (p_refuse M s hq) ?_) (Nat.zero_le _) (Nat.zero_le _)
    rintro r h' ⟨rfl, M1, rfl, q1, q2⟩
    refine g1 (n := 2) rfl rfl rfl rfl ?_
    refine gx_ret rfl rfl ⟨_, M1, rfl, rfl, ?_, q2⟩
    unfold p_loc
    rw [if_neg hc]
    exact q1
  refine g1 (n := 1) rfl rfl rfl rfl ?_
  refine m_iv (a := 169) (as := []) (rest := []) rfl (by decide) hq.1.1.1 rfl rfl (Nat.le_of_ble_eq_true rfl) ⟨by show 1 ≤ 1; omega, by show 1 + 19 ≤ 40; omega, Nat.le_of_ble_eq_true rfl⟩ ?_
  refine gx_room (gx_mono (p_number hq) ?_) (Nat.zero_le _) (Nat.zero_le _)
  rintro r h' ⟨rfl, rfl⟩
  refine g2 (n := 1) rfl rfl rfl rfl ?_
  refine g1 (n := 1) rfl rfl rfl rfl ?_
  refine g1 (n := 1) rfl rfl rfl rfl ?_
  refine m_iv (a := 169) (as := [.int 1]) (rest := []) rfl (by decide) hq.1.1.1 rfl rfl (Nat.le_of_ble_eq_true rfl) ⟨by show 1 ≤ 1; omega, by show 2 + 19 ≤ 40; omega, Nat.le_of_ble_eq_true rfl⟩ ?_
  refine gx_room (gx_mono (p_isAt hq) ?_) (Nat.zero_le _) (Nat.zero_le _)
  rintro r h' ⟨rfl, rfl⟩
  refine g_if rfl (fun c => bad (fun z => by rw [bI_no c] at z; cases z.1)) (fun c => ?_)
  have y1 := bI_yes c
  refine g1 (n := 1) rfl rfl rfl rfl ?_
  refine m_st (as := [.int (nb T s.1)]) (rest := []) rfl (by decide) rfl (Nat.le_of_ble_eq_true rfl) ⟨Nat.le_of_ble_eq_true rfl, Nat.le_of_ble_eq_true rfl, Nat.le_of_ble_eq_true rfl⟩ ?_
  refine gx_room (gx_mono (p_isCell (x := nb T s.1)) ?_) (Nat.zero_le _) (Nat.zero_le _)
  rintro r h' ⟨rfl, rfl⟩
  refine g_if rfl (fun c2 => ?_) (fun c2 => bad (fun z => by rw [bI_yes c2] at z; cases z.2))
  have n2 := bI_no c2
  refine g1 (n := 1) rfl rfl rfl rfl ?_
  refine m_iv (a := 169) (as := []) (rest := []) rfl (by decide) hq.1.1.1 rfl rfl (Nat.le_of_ble_eq_true rfl) ⟨by show 1 ≤ 1; omega, by show 1 + 19 ≤ 40; omega, Nat.le_of_ble_eq_true rfl⟩ ?_
  refine gx_room (gx_mono (p_advance M s hq) ?_) (Nat.zero_le _) (Nat.zero_le _)
  rintro r h' ⟨rfl, M1, rfl, q1, q2⟩
  refine g1 (n := 1) rfl rfl rfl rfl ?_
  refine gx_ret rfl rfl ⟨_, M1, rfl, rfl, ?_, q2⟩
  unfold p_loc
  rw [if_pos ⟨y1, n2⟩]
  exact q1
theorem p_body0 {x y : Int32} : pdi fz S p T (40, 1030) 54 [.int x, .int y, .int (nI 8)] (p_body T 0) := by
  intro M s hq
  have bad : p_body T 0 s = p_bad s → gx (cx0 fz) (40, 1030) 54 15 [(0, .ref 169), (1, .int x), (2, .int y), (3, .int (nI 8))] [] (M, S) (fun r h' => ∃ z M', r = some (.int z) ∧ h' = (M', S) ∧ pz fz S p T M' (p_body T 0 s) ∧ pz_fr p M M') := by
    intro hc
    refine g1 (n := 1) rfl rfl rfl rfl ?_
    refine m_iv (a := 169) (as := []) (rest := []) rfl (by decide) hq.1.1.1 rfl rfl (Nat.le_of_ble_eq_true rfl) ⟨by show 1 ≤ 40; omega, by show 1 + 19 ≤ 1030; omega, Nat.le_of_ble_eq_true rfl⟩ ?_
    refine gx_room (gx_mono (p_refuse M s hq) ?_) (Nat.zero_le _) (Nat.zero_le _)
    rintro r h' ⟨rfl, M1, rfl, q1, q2⟩
    refine g1 (n := 1) rfl rfl rfl rfl ?_
    refine gx_ret rfl rfl ⟨_, M1, rfl, rfl, ?_, q2⟩
    rw [hc]
    exact q1
  refine g1 (n := 1) rfl rfl rfl rfl ?_
  refine g1 (n := 2) rfl rfl rfl rfl ?_
  refine m_iv (a := 169) (as := [.int 123]) (rest := []) rfl (by decide) hq.1.1.1 rfl rfl (Nat.le_of_ble_eq_true rfl) ⟨by show 1 ≤ 40; omega, by show 2 + 19 ≤ 1030; omega, Nat.le_of_ble_eq_true rfl⟩ ?_
  refine gx_room (gx_mono (p_isAt hq) ?_) (Nat.zero_le _) (Nat.zero_le _)
  rintro r h' ⟨rfl, rfl⟩
  refine g_if rfl (fun c => bad rfl) (fun c => ?_)
  have y1 := bI_yes c
  refine g1 (n := 1) rfl rfl rfl rfl ?_
  refine g1 (n := 2) rfl rfl rfl rfl ?_
  refine g_ic rfl (fun c8 => absurd c8 (by decide)) (fun _ => bad rfl)
theorem p_bodyS {f d : Nat} {x y : Int32} (hd : d + (f + 1) = 8) (hs : pdj fz S p T (43 + 4 * f, 1102 + 99 * f) 35 [.int x, .int y, .int (nI (d + 1))] (p_sts T (p_body T f))) : pdi fz S p T (40 + 4 * (f + 1), 1030 + 99 * (f + 1)) 54 [.int x, .int y, .int (nI d)] (p_body T (f + 1)) := by
  intro M s hq
  have bad : p_body T (f + 1) s = p_bad s → gx (cx0 fz) (40 + 4 * (f + 1), 1030 + 99 * (f + 1)) 54 15 [(0, .ref 169), (1, .int x), (2, .int y), (3, .int (nI d))] [] (M, S) (fun r h' => ∃ z M', r = some (.int z) ∧ h' = (M', S) ∧ pz fz S p T M' (p_body T (f + 1) s) ∧ pz_fr p M M') := by
    intro hc
    refine g1 (n := 1) rfl rfl rfl rfl ?_
    refine m_iv (a := 169) (as := []) (rest := []) rfl (by decide) hq.1.1.1 rfl rfl (Nat.le_of_ble_eq_true rfl) ⟨by show 1 ≤ 40 + 4 * (f + 1); omega, by show 1 + 19 ≤ 1030 + 99 * (f + 1); omega, Nat.le_of_ble_eq_true rfl⟩ ?_
    refine gx_room (gx_mono (p_refuse M s hq) ?_) (Nat.zero_le _) (Nat.zero_le _)
    rintro r h' ⟨rfl, M1, rfl, q1, q2⟩
    refine g1 (n := 1) rfl rfl rfl rfl ?_
    refine gx_ret rfl rfl ⟨_, M1, rfl, rfl, ?_, q2⟩
    rw [hc]
    exact q1
  refine g1 (n := 1) rfl rfl rfl rfl ?_
  refine g1 (n := 2) rfl rfl rfl rfl ?_
  refine m_iv (a := 169) (as := [.int 123]) (rest := []) rfl (by decide) hq.1.1.1 rfl rfl (Nat.le_of_ble_eq_true rfl) ⟨by show 1 ≤ 40 + 4 * (f + 1); omega, by show 2 + 19 ≤ 1030 + 99 * (f + 1); omega, Nat.le_of_ble_eq_true rfl⟩ ?_
  refine gx_room (gx_mono (p_isAt hq) ?_) (Nat.zero_le _) (Nat.zero_le _)
  rintro r h' ⟨rfl, rfl⟩
  refine g_if rfl (fun c => bad (by unfold p_body; rw [if_neg (by rw [bI_no c]; simp)])) (fun c => ?_)
  have y1 := bI_yes c
  refine g1 (n := 1) rfl rfl rfl rfl ?_
  refine g1 (n := 2) rfl rfl rfl rfl ?_
  refine g_ic rfl (fun _ => ?_) (fun c8 => absurd ((rf_cc_iff (nI d) 8 .lt).mpr (by show (nI d).toInt < 8; rw [nI_int (by omega)]; omega)) c8)
  refine g1 (n := 1) rfl rfl rfl rfl ?_
  refine m_iv (a := 169) (as := []) (rest := []) rfl (by decide) hq.1.1.1 rfl rfl (Nat.le_of_ble_eq_true rfl) ⟨by show 1 ≤ 40 + 4 * (f + 1); omega, by show 1 + 19 ≤ 1030 + 99 * (f + 1); omega, Nat.le_of_ble_eq_true rfl⟩ ?_
  refine gx_room (gx_mono (p_advance M s hq) ?_) (Nat.zero_le _) (Nat.zero_le _)
  rintro r h' ⟨rfl, M1, rfl, q1, q2⟩
  refine g1 (n := 1) rfl rfl rfl rfl ?_
  refine m_gf rfl q1.1.1.1 rfl (pz_prog q1) ?_
  refine g1 (n := 1) rfl rfl rfl rfl ?_
  refine m_gf rfl q1.1.1.1 rfl (pz_prog q1) ?_
  have hdp := q1.2.2.2.2.2.1
  refine m_gf rfl q1.1.1.2.2.1 rfl (v := .int (nI (p_adv T s).2.2.2.2.1)) (by show Value.int (M1.1 p 2) = _; rw [hdp.1]) ?_
  refine g1 (n := 1) rfl rfl rfl rfl ?_
  refine g1 (n := 1) rfl rfl rfl rfl ?_
  refine g0 rfl rfl rfl ?_
  rw [nI_suc (by omega)]
  have hdb := hdp.2
  refine m_max rfl rfl (by unfold rf_ok8; simp only [Bool.and_eq_true, decide_eq_true_eq]; exact ⟨by show 1 ≤ 40 + 4 * (f + 1); omega, by show 1 + 13 ≤ 1030 + 99 * (f + 1); omega⟩) ?_
  have em : (if nI (p_adv T s).2.2.2.2.1 < nI (d + 1) then nI (d + 1) else nI (p_adv T s).2.2.2.2.1) = nI (max (p_adv T s).2.2.2.2.1 (8 - f)) := by
    rw [show 8 - f = d + 1 by omega]
    split
    · rename_i hlt
      rw [Int32.lt_iff_toInt_lt, nI_int (by omega), nI_int (by omega)] at hlt
      congr 1
      omega
    · rename_i hlt
      rw [Int32.lt_iff_toInt_lt, nI_int (by omega), nI_int (by omega)] at hlt
      congr 1
      omega
  rw [em]
  refine m_pf rfl q1.1.1.2.2.1 rfl (M' := rf_wi M1 p 2 (nI (max (p_adv T s).2.2.2.2.1 (8 - f)))) rfl ?_
  have q3 := q1.dp (m := 8 - f) (by omega)
  have q4 : pz_fr p M (rf_wi M1 p 2 (nI (max (p_adv T s).2.2.2.2.1 (8 - f)))) := q2.wi (by omega)
  generalize rf_wi M1 p 2 (nI (max (p_adv T s).2.2.2.2.1 (8 - f))) = M2 at q3 q4 ⊢
  refine g1 (n := 1) rfl rfl rfl rfl ?_
  refine g1 (n := 1) rfl rfl rfl rfl ?_
  refine g1 (n := 1) rfl rfl rfl rfl ?_
  refine g1 (n := 1) rfl rfl rfl rfl ?_
  refine g1 (n := 1) rfl rfl rfl rfl ?_
  refine g0 rfl rfl rfl ?_
  rw [nI_suc (by omega)]
  refine m_iv (a := 169) (as := [.int x, .int y, .int (nI (d + 1))]) (rest := []) rfl (by decide) q3.1.1.1 rfl rfl (Nat.le_of_ble_eq_true rfl) ⟨by show 1 ≤ 40 + 4 * (f + 1); omega, by show 8 + 19 ≤ 1030 + 99 * (f + 1); omega, Nat.le_of_ble_eq_true rfl⟩ ?_
  refine gx_room (gx_mono (hs M2 _ q3) ?_) (by show 43 + 4 * f ≤ 40 + 4 * (f + 1) - 1; omega) (by show 1102 + 99 * f ≤ 1030 + 99 * (f + 1) - (8 + 19); omega)
  rintro r h' ⟨z, M3, rfl, -, rfl, q5, q6⟩
  refine g2 (n := 2) rfl rfl rfl rfl ?_
  refine g1 (n := 1) rfl rfl rfl rfl ?_
  refine g1 (n := 2) rfl rfl rfl rfl ?_
  refine m_iv (a := 169) (as := [.int 125]) (rest := []) rfl (by decide) q5.1.1.1 rfl rfl (Nat.le_of_ble_eq_true rfl) ⟨by show 1 ≤ 40 + 4 * (f + 1); omega, by show 2 + 19 ≤ 1030 + 99 * (f + 1); omega, Nat.le_of_ble_eq_true rfl⟩ ?_
  refine gx_room (gx_mono (p_expect M3 _ q5) ?_) (by show 1 ≤ 40 + 4 * (f + 1) - 1; omega) (by show 40 ≤ 1030 + 99 * (f + 1) - (2 + 19); omega)
  rintro r h' ⟨rfl, M4, rfl, q7, q8⟩
  refine g1 (n := 2) rfl rfl rfl rfl ?_
  refine gx_ret rfl rfl ⟨_, M4, rfl, rfl, ?_, (q4.trans q6).trans q8⟩
  unfold p_body
  rw [if_pos y1]
  exact q7
theorem p_compound {f d c : Nat} {k : Int32} (hc40 : c < 40) (hb : ∀ x y, pdi fz S p T (40 + 4 * f, 1030 + 99 * f) 54 [.int x, .int y, .int (nI d)] (p_body T f)) : pdo fz S p T (41 + 4 * f, 1054 + 99 * f) 53 [.int k, .int (nI c), .int (nI d)] (p_com T k (p_body T f)) := by
  intro M s hq0
  have f117 : ∀ (M' : rf_M) (s' : pS), pz fz S p T M' s' → pz_fr p M M' → gx (cx0 fz) (41 + 4 * f, 1054 + 99 * f) 53 117 [(0, .ref 169), (1, .int k), (2, .int (nI c)), (3, .int (nI d))] [] (M', S) (fun r h' => r = none ∧ ∃ M', h' = (M', S) ∧ pz fz S p T M' (p_ca T k (p_body T f) s') ∧ pz_fr p M M') := by
    intro M' s' hq hfr
    refine g1 (n := 1) rfl rfl rfl rfl ?_
    refine g1 (n := 2) rfl rfl rfl rfl ?_
    refine g_ic rfl (fun ck => ?_) (fun ck => ?_)
    · have ck : ¬ k = 17 := fun z => (rf_cc_iff k 17 .ne).mp ck (by rw [z])
      refine gx_ret rfl rfl ⟨rfl, M', rfl, ?_, hfr⟩
      unfold p_ca
      rw [if_neg ck]
      exact hq
    have ck : k = 17 := Classical.byContradiction fun z => ck ((rf_cc_iff k 17 .ne).mpr (fun w => z (Int32.toInt_inj.mp w)))
    refine g1 (n := 1) rfl rfl rfl rfl ?_
    refine g1 (n := 2) rfl rfl rfl rfl ?_
    refine m_iv (a := 169) (as := [.int 18]) (rest := []) rfl (by decide) hq.1.1.1 rfl rfl (Nat.le_of_ble_eq_true rfl) ⟨by show 1 ≤ 41 + 4 * f; omega, by show 2 + 19 ≤ 1054 + 99 * f; omega, Nat.le_of_ble_eq_true rfl⟩ ?_
    refine gx_room (gx_mono (p_expect M' _ hq) ?_) (by show 1 ≤ 41 + 4 * f - 1; omega) (by show 40 ≤ 1054 + 99 * f - (2 + 19); omega)
    rintro r h' ⟨rfl, M1, rfl, q1, q2⟩
    refine g1 (n := 1) rfl rfl rfl rfl ?_
    refine m_gf rfl q1.1.1.1 rfl (pz_prog q1) ?_
    refine m_gf rfl q1.1.1.2.2.1 rfl (v := .ref (p + 2)) (by show va_rf (M1.2.2 p 6) = _; rw [q1.1.2.1.2.2.2.2.2 6 (by omega) (by omega)]; rfl) ?_
    refine g1 (n := 1) rfl rfl rfl rfl ?_
    refine g1 (n := 1) rfl rfl rfl rfl ?_
    refine m_iv (a := 169) (as := []) (rest := [.int (nI c), .ref (p + 2)]) rfl (by decide) q1.1.1.1 rfl rfl (Nat.le_of_ble_eq_true rfl) ⟨by show 1 ≤ 41 + 4 * f; omega, by show 2 + 19 ≤ 1054 + 99 * f; omega, Nat.le_of_ble_eq_true rfl⟩ ?_
    refine gx_room (gx_mono (p_local M1 _ q1) ?_) (by show 1 ≤ 41 + 4 * f - 1; omega) (by show 40 ≤ 1054 + 99 * f - (2 + 19); omega)
    rintro r h' ⟨z, M2, rfl, rfl, q3, q4⟩
    have hpb : 25 ≤ p ∧ p + 11 ≤ 168 := ⟨q3.1.1.2.2.2.1, q3.1.1.2.2.2.2.1⟩
    refine m_is rfl (q3.1.1.2.2.2.2.2.1 2 (by omega) (by omega)) (nI_int (by omega)) hc40 ?_
    have q5 := q3.cc (a := p + 2) (k := c) (x := z) (by omega)
    have q6 : pz_fr p M (rf_wi M2 (p + 2) c z) := ((hfr.trans q2).trans q4).wi (by omega)
    generalize rf_wi M2 (p + 2) c z = M3 at q5 q6 ⊢
    refine g1 (n := 1) rfl rfl rfl rfl ?_
    refine m_gf rfl q5.1.1.1 rfl (pz_prog q5) ?_
    refine m_gf rfl q5.1.1.2.2.1 rfl (v := .ref (p + 9)) (by show va_rf (M3.2.2 p 13) = _; rw [q5.1.2.1.2.2.2.2.2 13 (by omega) (by omega)]; rfl) ?_
    refine g1 (n := 1) rfl rfl rfl rfl ?_
    refine g1 (n := 1) rfl rfl rfl rfl ?_
    refine g1 (n := 1) rfl rfl rfl rfl ?_
    refine g1 (n := 1) rfl rfl rfl rfl ?_
    refine g1 (n := 1) rfl rfl rfl rfl ?_
    refine m_iv (a := 169) (as := [.int (nI c), .int _, .int (nI d)]) (rest := [.int (nI c), .ref (p + 9)]) rfl (by decide) q5.1.1.1 rfl rfl (Nat.le_of_ble_eq_true rfl) ⟨by show 1 ≤ 41 + 4 * f; omega, by show 5 + 19 ≤ 1054 + 99 * f; omega, Nat.le_of_ble_eq_true rfl⟩ ?_
    refine gx_room (gx_mono (hb _ _ M3 _ q5) ?_) (by show 40 + 4 * f ≤ 41 + 4 * f - 1; omega) (by show 1030 + 99 * f ≤ 1054 + 99 * f - (5 + 19); omega)
    rintro r h' ⟨z, Mb, rfl, rfl, b1, b2⟩
    refine m_is rfl (b1.1.1.2.2.2.2.2.1 9 (by omega) (by omega)) (nI_int (by omega)) hc40 ?_
    refine gx_ret rfl rfl ⟨rfl, _, rfl, ?_, (q6.trans b2).wi (by omega)⟩
    unfold p_ca
    rw [if_pos ck]
    exact b1.cc (by omega)
  have f89 : ∀ (M' : rf_M) (s' : pS), pz fz S p T M' s' → pz_fr p M M' → gx (cx0 fz) (41 + 4 * f, 1054 + 99 * f) 53 89 [(0, .ref 169), (1, .int k), (2, .int (nI c)), (3, .int (nI d))] [] (M', S) (fun r h' => r = none ∧ ∃ M', h' = (M', S) ∧ pz fz S p T M' (p_ca T k (p_body T f) (p_or T k (p_body T f) s')) ∧ pz_fr p M M') := by
    intro M' s' hq hfr
    refine g1 (n := 1) rfl rfl rfl rfl ?_
    refine g1 (n := 2) rfl rfl rfl rfl ?_
    refine g_ic rfl (fun ck => ?_) (fun ck => ?_)
    · have ck : ¬ k = 15 := fun z => (rf_cc_iff k 15 .ne).mp ck (by rw [z])
      have := f117 M' s' hq hfr
      have e : p_or T k (p_body T f) s' = s' := by unfold p_or; rw [if_neg ck]
      rw [e]
      exact this
    have ck : k = 15 := Classical.byContradiction fun z => ck ((rf_cc_iff k 15 .ne).mpr (fun w => z (Int32.toInt_inj.mp w)))
    refine g1 (n := 1) rfl rfl rfl rfl ?_
    refine g1 (n := 2) rfl rfl rfl rfl ?_
    refine m_iv (a := 169) (as := [.int 16]) (rest := []) rfl (by decide) hq.1.1.1 rfl rfl (Nat.le_of_ble_eq_true rfl) ⟨by show 1 ≤ 41 + 4 * f; omega, by show 2 + 19 ≤ 1054 + 99 * f; omega, Nat.le_of_ble_eq_true rfl⟩ ?_
    refine gx_room (gx_mono (p_expect M' _ hq) ?_) (by show 1 ≤ 41 + 4 * f - 1; omega) (by show 40 ≤ 1054 + 99 * f - (2 + 19); omega)
    rintro r h' ⟨rfl, M1, rfl, q1, q2⟩
    have hpb : 25 ≤ p ∧ p + 11 ≤ 168 := ⟨q1.1.1.2.2.2.1, q1.1.1.2.2.2.2.1⟩
    refine g1 (n := 1) rfl rfl rfl rfl ?_
    refine m_gf rfl q1.1.1.1 rfl (pz_prog q1) ?_
    refine m_gf rfl q1.1.1.2.2.1 rfl (v := .ref (p + 9)) (by show va_rf (M1.2.2 p 13) = _; rw [q1.1.2.1.2.2.2.2.2 13 (by omega) (by omega)]; rfl) ?_
    refine g1 (n := 1) rfl rfl rfl rfl ?_
    refine g1 (n := 1) rfl rfl rfl rfl ?_
    refine g1 (n := 1) rfl rfl rfl rfl ?_
    refine g1 (n := 1) rfl rfl rfl rfl ?_
    refine g1 (n := 1) rfl rfl rfl rfl ?_
    refine m_iv (a := 169) (as := [.int (nI c), .int _, .int (nI d)]) (rest := [.int (nI c), .ref (p + 9)]) rfl (by decide) q1.1.1.1 rfl rfl (Nat.le_of_ble_eq_true rfl) ⟨by show 1 ≤ 41 + 4 * f; omega, by show 5 + 19 ≤ 1054 + 99 * f; omega, Nat.le_of_ble_eq_true rfl⟩ ?_
    refine gx_room (gx_mono (hb _ _ M1 _ q1) ?_) (by show 40 + 4 * f ≤ 41 + 4 * f - 1; omega) (by show 1030 + 99 * f ≤ 1054 + 99 * f - (5 + 19); omega)
    rintro r h' ⟨z, Mb, rfl, rfl, b1, b2⟩
    refine m_is rfl (b1.1.1.2.2.2.2.2.1 9 (by omega) (by omega)) (nI_int (by omega)) hc40 ?_
    have e : p_or T k (p_body T f) s' = p_body T f (p_ex T 16 s') := by unfold p_or; rw [if_pos ck]
    rw [e]
    exact f117 _ _ (b1.cc (by omega)) (((hfr.trans q2).trans b2).wi (by omega))
  have f54 : ∀ (M' : rf_M) (s' : pS), pz fz S p T M' s' → pz_fr p M M' → gx (cx0 fz) (41 + 4 * f, 1054 + 99 * f) 53 54 [(0, .ref 169), (1, .int k), (2, .int (nI c)), (3, .int (nI d))] [] (M', S) (fun r h' => r = none ∧ ∃ M', h' = (M', S) ∧ pz fz S p T M' (p_ca T k (p_body T f) (p_or T k (p_body T f) (p_el T k (p_body T f) s'))) ∧ pz_fr p M M') := by
    intro M' s' hq hfr
    refine g1 (n := 1) rfl rfl rfl rfl ?_
    refine g1 (n := 2) rfl rfl rfl rfl ?_
    refine g_ic rfl (fun ck => ?_) (fun ck => ?_)
    · have ck : ¬ k = 10 := fun z => (rf_cc_iff k 10 .ne).mp ck (by rw [z])
      have := f89 M' s' hq hfr
      have e : p_el T k (p_body T f) s' = s' := by unfold p_el; rw [if_neg (fun z => ck z.1)]
      rw [e]
      exact this
    have ck : k = 10 := Classical.byContradiction fun z => ck ((rf_cc_iff k 10 .ne).mpr (fun w => z (Int32.toInt_inj.mp w)))
    refine g1 (n := 1) rfl rfl rfl rfl ?_
    refine g1 (n := 2) rfl rfl rfl rfl ?_
    refine m_iv (a := 169) (as := [.int 11]) (rest := []) rfl (by decide) hq.1.1.1 rfl rfl (Nat.le_of_ble_eq_true rfl) ⟨by show 1 ≤ 41 + 4 * f; omega, by show 2 + 19 ≤ 1054 + 99 * f; omega, Nat.le_of_ble_eq_true rfl⟩ ?_
    refine gx_room (gx_mono (p_isAt hq) ?_) (Nat.zero_le _) (Nat.zero_le _)
    rintro r h' ⟨rfl, rfl⟩
    refine g_if rfl (fun c2 => ?_) (fun c2 => ?_)
    · have := f89 M' s' hq hfr
      have e : p_el T k (p_body T f) s' = s' := by unfold p_el; rw [if_neg (fun z => by rw [bI_no c2] at z; cases z.2)]
      rw [e]
      exact this
    have y2 := bI_yes c2
    refine g1 (n := 1) rfl rfl rfl rfl ?_
    refine m_iv (a := 169) (as := []) (rest := []) rfl (by decide) hq.1.1.1 rfl rfl (Nat.le_of_ble_eq_true rfl) ⟨by show 1 ≤ 41 + 4 * f; omega, by show 1 + 19 ≤ 1054 + 99 * f; omega, Nat.le_of_ble_eq_true rfl⟩ ?_
    refine gx_room (gx_mono (p_advance M' _ hq) ?_) (Nat.zero_le _) (Nat.zero_le _)
    rintro r h' ⟨rfl, M1, rfl, q1, q2⟩
    have hpb : 25 ≤ p ∧ p + 11 ≤ 168 := ⟨q1.1.1.2.2.2.1, q1.1.1.2.2.2.2.1⟩
    refine g1 (n := 1) rfl rfl rfl rfl ?_
    refine m_gf rfl q1.1.1.1 rfl (pz_prog q1) ?_
    refine m_gf rfl q1.1.1.2.2.1 rfl (v := .ref (p + 9)) (by show va_rf (M1.2.2 p 13) = _; rw [q1.1.2.1.2.2.2.2.2 13 (by omega) (by omega)]; rfl) ?_
    refine g1 (n := 1) rfl rfl rfl rfl ?_
    refine g1 (n := 1) rfl rfl rfl rfl ?_
    refine g1 (n := 1) rfl rfl rfl rfl ?_
    refine g1 (n := 1) rfl rfl rfl rfl ?_
    refine g1 (n := 1) rfl rfl rfl rfl ?_
    refine m_iv (a := 169) (as := [.int (nI c), .int _, .int (nI d)]) (rest := [.int (nI c), .ref (p + 9)]) rfl (by decide) q1.1.1.1 rfl rfl (Nat.le_of_ble_eq_true rfl) ⟨by show 1 ≤ 41 + 4 * f; omega, by show 5 + 19 ≤ 1054 + 99 * f; omega, Nat.le_of_ble_eq_true rfl⟩ ?_
    refine gx_room (gx_mono (hb _ _ M1 _ q1) ?_) (by show 40 + 4 * f ≤ 41 + 4 * f - 1; omega) (by show 1030 + 99 * f ≤ 1054 + 99 * f - (5 + 19); omega)
    rintro r h' ⟨z, Mb, rfl, rfl, b1, b2⟩
    refine m_is rfl (b1.1.1.2.2.2.2.2.1 9 (by omega) (by omega)) (nI_int (by omega)) hc40 ?_
    have e : p_el T k (p_body T f) s' = p_body T f (p_adv T s') := by unfold p_el; rw [if_pos ⟨ck, y2⟩]
    rw [e]
    exact f89 _ _ (b1.cc (by omega)) (((hfr.trans q2).trans b2).wi (by omega))
  have f38 : ∀ (M' : rf_M) (s' : pS), pz fz S p T M' s' → pz_fr p M M' → gx (cx0 fz) (41 + 4 * f, 1054 + 99 * f) 53 38 [(0, .ref 169), (1, .int k), (2, .int (nI c)), (3, .int (nI d))] [] (M', S) (fun r h' => r = none ∧ ∃ M', h' = (M', S) ∧ pz fz S p T M' (p_ca T k (p_body T f) (p_or T k (p_body T f) (p_el T k (p_body T f) (p_body T f s')))) ∧ pz_fr p M M') := by
    intro M' s' hq hfr
    have hpb : 25 ≤ p ∧ p + 11 ≤ 168 := ⟨hq.1.1.2.2.2.1, hq.1.1.2.2.2.2.1⟩
    refine g1 (n := 1) rfl rfl rfl rfl ?_
    refine m_gf rfl hq.1.1.1 rfl (pz_prog hq) ?_
    refine m_gf rfl hq.1.1.2.2.1 rfl (v := .ref (p + 8)) (by show va_rf (M'.2.2 p 12) = _; rw [hq.1.2.1.2.2.2.2.2 12 (by omega) (by omega)]; rfl) ?_
    refine g1 (n := 1) rfl rfl rfl rfl ?_
    refine g1 (n := 1) rfl rfl rfl rfl ?_
    refine g1 (n := 1) rfl rfl rfl rfl ?_
    refine g1 (n := 1) rfl rfl rfl rfl ?_
    refine g1 (n := 1) rfl rfl rfl rfl ?_
    refine m_iv (a := 169) (as := [.int (nI c), .int _, .int (nI d)]) (rest := [.int (nI c), .ref (p + 8)]) rfl (by decide) hq.1.1.1 rfl rfl (Nat.le_of_ble_eq_true rfl) ⟨by show 1 ≤ 41 + 4 * f; omega, by show 5 + 19 ≤ 1054 + 99 * f; omega, Nat.le_of_ble_eq_true rfl⟩ ?_
    refine gx_room (gx_mono (hb _ _ M' _ hq) ?_) (by show 40 + 4 * f ≤ 41 + 4 * f - 1; omega) (by show 1030 + 99 * f ≤ 1054 + 99 * f - (5 + 19); omega)
    rintro r h' ⟨z, Mb, rfl, rfl, b1, b2⟩
    refine m_is rfl (b1.1.1.2.2.2.2.2.1 8 (by omega) (by omega)) (nI_int (by omega)) hc40 ?_
    exact f54 _ _ (b1.cc (by omega)) ((hfr.trans b2).wi (by omega))
  have f12 : (k = 10 ∨ k = 12) → gx (cx0 fz) (41 + 4 * f, 1054 + 99 * f) 53 12 [(0, .ref 169), (1, .int k), (2, .int (nI c)), (3, .int (nI d))] [] (M, S) (fun r h' => r = none ∧ ∃ M', h' = (M', S) ∧ pz fz S p T M' (p_com T k (p_body T f) s) ∧ pz_fr p M M') := by
    intro hk
    refine g1 (n := 1) rfl rfl rfl rfl ?_
    refine g1 (n := 2) rfl rfl rfl rfl ?_
    refine m_iv (a := 169) (as := [.int 40]) (rest := []) rfl (by decide) hq0.1.1.1 rfl rfl (Nat.le_of_ble_eq_true rfl) ⟨by show 1 ≤ 41 + 4 * f; omega, by show 2 + 19 ≤ 1054 + 99 * f; omega, Nat.le_of_ble_eq_true rfl⟩ ?_
    refine gx_room (gx_mono (p_expect M _ hq0) ?_) (by show 1 ≤ 41 + 4 * f - 1; omega) (by show 40 ≤ 1054 + 99 * f - (2 + 19); omega)
    rintro r h' ⟨rfl, M1, rfl, q1, q2⟩
    refine g1 (n := 1) rfl rfl rfl rfl ?_
    refine g1 (n := 1) rfl rfl rfl rfl ?_
    refine m_iv (a := 169) (as := [.int (nI 0)]) (rest := []) rfl (by decide) q1.1.1.1 rfl rfl (Nat.le_of_ble_eq_true rfl) ⟨by show 1 ≤ 41 + 4 * f; omega, by show 3 + 19 ≤ 1054 + 99 * f; omega, Nat.le_of_ble_eq_true rfl⟩ ?_
    refine gx_room (gx_mono (p_exp0 M1 _ q1) ?_) (by show 39 ≤ 41 + 4 * f - 1; omega) (by show 995 ≤ 1054 + 99 * f - (3 + 19); omega)
    rintro r h' ⟨rfl, M2, rfl, q3, q4⟩
    refine g1 (n := 1) rfl rfl rfl rfl ?_
    refine m_gf rfl q3.1.1.1 rfl (pz_prog q3) ?_
    refine g1 (n := 1) rfl rfl rfl rfl ?_
    refine g1 (n := 1) rfl rfl rfl rfl ?_
    refine m_iv (a := p) (as := [.int _, .int _]) (rest := []) rfl (by decide) q3.1.1.2.2.1 rfl rfl (Nat.le_of_ble_eq_true rfl) ⟨by show 1 ≤ 41 + 4 * f; omega, by show 3 + 19 ≤ 1054 + 99 * f; omega, Nat.le_of_ble_eq_true rfl⟩ ?_
    refine gx_room (gx_mono (p_emit q3) ?_) (Nat.zero_le _) (Nat.zero_le _)
    rintro r h' ⟨rfl, M3, rfl, q5, q6⟩
    refine g1 (n := 1) rfl rfl rfl rfl ?_
    refine g1 (n := 2) rfl rfl rfl rfl ?_
    refine m_iv (a := 169) (as := [.int 41]) (rest := []) rfl (by decide) q5.1.1.1 rfl rfl (Nat.le_of_ble_eq_true rfl) ⟨by show 1 ≤ 41 + 4 * f; omega, by show 2 + 19 ≤ 1054 + 99 * f; omega, Nat.le_of_ble_eq_true rfl⟩ ?_
    refine gx_room (gx_mono (p_expect M3 _ q5) ?_) (by show 1 ≤ 41 + 4 * f - 1; omega) (by show 40 ≤ 1054 + 99 * f - (2 + 19); omega)
    rintro r h' ⟨rfl, M4, rfl, q7, q8⟩
    have e : p_if T k s = p_ex T 41 (p_exq T (p_ex T 40 s)) := by unfold p_if; rw [if_pos hk]
    unfold p_com
    rw [e]
    exact f38 M4 _ q7 (((q2.trans q4).trans q6).trans q8)
  refine g1 (n := 1) rfl rfl rfl rfl ?_
  refine g1 (n := 2) rfl rfl rfl rfl ?_
  refine g_ic rfl (fun ck => f12 (Or.inl (of_decide_eq_true ck))) (fun ck => ?_)
  refine g1 (n := 1) rfl rfl rfl rfl ?_
  refine g1 (n := 2) rfl rfl rfl rfl ?_
  refine g_ic rfl (fun ck2 => ?_) (fun ck2 => ?_)
  · have e : p_if T k s = s := by
      unfold p_if
      rw [if_neg]
      rintro (z | z)
      · exact ck (decide_eq_true z)
      · exact (rf_cc_iff k 12 .ne).mp ck2 (by rw [z])
    unfold p_com
    rw [e]
    exact f38 M s hq0 (pz_fr.rfl' p M)
  · exact f12 (Or.inr (Classical.byContradiction fun z => ck2 ((rf_cc_iff k 12 .ne).mpr (fun w => z (Int32.toInt_inj.mp w)))))
end PH
