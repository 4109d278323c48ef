/-! THE PARSER: an exp, a unary -/
section PF
variable {fz : Bool} {S : gS} {p : Nat} {T : tK} {M M' : rf_M} {s : pS} {R1 R2 : Nat}
theorem p_exp {d : Nat} {u : pS → pS} (hR1 : 2 ≤ R1) (hR2 : 80 ≤ R2) (hu : pdo fz S p T (R1, R2) 48 [.int (nI d)] (p_sum T u)) : pdo fz S p T (R1 + 1, R2 + 25) 47 [.int (nI d)] (p_expr T u) := by
  intro M s hq
  refine g1 (n := 1) rfl rfl rfl rfl ?_
  refine g1 (n := 1) rfl rfl rfl rfl ?_
  refine m_iv (a := 169) (as := [.int (nI d)]) (rest := []) rfl (by decide) hq.1.1.1 rfl rfl (Nat.le_of_ble_eq_true rfl) ⟨by show 1 ≤ R1 + 1; omega, by show 4 + 19 ≤ R2 + 25; omega, Nat.le_of_ble_eq_true rfl⟩ ?_
  refine gx_room (gx_mono (hu M s hq) ?_) (by show R1 ≤ R1 + 1 - 1; omega) (by show R2 ≤ R2 + 25 - (4 + 19); omega)
  rintro r h' ⟨rfl, M1, rfl, q1, q2⟩
  have bod : p_c T (p_sum T u s) = true → gx (cx0 fz) (R1 + 1, R2 + 25) 47 32 [(0, .ref 169), (1, .int (nI d))] [] (M1, S) (fun r h' => r = none ∧ ∃ M', h' = (M', S) ∧ pz fz S p T M' (p_expr T u s) ∧ pz_fr p M M') := by
    intro hc
    refine g1 (n := 1) rfl rfl rfl rfl ?_
    refine m_iv (a := 169) (as := []) (rest := []) rfl (by decide) q1.1.1.1 rfl rfl (Nat.le_of_ble_eq_true rfl) ⟨by show 1 ≤ R1 + 1; omega, by show 1 + 19 ≤ R2 + 25; omega, Nat.le_of_ble_eq_true rfl⟩ ?_
    refine gx_room (gx_mono (p_token q1) ?_) (Nat.zero_le _) (Nat.zero_le _)
    rintro r h' ⟨rfl, rfl⟩
    refine g2 (n := 1) rfl rfl rfl rfl ?_
    refine g1 (n := 1) rfl rfl rfl rfl ?_
    refine m_iv (a := 169) (as := []) (rest := []) rfl (by decide) q1.1.1.1 rfl rfl (Nat.le_of_ble_eq_true rfl) ⟨by show 1 ≤ R1 + 1; omega, by show 1 + 19 ≤ R2 + 25; omega, Nat.le_of_ble_eq_true rfl⟩ ?_
    refine gx_room (gx_mono (p_advance M1 _ q1) ?_) (Nat.zero_le _) (Nat.zero_le _)
    rintro r h' ⟨rfl, M2, rfl, q3, q4⟩
    refine g1 (n := 1) rfl rfl rfl rfl ?_
    refine g1 (n := 1) rfl rfl rfl rfl ?_
    refine m_iv (a := 169) (as := [.int (nI d)]) (rest := []) rfl (by decide) q3.1.1.1 rfl rfl (Nat.le_of_ble_eq_true rfl) ⟨by show 1 ≤ R1 + 1; omega, by show 4 + 19 ≤ R2 + 25; omega, Nat.le_of_ble_eq_true rfl⟩ ?_
    refine gx_room (gx_mono (hu M2 _ q3) ?_) (by show R1 ≤ R1 + 1 - 1; omega) (by show R2 ≤ R2 + 25 - (4 + 19); omega)
    rintro r h' ⟨rfl, M3, rfl, q5, q6⟩
    refine g1 (n := 1) rfl rfl rfl rfl ?_
    refine m_gf rfl q5.1.1.1 rfl (pz_prog q5) ?_
    refine g1 (n := 1) rfl rfl rfl rfl ?_
    refine g1 (n := 1) rfl rfl rfl rfl ?_
    refine m_iv (a := p) (as := [.int _, .int _]) (rest := []) rfl (by decide) q5.1.1.2.2.1 rfl rfl (Nat.le_of_ble_eq_true rfl) ⟨by show 1 ≤ R1 + 1; omega, by show 3 + 19 ≤ R2 + 25; omega, Nat.le_of_ble_eq_true rfl⟩ ?_
    refine gx_room (gx_mono (p_emit q5) ?_) (Nat.zero_le _) (Nat.zero_le _)
    rintro r h' ⟨rfl, M4, rfl, q7, q8⟩
    refine gx_ret rfl rfl ⟨rfl, M4, rfl, ?_, ((q2.trans q4).trans q6).trans q8⟩
    unfold p_expr
    rw [if_pos hc]
    exact q7
  refine g1 (n := 1) rfl rfl rfl rfl ?_
  refine g1 (n := 2) rfl rfl rfl rfl ?_
  refine m_iv (a := 169) (as := [.int 60]) (rest := []) rfl (by decide) q1.1.1.1 rfl rfl (Nat.le_of_ble_eq_true rfl) ⟨by show 1 ≤ R1 + 1; omega, by show 2 + 19 ≤ R2 + 25; omega, Nat.le_of_ble_eq_true rfl⟩ ?_
  refine gx_room (gx_mono (p_isAt q1) ?_) (Nat.zero_le _) (Nat.zero_le _)
  rintro r h' ⟨rfl, rfl⟩
  refine g_if rfl (fun c => bod (by unfold p_c; rw [bI_yes2 c]; simp)) (fun c => ?_)
  have e0 := bI_no2 c
  refine g1 (n := 1) rfl rfl rfl rfl ?_
  refine g1 (n := 2) rfl rfl rfl rfl ?_
  refine m_iv (a := 169) (as := [.int 61]) (rest := []) rfl (by decide) q1.1.1.1 rfl rfl (Nat.le_of_ble_eq_true rfl) ⟨by show 1 ≤ R1 + 1; omega, by show 2 + 19 ≤ R2 + 25; omega, Nat.le_of_ble_eq_true rfl⟩ ?_
  refine gx_room (gx_mono (p_isAt q1) ?_) (Nat.zero_le _) (Nat.zero_le _)
  rintro r h' ⟨rfl, rfl⟩
  refine g_if rfl (fun c => bod (by unfold p_c; rw [bI_yes2 c, e0]; simp)) (fun c => ?_)
  have e1 := bI_no2 c
  refine g1 (n := 1) rfl rfl rfl rfl ?_
  refine g1 (n := 2) rfl rfl rfl rfl ?_
  refine m_iv (a := 169) (as := [.int 35]) (rest := []) rfl (by decide) q1.1.1.1 rfl rfl (Nat.le_of_ble_eq_true rfl) ⟨by show 1 ≤ R1 + 1; omega, by show 2 + 19 ≤ R2 + 25; omega, Nat.le_of_ble_eq_true rfl⟩ ?_
  refine gx_room (gx_mono (p_isAt q1) ?_) (Nat.zero_le _) (Nat.zero_le _)
  rintro r h' ⟨rfl, rfl⟩
  refine g_if rfl (fun c => ?_) (fun c => bod (by unfold p_c; rw [bI_yes c]; simp))
  have e2 := bI_no c
  refine gx_ret rfl rfl ⟨rfl, M1, rfl, ?_, q2⟩
  unfold p_expr
  rw [if_neg (by unfold p_c; rw [e0, e1, e2]; simp)]
  exact q1
theorem p_unary0 : pdo fz S p T (4, 120) 50 [.int (nI 8)] (p_un T 0) := by
  intro M s hq
  have bad0 : (s.2.2.2.2.2 = false ∨ 60 ≤ s.2.2.2.1) → gx (cx0 fz) (4, 120) 50 19 [(0, .ref 169), (1, .int (nI 8))] [] (M, S) (fun r h' => r = none ∧ ∃ M', h' = (M', S) ∧ pz fz S p T M' (p_un T 0 s) ∧ pz_fr p M M') := by
    intro hc
    refine g1 (n := 1) rfl rfl rfl rfl ?_
    refine m_iv (a := 169) (as := []) (rest := []) rfl (by decide) hq.1.1.1 rfl rfl (Nat.le_of_ble_eq_true rfl) ⟨by show 1 ≤ 4; omega, by show 1 + 19 ≤ 120; omega, Nat.le_of_ble_eq_true rfl⟩ ?_
    refine gx_room (gx_mono (p_refuse M s hq) ?_) (Nat.zero_le _) (Nat.zero_le _)
    rintro r h' ⟨rfl, M1, rfl, q1, q2⟩
    refine gx_ret rfl rfl ⟨rfl, M1, rfl, ?_, q2⟩
    unfold p_un
    rw [if_pos hc]
    exact q1
  refine g1 (n := 1) rfl rfl rfl rfl ?_
  refine m_iv (a := 169) (as := []) (rest := []) rfl (by decide) hq.1.1.1 rfl rfl (Nat.le_of_ble_eq_true rfl) ⟨by show 1 ≤ 4; omega, by show 1 + 19 ≤ 120; omega, Nat.le_of_ble_eq_true rfl⟩ ?_
  refine gx_room (gx_mono (p_faulty hq) ?_) (Nat.zero_le _) (Nat.zero_le _)
  rintro r h' ⟨rfl, rfl⟩
  refine g_if rfl (fun c => bad0 (Or.inl (by simpa using bI_yes2 c))) (fun c => ?_)
  have hok : s.2.2.2.2.2 = true := by simpa using bI_no2 c
  refine g1 (n := 1) rfl rfl rfl rfl ?_
  refine m_gf rfl hq.1.1.1 rfl (pz_prog hq) ?_
  refine m_gf rfl hq.1.1.2.2.1 rfl (v := .int (nI s.2.2.2.1)) (by show Value.int (M.1 p 1) = _; rw [hq.2.2.2.2.1.1]) ?_
  refine g1 (n := 2) rfl rfl rfl rfl ?_
  have hun := hq.2.2.2.2.1.2
  refine g_ic rfl (fun c2 => ?_) (fun c2 => bad0 (Or.inr ?_))
  rotate_left
  · have c2 : ¬ (nI s.2.2.2.1).toInt < 60 := fun z => c2 ((rf_cc_iff _ 60 .lt).mpr z)
    rw [nI_int (by omega)] at c2
    omega
  have c2 : (nI s.2.2.2.1).toInt < 60 := (rf_cc_iff _ 60 .lt).mp c2
  rw [nI_int (by omega)] at c2
  have hc0 : ¬ (s.2.2.2.2.2 = false ∨ 60 ≤ s.2.2.2.1) := by rw [hok]; simp; omega
  refine g1 (n := 1) rfl rfl rfl rfl ?_
  refine m_gf rfl hq.1.1.1 rfl (pz_prog hq) ?_
  refine g0 rfl rfl rfl ?_
  refine m_gf rfl hq.1.1.2.2.1 rfl (v := .int (nI s.2.2.2.1)) (by show Value.int (M.1 p 1) = _; rw [hq.2.2.2.2.1.1]) ?_
  refine g1 (n := 1) rfl rfl rfl rfl ?_
  refine g0 rfl rfl rfl ?_
  refine m_pf rfl hq.1.1.2.2.1 rfl (M' := rf_wi M p 1 (nI s.2.2.2.1 + Int32.ofInt 1)) rfl ?_
  rw [nI_suc (by omega)]
  have hp1 : pz fz S p T (rf_wi M p 1 (nI (s.2.2.2.1 + 1))) (p_u1 s) := hq.un (by omega)
  have hf1 : pz_fr p M (rf_wi M p 1 (nI (s.2.2.2.1 + 1))) := (pz_fr.rfl' p M).wi (by omega)
  have hir : (rf_wi M p 1 (nI (s.2.2.2.1 + 1))).1 169 4 = bI s.2.1 := hp1.2.2.1
  generalize rf_wi M p 1 (nI (s.2.2.2.1 + 1)) = M1 at hp1 hf1 hir ⊢
  have bad1 : p_un T 0 s = p_bad (p_u1 s) → gx (cx0 fz) (4, 120) 50 181 [(0, .ref 169), (1, .int (nI 8))] [] (M1, S) (fun r h' => r = none ∧ ∃ M', h' = (M', S) ∧ pz fz S p T M' (p_un T 0 s) ∧ pz_fr p M M') := by
    intro hc
    refine g1 (n := 1) rfl rfl rfl rfl ?_
    refine m_iv (a := 169) (as := []) (rest := []) rfl (by decide) hq.1.1.1 rfl rfl (Nat.le_of_ble_eq_true rfl) ⟨by show 1 ≤ 4; omega, by show 1 + 19 ≤ 120; omega, Nat.le_of_ble_eq_true rfl⟩ ?_
    refine gx_room (gx_mono (p_refuse M1 _ hp1) ?_) (Nat.zero_le _) (Nat.zero_le _)
    rintro r h' ⟨rfl, M2, rfl, q1, q2⟩
    refine gx_ret rfl rfl ⟨rfl, M2, rfl, ?_, hf1.trans q2⟩
    rw [hc]
    exact q1
  have tak1 : p_un T 0 s = p_adv T (p_u1 s) → gx (cx0 fz) (4, 120) 50 45 [(0, .ref 169), (1, .int (nI 8))] [] (M1, S) (fun r h' => r = none ∧ ∃ M', h' = (M', S) ∧ pz fz S p T M' (p_un T 0 s) ∧ pz_fr p M M') := by
    intro hc
    refine g1 (n := 1) rfl rfl rfl rfl ?_
    refine m_gf rfl hp1.1.1.1 rfl (pz_prog hp1) ?_
    refine g1 (n := 1) rfl rfl rfl rfl ?_
    refine g1 (n := 1) rfl rfl rfl rfl ?_
    refine m_iv (a := 169) (as := []) (rest := [.int _, .ref p]) rfl (by decide) hp1.1.1.1 rfl rfl (Nat.le_of_ble_eq_true rfl) ⟨by show 1 ≤ 4; omega, by show 1 + 19 ≤ 120; omega, Nat.le_of_ble_eq_true rfl⟩ ?_
    refine gx_room (gx_mono (p_number hp1) ?_) (Nat.zero_le _) (Nat.zero_le _)
    rintro r h' ⟨rfl, rfl⟩
    refine m_iv (a := p) (as := [.int _, .int _]) (rest := []) rfl (by decide) hp1.1.1.2.2.1 rfl rfl (Nat.le_of_ble_eq_true rfl) ⟨by show 1 ≤ 4; omega, by show 3 + 19 ≤ 120; omega, Nat.le_of_ble_eq_true rfl⟩ ?_
    refine gx_room (gx_mono (p_emit hp1) ?_) (Nat.zero_le _) (Nat.zero_le _)
    rintro r h' ⟨rfl, M2, rfl, q1, q2⟩
    refine g1 (n := 1) rfl rfl rfl rfl ?_
    refine m_iv (a := 169) (as := []) (rest := []) rfl (by decide) q1.1.1.1 rfl rfl (Nat.le_of_ble_eq_true rfl) ⟨by show 1 ≤ 4; omega, by show 1 + 19 ≤ 120; omega, Nat.le_of_ble_eq_true rfl⟩ ?_
    refine gx_room (gx_mono (p_advance M2 _ q1) ?_) (Nat.zero_le _) (Nat.zero_le _)
    rintro r h' ⟨rfl, M3, rfl, q3, q4⟩
    refine g3 rfl rfl rfl ?_
    refine gx_ret rfl rfl ⟨rfl, M3, rfl, ?_, (hf1.trans q2).trans q4⟩
    rw [hc]
    exact q3
  have tak2 : p_un T 0 s = p_adv T (p_u1 s) → gx (cx0 fz) (4, 120) 50 89 [(0, .ref 169), (1, .int (nI 8))] [] (M1, S) (fun r h' => r = none ∧ ∃ M', h' = (M', S) ∧ pz fz S p T M' (p_un T 0 s) ∧ pz_fr p M M') := by
    intro hc
    refine g1 (n := 1) rfl rfl rfl rfl ?_
    refine m_gf rfl hp1.1.1.1 rfl (pz_prog hp1) ?_
    refine g1 (n := 1) rfl rfl rfl rfl ?_
    refine g1 (n := 1) rfl rfl rfl rfl ?_
    refine m_iv (a := 169) (as := []) (rest := [.int _, .ref p]) rfl (by decide) hp1.1.1.1 rfl rfl (Nat.le_of_ble_eq_true rfl) ⟨by show 1 ≤ 4; omega, by show 1 + 19 ≤ 120; omega, Nat.le_of_ble_eq_true rfl⟩ ?_
    refine gx_room (gx_mono (p_number hp1) ?_) (Nat.zero_le _) (Nat.zero_le _)
    rintro r h' ⟨rfl, rfl⟩
    refine m_iv (a := p) (as := [.int _, .int _]) (rest := []) rfl (by decide) hp1.1.1.2.2.1 rfl rfl (Nat.le_of_ble_eq_true rfl) ⟨by show 1 ≤ 4; omega, by show 3 + 19 ≤ 120; omega, Nat.le_of_ble_eq_true rfl⟩ ?_
    refine gx_room (gx_mono (p_emit hp1) ?_) (Nat.zero_le _) (Nat.zero_le _)
    rintro r h' ⟨rfl, M2, rfl, q1, q2⟩
    refine g1 (n := 1) rfl rfl rfl rfl ?_
    refine m_iv (a := 169) (as := []) (rest := []) rfl (by decide) q1.1.1.1 rfl rfl (Nat.le_of_ble_eq_true rfl) ⟨by show 1 ≤ 4; omega, by show 1 + 19 ≤ 120; omega, Nat.le_of_ble_eq_true rfl⟩ ?_
    refine gx_room (gx_mono (p_advance M2 _ q1) ?_) (Nat.zero_le _) (Nat.zero_le _)
    rintro r h' ⟨rfl, M3, rfl, q3, q4⟩
    refine g3 rfl rfl rfl ?_
    refine gx_ret rfl rfl ⟨rfl, M3, rfl, ?_, (hf1.trans q2).trans q4⟩
    rw [hc]
    exact q3
  have oth : p_is T 2 (p_u1 s) = false → ¬ (p_is T 1 (p_u1 s) = true ∧ (p_cell (nb T s.1) = true ∨ s.2.1 = false)) → gx (cx0 fz) (4, 120) 50 108 [(0, .ref 169), (1, .int (nI 8))] [] (M1, S) (fun r h' => r = none ∧ ∃ M', h' = (M', S) ∧ pz fz S p T M' (p_un T 0 s) ∧ pz_fr p M M') := by
    intro n2 n1
    refine g1 (n := 1) rfl rfl rfl rfl ?_
    refine g1 (n := 2) rfl rfl rfl rfl ?_
    refine m_iv (a := 169) (as := [.int 45]) (rest := []) rfl (by decide) hp1.1.1.1 rfl rfl (Nat.le_of_ble_eq_true rfl) ⟨by show 1 ≤ 4; omega, by show 2 + 19 ≤ 120; omega, Nat.le_of_ble_eq_true rfl⟩ ?_
    refine gx_room (gx_mono (p_isAt hp1) ?_) (Nat.zero_le _) (Nat.zero_le _)
    rintro r h' ⟨rfl, rfl⟩
    have par : gx (cx0 fz) (4, 120) 50 146 [(0, .ref 169), (1, .int (nI 8))] [] (M1, S) (fun r h' => r = none ∧ ∃ M', h' = (M', S) ∧ pz fz S p T M' (p_un T 0 s) ∧ pz_fr p M M') := by
      refine g1 (n := 1) rfl rfl rfl rfl ?_
      refine g1 (n := 2) rfl rfl rfl rfl ?_
      refine m_iv (a := 169) (as := [.int 40]) (rest := []) rfl (by decide) hp1.1.1.1 rfl rfl (Nat.le_of_ble_eq_true rfl) ⟨by show 1 ≤ 4; omega, by show 2 + 19 ≤ 120; omega, Nat.le_of_ble_eq_true rfl⟩ ?_
      refine gx_room (gx_mono (p_isAt hp1) ?_) (Nat.zero_le _) (Nat.zero_le _)
      rintro r h' ⟨rfl, rfl⟩
      refine g_if rfl (fun c => ?_) (fun c => ?_)
      · refine bad1 ?_
        unfold p_un
        rw [if_neg hc0, if_neg (by rw [n2]; simp), if_neg n1]
      have y40 := bI_yes c
      refine g1 (n := 1) rfl rfl rfl rfl ?_
      refine g1 (n := 2) rfl rfl rfl rfl ?_
      refine g_ic rfl (fun _ => ?_) (fun c8 => absurd (by decide) c8)
      refine bad1 ?_
      unfold p_un
      rw [if_neg hc0, if_neg (by rw [n2]; simp), if_neg n1]
    refine g_if rfl (fun c => par) (fun c => ?_)
    have y45 := bI_yes c
    refine g1 (n := 1) rfl rfl rfl rfl ?_
    refine g1 (n := 2) rfl rfl rfl rfl ?_
    refine g_ic rfl (fun _ => par) (fun c8 => absurd (by decide) c8)
  refine g1 (n := 1) rfl rfl rfl rfl ?_
  refine g1 (n := 1) rfl rfl rfl rfl ?_
  refine m_iv (a := 169) (as := [.int 2]) (rest := []) rfl (by decide) hp1.1.1.1 rfl rfl (Nat.le_of_ble_eq_true rfl) ⟨by show 1 ≤ 4; omega, by show 2 + 19 ≤ 120; omega, Nat.le_of_ble_eq_true rfl⟩ ?_
  refine gx_room (gx_mono (p_isAt hp1) ?_) (Nat.zero_le _) (Nat.zero_le _)
  rintro r h' ⟨rfl, rfl⟩
  refine g_if rfl (fun c3 => ?_) (fun c3 => tak1 ?_)
  rotate_left
  · unfold p_un
    rw [if_neg hc0, if_pos (bI_yes c3)]
  have n2 := bI_no c3
  refine g1 (n := 1) rfl rfl rfl rfl ?_
  refine g1 (n := 1) rfl rfl rfl rfl ?_
  refine m_iv (a := 169) (as := [.int 1]) (rest := []) rfl (by decide) hp1.1.1.1 rfl rfl (Nat.le_of_ble_eq_true rfl) ⟨by show 1 ≤ 4; omega, by show 2 + 19 ≤ 120; omega, Nat.le_of_ble_eq_true rfl⟩ ?_
  refine gx_room (gx_mono (p_isAt hp1) ?_) (Nat.zero_le _) (Nat.zero_le _)
  rintro r h' ⟨rfl, rfl⟩
  refine g_if rfl (fun c4 => oth n2 (fun z => by rw [bI_no c4] at z; cases z.1)) (fun c4 => ?_)
  have y1 := bI_yes c4
  refine g1 (n := 1) rfl rfl rfl rfl ?_
  refine m_iv (a := 169) (as := []) (rest := []) rfl (by decide) hp1.1.1.1 rfl rfl (Nat.le_of_ble_eq_true rfl) ⟨by show 1 ≤ 4; omega, by show 1 + 19 ≤ 120; omega, Nat.le_of_ble_eq_true rfl⟩ ?_
  refine gx_room (gx_mono (p_number hp1) ?_) (Nat.zero_le _) (Nat.zero_le _)
  rintro r h' ⟨rfl, rfl⟩
  refine m_st (as := [.int (nb T (p_u1 s).1)]) (rest := []) rfl (by decide) rfl (Nat.le_of_ble_eq_true rfl) ⟨by show 1 ≤ 4; omega, by show 1 + 19 ≤ 120; omega, Nat.le_of_ble_eq_true rfl⟩ ?_
  refine gx_room (gx_mono (p_isCell (x := nb T (p_u1 s).1)) ?_) (Nat.zero_le _) (Nat.zero_le _)
  rintro r h' ⟨rfl, rfl⟩
  refine g_if rfl (fun c5 => tak2 ?_) (fun c5 => ?_)
  · unfold p_un
    rw [if_neg hc0, if_neg (by rw [n2]; simp), if_pos ⟨y1, Or.inl (bI_yes2 c5)⟩]
  have n5 : p_cell (nb T s.1) = false := bI_no2 c5
  refine g1 (n := 1) rfl rfl rfl rfl ?_
  refine m_gf rfl hp1.1.1.1 rfl (v := .int (bI s.2.1)) (by show Value.int (M1.1 169 4) = _; rw [hir]) ?_
  refine g_if rfl (fun c6 => oth n2 ?_) (fun c6 => tak2 ?_)
  · intro z
    rw [n5, bI_yes2 c6] at z
    simp at z
  · unfold p_un
    rw [if_neg hc0, if_neg (by rw [n2]; simp), if_pos ⟨y1, Or.inr (bI_no2 c6)⟩]
theorem p_unaryS {f d : Nat} (hd : d + (f + 1) = 8) (hu : pdo fz S p T (4 + 4 * f, 120 + 100 * f) 50 [.int (nI (d + 1))] (p_un T f)) : pdo fz S p T (4 + 4 * (f + 1), 120 + 100 * (f + 1)) 50 [.int (nI d)] (p_un T (f + 1)) := by
  have hexp : pdo fz S p T (7 + 4 * f, 195 + 100 * f) 47 [.int (nI (d + 1))] (p_expr T (p_un T f)) := by
    have h1 := p_product (R1 := 4 + 4 * f) (R2 := 120 + 100 * f) (by omega) (by omega) hu
    have h2 := p_summ (R1 := 4 + 4 * f + 1) (R2 := 120 + 100 * f + 25) (by omega) (by omega) h1
    have h3 := p_exp (R1 := 4 + 4 * f + 1 + 1) (R2 := 120 + 100 * f + 25 + 25) (by omega) (by omega) h2
    rw [show 7 + 4 * f = 4 + 4 * f + 1 + 1 + 1 by omega, show 195 + 100 * f = 120 + 100 * f + 25 + 25 + 25 by omega]
    exact h3
  intro M s hq
  have bad0 : (s.2.2.2.2.2 = false ∨ 60 ≤ s.2.2.2.1) → gx (cx0 fz) (4 + 4 * (f + 1), 120 + 100 * (f + 1)) 50 19 [(0, .ref 169), (1, .int (nI d))] [] (M, S) (fun r h' => r = none ∧ ∃ M', h' = (M', S) ∧ pz fz S p T M' (p_un T (f + 1) s) ∧ pz_fr p M M') := by
    intro hc
    refine g1 (n := 1) rfl rfl rfl rfl ?_
    refine m_iv (a := 169) (as := []) (rest := []) rfl (by decide) hq.1.1.1 rfl rfl (Nat.le_of_ble_eq_true rfl) ⟨by show 1 ≤ 4 + 4 * (f + 1); omega, by show 1 + 19 ≤ 120 + 100 * (f + 1); omega, Nat.le_of_ble_eq_true rfl⟩ ?_
    refine gx_room (gx_mono (p_refuse M s hq) ?_) (Nat.zero_le _) (Nat.zero_le _)
    rintro r h' ⟨rfl, M1, rfl, q1, q2⟩
    refine gx_ret rfl rfl ⟨rfl, M1, rfl, ?_, q2⟩
    unfold p_un
    rw [if_pos hc]
    exact q1
  refine g1 (n := 1) rfl rfl rfl rfl ?_
  refine m_iv (a := 169) (as := []) (rest := []) rfl (by decide) hq.1.1.1 rfl rfl (Nat.le_of_ble_eq_true rfl) ⟨by show 1 ≤ 4 + 4 * (f + 1); omega, by show 1 + 19 ≤ 120 + 100 * (f + 1); omega, Nat.le_of_ble_eq_true rfl⟩ ?_
  refine gx_room (gx_mono (p_faulty hq) ?_) (Nat.zero_le _) (Nat.zero_le _)
  rintro r h' ⟨rfl, rfl⟩
  refine g_if rfl (fun c => bad0 (Or.inl (by simpa using bI_yes2 c))) (fun c => ?_)
  have hok : s.2.2.2.2.2 = true := by simpa using bI_no2 c
  refine g1 (n := 1) rfl rfl rfl rfl ?_
  refine m_gf rfl hq.1.1.1 rfl (pz_prog hq) ?_
  refine m_gf rfl hq.1.1.2.2.1 rfl (v := .int (nI s.2.2.2.1)) (by show Value.int (M.1 p 1) = _; rw [hq.2.2.2.2.1.1]) ?_
  refine g1 (n := 2) rfl rfl rfl rfl ?_
  have hun := hq.2.2.2.2.1.2
  refine g_ic rfl (fun c2 => ?_) (fun c2 => bad0 (Or.inr ?_))
  rotate_left
  · have c2 : ¬ (nI s.2.2.2.1).toInt < 60 := fun z => c2 ((rf_cc_iff _ 60 .lt).mpr z)
    rw [nI_int (by omega)] at c2
    omega
  have c2 : (nI s.2.2.2.1).toInt < 60 := (rf_cc_iff _ 60 .lt).mp c2
  rw [nI_int (by omega)] at c2
  have hc0 : ¬ (s.2.2.2.2.2 = false ∨ 60 ≤ s.2.2.2.1) := by rw [hok]; simp; omega
  refine g1 (n := 1) rfl rfl rfl rfl ?_
  refine m_gf rfl hq.1.1.1 rfl (pz_prog hq) ?_
  refine g0 rfl rfl rfl ?_
  refine m_gf rfl hq.1.1.2.2.1 rfl (v := .int (nI s.2.2.2.1)) (by show Value.int (M.1 p 1) = _; rw [hq.2.2.2.2.1.1]) ?_
  refine g1 (n := 1) rfl rfl rfl rfl ?_
  refine g0 rfl rfl rfl ?_
  refine m_pf rfl hq.1.1.2.2.1 rfl (M' := rf_wi M p 1 (nI s.2.2.2.1 + Int32.ofInt 1)) rfl ?_
  rw [nI_suc (by omega)]
  have hp1 : pz fz S p T (rf_wi M p 1 (nI (s.2.2.2.1 + 1))) (p_u1 s) := hq.un (by omega)
  have hf1 : pz_fr p M (rf_wi M p 1 (nI (s.2.2.2.1 + 1))) := (pz_fr.rfl' p M).wi (by omega)
  have hir : (rf_wi M p 1 (nI (s.2.2.2.1 + 1))).1 169 4 = bI s.2.1 := hp1.2.2.1
  generalize rf_wi M p 1 (nI (s.2.2.2.1 + 1)) = M1 at hp1 hf1 hir ⊢
  have bad1 : p_un T (f + 1) s = p_bad (p_u1 s) → gx (cx0 fz) (4 + 4 * (f + 1), 120 + 100 * (f + 1)) 50 181 [(0, .ref 169), (1, .int (nI d))] [] (M1, S) (fun r h' => r = none ∧ ∃ M', h' = (M', S) ∧ pz fz S p T M' (p_un T (f + 1) s) ∧ pz_fr p M M') := by
    intro hc
    refine g1 (n := 1) rfl rfl rfl rfl ?_
    refine m_iv (a := 169) (as := []) (rest := []) rfl (by decide) hq.1.1.1 rfl rfl (Nat.le_of_ble_eq_true rfl) ⟨by show 1 ≤ 4 + 4 * (f + 1); omega, by show 1 + 19 ≤ 120 + 100 * (f + 1); omega, Nat.le_of_ble_eq_true rfl⟩ ?_
    refine gx_room (gx_mono (p_refuse M1 _ hp1) ?_) (Nat.zero_le _) (Nat.zero_le _)
    rintro r h' ⟨rfl, M2, rfl, q1, q2⟩
    refine gx_ret rfl rfl ⟨rfl, M2, rfl, ?_, hf1.trans q2⟩
    rw [hc]
    exact q1
  have tak1 : p_un T (f + 1) s = p_adv T (p_u1 s) → gx (cx0 fz) (4 + 4 * (f + 1), 120 + 100 * (f + 1)) 50 45 [(0, .ref 169), (1, .int (nI d))] [] (M1, S) (fun r h' => r = none ∧ ∃ M', h' = (M', S) ∧ pz fz S p T M' (p_un T (f + 1) s) ∧ pz_fr p M M') := by
    intro hc
    refine g1 (n := 1) rfl rfl rfl rfl ?_
    refine m_gf rfl hp1.1.1.1 rfl (pz_prog hp1) ?_
    refine g1 (n := 1) rfl rfl rfl rfl ?_
    refine g1 (n := 1) rfl rfl rfl rfl ?_
    refine m_iv (a := 169) (as := []) (rest := [.int _, .ref p]) rfl (by decide) hp1.1.1.1 rfl rfl (Nat.le_of_ble_eq_true rfl) ⟨by show 1 ≤ 4 + 4 * (f + 1); omega, by show 1 + 19 ≤ 120 + 100 * (f + 1); omega, Nat.le_of_ble_eq_true rfl⟩ ?_
    refine gx_room (gx_mono (p_number hp1) ?_) (Nat.zero_le _) (Nat.zero_le _)
    rintro r h' ⟨rfl, rfl⟩
    refine m_iv (a := p) (as := [.int _, .int _]) (rest := []) rfl (by decide) hp1.1.1.2.2.1 rfl rfl (Nat.le_of_ble_eq_true rfl) ⟨by show 1 ≤ 4 + 4 * (f + 1); omega, by show 3 + 19 ≤ 120 + 100 * (f + 1); omega, Nat.le_of_ble_eq_true rfl⟩ ?_
    refine gx_room (gx_mono (p_emit hp1) ?_) (Nat.zero_le _) (Nat.zero_le _)
    rintro r h' ⟨rfl, M2, rfl, q1, q2⟩
    refine g1 (n := 1) rfl rfl rfl rfl ?_
    refine m_iv (a := 169) (as := []) (rest := []) rfl (by decide) q1.1.1.1 rfl rfl (Nat.le_of_ble_eq_true rfl) ⟨by show 1 ≤ 4 + 4 * (f + 1); omega, by show 1 + 19 ≤ 120 + 100 * (f + 1); omega, Nat.le_of_ble_eq_true rfl⟩ ?_
    refine gx_room (gx_mono (p_advance M2 _ q1) ?_) (Nat.zero_le _) (Nat.zero_le _)
    rintro r h' ⟨rfl, M3, rfl, q3, q4⟩
    refine g3 rfl rfl rfl ?_
    refine gx_ret rfl rfl ⟨rfl, M3, rfl, ?_, (hf1.trans q2).trans q4⟩
    rw [hc]
    exact q3
  have tak2 : p_un T (f + 1) s = p_adv T (p_u1 s) → gx (cx0 fz) (4 + 4 * (f + 1), 120 + 100 * (f + 1)) 50 89 [(0, .ref 169), (1, .int (nI d))] [] (M1, S) (fun r h' => r = none ∧ ∃ M', h' = (M', S) ∧ pz fz S p T M' (p_un T (f + 1) s) ∧ pz_fr p M M') := by
    intro hc
    refine g1 (n := 1) rfl rfl rfl rfl ?_
    refine m_gf rfl hp1.1.1.1 rfl (pz_prog hp1) ?_
    refine g1 (n := 1) rfl rfl rfl rfl ?_
    refine g1 (n := 1) rfl rfl rfl rfl ?_
    refine m_iv (a := 169) (as := []) (rest := [.int _, .ref p]) rfl (by decide) hp1.1.1.1 rfl rfl (Nat.le_of_ble_eq_true rfl) ⟨by show 1 ≤ 4 + 4 * (f + 1); omega, by show 1 + 19 ≤ 120 + 100 * (f + 1); omega, Nat.le_of_ble_eq_true rfl⟩ ?_
    refine gx_room (gx_mono (p_number hp1) ?_) (Nat.zero_le _) (Nat.zero_le _)
    rintro r h' ⟨rfl, rfl⟩
    refine m_iv (a := p) (as := [.int _, .int _]) (rest := []) rfl (by decide) hp1.1.1.2.2.1 rfl rfl (Nat.le_of_ble_eq_true rfl) ⟨by show 1 ≤ 4 + 4 * (f + 1); omega, by show 3 + 19 ≤ 120 + 100 * (f + 1); omega, Nat.le_of_ble_eq_true rfl⟩ ?_
    refine gx_room (gx_mono (p_emit hp1) ?_) (Nat.zero_le _) (Nat.zero_le _)
    rintro r h' ⟨rfl, M2, rfl, q1, q2⟩
    refine g1 (n := 1) rfl rfl rfl rfl ?_
    refine m_iv (a := 169) (as := []) (rest := []) rfl (by decide) q1.1.1.1 rfl rfl (Nat.le_of_ble_eq_true rfl) ⟨by show 1 ≤ 4 + 4 * (f + 1); omega, by show 1 + 19 ≤ 120 + 100 * (f + 1); omega, Nat.le_of_ble_eq_true rfl⟩ ?_
    refine gx_room (gx_mono (p_advance M2 _ q1) ?_) (Nat.zero_le _) (Nat.zero_le _)
    rintro r h' ⟨rfl, M3, rfl, q3, q4⟩
    refine g3 rfl rfl rfl ?_
    refine gx_ret rfl rfl ⟨rfl, M3, rfl, ?_, (hf1.trans q2).trans q4⟩
    rw [hc]
    exact q3
  have oth : p_is T 2 (p_u1 s) = false → ¬ (p_is T 1 (p_u1 s) = true ∧ (p_cell (nb T s.1) = true ∨ s.2.1 = false)) → gx (cx0 fz) (4 + 4 * (f + 1), 120 + 100 * (f + 1)) 50 108 [(0, .ref 169), (1, .int (nI d))] [] (M1, S) (fun r h' => r = none ∧ ∃ M', h' = (M', S) ∧ pz fz S p T M' (p_un T (f + 1) s) ∧ pz_fr p M M') := by
    intro n2 n1
    refine g1 (n := 1) rfl rfl rfl rfl ?_
    refine g1 (n := 2) rfl rfl rfl rfl ?_
    refine m_iv (a := 169) (as := [.int 45]) (rest := []) rfl (by decide) hp1.1.1.1 rfl rfl (Nat.le_of_ble_eq_true rfl) ⟨by show 1 ≤ 4 + 4 * (f + 1); omega, by show 2 + 19 ≤ 120 + 100 * (f + 1); omega, Nat.le_of_ble_eq_true rfl⟩ ?_
    refine gx_room (gx_mono (p_isAt hp1) ?_) (Nat.zero_le _) (Nat.zero_le _)
    rintro r h' ⟨rfl, rfl⟩
    have par : p_is T 45 (p_u1 s) = false → gx (cx0 fz) (4 + 4 * (f + 1), 120 + 100 * (f + 1)) 50 146 [(0, .ref 169), (1, .int (nI d))] [] (M1, S) (fun r h' => r = none ∧ ∃ M', h' = (M', S) ∧ pz fz S p T M' (p_un T (f + 1) s) ∧ pz_fr p M M') := by
      intro n45
      refine g1 (n := 1) rfl rfl rfl rfl ?_
      refine g1 (n := 2) rfl rfl rfl rfl ?_
      refine m_iv (a := 169) (as := [.int 40]) (rest := []) rfl (by decide) hp1.1.1.1 rfl rfl (Nat.le_of_ble_eq_true rfl) ⟨by show 1 ≤ 4 + 4 * (f + 1); omega, by show 2 + 19 ≤ 120 + 100 * (f + 1); omega, Nat.le_of_ble_eq_true rfl⟩ ?_
      refine gx_room (gx_mono (p_isAt hp1) ?_) (Nat.zero_le _) (Nat.zero_le _)
      rintro r h' ⟨rfl, rfl⟩
      refine g_if rfl (fun c => ?_) (fun c => ?_)
      · refine bad1 ?_
        unfold p_un
        rw [if_neg hc0, if_neg (by rw [n2]; simp), if_neg n1, if_neg (by rw [n45]; simp), if_neg (by rw [bI_no c]; simp)]
      have y40 := bI_yes c
      refine g1 (n := 1) rfl rfl rfl rfl ?_
      refine g1 (n := 2) rfl rfl rfl rfl ?_
      refine g_ic rfl (fun c8 => ?_) (fun _ => ?_)
      · have c8 : (8 : Int) ≤ (nI d).toInt := (rf_cc_iff _ 8 .ge).mp c8
        rw [nI_int (by omega)] at c8
        omega
      refine g1 (n := 1) rfl rfl rfl rfl ?_
      refine m_iv (a := 169) (as := []) (rest := []) rfl (by decide) hp1.1.1.1 rfl rfl (Nat.le_of_ble_eq_true rfl) ⟨by show 1 ≤ 4 + 4 * (f + 1); omega, by show 1 + 19 ≤ 120 + 100 * (f + 1); omega, Nat.le_of_ble_eq_true rfl⟩ ?_
      refine gx_room (gx_mono (p_advance M1 _ hp1) ?_) (Nat.zero_le _) (Nat.zero_le _)
      rintro r h' ⟨rfl, M2, rfl, q1, q2⟩
      refine g1 (n := 1) rfl rfl rfl rfl ?_
      refine g1 (n := 1) rfl rfl rfl rfl ?_
      refine g1 (n := 1) rfl rfl rfl rfl ?_
      refine g0 rfl rfl rfl ?_
      rw [nI_suc (by omega)]
      refine m_iv (a := 169) (as := [.int (nI (d + 1))]) (rest := []) rfl (by decide) q1.1.1.1 rfl rfl (Nat.le_of_ble_eq_true rfl) ⟨by show 1 ≤ 4 + 4 * (f + 1); omega, by show 3 + 19 ≤ 120 + 100 * (f + 1); omega, Nat.le_of_ble_eq_true rfl⟩ ?_
      refine gx_room (gx_mono (hexp M2 _ q1) ?_) (by show 7 + 4 * f ≤ 4 + 4 * (f + 1) - 1; omega) (by show 195 + 100 * f ≤ 120 + 100 * (f + 1) - (3 + 19); omega)
      rintro r h' ⟨rfl, M3, rfl, q3, q4⟩
      refine g1 (n := 1) rfl rfl rfl rfl ?_
      refine g1 (n := 2) rfl rfl rfl rfl ?_
      refine m_iv (a := 169) (as := [.int 41]) (rest := []) rfl (by decide) q3.1.1.1 rfl rfl (Nat.le_of_ble_eq_true rfl) ⟨by show 1 ≤ 4 + 4 * (f + 1); omega, by show 2 + 19 ≤ 120 + 100 * (f + 1); omega, Nat.le_of_ble_eq_true rfl⟩ ?_
      refine gx_room (gx_mono (p_expect M3 _ q3) ?_) (by show 1 ≤ 4 + 4 * (f + 1) - 1; omega) (by show 40 ≤ 120 + 100 * (f + 1) - (2 + 19); omega)
      rintro r h' ⟨rfl, M4, rfl, q5, q6⟩
      refine g3 rfl rfl rfl ?_
      refine gx_ret rfl rfl ⟨rfl, M4, rfl, ?_, ((hf1.trans q2).trans q4).trans q6⟩
      unfold p_un
      rw [if_neg hc0, if_neg (by rw [n2]; simp), if_neg n1, if_neg (by rw [n45]; simp), if_pos y40]
      exact q5
    refine g_if rfl (fun c => par (bI_no c)) (fun c => ?_)
    have y45 := bI_yes c
    refine g1 (n := 1) rfl rfl rfl rfl ?_
    refine g1 (n := 2) rfl rfl rfl rfl ?_
    refine g_ic rfl (fun c8 => ?_) (fun _ => ?_)
    · have c8 : (8 : Int) ≤ (nI d).toInt := (rf_cc_iff _ 8 .ge).mp c8
      rw [nI_int (by omega)] at c8
      omega
    refine g1 (n := 1) rfl rfl rfl rfl ?_
    refine m_iv (a := 169) (as := []) (rest := []) rfl (by decide) hp1.1.1.1 rfl rfl (Nat.le_of_ble_eq_true rfl) ⟨by show 1 ≤ 4 + 4 * (f + 1); omega, by show 1 + 19 ≤ 120 + 100 * (f + 1); omega, Nat.le_of_ble_eq_true rfl⟩ ?_
    refine gx_room (gx_mono (p_advance M1 _ hp1) ?_) (Nat.zero_le _) (Nat.zero_le _)
    rintro r h' ⟨rfl, M2, rfl, q1, q2⟩
    refine g1 (n := 1) rfl rfl rfl rfl ?_
    refine g1 (n := 1) rfl rfl rfl rfl ?_
    refine g1 (n := 1) rfl rfl rfl rfl ?_
    refine g0 rfl rfl rfl ?_
    rw [nI_suc (by omega)]
    refine m_iv (a := 169) (as := [.int (nI (d + 1))]) (rest := []) rfl (by decide) q1.1.1.1 rfl rfl (Nat.le_of_ble_eq_true rfl) ⟨by show 1 ≤ 4 + 4 * (f + 1); omega, by show 2 + 19 ≤ 120 + 100 * (f + 1); omega, Nat.le_of_ble_eq_true rfl⟩ ?_
    refine gx_room (gx_mono (hu M2 _ q1) ?_) (by show 4 + 4 * f ≤ 4 + 4 * (f + 1) - 1; omega) (by show 120 + 100 * f ≤ 120 + 100 * (f + 1) - (2 + 19); omega)
    rintro r h' ⟨rfl, M3, rfl, q3, q4⟩
    refine g1 (n := 1) rfl rfl rfl rfl ?_
    refine m_gf rfl q3.1.1.1 rfl (pz_prog q3) ?_
    refine g1 (n := 1) rfl rfl rfl rfl ?_
    refine g1 (n := 1) rfl rfl rfl rfl ?_
    refine m_iv (a := p) (as := [.int _, .int _]) (rest := []) rfl (by decide) q3.1.1.2.2.1 rfl rfl (Nat.le_of_ble_eq_true rfl) ⟨by show 1 ≤ 4 + 4 * (f + 1); omega, by show 3 + 19 ≤ 120 + 100 * (f + 1); omega, Nat.le_of_ble_eq_true rfl⟩ ?_
    refine gx_room (gx_mono (p_emit q3) ?_) (Nat.zero_le _) (Nat.zero_le _)
    rintro r h' ⟨rfl, M4, rfl, q5, q6⟩
    refine g3 rfl rfl rfl ?_
    refine gx_ret rfl rfl ⟨rfl, M4, rfl, ?_, ((hf1.trans q2).trans q4).trans q6⟩
    unfold p_un
    rw [if_neg hc0, if_neg (by rw [n2]; simp), if_neg n1, if_pos y45]
    exact q5
  refine g1 (n := 1) rfl rfl rfl rfl ?_
  refine g1 (n := 1) rfl rfl rfl rfl ?_
  refine m_iv (a := 169) (as := [.int 2]) (rest := []) rfl (by decide) hp1.1.1.1 rfl rfl (Nat.le_of_ble_eq_true rfl) ⟨by show 1 ≤ 4 + 4 * (f + 1); omega, by show 2 + 19 ≤ 120 + 100 * (f + 1); omega, Nat.le_of_ble_eq_true rfl⟩ ?_
  refine gx_room (gx_mono (p_isAt hp1) ?_) (Nat.zero_le _) (Nat.zero_le _)
  rintro r h' ⟨rfl, rfl⟩
  refine g_if rfl (fun c3 => ?_) (fun c3 => tak1 ?_)
  rotate_left
  · unfold p_un
    rw [if_neg hc0, if_pos (bI_yes c3)]
  have n2 := bI_no c3
  refine g1 (n := 1) rfl rfl rfl rfl ?_
  refine g1 (n := 1) rfl rfl rfl rfl ?_
  refine m_iv (a := 169) (as := [.int 1]) (rest := []) rfl (by decide) hp1.1.1.1 rfl rfl (Nat.le_of_ble_eq_true rfl) ⟨by show 1 ≤ 4 + 4 * (f + 1); omega, by show 2 + 19 ≤ 120 + 100 * (f + 1); omega, Nat.le_of_ble_eq_true rfl⟩ ?_
  refine gx_room (gx_mono (p_isAt hp1) ?_) (Nat.zero_le _) (Nat.zero_le _)
  rintro r h' ⟨rfl, rfl⟩
  refine g_if rfl (fun c4 => oth n2 (fun z => by rw [bI_no c4] at z; cases z.1)) (fun c4 => ?_)
  have y1 := bI_yes c4
  refine g1 (n := 1) rfl rfl rfl rfl ?_
  refine m_iv (a := 169) (as := []) (rest := []) rfl (by decide) hp1.1.1.1 rfl rfl (Nat.le_of_ble_eq_true rfl) ⟨by show 1 ≤ 4 + 4 * (f + 1); omega, by show 1 + 19 ≤ 120 + 100 * (f + 1); omega, Nat.le_of_ble_eq_true rfl⟩ ?_
  refine gx_room (gx_mono (p_number hp1) ?_) (Nat.zero_le _) (Nat.zero_le _)
  rintro r h' ⟨rfl, rfl⟩
  refine m_st (as := [.int (nb T (p_u1 s).1)]) (rest := []) rfl (by decide) rfl (Nat.le_of_ble_eq_true rfl) ⟨by show 1 ≤ 4 + 4 * (f + 1); omega, by show 1 + 19 ≤ 120 + 100 * (f + 1); omega, Nat.le_of_ble_eq_true rfl⟩ ?_
  refine gx_room (gx_mono (p_isCell (x := nb T (p_u1 s).1)) ?_) (Nat.zero_le _) (Nat.zero_le _)
  rintro r h' ⟨rfl, rfl⟩
  refine g_if rfl (fun c5 => tak2 ?_) (fun c5 => ?_)
  · unfold p_un
    rw [if_neg hc0, if_neg (by rw [n2]; simp), if_pos ⟨y1, Or.inl (bI_yes2 c5)⟩]
  have n5 : p_cell (nb T s.1) = false := bI_no2 c5
  refine g1 (n := 1) rfl rfl rfl rfl ?_
  refine m_gf rfl hp1.1.1.1 rfl (v := .int (bI s.2.1)) (by show Value.int (M1.1 169 4) = _; rw [hir]) ?_
  refine g_if rfl (fun c6 => oth n2 ?_) (fun c6 => tak2 ?_)
  · intro z
    rw [n5, bI_yes2 c6] at z
    simp at z
  · unfold p_un
    rw [if_neg hc0, if_neg (by rw [n2]; simp), if_pos ⟨y1, Or.inr (bI_no2 c6)⟩]
theorem p_unary : ∀ (f d : Nat), d + f = 8 → pdo fz S p T (4 + 4 * f, 120 + 100 * f) 50 [.int (nI d)] (p_un T f)
  | 0, d, h => by
    have e : d = 8 := by omega
    subst e
    exact p_unary0
  | f + 1, d, h => p_unaryS h (p_unary f (d + 1) (by omega))
/-- an exp that lies in nothing -/
theorem p_exp0 : pdo fz S p T (39, 995) 47 [.int (nI 0)] (p_expr T (p_un T 8)) := by
  have hu := p_unary (fz := fz) (S := S) (p := p) (T := T) 8 0 rfl
  have h1 := p_product (R1 := 36) (R2 := 920) (by omega) (by omega) hu
  have h2 := p_summ (R1 := 37) (R2 := 945) (by omega) (by omega) h1
  exact p_exp (R1 := 38) (R2 := 970) (by omega) (by omega) h2
end PF
