/-! THE PARSER: a statement, a row of statements -/
section PI
variable {fz : Bool} {S : gS} {p : Nat} {T : tK} {M M' : rf_M} {s : pS}
theorem nI_m1 {c : Nat} (h : c ≤ 1000) : ¬ nI c = Int32.ofInt (-1) := fun z => by
  have h1 := nI_int (k := c) (by omega)
  rw [z] at h1
  have e1 : (Int32.ofInt (-1)).toInt = -1 := by decide
  omega
theorem p_statement {f d : Nat} {x y : Int32} (hcom : ∀ k c, c < 40 → pdo fz S p T (41 + 4 * f, 1054 + 99 * f) 53 [.int k, .int (nI c), .int (nI d)] (p_com T k (p_body T f))) : pdj fz S p T (42 + 4 * f, 1077 + 99 * f) 38 [.int x, .int y, .int (nI d)] (p_st T (p_body T f)) := by
  intro M s hq
  have bad : ¬ (p_beg (kd T s.1) = true ∧ s.2.2.1 < 40) → gx (cx0 fz) (42 + 4 * f, 1077 + 99 * f) 38 30 [(4, .int (kd T s.1)), (0, .ref 169), (1, .int x), (2, .int y), (3, .int (nI d))] [.int (Int32.ofInt (-1))] (M, S) (fun r h' => ∃ z M', r = some (.int z) ∧ p_ix z ∧ h' = (M', S) ∧ pz fz S p T M' (p_st T (p_body T f) s) ∧ pz_fr p M M') := by
    intro hc
    refine g2 (n := 2) rfl rfl rfl rfl ?_
    refine g1 (n := 2) rfl rfl rfl rfl ?_
    refine g1 (n := 1) rfl rfl rfl rfl ?_
    refine g_ic rfl (fun c => absurd rfl ((rf_cc_iff _ _ .ne).mp c)) (fun _ => ?_)
    refine g1 (n := 1) rfl rfl rfl rfl ?_
    refine m_iv (a := 169) (as := []) (rest := []) rfl (by decide) hq.1.1.1 rfl rfl (Nat.le_of_ble_eq_true rfl) ⟨by show 1 ≤ 42 + 4 * f; omega, by show 1 + 19 ≤ 1077 + 99 * f; omega, Nat.le_of_ble_eq_true rfl⟩ ?_
    refine gx_room (gx_mono (p_refuse M s hq) ?_) (Nat.zero_le _) (Nat.zero_le _)
    rintro r h' ⟨rfl, M1, rfl, q1, q2⟩
    refine g1 (n := 1) rfl rfl rfl rfl ?_
    refine gx_ret rfl rfl ⟨_, M1, rfl, Or.inl rfl, rfl, ?_, q2⟩
    unfold p_st
    rw [if_neg hc]
    exact q1
  have good : p_beg (kd T s.1) = true → s.2.2.1 < 40 → ∀ M1, pz fz S p T M1 (p_c1 s) → pz_fr p M M1 → gx (cx0 fz) (42 + 4 * f, 1077 + 99 * f) 38 44 [(5, .int (nI s.2.2.1)), (4, .int (kd T s.1)), (0, .ref 169), (1, .int x), (2, .int y), (3, .int (nI d))] [] (M1, S) (fun r h' => ∃ z M', r = some (.int z) ∧ p_ix z ∧ h' = (M', S) ∧ pz fz S p T M' (p_st T (p_body T f) s) ∧ pz_fr p M M') := by
    intro hb h40 M1 q1 q2
    have hpb : 25 ≤ p ∧ p + 11 ≤ 168 := ⟨q1.1.1.2.2.2.1, q1.1.1.2.2.2.2.1⟩
    refine g1 (n := 1) rfl rfl rfl rfl ?_
    refine m_gf rfl q1.1.1.1 rfl (pz_prog q1) ?_
    refine m_gf rfl q1.1.1.2.2.1 rfl (v := .ref (p + 2)) (by show va_rf (M1.2.2 p 6) = _; rw [q1.1.2.1.2.2.2.2.2 6 (by omega) (by omega)]; rfl) ?_
    refine g1 (n := 2) rfl rfl rfl rfl ?_
    refine g1 (n := 1) rfl rfl rfl rfl ?_
    refine m_iv (a := 169) (as := []) (rest := [.int (nI s.2.2.1), .ref (p + 2)]) rfl (by decide) q1.1.1.1 rfl rfl (Nat.le_of_ble_eq_true rfl) ⟨by show 1 ≤ 42 + 4 * f; omega, by show 1 + 19 ≤ 1077 + 99 * f; omega, Nat.le_of_ble_eq_true rfl⟩ ?_
    refine gx_room (gx_mono (p_number q1) ?_) (Nat.zero_le _) (Nat.zero_le _)
    rintro r h' ⟨rfl, rfl⟩
    refine m_is rfl (q1.1.1.2.2.2.2.2.1 2 (by omega) (by omega)) (nI_int (by omega)) h40 ?_
    have q3 := q1.cc (a := p + 2) (k := s.2.2.1) (x := nb T (p_c1 s).1) (by omega)
    have q4 : pz_fr p M (rf_wi M1 (p + 2) s.2.2.1 (nb T (p_c1 s).1)) := q2.wi (by omega)
    generalize rf_wi M1 (p + 2) s.2.2.1 (nb T (p_c1 s).1) = M2 at q3 q4 ⊢
    refine g1 (n := 1) rfl rfl rfl rfl ?_
    refine m_iv (a := 169) (as := []) (rest := []) rfl (by decide) q3.1.1.1 rfl rfl (Nat.le_of_ble_eq_true rfl) ⟨by show 1 ≤ 42 + 4 * f; omega, by show 1 + 19 ≤ 1077 + 99 * f; omega, Nat.le_of_ble_eq_true rfl⟩ ?_
    refine gx_room (gx_mono (p_advance M2 _ q3) ?_) (Nat.zero_le _) (Nat.zero_le _)
    rintro r h' ⟨rfl, M3, rfl, q5, q6⟩
    replace q6 := q4.trans q6
    refine g1 (n := 2) rfl rfl rfl rfl ?_
    have est : p_st T (p_body T f) s = p_st1 T (p_body T f) (kd T s.1) (p_adv T (p_c1 s)) := by unfold p_st; rw [if_pos ⟨hb, h40⟩]
    rw [est]
    have hix : p_ix (nI s.2.2.1) := Or.inr ⟨s.2.2.1, h40, rfl⟩
    generalize kd T s.1 = k
    generalize p_adv T (p_c1 s) = t at q5 ⊢
    have fin : ∀ M' t', pz fz S p T M' t' → pz_fr p M M' → t' = p_st1 T (p_body T f) k t → gx (cx0 fz) (42 + 4 * f, 1077 + 99 * f) 38 163 [(5, .int (nI s.2.2.1)), (4, .int k), (0, .ref 169), (1, .int x), (2, .int y), (3, .int (nI d))] [] (M', S) (fun r h' => ∃ z M', r = some (.int z) ∧ p_ix z ∧ h' = (M', S) ∧ pz fz S p T M' (p_st1 T (p_body T f) k t) ∧ pz_fr p M M') := by
      intro M' t' w1 w2 w3
      rw [← w3]
      refine g1 (n := 2) rfl rfl rfl rfl ?_
      exact gx_ret rfl rfl ⟨_, M', rfl, hix, rfl, w1, w2⟩
    by_cases h1 : k = 1
    · refine m_lsw (J := .iadd) rfl (t := 108) (by rw [h1]; rfl) ?_
      refine g1 (n := 1) rfl rfl rfl rfl ?_
      refine g1 (n := 2) rfl rfl rfl rfl ?_
      refine m_iv (a := 169) (as := [.int 61]) (rest := []) rfl (by decide) q5.1.1.1 rfl rfl (Nat.le_of_ble_eq_true rfl) ⟨by show 1 ≤ 42 + 4 * f; omega, by show 2 + 19 ≤ 1077 + 99 * f; omega, Nat.le_of_ble_eq_true rfl⟩ ?_
      refine gx_room (gx_mono (p_expect M3 _ q5) ?_) (by show 1 ≤ 42 + 4 * f - 1; omega) (by show 40 ≤ 1077 + 99 * f - (2 + 19); omega)
      rintro r h' ⟨rfl, M4, rfl, q7, q8⟩
      refine g1 (n := 1) rfl rfl rfl rfl ?_
      refine m_iv (a := 169) (as := []) (rest := []) rfl (by decide) q7.1.1.1 rfl rfl (Nat.le_of_ble_eq_true rfl) ⟨by show 1 ≤ 42 + 4 * f; omega, by show 1 + 19 ≤ 1077 + 99 * f; omega, Nat.le_of_ble_eq_true rfl⟩ ?_
      refine gx_room (gx_mono (p_closed M4 _ q7) ?_) (by show 40 ≤ 42 + 4 * f - 1; omega) (by show 1020 ≤ 1077 + 99 * f - (1 + 19); omega)
      rintro r h' ⟨rfl, M5, rfl, q9, q10⟩
      refine g3 rfl rfl rfl ?_
      exact fin M5 _ q9 ((q6.trans q8).trans q10) (by unfold p_st1; rw [if_pos h1])
    by_cases h13 : k = 13
    · refine m_lsw (J := .iadd) rfl (t := 145) (by rw [h13]; rfl) ?_
      refine g1 (n := 1) rfl rfl rfl rfl ?_
      refine g1 (n := 2) rfl rfl rfl rfl ?_
      refine m_iv (a := 169) (as := [.int 59]) (rest := []) rfl (by decide) q5.1.1.1 rfl rfl (Nat.le_of_ble_eq_true rfl) ⟨by show 1 ≤ 42 + 4 * f; omega, by show 2 + 19 ≤ 1077 + 99 * f; omega, Nat.le_of_ble_eq_true rfl⟩ ?_
      refine gx_room (gx_mono (p_expect M3 _ q5) ?_) (by show 1 ≤ 42 + 4 * f - 1; omega) (by show 40 ≤ 1077 + 99 * f - (2 + 19); omega)
      rintro r h' ⟨rfl, M4, rfl, q7, q8⟩
      refine g3 rfl rfl rfl ?_
      exact fin M4 _ q7 (q6.trans q8) (by unfold p_st1; rw [if_neg h1, if_pos h13])
    by_cases h14 : k = 14
    · refine m_lsw (J := .iadd) rfl (t := 121) (by rw [h14]; rfl) ?_
      refine g1 (n := 1) rfl rfl rfl rfl ?_
      refine m_iv (a := 169) (as := []) (rest := []) rfl (by decide) q5.1.1.1 rfl rfl (Nat.le_of_ble_eq_true rfl) ⟨by show 1 ≤ 42 + 4 * f; omega, by show 1 + 19 ≤ 1077 + 99 * f; omega, Nat.le_of_ble_eq_true rfl⟩ ?_
      refine gx_room (gx_mono (p_closed M3 _ q5) ?_) (by show 40 ≤ 42 + 4 * f - 1; omega) (by show 1020 ≤ 1077 + 99 * f - (1 + 19); omega)
      rintro r h' ⟨rfl, M4, rfl, q7, q8⟩
      refine g3 rfl rfl rfl ?_
      exact fin M4 _ q7 (q6.trans q8) (by unfold p_st1; rw [if_neg h1, if_neg h13, if_pos h14])
    by_cases h19 : k = 19
    · refine m_lsw (J := .iadd) rfl (t := 128) (by rw [h19]; rfl) ?_
      refine g1 (n := 1) rfl rfl rfl rfl ?_
      refine g1 (n := 1) rfl rfl rfl rfl ?_
      refine m_pf rfl q5.1.1.1 rfl (M' := rf_wi M3 169 4 (bI true)) rfl ?_
      have q7 := q5.ir (b := true)
      have q8 : pz_fr p M (rf_wi M3 169 4 (bI true)) := q6.wi (by omega)
      generalize rf_wi M3 169 4 (bI true) = M4 at q7 q8 ⊢
      refine g1 (n := 1) rfl rfl rfl rfl ?_
      refine m_iv (a := 169) (as := []) (rest := []) rfl (by decide) q7.1.1.1 rfl rfl (Nat.le_of_ble_eq_true rfl) ⟨by show 1 ≤ 42 + 4 * f; omega, by show 1 + 19 ≤ 1077 + 99 * f; omega, Nat.le_of_ble_eq_true rfl⟩ ?_
      refine gx_room (gx_mono (p_closed M4 _ q7) ?_) (by show 40 ≤ 42 + 4 * f - 1; omega) (by show 1020 ≤ 1077 + 99 * f - (1 + 19); omega)
      rintro r h' ⟨rfl, M5, rfl, q9, q10⟩
      refine g1 (n := 1) rfl rfl rfl rfl ?_
      refine g1 (n := 1) rfl rfl rfl rfl ?_
      refine m_pf rfl q9.1.1.1 rfl (M' := rf_wi M5 169 4 (bI false)) rfl ?_
      refine g3 rfl rfl rfl ?_
      exact fin _ _ (q9.ir (b := false)) ((q8.trans q10).wi (by omega)) (by unfold p_st1; rw [if_neg h1, if_neg h13, if_neg h14, if_pos h19])
    refine m_lsw (J := .iadd) rfl (t := 154) ?_ ?_
    · show rf_sw [(1, 108), (13, 145), (14, 121), (19, 128)] 154 k.toInt = 154
      simp only [rf_sw]
      rw [if_neg (fun z => h1 (Int32.toInt_inj.mp (by rw [← z]; rfl))), if_neg (fun z => h13 (Int32.toInt_inj.mp (by rw [← z]; rfl))), if_neg (fun z => h14 (Int32.toInt_inj.mp (by rw [← z]; rfl))), if_neg (fun z => h19 (Int32.toInt_inj.mp (by rw [← z]; rfl)))]
    refine g1 (n := 1) rfl rfl rfl rfl ?_
    refine g1 (n := 2) rfl rfl rfl rfl ?_
    refine g1 (n := 2) rfl rfl rfl rfl ?_
    refine g1 (n := 1) rfl rfl rfl rfl ?_
    refine m_iv (a := 169) (as := [.int k, .int (nI s.2.2.1), .int (nI d)]) (rest := []) rfl (by decide) q5.1.1.1 rfl rfl (Nat.le_of_ble_eq_true rfl) ⟨by show 1 ≤ 42 + 4 * f; omega, by show 4 + 19 ≤ 1077 + 99 * f; omega, Nat.le_of_ble_eq_true rfl⟩ ?_
    refine gx_room (gx_mono (hcom k s.2.2.1 h40 M3 _ q5) ?_) (by show 41 + 4 * f ≤ 42 + 4 * f - 1; omega) (by show 1054 + 99 * f ≤ 1077 + 99 * f - (4 + 19); omega)
    rintro r h' ⟨rfl, M4, rfl, q7, q8⟩
    exact fin M4 _ q7 (q6.trans q8) (by unfold p_st1; rw [if_neg h1, if_neg h13, if_neg h14, if_neg h19])
  refine g1 (n := 1) rfl rfl rfl rfl ?_
  refine m_iv (a := 169) (as := []) (rest := []) rfl (by decide) hq.1.1.1 rfl rfl (Nat.le_of_ble_eq_true rfl) ⟨by show 1 ≤ 42 + 4 * f; omega, by show 1 + 19 ≤ 1077 + 99 * f; omega, Nat.le_of_ble_eq_true rfl⟩ ?_
  refine gx_room (gx_mono (p_token hq) ?_) (Nat.zero_le _) (Nat.zero_le _)
  rintro r h' ⟨rfl, rfl⟩
  refine g2 (n := 2) rfl rfl rfl rfl ?_
  refine g1 (n := 2) rfl rfl rfl rfl ?_
  refine m_st (as := [.int (kd T s.1)]) (rest := []) rfl (by decide) rfl (Nat.le_of_ble_eq_true rfl) ⟨by show 1 ≤ 42 + 4 * f; omega, by show 1 + 19 ≤ 1077 + 99 * f; omega, Nat.le_of_ble_eq_true rfl⟩ ?_
  refine gx_room (gx_mono (p_canBegin (x := kd T s.1)) ?_) (Nat.zero_le _) (Nat.zero_le _)
  rintro r h' ⟨rfl, rfl⟩
  refine g_if rfl (fun c => ?_) (fun c => ?_)
  · refine g1 (n := 1) rfl rfl rfl rfl ?_
    exact bad (fun z => by rw [bI_no c] at z; cases z.1)
  have hb := bI_yes c
  refine g1 (n := 1) rfl rfl rfl rfl ?_
  refine m_gf rfl hq.1.1.1 rfl (pz_prog hq) ?_
  refine g1 (n := 2) rfl rfl rfl rfl ?_
  refine g1 (n := 1) rfl rfl rfl rfl ?_
  refine g1 (n := 1) rfl rfl rfl rfl ?_
  refine g1 (n := 1) rfl rfl rfl rfl ?_
  refine m_iv (a := p) (as := [.int (kd T s.1), .int x, .int y, .int (nI d)]) (rest := []) rfl (by decide) hq.1.1.2.2.1 rfl rfl (Nat.le_of_ble_eq_true rfl) ⟨by show 1 ≤ 42 + 4 * f; omega, by show 6 + 19 ≤ 1077 + 99 * f; omega, Nat.le_of_ble_eq_true rfl⟩ ?_
  refine gx_room (gx_mono (p_open hq) ?_) (Nat.zero_le _) (Nat.zero_le _)
  rintro r h' (⟨h40, rfl, M1, rfl, q1, q2⟩ | ⟨h40, rfl, rfl⟩)
  · refine g3 rfl rfl rfl ?_
    refine g2 (n := 2) rfl rfl rfl rfl ?_
    refine g1 (n := 2) rfl rfl rfl rfl ?_
    refine g1 (n := 1) rfl rfl rfl rfl ?_
    refine g_ic rfl (fun _ => ?_) (fun c2 => absurd ((rf_cc_iff _ _ .ne).mpr (fun w => nI_m1 (by omega) (Int32.toInt_inj.mp w))) c2)
    exact good hb h40 M1 q1 q2
  · refine g3 rfl rfl rfl ?_
    exact bad (fun z => h40 z.2)
theorem p_statements {f d : Nat} {x y : Int32} (hst : pdj fz S p T (42 + 4 * f, 1077 + 99 * f) 38 [.int x, .int y, .int (nI d)] (p_st T (p_body T f))) : pdj fz S p T (43 + 4 * f, 1102 + 99 * f) 35 [.int x, .int y, .int (nI d)] (p_sts T (p_body T f)) := by
  intro M s h0
  have loop : ∀ (m i : Nat) (ls : rf_L) (a l w : Int32), 41 - i ≤ m → i ≤ 41 → p_ix a → p_ix l → (ls = [(6, .int (nI i)), (5, .int l), (4, .int a), (0, .ref 169), (1, .int x), (2, .int y), (3, .int (nI d))] ∨ ls = [(6, .int (nI i)), (5, .int l), (4, .int a), (7, .int w), (0, .ref 169), (1, .int x), (2, .int y), (3, .int (nI d))] ∨ ls = [(6, .int (nI i)), (5, .int l), (7, .int w), (4, .int a), (0, .ref 169), (1, .int x), (2, .int y), (3, .int (nI d))]) → ∀ (M' : rf_M) (s' : pS), pz fz S p T M' s' → pz_fr p M M' → gx (cx0 fz) (43 + 4 * f, 1102 + 99 * f) 35 9 ls [] (M', S) (fun r h' => ∃ z M'', r = some (.int z) ∧ p_ix z ∧ h' = (M'', S) ∧ pz fz S p T M'' (p_loop (p_go T) (p_st T (p_body T f)) (41 - i) s') ∧ pz_fr p M M'') := by
    intro m
    induction m with
    | zero =>
      intro i ls a l w g0 g1' ha hl hls M' s' hq hfr
      have hi : i = 41 := by omega
      subst hi
      rcases hls with rfl | rfl | rfl
      · refine g1 (n := 2) rfl rfl rfl rfl ?_
        refine g1 (n := 2) rfl rfl rfl rfl ?_
        refine g_ic rfl (fun _ => ?_) (fun c => absurd (by decide) c)
        refine g1 (n := 2) rfl rfl rfl rfl ?_
        exact gx_ret rfl rfl ⟨_, M', rfl, ha, rfl, hq, hfr⟩
      · refine g1 (n := 2) rfl rfl rfl rfl ?_
        refine g1 (n := 2) rfl rfl rfl rfl ?_
        refine g_ic rfl (fun _ => ?_) (fun c => absurd (by decide) c)
        refine g1 (n := 2) rfl rfl rfl rfl ?_
        exact gx_ret rfl rfl ⟨_, M', rfl, ha, rfl, hq, hfr⟩
      · refine g1 (n := 2) rfl rfl rfl rfl ?_
        refine g1 (n := 2) rfl rfl rfl rfl ?_
        refine g_ic rfl (fun _ => ?_) (fun c => absurd (by decide) c)
        refine g1 (n := 2) rfl rfl rfl rfl ?_
        exact gx_ret rfl rfl ⟨_, M', rfl, ha, rfl, hq, hfr⟩
    | succ m ih =>
      intro i ls a l w g0 g1' ha hl hls M' s' hq hfr
      by_cases hi : i = 41
      · subst hi
        rcases hls with rfl | rfl | rfl
        · refine g1 (n := 2) rfl rfl rfl rfl ?_
          refine g1 (n := 2) rfl rfl rfl rfl ?_
          refine g_ic rfl (fun _ => ?_) (fun c => absurd (by decide) c)
          refine g1 (n := 2) rfl rfl rfl rfl ?_
          exact gx_ret rfl rfl ⟨_, M', rfl, ha, rfl, hq, hfr⟩
        · refine g1 (n := 2) rfl rfl rfl rfl ?_
          refine g1 (n := 2) rfl rfl rfl rfl ?_
          refine g_ic rfl (fun _ => ?_) (fun c => absurd (by decide) c)
          refine g1 (n := 2) rfl rfl rfl rfl ?_
          exact gx_ret rfl rfl ⟨_, M', rfl, ha, rfl, hq, hfr⟩
        · refine g1 (n := 2) rfl rfl rfl rfl ?_
          refine g1 (n := 2) rfl rfl rfl rfl ?_
          refine g_ic rfl (fun _ => ?_) (fun c => absurd (by decide) c)
          refine g1 (n := 2) rfl rfl rfl rfl ?_
          exact gx_ret rfl rfl ⟨_, M', rfl, ha, rfl, hq, hfr⟩
      obtain ⟨n, hn⟩ : ∃ n, 41 - i = n + 1 := ⟨41 - i - 1, by omega⟩
      have hn2 : 41 - (i + 1) = n := by omega
      have stop : p_go T s' = false → p_loop (p_go T) (p_st T (p_body T f)) (41 - i) s' = s' := by
        intro hc
        rw [hn]
        show (if p_go T s' = true then _ else _) = _
        rw [hc]; rfl
      have go1 : p_go T s' = true → p_loop (p_go T) (p_st T (p_body T f)) (41 - i) s' = p_loop (p_go T) (p_st T (p_body T f)) n (p_st T (p_body T f) s') := by
        intro hc
        rw [hn]
        show (if p_go T s' = true then _ else _) = _
        rw [hc]; rfl
      have bod : ∀ z Mz, p_ix z → pz fz S p T Mz (p_st T (p_body T f) s') → pz_fr p M Mz → p_go T s' = true → gx (cx0 fz) (43 + 4 * f, 1102 + 99 * f) 35 52 [(7, .int z), (6, .int (nI i)), (5, .int l), (4, .int a), (0, .ref 169), (1, .int x), (2, .int y), (3, .int (nI d))] [] (Mz, S) (fun r h' => ∃ z M'', r = some (.int z) ∧ p_ix z ∧ h' = (M'', S) ∧ pz fz S p T M'' (p_loop (p_go T) (p_st T (p_body T f)) (41 - i) s') ∧ pz_fr p M M'') := by
        intro z Mz hz b1 b2 hc
        have hpb : 25 ≤ p ∧ p + 11 ≤ 168 := ⟨b1.1.1.2.2.2.1, b1.1.1.2.2.2.2.1⟩
        rw [go1 hc, ← hn2]
        refine g1 (n := 2) rfl rfl rfl rfl ?_
        refine g1 (n := 1) rfl rfl rfl rfl ?_
        refine g_ic rfl (fun c => ?_) (fun c => ?_)
        · have c : ¬ l = Int32.ofInt (-1) := fun z => (rf_cc_iff _ _ .ne).mp c (by rw [z])
          obtain ⟨c0, hc0, hlc⟩ : ∃ c, c < 40 ∧ l = nI c := hl.resolve_left c
          refine g1 (n := 1) rfl rfl rfl rfl ?_
          refine m_gf rfl b1.1.1.1 rfl (pz_prog b1) ?_
          refine m_gf rfl b1.1.1.2.2.1 rfl (v := .ref (p + 7)) (by show va_rf (Mz.2.2 p 11) = _; rw [b1.1.2.1.2.2.2.2.2 11 (by omega) (by omega)]; rfl) ?_
          refine g1 (n := 2) rfl rfl rfl rfl ?_
          refine g1 (n := 2) rfl rfl rfl rfl ?_
          refine m_is rfl (b1.1.1.2.2.2.2.2.1 7 (by omega) (by omega)) (k := c0) (by rw [hlc]; exact nI_int (by omega)) hc0 ?_
          refine g1 (n := 2) rfl rfl rfl rfl ?_
          refine g2 (n := 2) rfl rfl rfl rfl ?_
          refine g2 (n := 3) rfl rfl rfl rfl ?_
          refine g3 rfl rfl rfl ?_
          rw [nI_suc (by omega)]
          exact ih (i + 1) _ a z z (by omega) (by omega) ha hz (Or.inr (Or.inr rfl)) _ _ (b1.cc (by omega)) (b2.wi (by omega))
        · refine g1 (n := 2) rfl rfl rfl rfl ?_
          refine g2 (n := 2) rfl rfl rfl rfl ?_
          refine g3 rfl rfl rfl ?_
          refine g1 (n := 2) rfl rfl rfl rfl ?_
          refine g2 (n := 2) rfl rfl rfl rfl ?_
          refine g2 (n := 3) rfl rfl rfl rfl ?_
          refine g3 rfl rfl rfl ?_
          rw [nI_suc (by omega)]
          exact ih (i + 1) _ z z z (by omega) (by omega) hz hz (Or.inr (Or.inl rfl)) _ _ b1 b2
      rcases hls with rfl | rfl | rfl
      · have ret : p_go T s' = false → gx (cx0 fz) (43 + 4 * f, 1102 + 99 * f) 35 40 [(6, .int (nI i)), (5, .int l), (4, .int a), (0, .ref 169), (1, .int x), (2, .int y), (3, .int (nI d))] [] (M', S) (fun r h' => ∃ z M'', r = some (.int z) ∧ p_ix z ∧ h' = (M'', S) ∧ pz fz S p T M'' (p_loop (p_go T) (p_st T (p_body T f)) (41 - i) s') ∧ pz_fr p M M'') := by
          intro hc
          refine g1 (n := 2) rfl rfl rfl rfl ?_
          refine gx_ret rfl rfl ⟨_, M', rfl, ha, rfl, ?_, hfr⟩
          rw [stop hc]
          exact hq
        refine g1 (n := 2) rfl rfl rfl rfl ?_
        refine g1 (n := 2) rfl rfl rfl rfl ?_
        refine g_ic rfl (fun c => ?_) (fun _ => ?_)
        · have c : (40 : Int) < (nI i).toInt := (rf_cc_iff _ 40 .gt).mp c
          rw [nI_int (by omega)] at c
          exact absurd c (by omega)
        refine g1 (n := 1) rfl rfl rfl rfl ?_
        refine m_iv (a := 169) (as := []) (rest := []) rfl (by decide) hq.1.1.1 rfl rfl (Nat.le_of_ble_eq_true rfl) ⟨by show 1 ≤ 43 + 4 * f; omega, by show 1 + 19 ≤ 1102 + 99 * f; omega, Nat.le_of_ble_eq_true rfl⟩ ?_
        refine gx_room (gx_mono (p_faulty hq) ?_) (Nat.zero_le _) (Nat.zero_le _)
        rintro r h' ⟨rfl, rfl⟩
        refine g_if rfl (fun c => ret (by unfold p_go; rw [show s'.2.2.2.2.2 = false by simpa using bI_yes2 c]; rfl)) (fun c => ?_)
        have hok : s'.2.2.2.2.2 = true := by simpa using bI_no2 c
        refine g1 (n := 1) rfl rfl rfl rfl ?_
        refine g1 (n := 1) rfl rfl rfl rfl ?_
        refine m_iv (a := 169) (as := [.int 0]) (rest := []) rfl (by decide) hq.1.1.1 rfl rfl (Nat.le_of_ble_eq_true rfl) ⟨by show 1 ≤ 43 + 4 * f; omega, by show 2 + 19 ≤ 1102 + 99 * f; omega, Nat.le_of_ble_eq_true rfl⟩ ?_
        refine gx_room (gx_mono (p_isAt hq) ?_) (Nat.zero_le _) (Nat.zero_le _)
        rintro r h' ⟨rfl, rfl⟩
        refine g_if rfl (fun c2 => ret (by unfold p_go; rw [bI_yes2 c2]; simp)) (fun c2 => ?_)
        have n0 := bI_no2 c2
        refine g1 (n := 1) rfl rfl rfl rfl ?_
        refine g1 (n := 2) rfl rfl rfl rfl ?_
        refine m_iv (a := 169) (as := [.int 125]) (rest := []) rfl (by decide) hq.1.1.1 rfl rfl (Nat.le_of_ble_eq_true rfl) ⟨by show 1 ≤ 43 + 4 * f; omega, by show 2 + 19 ≤ 1102 + 99 * f; omega, Nat.le_of_ble_eq_true rfl⟩ ?_
        refine gx_room (gx_mono (p_isAt hq) ?_) (Nat.zero_le _) (Nat.zero_le _)
        rintro r h' ⟨rfl, rfl⟩
        refine g_if rfl (fun c3 => ?_) (fun c3 => ret (by unfold p_go; rw [bI_yes c3]; simp))
        have n125 := bI_no c3
        have hc : p_go T s' = true := by unfold p_go; rw [hok, n0, n125]; rfl
        refine g1 (n := 1) rfl rfl rfl rfl ?_
        refine g1 (n := 1) rfl rfl rfl rfl ?_
        refine g1 (n := 1) rfl rfl rfl rfl ?_
        refine g1 (n := 1) rfl rfl rfl rfl ?_
        refine m_iv (a := 169) (as := [.int x, .int y, .int (nI d)]) (rest := []) rfl (by decide) hq.1.1.1 rfl rfl (Nat.le_of_ble_eq_true rfl) ⟨by show 1 ≤ 43 + 4 * f; omega, by show 6 + 19 ≤ 1102 + 99 * f; omega, Nat.le_of_ble_eq_true rfl⟩ ?_
        refine gx_room (gx_mono (hst M' _ hq) ?_) (by show 42 + 4 * f ≤ 43 + 4 * f - 1; omega) (by show 1077 + 99 * f ≤ 1102 + 99 * f - (6 + 19); omega)
        rintro r h' ⟨z, Mz, rfl, hz, rfl, b1, b2⟩
        refine g2 (n := 2) rfl rfl rfl rfl ?_
        exact bod z Mz hz b1 (hfr.trans b2) hc
      · have ret : p_go T s' = false → gx (cx0 fz) (43 + 4 * f, 1102 + 99 * f) 35 40 [(6, .int (nI i)), (5, .int l), (4, .int a), (7, .int w), (0, .ref 169), (1, .int x), (2, .int y), (3, .int (nI d))] [] (M', S) (fun r h' => ∃ z M'', r = some (.int z) ∧ p_ix z ∧ h' = (M'', S) ∧ pz fz S p T M'' (p_loop (p_go T) (p_st T (p_body T f)) (41 - i) s') ∧ pz_fr p M M'') := by
          intro hc
          refine g1 (n := 2) rfl rfl rfl rfl ?_
          refine gx_ret rfl rfl ⟨_, M', rfl, ha, rfl, ?_, hfr⟩
          rw [stop hc]
          exact hq
        refine g1 (n := 2) rfl rfl rfl rfl ?_
        refine g1 (n := 2) rfl rfl rfl rfl ?_
        refine g_ic rfl (fun c => ?_) (fun _ => ?_)
        · have c : (40 : Int) < (nI i).toInt := (rf_cc_iff _ 40 .gt).mp c
          rw [nI_int (by omega)] at c
          exact absurd c (by omega)
        refine g1 (n := 1) rfl rfl rfl rfl ?_
        refine m_iv (a := 169) (as := []) (rest := []) rfl (by decide) hq.1.1.1 rfl rfl (Nat.le_of_ble_eq_true rfl) ⟨by show 1 ≤ 43 + 4 * f; omega, by show 1 + 19 ≤ 1102 + 99 * f; omega, Nat.le_of_ble_eq_true rfl⟩ ?_
        refine gx_room (gx_mono (p_faulty hq) ?_) (Nat.zero_le _) (Nat.zero_le _)
        rintro r h' ⟨rfl, rfl⟩
        refine g_if rfl (fun c => ret (by unfold p_go; rw [show s'.2.2.2.2.2 = false by simpa using bI_yes2 c]; rfl)) (fun c => ?_)
        have hok : s'.2.2.2.2.2 = true := by simpa using bI_no2 c
        refine g1 (n := 1) rfl rfl rfl rfl ?_
        refine g1 (n := 1) rfl rfl rfl rfl ?_
        refine m_iv (a := 169) (as := [.int 0]) (rest := []) rfl (by decide) hq.1.1.1 rfl rfl (Nat.le_of_ble_eq_true rfl) ⟨by show 1 ≤ 43 + 4 * f; omega, by show 2 + 19 ≤ 1102 + 99 * f; omega, Nat.le_of_ble_eq_true rfl⟩ ?_
        refine gx_room (gx_mono (p_isAt hq) ?_) (Nat.zero_le _) (Nat.zero_le _)
        rintro r h' ⟨rfl, rfl⟩
        refine g_if rfl (fun c2 => ret (by unfold p_go; rw [bI_yes2 c2]; simp)) (fun c2 => ?_)
        have n0 := bI_no2 c2
        refine g1 (n := 1) rfl rfl rfl rfl ?_
        refine g1 (n := 2) rfl rfl rfl rfl ?_
        refine m_iv (a := 169) (as := [.int 125]) (rest := []) rfl (by decide) hq.1.1.1 rfl rfl (Nat.le_of_ble_eq_true rfl) ⟨by show 1 ≤ 43 + 4 * f; omega, by show 2 + 19 ≤ 1102 + 99 * f; omega, Nat.le_of_ble_eq_true rfl⟩ ?_
        refine gx_room (gx_mono (p_isAt hq) ?_) (Nat.zero_le _) (Nat.zero_le _)
        rintro r h' ⟨rfl, rfl⟩
        refine g_if rfl (fun c3 => ?_) (fun c3 => ret (by unfold p_go; rw [bI_yes c3]; simp))
        have n125 := bI_no c3
        have hc : p_go T s' = true := by unfold p_go; rw [hok, n0, n125]; rfl
        refine g1 (n := 1) rfl rfl rfl rfl ?_
        refine g1 (n := 1) rfl rfl rfl rfl ?_
        refine g1 (n := 1) rfl rfl rfl rfl ?_
        refine g1 (n := 1) rfl rfl rfl rfl ?_
        refine m_iv (a := 169) (as := [.int x, .int y, .int (nI d)]) (rest := []) rfl (by decide) hq.1.1.1 rfl rfl (Nat.le_of_ble_eq_true rfl) ⟨by show 1 ≤ 43 + 4 * f; omega, by show 6 + 19 ≤ 1102 + 99 * f; omega, Nat.le_of_ble_eq_true rfl⟩ ?_
        refine gx_room (gx_mono (hst M' _ hq) ?_) (by show 42 + 4 * f ≤ 43 + 4 * f - 1; omega) (by show 1077 + 99 * f ≤ 1102 + 99 * f - (6 + 19); omega)
        rintro r h' ⟨z, Mz, rfl, hz, rfl, b1, b2⟩
        refine g2 (n := 2) rfl rfl rfl rfl ?_
        exact bod z Mz hz b1 (hfr.trans b2) hc
      · have ret : p_go T s' = false → gx (cx0 fz) (43 + 4 * f, 1102 + 99 * f) 35 40 [(6, .int (nI i)), (5, .int l), (7, .int w), (4, .int a), (0, .ref 169), (1, .int x), (2, .int y), (3, .int (nI d))] [] (M', S) (fun r h' => ∃ z M'', r = some (.int z) ∧ p_ix z ∧ h' = (M'', S) ∧ pz fz S p T M'' (p_loop (p_go T) (p_st T (p_body T f)) (41 - i) s') ∧ pz_fr p M M'') := by
          intro hc
          refine g1 (n := 2) rfl rfl rfl rfl ?_
          refine gx_ret rfl rfl ⟨_, M', rfl, ha, rfl, ?_, hfr⟩
          rw [stop hc]
          exact hq
        refine g1 (n := 2) rfl rfl rfl rfl ?_
        refine g1 (n := 2) rfl rfl rfl rfl ?_
        refine g_ic rfl (fun c => ?_) (fun _ => ?_)
        · have c : (40 : Int) < (nI i).toInt := (rf_cc_iff _ 40 .gt).mp c
          rw [nI_int (by omega)] at c
          exact absurd c (by omega)
        refine g1 (n := 1) rfl rfl rfl rfl ?_
        refine m_iv (a := 169) (as := []) (rest := []) rfl (by decide) hq.1.1.1 rfl rfl (Nat.le_of_ble_eq_true rfl) ⟨by show 1 ≤ 43 + 4 * f; omega, by show 1 + 19 ≤ 1102 + 99 * f; omega, Nat.le_of_ble_eq_true rfl⟩ ?_
        refine gx_room (gx_mono (p_faulty hq) ?_) (Nat.zero_le _) (Nat.zero_le _)
        rintro r h' ⟨rfl, rfl⟩
        refine g_if rfl (fun c => ret (by unfold p_go; rw [show s'.2.2.2.2.2 = false by simpa using bI_yes2 c]; rfl)) (fun c => ?_)
        have hok : s'.2.2.2.2.2 = true := by simpa using bI_no2 c
        refine g1 (n := 1) rfl rfl rfl rfl ?_
        refine g1 (n := 1) rfl rfl rfl rfl ?_
        refine m_iv (a := 169) (as := [.int 0]) (rest := []) rfl (by decide) hq.1.1.1 rfl rfl (Nat.le_of_ble_eq_true rfl) ⟨by show 1 ≤ 43 + 4 * f; omega, by show 2 + 19 ≤ 1102 + 99 * f; omega, Nat.le_of_ble_eq_true rfl⟩ ?_
        refine gx_room (gx_mono (p_isAt hq) ?_) (Nat.zero_le _) (Nat.zero_le _)
        rintro r h' ⟨rfl, rfl⟩
        refine g_if rfl (fun c2 => ret (by unfold p_go; rw [bI_yes2 c2]; simp)) (fun c2 => ?_)
        have n0 := bI_no2 c2
        refine g1 (n := 1) rfl rfl rfl rfl ?_
        refine g1 (n := 2) rfl rfl rfl rfl ?_
        refine m_iv (a := 169) (as := [.int 125]) (rest := []) rfl (by decide) hq.1.1.1 rfl rfl (Nat.le_of_ble_eq_true rfl) ⟨by show 1 ≤ 43 + 4 * f; omega, by show 2 + 19 ≤ 1102 + 99 * f; omega, Nat.le_of_ble_eq_true rfl⟩ ?_
        refine gx_room (gx_mono (p_isAt hq) ?_) (Nat.zero_le _) (Nat.zero_le _)
        rintro r h' ⟨rfl, rfl⟩
        refine g_if rfl (fun c3 => ?_) (fun c3 => ret (by unfold p_go; rw [bI_yes c3]; simp))
        have n125 := bI_no c3
        have hc : p_go T s' = true := by unfold p_go; rw [hok, n0, n125]; rfl
        refine g1 (n := 1) rfl rfl rfl rfl ?_
        refine g1 (n := 1) rfl rfl rfl rfl ?_
        refine g1 (n := 1) rfl rfl rfl rfl ?_
        refine g1 (n := 1) rfl rfl rfl rfl ?_
        refine m_iv (a := 169) (as := [.int x, .int y, .int (nI d)]) (rest := []) rfl (by decide) hq.1.1.1 rfl rfl (Nat.le_of_ble_eq_true rfl) ⟨by show 1 ≤ 43 + 4 * f; omega, by show 6 + 19 ≤ 1102 + 99 * f; omega, Nat.le_of_ble_eq_true rfl⟩ ?_
        refine gx_room (gx_mono (hst M' _ hq) ?_) (by show 42 + 4 * f ≤ 43 + 4 * f - 1; omega) (by show 1077 + 99 * f ≤ 1102 + 99 * f - (6 + 19); omega)
        rintro r h' ⟨z, Mz, rfl, hz, rfl, b1, b2⟩
        refine g2 (n := 2) rfl rfl rfl rfl ?_
        exact bod z Mz hz b1 (hfr.trans b2) hc
  refine g1 (n := 1) rfl rfl rfl rfl ?_
  refine g2 (n := 2) rfl rfl rfl rfl ?_
  refine g1 (n := 1) rfl rfl rfl rfl ?_
  refine g2 (n := 2) rfl rfl rfl rfl ?_
  refine g1 (n := 1) rfl rfl rfl rfl ?_
  refine g2 (n := 2) rfl rfl rfl rfl ?_
  exact loop 41 0 _ (Int32.ofInt (-1)) (Int32.ofInt (-1)) 0 (by omega) (by omega) (Or.inl rfl) (Or.inl rfl) (Or.inl rfl) M s h0 (pz_fr.rfl' p M)
theorem p_bodyA : ∀ (f d : Nat), d + f = 8 → ∀ x y, pdi fz S p T (40 + 4 * f, 1030 + 99 * f) 54 [.int x, .int y, .int (nI d)] (p_body T f)
  | 0, d, h => by
    have e : d = 8 := by omega
    subst e
    intro x y
    exact p_body0
  | f + 1, d, h => by
    intro x y
    have hb := p_bodyA f (d + 1) (by omega)
    exact p_bodyS h (p_statements (p_statement (fun k c hc => p_compound hc hb)))
/-- a row of statements that lies in nothing -/
theorem p_top {x y : Int32} : pdj fz S p T (75, 1894) 35 [.int x, .int y, .int (nI 0)] (p_sts T (p_body T 8)) := p_statements (f := 8) (p_statement (fun k c hc => p_compound hc (p_bodyA 8 0 rfl)))
end PI
