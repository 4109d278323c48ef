/-! THE PARSER: exps -/
def p_cell (x : Int32) : Bool := decide (0 ≤ x.toInt) && decide (x.toInt < 16)
def p_u1 (s : pS) : pS := (s.1, s.2.1, s.2.2.1, s.2.2.2.1 + 1, s.2.2.2.2)
def p_loop (c : pS → Bool) (g : pS → pS) : Nat → pS → pS
  | 0, s => s
  | n + 1, s => if c s = true then p_loop c g n (g s) else s
def p_m (T : tK) (s : pS) : Bool := p_is T 42 s || (p_is T 47 s || p_is T 37 s)
def p_a (T : tK) (s : pS) : Bool := p_is T 43 s || p_is T 45 s
def p_c (T : tK) (s : pS) : Bool := p_is T 60 s || (p_is T 61 s || p_is T 35 s)
def p_prod (T : tK) (u : pS → pS) (s : pS) : pS := p_loop (p_m T) (fun s => u (p_adv T s)) 60 (u s)
def p_sum (T : tK) (u : pS → pS) (s : pS) : pS := p_loop (p_a T) (fun s => p_prod T u (p_adv T s)) 60 (p_prod T u s)
def p_expr (T : tK) (u : pS → pS) (s : pS) : pS := if p_c T (p_sum T u s) = true then p_sum T u (p_adv T (p_sum T u s)) else p_sum T u s
def p_un (T : tK) : Nat → pS → pS
  | 0, s => if s.2.2.2.2.2 = false ∨ 60 ≤ s.2.2.2.1 then p_bad s else if p_is T 2 (p_u1 s) = true then p_adv T (p_u1 s) else if p_is T 1 (p_u1 s) = true ∧ (p_cell (nb T s.1) = true ∨ s.2.1 = false) then p_adv T (p_u1 s) else p_bad (p_u1 s)
  | f + 1, s => if s.2.2.2.2.2 = false ∨ 60 ≤ s.2.2.2.1 then p_bad s else if p_is T 2 (p_u1 s) = true then p_adv T (p_u1 s) else if p_is T 1 (p_u1 s) = true ∧ (p_cell (nb T s.1) = true ∨ s.2.1 = false) then p_adv T (p_u1 s) else if p_is T 45 (p_u1 s) = true then p_un T f (p_adv T (p_u1 s)) else if p_is T 40 (p_u1 s) = true then p_ex T 41 (p_expr T (p_un T f) (p_adv T (p_u1 s))) else p_bad (p_u1 s)
section PE
variable {fz : Bool} {S : gS} {p : Nat} {T : tK} {M M' : rf_M} {s : pS} {R1 R2 : Nat}
theorem bI_no2 {c : Bool} (h : ¬ rf_cc (bI c) 0 .ne = true) : c = false := by
  cases c
  · rfl
  · exact absurd (by decide) h
theorem bI_yes2 {c : Bool} (h : rf_cc (bI c) 0 .ne = true) : c = true := by
  cases c
  · exact absurd h (by decide)
  · rfl
theorem p_isCell {x : Int32} : gx (cx0 fz) (0, 0) 52 0 [(0, .int x)] [] (M, S) (fun r h' => r = some (.int (bI (p_cell x))) ∧ h' = (M, S)) := by
  refine g1 (n := 1) rfl rfl rfl rfl ?_
  refine g_if rfl (fun c => ?_) (fun c => ?_)
  · have c : x.toInt < (0 : Int32).toInt := (rf_cc_iff x 0 .lt).mp c
    rw [Int32.toInt_zero] at c
    refine g1 (n := 1) rfl rfl rfl rfl ?_
    exact gx_ret rfl rfl ⟨by have e : p_cell x = false := by (unfold p_cell; simp; omega)
                             rw [e]; rfl, rfl⟩
  · have c : ¬ x.toInt < (0 : Int32).toInt := fun z => c ((rf_cc_iff x 0 .lt).mpr z)
    rw [Int32.toInt_zero] at c
    refine g1 (n := 1) rfl rfl rfl rfl ?_
    refine g1 (n := 2) rfl rfl rfl rfl ?_
    refine g_ic rfl (fun c2 => ?_) (fun c2 => ?_)
    · have c2 : (16 : Int) ≤ x.toInt := (rf_cc_iff x 16 .ge).mp c2
      refine g1 (n := 1) rfl rfl rfl rfl ?_
      exact gx_ret rfl rfl ⟨by have e : p_cell x = false := by (unfold p_cell; simp; omega)
                               rw [e]; rfl, rfl⟩
    · have c2 : ¬ (16 : Int) ≤ x.toInt := fun z => c2 ((rf_cc_iff x 16 .ge).mpr z)
      refine g1 (n := 1) rfl rfl rfl rfl ?_
      refine g3 rfl rfl rfl ?_
      exact gx_ret rfl rfl ⟨by have e : p_cell x = true := by (unfold p_cell; simp; omega)
                               rw [e]; rfl, rfl⟩
theorem pz_prog (h : pz fz S p T M s) : rf_rd M ((cx0 fz).2.2.1 (2 : Nat) 1) 169 1 = .ref p := by
  show va_rf (M.2.2 169 1) = _
  rw [h.1.2.1.2.1]; rfl
theorem p_product {d : Nat} {u : pS → pS} (hR1 : 2 ≤ R1) (hR2 : 80 ≤ R2) (hu : pdo fz S p T (R1, R2) 50 [.int (nI d)] u) : pdo fz S p T (R1 + 1, R2 + 25) 49 [.int (nI d)] (p_prod T u) := by
  intro M s h
  have loop : ∀ (m k : Nat) (e : rf_L), 60 - k ≤ m → k ≤ 60 → (e = [] ∨ ∃ x, e = [(3, Value.int x)]) → ∀ (M' : rf_M) (s' : pS), pz fz S p T M' s' → pz_fr p M M' → gx (cx0 fz) (R1 + 1, R2 + 25) 49 7 ((2, .int (nI k)) :: (e ++ [(0, .ref 169), (1, .int (nI d))])) [] (M', S) (fun r h' => r = none ∧ ∃ M'', h' = (M'', S) ∧ pz fz S p T M'' (p_loop (p_m T) (fun s => u (p_adv T s)) (60 - k) s') ∧ pz_fr p M M'') := by
    intro m
    induction m with
    | zero =>
      intro k e h0 h1 he M' s' hq hfr
      have hk : k = 60 := by omega
      subst hk
      rcases he with rfl | ⟨x, rfl⟩
      · refine g1 (n := 1) rfl rfl rfl rfl ?_
        refine g1 (n := 2) rfl rfl rfl rfl ?_
        refine g_ic rfl (fun _ => ?_) (fun c => absurd (by decide) c)
        exact gx_ret rfl rfl ⟨rfl, M', rfl, hq, hfr⟩
      · refine g1 (n := 1) rfl rfl rfl rfl ?_
        refine g1 (n := 2) rfl rfl rfl rfl ?_
        refine g_ic rfl (fun _ => ?_) (fun c => absurd (by decide) c)
        exact gx_ret rfl rfl ⟨rfl, M', rfl, hq, hfr⟩
    | succ m ih =>
      intro k e h0 h1 he M' s' hq hfr
      by_cases hk : k = 60
      · subst hk
        rcases he with rfl | ⟨x, rfl⟩
        · refine g1 (n := 1) rfl rfl rfl rfl ?_
          refine g1 (n := 2) rfl rfl rfl rfl ?_
          refine g_ic rfl (fun _ => ?_) (fun c => absurd (by decide) c)
          exact gx_ret rfl rfl ⟨rfl, M', rfl, hq, hfr⟩
        · refine g1 (n := 1) rfl rfl rfl rfl ?_
          refine g1 (n := 2) rfl rfl rfl rfl ?_
          refine g_ic rfl (fun _ => ?_) (fun c => absurd (by decide) c)
          exact gx_ret rfl rfl ⟨rfl, M', rfl, hq, hfr⟩
      obtain ⟨f, hf⟩ : ∃ f, 60 - k = f + 1 := ⟨60 - k - 1, by omega⟩
      have hf2 : 60 - (k + 1) = f := by omega
      have stop : p_m T s' = false → p_loop (p_m T) (fun s => u (p_adv T s)) (60 - k) s' = s' := by
        intro hc
        rw [hf]
        show (if p_m T s' = true then _ else _) = _
        rw [hc]; rfl
      have go1 : p_m T s' = true → p_loop (p_m T) (fun s => u (p_adv T s)) (60 - k) s' = p_loop (p_m T) (fun s => u (p_adv T s)) f (u (p_adv T s')) := by
        intro hc
        rw [hf]
        show (if p_m T s' = true then _ else _) = _
        rw [hc]; rfl
      rcases he with rfl | ⟨x, rfl⟩
      · have bod : p_m T s' = true → gx (cx0 fz) (R1 + 1, R2 + 25) 49 40 [(2, .int (nI k)), (0, .ref 169), (1, .int (nI d))] [] (M', S) (fun r h' => r = none ∧ ∃ M'', h' = (M'', S) ∧ pz fz S p T M'' (p_loop (p_m T) (fun s => u (p_adv T s)) (60 - k) s') ∧ pz_fr p M M'') := by
          intro hc
          refine g1 (n := 1) rfl rfl rfl rfl ?_
          refine m_iv (a := 169) (as := []) (rest := []) rfl (by decide) hq.1.1.1 rfl rfl (Nat.le_of_ble_eq_true rfl) ⟨by show 1 ≤ R1 + 1; omega, by show 1 + 19 ≤ R2 + 25; omega, Nat.le_of_ble_eq_true rfl⟩ ?_
          refine gx_room (gx_mono (p_token hq) ?_) (Nat.zero_le _) (Nat.zero_le _)
          rintro r h' ⟨rfl, rfl⟩
          refine g2 (n := 1) rfl rfl rfl rfl ?_
          refine g1 (n := 1) rfl rfl rfl rfl ?_
          refine m_iv (a := 169) (as := []) (rest := []) rfl (by decide) hq.1.1.1 rfl rfl (Nat.le_of_ble_eq_true rfl) ⟨by show 1 ≤ R1 + 1; omega, by show 1 + 19 ≤ R2 + 25; omega, Nat.le_of_ble_eq_true rfl⟩ ?_
          refine gx_room (gx_mono (p_advance M' s' hq) ?_) (Nat.zero_le _) (Nat.zero_le _)
          rintro r h' ⟨rfl, M1, rfl, q1, q2⟩
          refine g1 (n := 1) rfl rfl rfl rfl ?_
          refine g1 (n := 1) rfl rfl rfl rfl ?_
          refine m_iv (a := 169) (as := [.int (nI d)]) (rest := []) rfl (by decide) q1.1.1.1 rfl rfl (Nat.le_of_ble_eq_true rfl) ⟨by show 1 ≤ R1 + 1; omega, by show 2 + 19 ≤ R2 + 25; omega, Nat.le_of_ble_eq_true rfl⟩ ?_
          refine gx_room (gx_mono (hu M1 _ q1) ?_) (by show R1 ≤ R1 + 1 - 1; omega) (by show R2 ≤ R2 + 25 - (2 + 19); omega)
          rintro r h' ⟨rfl, M2, rfl, q3, q4⟩
          refine g1 (n := 1) rfl rfl rfl rfl ?_
          refine m_gf rfl q3.1.1.1 rfl (pz_prog q3) ?_
          refine g1 (n := 1) rfl rfl rfl rfl ?_
          refine g1 (n := 1) rfl rfl rfl rfl ?_
          refine m_iv (a := p) (as := [.int _, .int _]) (rest := []) rfl (by decide) q3.1.1.2.2.1 rfl rfl (Nat.le_of_ble_eq_true rfl) ⟨by show 1 ≤ R1 + 1; omega, by show 3 + 19 ≤ R2 + 25; omega, Nat.le_of_ble_eq_true rfl⟩ ?_
          refine gx_room (gx_mono (p_emit q3) ?_) (Nat.zero_le _) (Nat.zero_le _)
          rintro r h' ⟨rfl, M3, rfl, q5, q6⟩
          refine g2 (n := 3) rfl rfl rfl rfl ?_
          refine g3 rfl rfl rfl ?_
          rw [nI_suc (by omega), go1 hc]
          have := ih (k + 1) [(3, .int (kd T s'.1))] (by omega) (by omega) (Or.inr ⟨_, rfl⟩) M3 _ q5 (((hfr.trans q2).trans q4).trans q6)
          rw [hf2] at this
          exact this
        refine g1 (n := 1) rfl rfl rfl rfl ?_
        refine g1 (n := 2) rfl rfl rfl rfl ?_
        refine g_ic rfl (fun c => ?_) (fun c => ?_)
        · have c : (60 : Int) ≤ (nI k).toInt := (rf_cc_iff _ 60 .ge).mp c
          rw [nI_int (by omega)] at c
          exact absurd c (by omega)
        clear c
        refine g1 (n := 1) rfl rfl rfl rfl ?_
        refine g1 (n := 2) rfl rfl rfl rfl ?_
        refine m_iv (a := 169) (as := [.int 42]) (rest := []) rfl (by decide) hq.1.1.1 rfl rfl (Nat.le_of_ble_eq_true rfl) ⟨by show 1 ≤ R1 + 1; omega, by show 2 + 19 ≤ R2 + 25; omega, Nat.le_of_ble_eq_true rfl⟩ ?_
        refine gx_room (gx_mono (p_isAt hq) ?_) (Nat.zero_le _) (Nat.zero_le _)
        rintro r h' ⟨rfl, rfl⟩
        refine g_if rfl (fun c => bod (by unfold p_m; rw [bI_yes2 c]; simp)) (fun c => ?_)
        have e0 := bI_no2 c
        refine g1 (n := 1) rfl rfl rfl rfl ?_
        refine g1 (n := 2) rfl rfl rfl rfl ?_
        refine m_iv (a := 169) (as := [.int 47]) (rest := []) rfl (by decide) hq.1.1.1 rfl rfl (Nat.le_of_ble_eq_true rfl) ⟨by show 1 ≤ R1 + 1; omega, by show 2 + 19 ≤ R2 + 25; omega, Nat.le_of_ble_eq_true rfl⟩ ?_
        refine gx_room (gx_mono (p_isAt hq) ?_) (Nat.zero_le _) (Nat.zero_le _)
        rintro r h' ⟨rfl, rfl⟩
        refine g_if rfl (fun c => bod (by unfold p_m; rw [bI_yes2 c, e0]; simp)) (fun c => ?_)
        have e1 := bI_no2 c
        refine g1 (n := 1) rfl rfl rfl rfl ?_
        refine g1 (n := 2) rfl rfl rfl rfl ?_
        refine m_iv (a := 169) (as := [.int 37]) (rest := []) rfl (by decide) hq.1.1.1 rfl rfl (Nat.le_of_ble_eq_true rfl) ⟨by show 1 ≤ R1 + 1; omega, by show 2 + 19 ≤ R2 + 25; omega, Nat.le_of_ble_eq_true rfl⟩ ?_
        refine gx_room (gx_mono (p_isAt hq) ?_) (Nat.zero_le _) (Nat.zero_le _)
        rintro r h' ⟨rfl, rfl⟩
        refine g_if rfl (fun c => ?_) (fun c => bod (by unfold p_m; rw [bI_yes c]; simp))
        have e2 := bI_no c
        refine gx_ret rfl rfl ⟨rfl, M', rfl, ?_, hfr⟩
        rw [stop (by unfold p_m; rw [e0, e1, e2]; rfl)]
        exact hq
      · have bod : p_m T s' = true → gx (cx0 fz) (R1 + 1, R2 + 25) 49 40 [(2, .int (nI k)), (3, .int x), (0, .ref 169), (1, .int (nI d))] [] (M', S) (fun r h' => r = none ∧ ∃ M'', h' = (M'', S) ∧ pz fz S p T M'' (p_loop (p_m T) (fun s => u (p_adv T s)) (60 - k) s') ∧ pz_fr p M M'') := by
          intro hc
          refine g1 (n := 1) rfl rfl rfl rfl ?_
          refine m_iv (a := 169) (as := []) (rest := []) rfl (by decide) hq.1.1.1 rfl rfl (Nat.le_of_ble_eq_true rfl) ⟨by show 1 ≤ R1 + 1; omega, by show 1 + 19 ≤ R2 + 25; omega, Nat.le_of_ble_eq_true rfl⟩ ?_
          refine gx_room (gx_mono (p_token hq) ?_) (Nat.zero_le _) (Nat.zero_le _)
          rintro r h' ⟨rfl, rfl⟩
          refine g2 (n := 1) rfl rfl rfl rfl ?_
          refine g1 (n := 1) rfl rfl rfl rfl ?_
          refine m_iv (a := 169) (as := []) (rest := []) rfl (by decide) hq.1.1.1 rfl rfl (Nat.le_of_ble_eq_true rfl) ⟨by show 1 ≤ R1 + 1; omega, by show 1 + 19 ≤ R2 + 25; omega, Nat.le_of_ble_eq_true rfl⟩ ?_
          refine gx_room (gx_mono (p_advance M' s' hq) ?_) (Nat.zero_le _) (Nat.zero_le _)
          rintro r h' ⟨rfl, M1, rfl, q1, q2⟩
          refine g1 (n := 1) rfl rfl rfl rfl ?_
          refine g1 (n := 1) rfl rfl rfl rfl ?_
          refine m_iv (a := 169) (as := [.int (nI d)]) (rest := []) rfl (by decide) q1.1.1.1 rfl rfl (Nat.le_of_ble_eq_true rfl) ⟨by show 1 ≤ R1 + 1; omega, by show 2 + 19 ≤ R2 + 25; omega, Nat.le_of_ble_eq_true rfl⟩ ?_
          refine gx_room (gx_mono (hu M1 _ q1) ?_) (by show R1 ≤ R1 + 1 - 1; omega) (by show R2 ≤ R2 + 25 - (2 + 19); omega)
          rintro r h' ⟨rfl, M2, rfl, q3, q4⟩
          refine g1 (n := 1) rfl rfl rfl rfl ?_
          refine m_gf rfl q3.1.1.1 rfl (pz_prog q3) ?_
          refine g1 (n := 1) rfl rfl rfl rfl ?_
          refine g1 (n := 1) rfl rfl rfl rfl ?_
          refine m_iv (a := p) (as := [.int _, .int _]) (rest := []) rfl (by decide) q3.1.1.2.2.1 rfl rfl (Nat.le_of_ble_eq_true rfl) ⟨by show 1 ≤ R1 + 1; omega, by show 3 + 19 ≤ R2 + 25; omega, Nat.le_of_ble_eq_true rfl⟩ ?_
          refine gx_room (gx_mono (p_emit q3) ?_) (Nat.zero_le _) (Nat.zero_le _)
          rintro r h' ⟨rfl, M3, rfl, q5, q6⟩
          refine g2 (n := 3) rfl rfl rfl rfl ?_
          refine g3 rfl rfl rfl ?_
          rw [nI_suc (by omega), go1 hc]
          have := ih (k + 1) [(3, .int (kd T s'.1))] (by omega) (by omega) (Or.inr ⟨_, rfl⟩) M3 _ q5 (((hfr.trans q2).trans q4).trans q6)
          rw [hf2] at this
          exact this
        refine g1 (n := 1) rfl rfl rfl rfl ?_
        refine g1 (n := 2) rfl rfl rfl rfl ?_
        refine g_ic rfl (fun c => ?_) (fun c => ?_)
        · have c : (60 : Int) ≤ (nI k).toInt := (rf_cc_iff _ 60 .ge).mp c
          rw [nI_int (by omega)] at c
          exact absurd c (by omega)
        clear c
        refine g1 (n := 1) rfl rfl rfl rfl ?_
        refine g1 (n := 2) rfl rfl rfl rfl ?_
        refine m_iv (a := 169) (as := [.int 42]) (rest := []) rfl (by decide) hq.1.1.1 rfl rfl (Nat.le_of_ble_eq_true rfl) ⟨by show 1 ≤ R1 + 1; omega, by show 2 + 19 ≤ R2 + 25; omega, Nat.le_of_ble_eq_true rfl⟩ ?_
        refine gx_room (gx_mono (p_isAt hq) ?_) (Nat.zero_le _) (Nat.zero_le _)
        rintro r h' ⟨rfl, rfl⟩
        refine g_if rfl (fun c => bod (by unfold p_m; rw [bI_yes2 c]; simp)) (fun c => ?_)
        have e0 := bI_no2 c
        refine g1 (n := 1) rfl rfl rfl rfl ?_
        refine g1 (n := 2) rfl rfl rfl rfl ?_
        refine m_iv (a := 169) (as := [.int 47]) (rest := []) rfl (by decide) hq.1.1.1 rfl rfl (Nat.le_of_ble_eq_true rfl) ⟨by show 1 ≤ R1 + 1; omega, by show 2 + 19 ≤ R2 + 25; omega, Nat.le_of_ble_eq_true rfl⟩ ?_
        refine gx_room (gx_mono (p_isAt hq) ?_) (Nat.zero_le _) (Nat.zero_le _)
        rintro r h' ⟨rfl, rfl⟩
        refine g_if rfl (fun c => bod (by unfold p_m; rw [bI_yes2 c, e0]; simp)) (fun c => ?_)
        have e1 := bI_no2 c
        refine g1 (n := 1) rfl rfl rfl rfl ?_
        refine g1 (n := 2) rfl rfl rfl rfl ?_
        refine m_iv (a := 169) (as := [.int 37]) (rest := []) rfl (by decide) hq.1.1.1 rfl rfl (Nat.le_of_ble_eq_true rfl) ⟨by show 1 ≤ R1 + 1; omega, by show 2 + 19 ≤ R2 + 25; omega, Nat.le_of_ble_eq_true rfl⟩ ?_
        refine gx_room (gx_mono (p_isAt hq) ?_) (Nat.zero_le _) (Nat.zero_le _)
        rintro r h' ⟨rfl, rfl⟩
        refine g_if rfl (fun c => ?_) (fun c => bod (by unfold p_m; rw [bI_yes c]; simp))
        have e2 := bI_no c
        refine gx_ret rfl rfl ⟨rfl, M', rfl, ?_, hfr⟩
        rw [stop (by unfold p_m; rw [e0, e1, e2]; rfl)]
        exact hq
  have hq := h
  refine g1 (n := 1) rfl rfl rfl rfl ?_
  refine g1 (n := 1) rfl rfl rfl rfl ?_
  refine m_iv (a := 169) (as := [.int (nI d)]) (rest := []) rfl (by decide) hq.1.1.1 rfl rfl (Nat.le_of_ble_eq_true rfl) ⟨by show 1 ≤ R1 + 1; omega, by show 2 + 19 ≤ R2 + 25; omega, Nat.le_of_ble_eq_true rfl⟩ ?_
  refine gx_room (gx_mono (hu M s h) ?_) (by show R1 ≤ R1 + 1 - 1; omega) (by show R2 ≤ R2 + 25 - (2 + 19); omega)
  rintro r h' ⟨rfl, M1, rfl, q1, q2⟩
  refine g1 (n := 1) rfl rfl rfl rfl ?_
  refine g2 (n := 1) rfl rfl rfl rfl ?_
  exact loop 60 0 [] (by omega) (by omega) (Or.inl rfl) M1 _ q1 q2
theorem p_summ {d : Nat} {u : pS → pS} (hR1 : 2 ≤ R1) (hR2 : 80 ≤ R2) (hu : pdo fz S p T (R1, R2) 49 [.int (nI d)] (p_prod T u)) : pdo fz S p T (R1 + 1, R2 + 25) 48 [.int (nI d)] (p_sum T u) := by
  intro M s h
  have loop : ∀ (m k : Nat) (e : rf_L), 60 - k ≤ m → k ≤ 60 → (e = [] ∨ ∃ x, e = [(3, Value.int x)]) → ∀ (M' : rf_M) (s' : pS), pz fz S p T M' s' → pz_fr p M M' → gx (cx0 fz) (R1 + 1, R2 + 25) 48 7 ((2, .int (nI k)) :: (e ++ [(0, .ref 169), (1, .int (nI d))])) [] (M', S) (fun r h' => r = none ∧ ∃ M'', h' = (M'', S) ∧ pz fz S p T M'' (p_loop (p_a T) (fun s => p_prod T u (p_adv T s)) (60 - k) s') ∧ pz_fr p M M'') := by
    intro m
    induction m with
    | zero =>
      intro k e h0 h1 he M' s' hq hfr
      have hk : k = 60 := by omega
      subst hk
      rcases he with rfl | ⟨x, rfl⟩
      · refine g1 (n := 1) rfl rfl rfl rfl ?_
        refine g1 (n := 2) rfl rfl rfl rfl ?_
        refine g_ic rfl (fun _ => ?_) (fun c => absurd (by decide) c)
        exact gx_ret rfl rfl ⟨rfl, M', rfl, hq, hfr⟩
      · refine g1 (n := 1) rfl rfl rfl rfl ?_
        refine g1 (n := 2) rfl rfl rfl rfl ?_
        refine g_ic rfl (fun _ => ?_) (fun c => absurd (by decide) c)
        exact gx_ret rfl rfl ⟨rfl, M', rfl, hq, hfr⟩
    | succ m ih =>
      intro k e h0 h1 he M' s' hq hfr
      by_cases hk : k = 60
      · subst hk
        rcases he with rfl | ⟨x, rfl⟩
        · refine g1 (n := 1) rfl rfl rfl rfl ?_
          refine g1 (n := 2) rfl rfl rfl rfl ?_
          refine g_ic rfl (fun _ => ?_) (fun c => absurd (by decide) c)
          exact gx_ret rfl rfl ⟨rfl, M', rfl, hq, hfr⟩
        · refine g1 (n := 1) rfl rfl rfl rfl ?_
          refine g1 (n := 2) rfl rfl rfl rfl ?_
          refine g_ic rfl (fun _ => ?_) (fun c => absurd (by decide) c)
          exact gx_ret rfl rfl ⟨rfl, M', rfl, hq, hfr⟩
      obtain ⟨f, hf⟩ : ∃ f, 60 - k = f + 1 := ⟨60 - k - 1, by omega⟩
      have hf2 : 60 - (k + 1) = f := by omega
      have stop : p_a T s' = false → p_loop (p_a T) (fun s => p_prod T u (p_adv T s)) (60 - k) s' = s' := by
        intro hc
        rw [hf]
        show (if p_a T s' = true then _ else _) = _
        rw [hc]; rfl
      have go1 : p_a T s' = true → p_loop (p_a T) (fun s => p_prod T u (p_adv T s)) (60 - k) s' = p_loop (p_a T) (fun s => p_prod T u (p_adv T s)) f (p_prod T u (p_adv T s')) := by
        intro hc
        rw [hf]
        show (if p_a T s' = true then _ else _) = _
        rw [hc]; rfl
      rcases he with rfl | ⟨x, rfl⟩
      · have bod : p_a T s' = true → gx (cx0 fz) (R1 + 1, R2 + 25) 48 31 [(2, .int (nI k)), (0, .ref 169), (1, .int (nI d))] [] (M', S) (fun r h' => r = none ∧ ∃ M'', h' = (M'', S) ∧ pz fz S p T M'' (p_loop (p_a T) (fun s => p_prod T u (p_adv T s)) (60 - k) s') ∧ pz_fr p M M'') := by
          intro hc
          refine g1 (n := 1) rfl rfl rfl rfl ?_
          refine m_iv (a := 169) (as := []) (rest := []) rfl (by decide) hq.1.1.1 rfl rfl (Nat.le_of_ble_eq_true rfl) ⟨by show 1 ≤ R1 + 1; omega, by show 1 + 19 ≤ R2 + 25; omega, Nat.le_of_ble_eq_true rfl⟩ ?_
          refine gx_room (gx_mono (p_token hq) ?_) (Nat.zero_le _) (Nat.zero_le _)
          rintro r h' ⟨rfl, rfl⟩
          refine g2 (n := 1) rfl rfl rfl rfl ?_
          refine g1 (n := 1) rfl rfl rfl rfl ?_
          refine m_iv (a := 169) (as := []) (rest := []) rfl (by decide) hq.1.1.1 rfl rfl (Nat.le_of_ble_eq_true rfl) ⟨by show 1 ≤ R1 + 1; omega, by show 1 + 19 ≤ R2 + 25; omega, Nat.le_of_ble_eq_true rfl⟩ ?_
          refine gx_room (gx_mono (p_advance M' s' hq) ?_) (Nat.zero_le _) (Nat.zero_le _)
          rintro r h' ⟨rfl, M1, rfl, q1, q2⟩
          refine g1 (n := 1) rfl rfl rfl rfl ?_
          refine g1 (n := 1) rfl rfl rfl rfl ?_
          refine m_iv (a := 169) (as := [.int (nI d)]) (rest := []) rfl (by decide) q1.1.1.1 rfl rfl (Nat.le_of_ble_eq_true rfl) ⟨by show 1 ≤ R1 + 1; omega, by show 4 + 19 ≤ R2 + 25; omega, Nat.le_of_ble_eq_true rfl⟩ ?_
          refine gx_room (gx_mono (hu M1 _ q1) ?_) (by show R1 ≤ R1 + 1 - 1; omega) (by show R2 ≤ R2 + 25 - (4 + 19); omega)
          rintro r h' ⟨rfl, M2, rfl, q3, q4⟩
          refine g1 (n := 1) rfl rfl rfl rfl ?_
          refine m_gf rfl q3.1.1.1 rfl (pz_prog q3) ?_
          refine g1 (n := 1) rfl rfl rfl rfl ?_
          refine g1 (n := 1) rfl rfl rfl rfl ?_
          refine m_iv (a := p) (as := [.int _, .int _]) (rest := []) rfl (by decide) q3.1.1.2.2.1 rfl rfl (Nat.le_of_ble_eq_true rfl) ⟨by show 1 ≤ R1 + 1; omega, by show 3 + 19 ≤ R2 + 25; omega, Nat.le_of_ble_eq_true rfl⟩ ?_
          refine gx_room (gx_mono (p_emit q3) ?_) (Nat.zero_le _) (Nat.zero_le _)
          rintro r h' ⟨rfl, M3, rfl, q5, q6⟩
          refine g2 (n := 3) rfl rfl rfl rfl ?_
          refine g3 rfl rfl rfl ?_
          rw [nI_suc (by omega), go1 hc]
          have := ih (k + 1) [(3, .int (kd T s'.1))] (by omega) (by omega) (Or.inr ⟨_, rfl⟩) M3 _ q5 (((hfr.trans q2).trans q4).trans q6)
          rw [hf2] at this
          exact this
        refine g1 (n := 1) rfl rfl rfl rfl ?_
        refine g1 (n := 2) rfl rfl rfl rfl ?_
        refine g_ic rfl (fun c => ?_) (fun c => ?_)
        · have c : (60 : Int) ≤ (nI k).toInt := (rf_cc_iff _ 60 .ge).mp c
          rw [nI_int (by omega)] at c
          exact absurd c (by omega)
        clear c
        refine g1 (n := 1) rfl rfl rfl rfl ?_
        refine g1 (n := 2) rfl rfl rfl rfl ?_
        refine m_iv (a := 169) (as := [.int 43]) (rest := []) rfl (by decide) hq.1.1.1 rfl rfl (Nat.le_of_ble_eq_true rfl) ⟨by show 1 ≤ R1 + 1; omega, by show 2 + 19 ≤ R2 + 25; omega, Nat.le_of_ble_eq_true rfl⟩ ?_
        refine gx_room (gx_mono (p_isAt hq) ?_) (Nat.zero_le _) (Nat.zero_le _)
        rintro r h' ⟨rfl, rfl⟩
        refine g_if rfl (fun c => bod (by unfold p_a; rw [bI_yes2 c]; simp)) (fun c => ?_)
        have e0 := bI_no2 c
        refine g1 (n := 1) rfl rfl rfl rfl ?_
        refine g1 (n := 2) rfl rfl rfl rfl ?_
        refine m_iv (a := 169) (as := [.int 45]) (rest := []) rfl (by decide) hq.1.1.1 rfl rfl (Nat.le_of_ble_eq_true rfl) ⟨by show 1 ≤ R1 + 1; omega, by show 2 + 19 ≤ R2 + 25; omega, Nat.le_of_ble_eq_true rfl⟩ ?_
        refine gx_room (gx_mono (p_isAt hq) ?_) (Nat.zero_le _) (Nat.zero_le _)
        rintro r h' ⟨rfl, rfl⟩
        refine g_if rfl (fun c => ?_) (fun c => bod (by unfold p_a; rw [bI_yes c]; simp))
        have e1 := bI_no c
        refine gx_ret rfl rfl ⟨rfl, M', rfl, ?_, hfr⟩
        rw [stop (by unfold p_a; rw [e0, e1]; rfl)]
        exact hq
      · have bod : p_a T s' = true → gx (cx0 fz) (R1 + 1, R2 + 25) 48 31 [(2, .int (nI k)), (3, .int x), (0, .ref 169), (1, .int (nI d))] [] (M', S) (fun r h' => r = none ∧ ∃ M'', h' = (M'', S) ∧ pz fz S p T M'' (p_loop (p_a T) (fun s => p_prod T u (p_adv T s)) (60 - k) s') ∧ pz_fr p M M'') := by
          intro hc
          refine g1 (n := 1) rfl rfl rfl rfl ?_
          refine m_iv (a := 169) (as := []) (rest := []) rfl (by decide) hq.1.1.1 rfl rfl (Nat.le_of_ble_eq_true rfl) ⟨by show 1 ≤ R1 + 1; omega, by show 1 + 19 ≤ R2 + 25; omega, Nat.le_of_ble_eq_true rfl⟩ ?_
          refine gx_room (gx_mono (p_token hq) ?_) (Nat.zero_le _) (Nat.zero_le _)
          rintro r h' ⟨rfl, rfl⟩
          refine g2 (n := 1) rfl rfl rfl rfl ?_
          refine g1 (n := 1) rfl rfl rfl rfl ?_
          refine m_iv (a := 169) (as := []) (rest := []) rfl (by decide) hq.1.1.1 rfl rfl (Nat.le_of_ble_eq_true rfl) ⟨by show 1 ≤ R1 + 1; omega, by show 1 + 19 ≤ R2 + 25; omega, Nat.le_of_ble_eq_true rfl⟩ ?_
          refine gx_room (gx_mono (p_advance M' s' hq) ?_) (Nat.zero_le _) (Nat.zero_le _)
          rintro r h' ⟨rfl, M1, rfl, q1, q2⟩
          refine g1 (n := 1) rfl rfl rfl rfl ?_
          refine g1 (n := 1) rfl rfl rfl rfl ?_
          refine m_iv (a := 169) (as := [.int (nI d)]) (rest := []) rfl (by decide) q1.1.1.1 rfl rfl (Nat.le_of_ble_eq_true rfl) ⟨by show 1 ≤ R1 + 1; omega, by show 4 + 19 ≤ R2 + 25; omega, Nat.le_of_ble_eq_true rfl⟩ ?_
          refine gx_room (gx_mono (hu M1 _ q1) ?_) (by show R1 ≤ R1 + 1 - 1; omega) (by show R2 ≤ R2 + 25 - (4 + 19); omega)
          rintro r h' ⟨rfl, M2, rfl, q3, q4⟩
          refine g1 (n := 1) rfl rfl rfl rfl ?_
          refine m_gf rfl q3.1.1.1 rfl (pz_prog q3) ?_
          refine g1 (n := 1) rfl rfl rfl rfl ?_
          refine g1 (n := 1) rfl rfl rfl rfl ?_
          refine m_iv (a := p) (as := [.int _, .int _]) (rest := []) rfl (by decide) q3.1.1.2.2.1 rfl rfl (Nat.le_of_ble_eq_true rfl) ⟨by show 1 ≤ R1 + 1; omega, by show 3 + 19 ≤ R2 + 25; omega, Nat.le_of_ble_eq_true rfl⟩ ?_
          refine gx_room (gx_mono (p_emit q3) ?_) (Nat.zero_le _) (Nat.zero_le _)
          rintro r h' ⟨rfl, M3, rfl, q5, q6⟩
          refine g2 (n := 3) rfl rfl rfl rfl ?_
          refine g3 rfl rfl rfl ?_
          rw [nI_suc (by omega), go1 hc]
          have := ih (k + 1) [(3, .int (kd T s'.1))] (by omega) (by omega) (Or.inr ⟨_, rfl⟩) M3 _ q5 (((hfr.trans q2).trans q4).trans q6)
          rw [hf2] at this
          exact this
        refine g1 (n := 1) rfl rfl rfl rfl ?_
        refine g1 (n := 2) rfl rfl rfl rfl ?_
        refine g_ic rfl (fun c => ?_) (fun c => ?_)
        · have c : (60 : Int) ≤ (nI k).toInt := (rf_cc_iff _ 60 .ge).mp c
          rw [nI_int (by omega)] at c
          exact absurd c (by omega)
        clear c
        refine g1 (n := 1) rfl rfl rfl rfl ?_
        refine g1 (n := 2) rfl rfl rfl rfl ?_
        refine m_iv (a := 169) (as := [.int 43]) (rest := []) rfl (by decide) hq.1.1.1 rfl rfl (Nat.le_of_ble_eq_true rfl) ⟨by show 1 ≤ R1 + 1; omega, by show 2 + 19 ≤ R2 + 25; omega, Nat.le_of_ble_eq_true rfl⟩ ?_
        refine gx_room (gx_mono (p_isAt hq) ?_) (Nat.zero_le _) (Nat.zero_le _)
        rintro r h' ⟨rfl, rfl⟩
        refine g_if rfl (fun c => bod (by unfold p_a; rw [bI_yes2 c]; simp)) (fun c => ?_)
        have e0 := bI_no2 c
        refine g1 (n := 1) rfl rfl rfl rfl ?_
        refine g1 (n := 2) rfl rfl rfl rfl ?_
        refine m_iv (a := 169) (as := [.int 45]) (rest := []) rfl (by decide) hq.1.1.1 rfl rfl (Nat.le_of_ble_eq_true rfl) ⟨by show 1 ≤ R1 + 1; omega, by show 2 + 19 ≤ R2 + 25; omega, Nat.le_of_ble_eq_true rfl⟩ ?_
        refine gx_room (gx_mono (p_isAt hq) ?_) (Nat.zero_le _) (Nat.zero_le _)
        rintro r h' ⟨rfl, rfl⟩
        refine g_if rfl (fun c => ?_) (fun c => bod (by unfold p_a; rw [bI_yes c]; simp))
        have e1 := bI_no c
        refine gx_ret rfl rfl ⟨rfl, M', rfl, ?_, hfr⟩
        rw [stop (by unfold p_a; rw [e0, e1]; rfl)]
        exact hq
  have hq := h
  refine g1 (n := 1) rfl rfl rfl rfl ?_
  refine g1 (n := 1) rfl rfl rfl rfl ?_
  refine m_iv (a := 169) (as := [.int (nI d)]) (rest := []) rfl (by decide) hq.1.1.1 rfl rfl (Nat.le_of_ble_eq_true rfl) ⟨by show 1 ≤ R1 + 1; omega, by show 4 + 19 ≤ R2 + 25; omega, Nat.le_of_ble_eq_true rfl⟩ ?_
  refine gx_room (gx_mono (hu M s h) ?_) (by show R1 ≤ R1 + 1 - 1; omega) (by show R2 ≤ R2 + 25 - (4 + 19); omega)
  rintro r h' ⟨rfl, M1, rfl, q1, q2⟩
  refine g1 (n := 1) rfl rfl rfl rfl ?_
  refine g2 (n := 1) rfl rfl rfl rfl ?_
  exact loop 60 0 [] (by omega) (by omega) (Or.inl rfl) M1 _ q1 q2
end PE
/-! THE PARSER: an exp, a unary -/
section PF
variable {fz : Bool} {S : gS} {p : Nat} {T : tK} {M M' : rf_M} {s : pS} {R1 R2 : Nat}
theorem p_exp {d : Nat} {u : pS → pS} (hR1 : 2 ≤ R1) (hR2 : 80 ≤ R2) (hu : pdo fz S p T (R1, R2) 48 [.int (nI d)] (p_sum T u)) : pdo fz S p T (R1 + 1, R2 + 25) 47 [.int (nI d)] (p_expr T u) := by
  intro M s hq
  refine g1 (n := 1) rfl rfl rfl rfl ?_
  refine g1 (n := 1) rfl rfl rfl rfl ?_
  refine m_iv (a := 169) (as := [.int (nI d)]) (rest := []) rfl (by decide) hq.1.1.1 rfl rfl (Nat.le_of_ble_eq_true rfl) ⟨by show 1 ≤ R1 + 1; omega, by show 4 + 19 ≤ R2 + 25; omega, Nat.le_of_ble_eq_true rfl⟩ ?_
  refine gx_room (gx_mono (hu M s hq) ?_) (by show R1 ≤ R1 + 1 - 1; omega) (by show R2 ≤ R2 + 25 - (4 + 19); omega)
  rintro r h' ⟨rfl, M1, rfl, q1, q2⟩
  have bod : p_c T (p_sum T u s) = true → gx (cx0 fz) (R1 + 1, R2 + 25) 47 32 [(0, .ref 169), (1, .int (nI d))] [] (M1, S) (fun r h' => r = none ∧ ∃ M', h' = (M', S) ∧ pz fz S p T M' (p_expr T u s) ∧ pz_fr p M M') := by
    intro hc
    refine g1 (n := 1) rfl rfl rfl rfl ?_
    refine m_iv (a := 169) (as := []) (rest := []) rfl (by decide) q1.1.1.1 rfl rfl (Nat.le_of_ble_eq_true rfl) ⟨by show 1 ≤ R1 + 1; omega, by show 1 + 19 ≤ R2 + 25; omega, Nat.le_of_ble_eq_true rfl⟩ ?_
    refine gx_room (gx_mono (p_token q1) ?_) (Nat.zero_le _) (Nat.zero_le _)
    rintro r h' ⟨rfl, rfl⟩
    refine g2 (n := 1) rfl rfl rfl rfl ?_
    refine g1 (n := 1) rfl rfl rfl rfl ?_
    refine m_iv (a := 169) (as := []) (rest := []) rfl (by decide) q1.1.1.1 rfl rfl (Nat.le_of_ble_eq_true rfl) ⟨by show 1 ≤ R1 + 1; omega, by show 1 + 19 ≤ R2 + 25; omega, Nat.le_of_ble_eq_true rfl⟩ ?_
    refine gx_room (gx_mono (p_advance M1 _ q1) ?_) (Nat.zero_le _) (Nat.zero_le _)
    rintro r h' ⟨rfl, M2, rfl, q3, q4⟩
    refine g1 (n := 1) rfl rfl rfl rfl ?_
    refine g1 (n := 1) rfl rfl rfl rfl ?_
    refine m_iv (a := 169) (as := [.int (nI d)]) (rest := []) rfl (by decide) q3.1.1.1 rfl rfl (Nat.le_of_ble_eq_true rfl) ⟨by show 1 ≤ R1 + 1; omega, by show 4 + 19 ≤ R2 + 25; omega, Nat.le_of_ble_eq_true rfl⟩ ?_
    refine gx_room (gx_mono (hu M2 _ q3) ?_) (by show R1 ≤ R1 + 1 - 1; omega) (by show R2 ≤ R2 + 25 - (4 + 19); omega)
    rintro r h' ⟨rfl, M3, rfl, q5, q6⟩
    refine g1 (n := 1) rfl rfl rfl rfl ?_
    refine m_gf rfl q5.1.1.1 rfl (pz_prog q5) ?_
    refine g1 (n := 1) rfl rfl rfl rfl ?_
    refine g1 (n := 1) rfl rfl rfl rfl ?_
    refine m_iv (a := p) (as := [.int _, .int _]) (rest := []) rfl (by decide) q5.1.1.2.2.1 rfl rfl (Nat.le_of_ble_eq_true rfl) ⟨by show 1 ≤ R1 + 1; omega, by show 3 + 19 ≤ R2 + 25; omega, Nat.le_of_ble_eq_true rfl⟩ ?_
    refine gx_room (gx_mono (p_emit q5) ?_) (Nat.zero_le _) (Nat.zero_le _)
    rintro r h' ⟨rfl, M4, rfl, q7, q8⟩
    refine gx_ret rfl rfl ⟨rfl, M4, rfl, ?_, ((q2.trans q4).trans q6).trans q8⟩
    unfold p_expr
    rw [if_pos hc]
    exact q7
  refine g1 (n := 1) rfl rfl rfl rfl ?_
  refine g1 (n := 2) rfl rfl rfl rfl ?_
  refine m_iv (a := 169) (as := [.int 60]) (rest := []) rfl (by decide) q1.1.1.1 rfl rfl (Nat.le_of_ble_eq_true rfl) ⟨by show 1 ≤ R1 + 1; omega, by show 2 + 19 ≤ R2 + 25; omega, Nat.le_of_ble_eq_true rfl⟩ ?_
  refine gx_room (gx_mono (p_isAt q1) ?_) (Nat.zero_le _) (Nat.zero_le _)
  rintro r h' ⟨rfl, rfl⟩
  refine g_if rfl (fun c => bod (by unfold p_c; rw [bI_yes2 c]; simp)) (fun c => ?_)
  have e0 := bI_no2 c
  refine g1 (n := 1) rfl rfl rfl rfl ?_
  refine g1 (n := 2) rfl rfl rfl rfl ?_
  refine m_iv (a := 169) (as := [.int 61]) (rest := []) rfl (by decide) q1.1.1.1 rfl rfl (Nat.le_of_ble_eq_true rfl) ⟨by show 1 ≤ R1 + 1; omega, by show 2 + 19 ≤ R2 + 25; omega, Nat.le_of_ble_eq_true rfl⟩ ?_
  refine gx_room (gx_mono (p_isAt q1) ?_) (Nat.zero_le _) (Nat.zero_le _)
  rintro r h' ⟨rfl, rfl⟩
  refine g_if rfl (fun c => bod (by unfold p_c; rw [bI_yes2 c, e0]; simp)) (fun c => ?_)
  have e1 := bI_no2 c
  refine g1 (n := 1) rfl rfl rfl rfl ?_
  refine g1 (n := 2) rfl rfl rfl rfl ?_
  refine m_iv (a := 169) (as := [.int 35]) (rest := []) rfl (by decide) q1.1.1.1 rfl rfl (Nat.le_of_ble_eq_true rfl) ⟨by show 1 ≤ R1 + 1; omega, by show 2 + 19 ≤ R2 + 25; omega, Nat.le_of_ble_eq_true rfl⟩ ?_
  refine gx_room (gx_mono (p_isAt q1) ?_) (Nat.zero_le _) (Nat.zero_le _)
  rintro r h' ⟨rfl, rfl⟩
  refine g_if rfl (fun c => ?_) (fun c => bod (by unfold p_c; rw [bI_yes c]; simp))
  have e2 := bI_no c
  refine gx_ret rfl rfl ⟨rfl, M1, rfl, ?_, q2⟩
  unfold p_expr
  rw [if_neg (by unfold p_c; rw [e0, e1, e2]; simp)]
  exact q1
theorem p_unary0 : pdo fz S p T (4, 120) 50 [.int (nI 8)] (p_un T 0) := by
  intro M s hq
  have bad0 : (s.2.2.2.2.2 = false ∨ 60 ≤ s.2.2.2.1) → gx (cx0 fz) (4, 120) 50 19 [(0, .ref 169), (1, .int (nI 8))] [] (M, S) (fun r h' => r = none ∧ ∃ M', h' = (M', S) ∧ pz fz S p T M' (p_un T 0 s) ∧ pz_fr p M M') := by
    intro hc
    refine g1 (n := 1) rfl rfl rfl rfl ?_
    refine m_iv (a := 169) (as := []) (rest := []) rfl (by decide) hq.1.1.1 rfl rfl (Nat.le_of_ble_eq_true rfl) ⟨by show 1 ≤ 4; omega, by show 1 + 19 ≤ 120; omega, Nat.le_of_ble_eq_true rfl⟩ ?_
    refine gx_room (gx_mono (p_refuse M s hq) ?_) (Nat.zero_le _) (Nat.zero_le _)
    rintro r h' ⟨rfl, M1, rfl, q1, q2⟩
    refine gx_ret rfl rfl ⟨rfl, M1, rfl, ?_, q2⟩
    unfold p_un
    rw [if_pos hc]
    exact q1
  refine g1 (n := 1) rfl rfl rfl rfl ?_
  refine m_iv (a := 169) (as := []) (rest := []) rfl (by decide) hq.1.1.1 rfl rfl (Nat.le_of_ble_eq_true rfl) ⟨by show 1 ≤ 4; omega, by show 1 + 19 ≤ 120; omega, Nat.le_of_ble_eq_true rfl⟩ ?_
  refine gx_room (gx_mono (p_faulty hq) ?_) (Nat.zero_le _) (Nat.zero_le _)
  rintro r h' ⟨rfl, rfl⟩
  refine g_if rfl (fun c => bad0 (Or.inl (by simpa using bI_yes2 c))) (fun c => ?_)
  have hok : s.2.2.2.2.2 = true := by simpa using bI_no2 c
  refine g1 (n := 1) rfl rfl rfl rfl ?_
  refine m_gf rfl hq.1.1.1 rfl (pz_prog hq) ?_
  refine m_gf rfl hq.1.1.2.2.1 rfl (v := .int (nI s.2.2.2.1)) (by show Value.int (M.1 p 1) = _; rw [hq.2.2.2.2.1.1]) ?_
  refine g1 (n := 2) rfl rfl rfl rfl ?_
  have hun := hq.2.2.2.2.1.2
  refine g_ic rfl (fun c2 => ?_) (fun c2 => bad0 (Or.inr ?_))
  rotate_left
  · have c2 : ¬ (nI s.2.2.2.1).toInt < 60 := fun z => c2 ((rf_cc_iff _ 60 .lt).mpr z)
    rw [nI_int (by omega)] at c2
    omega
  have c2 : (nI s.2.2.2.1).toInt < 60 := (rf_cc_iff _ 60 .lt).mp c2
  rw [nI_int (by omega)] at c2
  have hc0 : ¬ (s.2.2.2.2.2 = false ∨ 60 ≤ s.2.2.2.1) := by rw [hok]; simp; omega
  refine g1 (n := 1) rfl rfl rfl rfl ?_
  refine m_gf rfl hq.1.1.1 rfl (pz_prog hq) ?_
  refine g0 rfl rfl rfl ?_
  refine m_gf rfl hq.1.1.2.2.1 rfl (v := .int (nI s.2.2.2.1)) (by show Value.int (M.1 p 1) = _; rw [hq.2.2.2.2.1.1]) ?_
  refine g1 (n := 1) rfl rfl rfl rfl ?_
  refine g0 rfl rfl rfl ?_
  refine m_pf rfl hq.1.1.2.2.1 rfl (M' := rf_wi M p 1 (nI s.2.2.2.1 + Int32.ofInt 1)) rfl ?_
  rw [nI_suc (by omega)]
  have hp1 : pz fz S p T (rf_wi M p 1 (nI (s.2.2.2.1 + 1))) (p_u1 s) := hq.un (by omega)
  have hf1 : pz_fr p M (rf_wi M p 1 (nI (s.2.2.2.1 + 1))) := (pz_fr.rfl' p M).wi (by omega)
  have hir : (rf_wi M p 1 (nI (s.2.2.2.1 + 1))).1 169 4 = bI s.2.1 := hp1.2.2.1
  generalize rf_wi M p 1 (nI (s.2.2.2.1 + 1)) = M1 at hp1 hf1 hir ⊢
  have bad1 : p_un T 0 s = p_bad (p_u1 s) → gx (cx0 fz) (4, 120) 50 181 [(0, .ref 169), (1, .int (nI 8))] [] (M1, S) (fun r h' => r = none ∧ ∃ M', h' = (M', S) ∧ pz fz S p T M' (p_un T 0 s) ∧ pz_fr p M M') := by
    intro hc
    refine g1 (n := 1) rfl rfl rfl rfl ?_
    refine m_iv (a := 169) (as := []) (rest := []) rfl (by decide) hq.1.1.1 rfl rfl (Nat.le_of_ble_eq_true rfl) ⟨by show 1 ≤ 4; omega, by show 1 + 19 ≤ 120; omega, Nat.le_of_ble_eq_true rfl⟩ ?_
    refine gx_room (gx_mono (p_refuse M1 _ hp1) ?_) (Nat.zero_le _) (Nat.zero_le _)
    rintro r h' ⟨rfl, M2, rfl, q1, q2⟩
    refine gx_ret rfl rfl ⟨rfl, M2, rfl, ?_, hf1.trans q2⟩
    rw [hc]
    exact q1
  have tak1 : p_un T 0 s = p_adv T (p_u1 s) → gx (cx0 fz) (4, 120) 50 45 [(0, .ref 169), (1, .int (nI 8))] [] (M1, S) (fun r h' => r = none ∧ ∃ M', h' = (M', S) ∧ pz fz S p T M' (p_un T 0 s) ∧ pz_fr p M M') := by
    intro hc
    refine g1 (n := 1) rfl rfl rfl rfl ?_
    refine m_gf rfl hp1.1.1.1 rfl (pz_prog hp1) ?_
    refine g1 (n := 1) rfl rfl rfl rfl ?_
    refine g1 (n := 1) rfl rfl rfl rfl ?_
    refine m_iv (a := 169) (as := []) (rest := [.int _, .ref p]) rfl (by decide) hp1.1.1.1 rfl rfl (Nat.le_of_ble_eq_true rfl) ⟨by show 1 ≤ 4; omega, by show 1 + 19 ≤ 120; omega, Nat.le_of_ble_eq_true rfl⟩ ?_
    refine gx_room (gx_mono (p_number hp1) ?_) (Nat.zero_le _) (Nat.zero_le _)
    rintro r h' ⟨rfl, rfl⟩
    refine m_iv (a := p) (as := [.int _, .int _]) (rest := []) rfl (by decide) hp1.1.1.2.2.1 rfl rfl (Nat.le_of_ble_eq_true rfl) ⟨by show 1 ≤ 4; omega, by show 3 + 19 ≤ 120; omega, Nat.le_of_ble_eq_true rfl⟩ ?_
    refine gx_room (gx_mono (p_emit hp1) ?_) (Nat.zero_le _) (Nat.zero_le _)
    rintro r h' ⟨rfl, M2, rfl, q1, q2⟩
    refine g1 (n := 1) rfl rfl rfl rfl ?_
    refine m_iv (a := 169) (as := []) (rest := []) rfl (by decide) q1.1.1.1 rfl rfl (Nat.le_of_ble_eq_true rfl) ⟨by show 1 ≤ 4; omega, by show 1 + 19 ≤ 120; omega, Nat.le_of_ble_eq_true rfl⟩ ?_
    refine gx_room (gx_mono (p_advance M2 _ q1) ?_) (Nat.zero_le _) (Nat.zero_le _)
    rintro r h' ⟨rfl, M3, rfl, q3, q4⟩
    refine g3 rfl rfl rfl ?_
    refine gx_ret rfl rfl ⟨rfl, M3, rfl, ?_, (hf1.trans q2).trans q4⟩
    rw [hc]
    exact q3
  have tak2 : p_un T 0 s = p_adv T (p_u1 s) → gx (cx0 fz) (4, 120) 50 89 [(0, .ref 169), (1, .int (nI 8))] [] (M1, S) (fun r h' => r = none ∧ ∃ M', h' = (M', S) ∧ pz fz S p T M' (p_un T 0 s) ∧ pz_fr p M M') := by
    intro hc
    refine g1 (n := 1) rfl rfl rfl rfl ?_
    refine m_gf rfl hp1.1.1.1 rfl (pz_prog hp1) ?_
    refine g1 (n := 1) rfl rfl rfl rfl ?_
    refine g1 (n := 1) rfl rfl rfl rfl ?_
    refine m_iv (a := 169) (as := []) (rest := [.int _, .ref p]) rfl (by decide) hp1.1.1.1 rfl rfl (Nat.le_of_ble_eq_true rfl) ⟨by show 1 ≤ 4; omega, by show 1 + 19 ≤ 120; omega, Nat.le_of_ble_eq_true rfl⟩ ?_
    refine gx_room (gx_mono (p_number hp1) ?_) (Nat.zero_le _) (Nat.zero_le _)
    rintro r h' ⟨rfl, rfl⟩
    refine m_iv (a := p) (as := [.int _, .int _]) (rest := []) rfl (by decide) hp1.1.1.2.2.1 rfl rfl (Nat.le_of_ble_eq_true rfl) ⟨by show 1 ≤ 4; omega, by show 3 + 19 ≤ 120; omega, Nat.le_of_ble_eq_true rfl⟩ ?_
    refine gx_room (gx_mono (p_emit hp1) ?_) (Nat.zero_le _) (Nat.zero_le _)
    rintro r h' ⟨rfl, M2, rfl, q1, q2⟩
    refine g1 (n := 1) rfl rfl rfl rfl ?_
    refine m_iv (a := 169) (as := []) (rest := []) rfl (by decide) q1.1.1.1 rfl rfl (Nat.le_of_ble_eq_true rfl) ⟨by show 1 ≤ 4; omega, by show 1 + 19 ≤ 120; omega, Nat.le_of_ble_eq_true rfl⟩ ?_
    refine gx_room (gx_mono (p_advance M2 _ q1) ?_) (Nat.zero_le _) (Nat.zero_le _)
    rintro r h' ⟨rfl, M3, rfl, q3, q4⟩
    refine g3 rfl rfl rfl ?_
    refine gx_ret rfl rfl ⟨rfl, M3, rfl, ?_, (hf1.trans q2).trans q4⟩
    rw [hc]
    exact q3
  have oth : p_is T 2 (p_u1 s) = false → ¬ (p_is T 1 (p_u1 s) = true ∧ (p_cell (nb T s.1) = true ∨ s.2.1 = false)) → gx (cx0 fz) (4, 120) 50 108 [(0, .ref 169), (1, .int (nI 8))] [] (M1, S) (fun r h' => r = none ∧ ∃ M', h' = (M', S) ∧ pz fz S p T M' (p_un T 0 s) ∧ pz_fr p M M') := by
    intro n2 n1
    refine g1 (n := 1) rfl rfl rfl rfl ?_
    refine g1 (n := 2) rfl rfl rfl rfl ?_
    refine m_iv (a := 169) (as := [.int 45]) (rest := []) rfl (by decide) hp1.1.1.1 rfl rfl (Nat.le_of_ble_eq_true rfl) ⟨by show 1 ≤ 4; omega, by show 2 + 19 ≤ 120; omega, Nat.le_of_ble_eq_true rfl⟩ ?_
    refine gx_room (gx_mono (p_isAt hp1) ?_) (Nat.zero_le _) (Nat.zero_le _)
    rintro r h' ⟨rfl, rfl⟩
    have par : gx (cx0 fz) (4, 120) 50 146 [(0, .ref 169), (1, .int (nI 8))] [] (M1, S) (fun r h' => r = none ∧ ∃ M', h' = (M', S) ∧ pz fz S p T M' (p_un T 0 s) ∧ pz_fr p M M') := by
      refine g1 (n := 1) rfl rfl rfl rfl ?_
      refine g1 (n := 2) rfl rfl rfl rfl ?_
      refine m_iv (a := 169) (as := [.int 40]) (rest := []) rfl (by decide) hp1.1.1.1 rfl rfl (Nat.le_of_ble_eq_true rfl) ⟨by show 1 ≤ 4; omega, by show 2 + 19 ≤ 120; omega, Nat.le_of_ble_eq_true rfl⟩ ?_
      refine gx_room (gx_mono (p_isAt hp1) ?_) (Nat.zero_le _) (Nat.zero_le _)
      rintro r h' ⟨rfl, rfl⟩
      refine g_if rfl (fun c => ?_) (fun c => ?_)
      · refine bad1 ?_
        unfold p_un
        rw [if_neg hc0, if_neg (by rw [n2]; simp), if_neg n1]
      have y40 := bI_yes c
      refine g1 (n := 1) rfl rfl rfl rfl ?_
      refine g1 (n := 2) rfl rfl rfl rfl ?_
      refine g_ic rfl (fun _ => ?_) (fun c8 => absurd (by decide) c8)
      refine bad1 ?_
      unfold p_un
      rw [if_neg hc0, if_neg (by rw [n2]; simp), if_neg n1]
    refine g_if rfl (fun c => par) (fun c => ?_)
    have y45 := bI_yes c
    refine g1 (n := 1) rfl rfl rfl rfl ?_
    refine g1 (n := 2) rfl rfl rfl rfl ?_
    refine g_ic rfl (fun _ => par) (fun c8 => absurd (by decide) c8)
  refine g1 (n := 1) rfl rfl rfl rfl ?_
  refine g1 (n := 1) rfl rfl rfl rfl ?_
  refine m_iv (a := 169) (as := [.int 2]) (rest := []) rfl (by decide) hp1.1.1.1 rfl rfl (Nat.le_of_ble_eq_true rfl) ⟨by show 1 ≤ 4; omega, by show 2 + 19 ≤ 120; omega, Nat.le_of_ble_eq_true rfl⟩ ?_
  refine gx_room (gx_mono (p_isAt hp1) ?_) (Nat.zero_le _) (Nat.zero_le _)
  rintro r h' ⟨rfl, rfl⟩
  refine g_if rfl (fun c3 => ?_) (fun c3 => tak1 ?_)
  rotate_left
  · unfold p_un
    rw [if_neg hc0, if_pos (bI_yes c3)]
  have n2 := bI_no c3
  refine g1 (n := 1) rfl rfl rfl rfl ?_
  refine g1 (n := 1) rfl rfl rfl rfl ?_
  refine m_iv (a := 169) (as := [.int 1]) (rest := []) rfl (by decide) hp1.1.1.1 rfl rfl (Nat.le_of_ble_eq_true rfl) ⟨by show 1 ≤ 4; omega, by show 2 + 19 ≤ 120; omega, Nat.le_of_ble_eq_true rfl⟩ ?_
  refine gx_room (gx_mono (p_isAt hp1) ?_) (Nat.zero_le _) (Nat.zero_le _)
  rintro r h' ⟨rfl, rfl⟩
  refine g_if rfl (fun c4 => oth n2 (fun z => by rw [bI_no c4] at z; cases z.1)) (fun c4 => ?_)
  have y1 := bI_yes c4
  refine g1 (n := 1) rfl rfl rfl rfl ?_
  refine m_iv (a := 169) (as := []) (rest := []) rfl (by decide) hp1.1.1.1 rfl rfl (Nat.le_of_ble_eq_true rfl) ⟨by show 1 ≤ 4; omega, by show 1 + 19 ≤ 120; omega, Nat.le_of_ble_eq_true rfl⟩ ?_
  refine gx_room (gx_mono (p_number hp1) ?_) (Nat.zero_le _) (Nat.zero_le _)
  rintro r h' ⟨rfl, rfl⟩
  refine m_st (as := [.int (nb T (p_u1 s).1)]) (rest := []) rfl (by decide) rfl (Nat.le_of_ble_eq_true rfl) ⟨by show 1 ≤ 4; omega, by show 1 + 19 ≤ 120; omega, Nat.le_of_ble_eq_true rfl⟩ ?_
  refine gx_room (gx_mono (p_isCell (x := nb T (p_u1 s).1)) ?_) (Nat.zero_le _) (Nat.zero_le _)
  rintro r h' ⟨rfl, rfl⟩
  refine g_if rfl (fun c5 => tak2 ?_) (fun c5 => ?_)
  · unfold p_un
    rw [if_neg hc0, if_neg (by rw [n2]; simp), if_pos ⟨y1, Or.inl (bI_yes2 c5)⟩]
  have n5 : p_cell (nb T s.1) = false := bI_no2 c5
  refine g1 (n := 1) rfl rfl rfl rfl ?_
  refine m_gf rfl hp1.1.1.1 rfl (v := .int (bI s.2.1)) (by show Value.int (M1.1 169 4) = _; rw [hir]) ?_
  refine g_if rfl (fun c6 => oth n2 ?_) (fun c6 => tak2 ?_)
  · intro z
    rw [n5, bI_yes2 c6] at z
    simp at z
  · unfold p_un
    rw [if_neg hc0, if_neg (by rw [n2]; simp), if_pos ⟨y1, Or.inr (bI_no2 c6)⟩]
theorem p_unaryS {f d : Nat} (hd : d + (f + 1) = 8) (hu : pdo fz S p T (4 + 4 * f, 120 + 100 * f) 50 [.int (nI (d + 1))] (p_un T f)) : pdo fz S p T (4 + 4 * (f + 1), 120 + 100 * (f + 1)) 50 [.int (nI d)] (p_un T (f + 1)) := by
  have hexp : pdo fz S p T (7 + 4 * f, 195 + 100 * f) 47 [.int (nI (d + 1))] (p_expr T (p_un T f)) := by
    have h1 := p_product (R1 := 4 + 4 * f) (R2 := 120 + 100 * f) (by omega) (by omega) hu
    have h2 := p_summ (R1 := 4 + 4 * f + 1) (R2 := 120 + 100 * f + 25) (by omega) (by omega) h1
    have h3 := p_exp (R1 := 4 + 4 * f + 1 + 1) (R2 := 120 + 100 * f + 25 + 25) (by omega) (by omega) h2
    rw [show 7 + 4 * f = 4 + 4 * f + 1 + 1 + 1 by omega, show 195 + 100 * f = 120 + 100 * f + 25 + 25 + 25 by omega]
    exact h3
  intro M s hq
  have bad0 : (s.2.2.2.2.2 = false ∨ 60 ≤ s.2.2.2.1) → gx (cx0 fz) (4 + 4 * (f + 1), 120 + 100 * (f + 1)) 50 19 [(0, .ref 169), (1, .int (nI d))] [] (M, S) (fun r h' => r = none ∧ ∃ M', h' = (M', S) ∧ pz fz S p T M' (p_un T (f + 1) s) ∧ pz_fr p M M') := by
    intro hc
    refine g1 (n := 1) rfl rfl rfl rfl ?_
    refine m_iv (a := 169) (as := []) (rest := []) rfl (by decide) hq.1.1.1 rfl rfl (Nat.le_of_ble_eq_true rfl) ⟨by show 1 ≤ 4 + 4 * (f + 1); omega, by show 1 + 19 ≤ 120 + 100 * (f + 1); omega, Nat.le_of_ble_eq_true rfl⟩ ?_
    refine gx_room (gx_mono (p_refuse M s hq) ?_) (Nat.zero_le _) (Nat.zero_le _)
    rintro r h' ⟨rfl, M1, rfl, q1, q2⟩
    refine gx_ret rfl rfl ⟨rfl, M1, rfl, ?_, q2⟩
    unfold p_un
    rw [if_pos hc]
    exact q1
  refine g1 (n := 1) rfl rfl rfl rfl ?_
  refine m_iv (a := 169) (as := []) (rest := []) rfl (by decide) hq.1.1.1 rfl rfl (Nat.le_of_ble_eq_true rfl) ⟨by show 1 ≤ 4 + 4 * (f + 1); omega, by show 1 + 19 ≤ 120 + 100 * (f + 1); omega, Nat.le_of_ble_eq_true rfl⟩ ?_
  refine gx_room (gx_mono (p_faulty hq) ?_) (Nat.zero_le _) (Nat.zero_le _)
  rintro r h' ⟨rfl, rfl⟩
  refine g_if rfl (fun c => bad0 (Or.inl (by simpa using bI_yes2 c))) (fun c => ?_)
  have hok : s.2.2.2.2.2 = true := by simpa using bI_no2 c
  refine g1 (n := 1) rfl rfl rfl rfl ?_
  refine m_gf rfl hq.1.1.1 rfl (pz_prog hq) ?_
  refine m_gf rfl hq.1.1.2.2.1 rfl (v := .int (nI s.2.2.2.1)) (by show Value.int (M.1 p 1) = _; rw [hq.2.2.2.2.1.1]) ?_
  refine g1 (n := 2) rfl rfl rfl rfl ?_
  have hun := hq.2.2.2.2.1.2
  refine g_ic rfl (fun c2 => ?_) (fun c2 => bad0 (Or.inr ?_))
  rotate_left
  · have c2 : ¬ (nI s.2.2.2.1).toInt < 60 := fun z => c2 ((rf_cc_iff _ 60 .lt).mpr z)
    rw [nI_int (by omega)] at c2
    omega
  have c2 : (nI s.2.2.2.1).toInt < 60 := (rf_cc_iff _ 60 .lt).mp c2
  rw [nI_int (by omega)] at c2
  have hc0 : ¬ (s.2.2.2.2.2 = false ∨ 60 ≤ s.2.2.2.1) := by rw [hok]; simp; omega
  refine g1 (n := 1) rfl rfl rfl rfl ?_
  refine m_gf rfl hq.1.1.1 rfl (pz_prog hq) ?_
  refine g0 rfl rfl rfl ?_
  refine m_gf rfl hq.1.1.2.2.1 rfl (v := .int (nI s.2.2.2.1)) (by show Value.int (M.1 p 1) = _; rw [hq.2.2.2.2.1.1]) ?_
  refine g1 (n := 1) rfl rfl rfl rfl ?_
  refine g0 rfl rfl rfl ?_
  refine m_pf rfl hq.1.1.2.2.1 rfl (M' := rf_wi M p 1 (nI s.2.2.2.1 + Int32.ofInt 1)) rfl ?_
  rw [nI_suc (by omega)]
  have hp1 : pz fz S p T (rf_wi M p 1 (nI (s.2.2.2.1 + 1))) (p_u1 s) := hq.un (by omega)
  have hf1 : pz_fr p M (rf_wi M p 1 (nI (s.2.2.2.1 + 1))) := (pz_fr.rfl' p M).wi (by omega)
  have hir : (rf_wi M p 1 (nI (s.2.2.2.1 + 1))).1 169 4 = bI s.2.1 := hp1.2.2.1
  generalize rf_wi M p 1 (nI (s.2.2.2.1 + 1)) = M1 at hp1 hf1 hir ⊢
  have bad1 : p_un T (f + 1) s = p_bad (p_u1 s) → gx (cx0 fz) (4 + 4 * (f + 1), 120 + 100 * (f + 1)) 50 181 [(0, .ref 169), (1, .int (nI d))] [] (M1, S) (fun r h' => r = none ∧ ∃ M', h' = (M', S) ∧ pz fz S p T M' (p_un T (f + 1) s) ∧ pz_fr p M M') := by
    intro hc
    refine g1 (n := 1) rfl rfl rfl rfl ?_
    refine m_iv (a := 169) (as := []) (rest := []) rfl (by decide) hq.1.1.1 rfl rfl (Nat.le_of_ble_eq_true rfl) ⟨by show 1 ≤ 4 + 4 * (f + 1); omega, by show 1 + 19 ≤ 120 + 100 * (f + 1); omega, Nat.le_of_ble_eq_true rfl⟩ ?_
    refine gx_room (gx_mono (p_refuse M1 _ hp1) ?_) (Nat.zero_le _) (Nat.zero_le _)
    rintro r h' ⟨rfl, M2, rfl, q1, q2⟩
    refine gx_ret rfl rfl ⟨rfl, M2, rfl, ?_, hf1.trans q2⟩
    rw [hc]
    exact q1
  have tak1 : p_un T (f + 1) s = p_adv T (p_u1 s) → gx (cx0 fz) (4 + 4 * (f + 1), 120 + 100 * (f + 1)) 50 45 [(0, .ref 169), (1, .int (nI d))] [] (M1, S) (fun r h' => r = none ∧ ∃ M', h' = (M', S) ∧ pz fz S p T M' (p_un T (f + 1) s) ∧ pz_fr p M M') := by
    intro hc
    refine g1 (n := 1) rfl rfl rfl rfl ?_
    refine m_gf rfl hp1.1.1.1 rfl (pz_prog hp1) ?_
    refine g1 (n := 1) rfl rfl rfl rfl ?_
    refine g1 (n := 1) rfl rfl rfl rfl ?_
    refine m_iv (a := 169) (as := []) (rest := [.int _, .ref p]) rfl (by decide) hp1.1.1.1 rfl rfl (Nat.le_of_ble_eq_true rfl) ⟨by show 1 ≤ 4 + 4 * (f + 1); omega, by show 1 + 19 ≤ 120 + 100 * (f + 1); omega, Nat.le_of_ble_eq_true rfl⟩ ?_
    refine gx_room (gx_mono (p_number hp1) ?_) (Nat.zero_le _) (Nat.zero_le _)
    rintro r h' ⟨rfl, rfl⟩
    refine m_iv (a := p) (as := [.int _, .int _]) (rest := []) rfl (by decide) hp1.1.1.2.2.1 rfl rfl (Nat.le_of_ble_eq_true rfl) ⟨by show 1 ≤ 4 + 4 * (f + 1); omega, by show 3 + 19 ≤ 120 + 100 * (f + 1); omega, Nat.le_of_ble_eq_true rfl⟩ ?_
    refine gx_room (gx_mono (p_emit hp1) ?_) (Nat.zero_le _) (Nat.zero_le _)
    rintro r h' ⟨rfl, M2, rfl, q1, q2⟩
    refine g1 (n := 1) rfl rfl rfl rfl ?_
    refine m_iv (a := 169) (as := []) (rest := []) rfl (by decide) q1.1.1.1 rfl rfl (Nat.le_of_ble_eq_true rfl) ⟨by show 1 ≤ 4 + 4 * (f + 1); omega, by show 1 + 19 ≤ 120 + 100 * (f + 1); omega, Nat.le_of_ble_eq_true rfl⟩ ?_
    refine gx_room (gx_mono (p_advance M2 _ q1) ?_) (Nat.zero_le _) (Nat.zero_le _)
    rintro r h' ⟨rfl, M3, rfl, q3, q4⟩
    refine g3 rfl rfl rfl ?_
    refine gx_ret rfl rfl ⟨rfl, M3, rfl, ?_, (hf1.trans q2).trans q4⟩
    rw [hc]
    exact q3
  have tak2 : p_un T (f + 1) s = p_adv T (p_u1 s) → gx (cx0 fz) (4 + 4 * (f + 1), 120 + 100 * (f + 1)) 50 89 [(0, .ref 169), (1, .int (nI d))] [] (M1, S) (fun r h' => r = none ∧ ∃ M', h' = (M', S) ∧ pz fz S p T M' (p_un T (f + 1) s) ∧ pz_fr p M M') := by
    intro hc
    refine g1 (n := 1) rfl rfl rfl rfl ?_
    refine m_gf rfl hp1.1.1.1 rfl (pz_prog hp1) ?_
    refine g1 (n := 1) rfl rfl rfl rfl ?_
    refine g1 (n := 1) rfl rfl rfl rfl ?_
    refine m_iv (a := 169) (as := []) (rest := [.int _, .ref p]) rfl (by decide) hp1.1.1.1 rfl rfl (Nat.le_of_ble_eq_true rfl) ⟨by show 1 ≤ 4 + 4 * (f + 1); omega, by show 1 + 19 ≤ 120 + 100 * (f + 1); omega, Nat.le_of_ble_eq_true rfl⟩ ?_
    refine gx_room (gx_mono (p_number hp1) ?_) (Nat.zero_le _) (Nat.zero_le _)
    rintro r h' ⟨rfl, rfl⟩
    refine m_iv (a := p) (as := [.int _, .int _]) (rest := []) rfl (by decide) hp1.1.1.2.2.1 rfl rfl (Nat.le_of_ble_eq_true rfl) ⟨by show 1 ≤ 4 + 4 * (f + 1); omega, by show 3 + 19 ≤ 120 + 100 * (f + 1); omega, Nat.le_of_ble_eq_true rfl⟩ ?_
    refine gx_room (gx_mono (p_emit hp1) ?_) (Nat.zero_le _) (Nat.zero_le _)
    rintro r h' ⟨rfl, M2, rfl, q1, q2⟩
    refine g1 (n := 1) rfl rfl rfl rfl ?_
    refine m_iv (a := 169) (as := []) (rest := []) rfl (by decide) q1.1.1.1 rfl rfl (Nat.le_of_ble_eq_true rfl) ⟨by show 1 ≤ 4 + 4 * (f + 1); omega, by show 1 + 19 ≤ 120 + 100 * (f + 1); omega, Nat.le_of_ble_eq_true rfl⟩ ?_
    refine gx_room (gx_mono (p_advance M2 _ q1) ?_) (Nat.zero_le _) (Nat.zero_le _)
    rintro r h' ⟨rfl, M3, rfl, q3, q4⟩
    refine g3 rfl rfl rfl ?_
    refine gx_ret rfl rfl ⟨rfl, M3, rfl, ?_, (hf1.trans q2).trans q4⟩
    rw [hc]
    exact q3
  have oth : p_is T 2 (p_u1 s) = false → ¬ (p_is T 1 (p_u1 s) = true ∧ (p_cell (nb T s.1) = true ∨ s.2.1 = false)) → gx (cx0 fz) (4 + 4 * (f + 1), 120 + 100 * (f + 1)) 50 108 [(0, .ref 169), (1, .int (nI d))] [] (M1, S) (fun r h' => r = none ∧ ∃ M', h' = (M', S) ∧ pz fz S p T M' (p_un T (f + 1) s) ∧ pz_fr p M M') := by
    intro n2 n1
    refine g1 (n := 1) rfl rfl rfl rfl ?_
    refine g1 (n := 2) rfl rfl rfl rfl ?_
    refine m_iv (a := 169) (as := [.int 45]) (rest := []) rfl (by decide) hp1.1.1.1 rfl rfl (Nat.le_of_ble_eq_true rfl) ⟨by show 1 ≤ 4 + 4 * (f + 1); omega, by show 2 + 19 ≤ 120 + 100 * (f + 1); omega, Nat.le_of_ble_eq_true rfl⟩ ?_
    refine gx_room (gx_mono (p_isAt hp1) ?_) (Nat.zero_le _) (Nat.zero_le _)
    rintro r h' ⟨rfl, rfl⟩
    have par : p_is T 45 (p_u1 s) = false → gx (cx0 fz) (4 + 4 * (f + 1), 120 + 100 * (f + 1)) 50 146 [(0, .ref 169), (1, .int (nI d))] [] (M1, S) (fun r h' => r = none ∧ ∃ M', h' = (M', S) ∧ pz fz S p T M' (p_un T (f + 1) s) ∧ pz_fr p M M') := by
      intro n45
      refine g1 (n := 1) rfl rfl rfl rfl ?_
      refine g1 (n := 2) rfl rfl rfl rfl ?_
      refine m_iv (a := 169) (as := [.int 40]) (rest := []) rfl (by decide) hp1.1.1.1 rfl rfl (Nat.le_of_ble_eq_true rfl) ⟨by show 1 ≤ 4 + 4 * (f + 1); omega, by show 2 + 19 ≤ 120 + 100 * (f + 1); omega, Nat.le_of_ble_eq_true rfl⟩ ?_
      refine gx_room (gx_mono (p_isAt hp1) ?_) (Nat.zero_le _) (Nat.zero_le _)
      rintro r h' ⟨rfl, rfl⟩
      refine g_if rfl (fun c => ?_) (fun c => ?_)
      · refine bad1 ?_
        unfold p_un
        rw [if_neg hc0, if_neg (by rw [n2]; simp), if_neg n1, if_neg (by rw [n45]; simp), if_neg (by rw [bI_no c]; simp)]
      have y40 := bI_yes c
      refine g1 (n := 1) rfl rfl rfl rfl ?_
      refine g1 (n := 2) rfl rfl rfl rfl ?_
      refine g_ic rfl (fun c8 => ?_) (fun _ => ?_)
      · have c8 : (8 : Int) ≤ (nI d).toInt := (rf_cc_iff _ 8 .ge).mp c8
        rw [nI_int (by omega)] at c8
        omega
      refine g1 (n := 1) rfl rfl rfl rfl ?_
      refine m_iv (a := 169) (as := []) (rest := []) rfl (by decide) hp1.1.1.1 rfl rfl (Nat.le_of_ble_eq_true rfl) ⟨by show 1 ≤ 4 + 4 * (f + 1); omega, by show 1 + 19 ≤ 120 + 100 * (f + 1); omega, Nat.le_of_ble_eq_true rfl⟩ ?_
      refine gx_room (gx_mono (p_advance M1 _ hp1) ?_) (Nat.zero_le _) (Nat.zero_le _)
      rintro r h' ⟨rfl, M2, rfl, q1, q2⟩
      refine g1 (n := 1) rfl rfl rfl rfl ?_
      refine g1 (n := 1) rfl rfl rfl rfl ?_
      refine g1 (n := 1) rfl rfl rfl rfl ?_
      refine g0 rfl rfl rfl ?_
      rw [nI_suc (by omega)]
      refine m_iv (a := 169) (as := [.int (nI (d + 1))]) (rest := []) rfl (by decide) q1.1.1.1 rfl rfl (Nat.le_of_ble_eq_true rfl) ⟨by show 1 ≤ 4 + 4 * (f + 1); omega, by show 3 + 19 ≤ 120 + 100 * (f + 1); omega, Nat.le_of_ble_eq_true rfl⟩ ?_
      refine gx_room (gx_mono (hexp M2 _ q1) ?_) (by show 7 + 4 * f ≤ 4 + 4 * (f + 1) - 1; omega) (by show 195 + 100 * f ≤ 120 + 100 * (f + 1) - (3 + 19); omega)
      rintro r h' ⟨rfl, M3, rfl, q3, q4⟩
      refine g1 (n := 1) rfl rfl rfl rfl ?_
      refine g1 (n := 2) rfl rfl rfl rfl ?_
      refine m_iv (a := 169) (as := [.int 41]) (rest := []) rfl (by decide) q3.1.1.1 rfl rfl (Nat.le_of_ble_eq_true rfl) ⟨by show 1 ≤ 4 + 4 * (f + 1); omega, by show 2 + 19 ≤ 120 + 100 * (f + 1); omega, Nat.le_of_ble_eq_true rfl⟩ ?_
      refine gx_room (gx_mono (p_expect M3 _ q3) ?_) (by show 1 ≤ 4 + 4 * (f + 1) - 1; omega) (by show 40 ≤ 120 + 100 * (f + 1) - (2 + 19); omega)
      rintro r h' ⟨rfl, M4, rfl, q5, q6⟩
      refine g3 rfl rfl rfl ?_
      refine gx_ret rfl rfl ⟨rfl, M4, rfl, ?_, ((hf1.trans q2).trans q4).trans q6⟩
      unfold p_un
      rw [if_neg hc0, if_neg (by rw [n2]; simp), if_neg n1, if_neg (by rw [n45]; simp), if_pos y40]
      exact q5
    refine g_if rfl (fun c => par (bI_no c)) (fun c => ?_)
    have y45 := bI_yes c
    refine g1 (n := 1) rfl rfl rfl rfl ?_
    refine g1 (n := 2) rfl rfl rfl rfl ?_
    refine g_ic rfl (fun c8 => ?_) (fun _ => ?_)
    · have c8 : (8 : Int) ≤ (nI d).toInt := (rf_cc_iff _ 8 .ge).mp c8
      rw [nI_int (by omega)] at c8
      omega
    refine g1 (n := 1) rfl rfl rfl rfl ?_
    refine m_iv (a := 169) (as := []) (rest := []) rfl (by decide) hp1.1.1.1 rfl rfl (Nat.le_of_ble_eq_true rfl) ⟨by show 1 ≤ 4 + 4 * (f + 1); omega, by show 1 + 19 ≤ 120 + 100 * (f + 1); omega, Nat.le_of_ble_eq_true rfl⟩ ?_
    refine gx_room (gx_mono (p_advance M1 _ hp1) ?_) (Nat.zero_le _) (Nat.zero_le _)
    rintro r h' ⟨rfl, M2, rfl, q1, q2⟩
    refine g1 (n := 1) rfl rfl rfl rfl ?_
    refine g1 (n := 1) rfl rfl rfl rfl ?_
    refine g1 (n := 1) rfl rfl rfl rfl ?_
    refine g0 rfl rfl rfl ?_
    rw [nI_suc (by omega)]
    refine m_iv (a := 169) (as := [.int (nI (d + 1))]) (rest := []) rfl (by decide) q1.1.1.1 rfl rfl (Nat.le_of_ble_eq_true rfl) ⟨by show 1 ≤ 4 + 4 * (f + 1); omega, by show 2 + 19 ≤ 120 + 100 * (f + 1); omega, Nat.le_of_ble_eq_true rfl⟩ ?_
    refine gx_room (gx_mono (hu M2 _ q1) ?_) (by show 4 + 4 * f ≤ 4 + 4 * (f + 1) - 1; omega) (by show 120 + 100 * f ≤ 120 + 100 * (f + 1) - (2 + 19); omega)
    rintro r h' ⟨rfl, M3, rfl, q3, q4⟩
    refine g1 (n := 1) rfl rfl rfl rfl ?_
    refine m_gf rfl q3.1.1.1 rfl (pz_prog q3) ?_
    refine g1 (n := 1) rfl rfl rfl rfl ?_
    refine g1 (n := 1) rfl rfl rfl rfl ?_
    refine m_iv (a := p) (as := [.int _, .int _]) (rest := []) rfl (by decide) q3.1.1.2.2.1 rfl rfl (Nat.le_of_ble_eq_true rfl) ⟨by show 1 ≤ 4 + 4 * (f + 1); omega, by show 3 + 19 ≤ 120 + 100 * (f + 1); omega, Nat.le_of_ble_eq_true rfl⟩ ?_
    refine gx_room (gx_mono (p_emit q3) ?_) (Nat.zero_le _) (Nat.zero_le _)
    rintro r h' ⟨rfl, M4, rfl, q5, q6⟩
    refine g3 rfl rfl rfl ?_
    refine gx_ret rfl rfl ⟨rfl, M4, rfl, ?_, ((hf1.trans q2).trans q4).trans q6⟩
    unfold p_un
    rw [if_neg hc0, if_neg (by rw [n2]; simp), if_neg n1, if_pos y45]
    exact q5
  refine g1 (n := 1) rfl rfl rfl rfl ?_
  refine g1 (n := 1) rfl rfl rfl rfl ?_
  refine m_iv (a := 169) (as := [.int 2]) (rest := []) rfl (by decide) hp1.1.1.1 rfl rfl (Nat.le_of_ble_eq_true rfl) ⟨by show 1 ≤ 4 + 4 * (f + 1); omega, by show 2 + 19 ≤ 120 + 100 * (f + 1); omega, Nat.le_of_ble_eq_true rfl⟩ ?_
  refine gx_room (gx_mono (p_isAt hp1) ?_) (Nat.zero_le _) (Nat.zero_le _)
  rintro r h' ⟨rfl, rfl⟩
  refine g_if rfl (fun c3 => ?_) (fun c3 => tak1 ?_)
  rotate_left
  · unfold p_un
    rw [if_neg hc0, if_pos (bI_yes c3)]
  have n2 := bI_no c3
  refine g1 (n := 1) rfl rfl rfl rfl ?_
  refine g1 (n := 1) rfl rfl rfl rfl ?_
  refine m_iv (a := 169) (as := [.int 1]) (rest := []) rfl (by decide) hp1.1.1.1 rfl rfl (Nat.le_of_ble_eq_true rfl) ⟨by show 1 ≤ 4 + 4 * (f + 1); omega, by show 2 + 19 ≤ 120 + 100 * (f + 1); omega, Nat.le_of_ble_eq_true rfl⟩ ?_
  refine gx_room (gx_mono (p_isAt hp1) ?_) (Nat.zero_le _) (Nat.zero_le _)
  rintro r h' ⟨rfl, rfl⟩
  refine g_if rfl (fun c4 => oth n2 (fun z => by rw [bI_no c4] at z; cases z.1)) (fun c4 => ?_)
  have y1 := bI_yes c4
  refine g1 (n := 1) rfl rfl rfl rfl ?_
  refine m_iv (a := 169) (as := []) (rest := []) rfl (by decide) hp1.1.1.1 rfl rfl (Nat.le_of_ble_eq_true rfl) ⟨by show 1 ≤ 4 + 4 * (f + 1); omega, by show 1 + 19 ≤ 120 + 100 * (f + 1); omega, Nat.le_of_ble_eq_true rfl⟩ ?_
  refine gx_room (gx_mono (p_number hp1) ?_) (Nat.zero_le _) (Nat.zero_le _)
  rintro r h' ⟨rfl, rfl⟩
  refine m_st (as := [.int (nb T (p_u1 s).1)]) (rest := []) rfl (by decide) rfl (Nat.le_of_ble_eq_true rfl) ⟨by show 1 ≤ 4 + 4 * (f + 1); omega, by show 1 + 19 ≤ 120 + 100 * (f + 1); omega, Nat.le_of_ble_eq_true rfl⟩ ?_
  refine gx_room (gx_mono (p_isCell (x := nb T (p_u1 s).1)) ?_) (Nat.zero_le _) (Nat.zero_le _)
  rintro r h' ⟨rfl, rfl⟩
  refine g_if rfl (fun c5 => tak2 ?_) (fun c5 => ?_)
  · unfold p_un
    rw [if_neg hc0, if_neg (by rw [n2]; simp), if_pos ⟨y1, Or.inl (bI_yes2 c5)⟩]
  have n5 : p_cell (nb T s.1) = false := bI_no2 c5
  refine g1 (n := 1) rfl rfl rfl rfl ?_
  refine m_gf rfl hp1.1.1.1 rfl (v := .int (bI s.2.1)) (by show Value.int (M1.1 169 4) = _; rw [hir]) ?_
  refine g_if rfl (fun c6 => oth n2 ?_) (fun c6 => tak2 ?_)
  · intro z
    rw [n5, bI_yes2 c6] at z
    simp at z
  · unfold p_un
    rw [if_neg hc0, if_neg (by rw [n2]; simp), if_pos ⟨y1, Or.inr (bI_no2 c6)⟩]
theorem p_unary : ∀ (f d : Nat), d + f = 8 → pdo fz S p T (4 + 4 * f, 120 + 100 * f) 50 [.int (nI d)] (p_un T f)
  | 0, d, h => by
    have e : d = 8 := by omega
    subst e
    exact p_unary0
  | f + 1, d, h => p_unaryS h (p_unary f (d + 1) (by omega))
/-- an exp that lies in nothing -/
theorem p_exp0 : pdo fz S p T (39, 995) 47 [.int (nI 0)] (p_expr T (p_un T 8)) := by
  have hu := p_unary (fz := fz) (S := S) (p := p) (T := T) 8 0 rfl
  have h1 := p_product (R1 := 36) (R2 := 920) (by omega) (by omega) hu
  have h2 := p_summ (R1 := 37) (R2 := 945) (by omega) (by omega) h1
  exact p_exp (R1 := 38) (R2 := 970) (by omega) (by omega) h2
end PF
/-! THE PARSER: statements -/
def p_beg (x : Int32) : Bool := [1, 10, 12, 13, 14, 15, 17, 19].elem x.toInt
def p_c1 (s : pS) : pS := (s.1, s.2.1, s.2.2.1 + 1, s.2.2.2)
def p_ir (b : Bool) (s : pS) : pS := (s.1, b, s.2.2)
def p_dp (m : Nat) (s : pS) : pS := (s.1, s.2.1, s.2.2.1, s.2.2.2.1, max s.2.2.2.2.1 m, s.2.2.2.2.2)
def p_exq (T : tK) (s : pS) : pS := p_expr T (p_un T 8) s
def p_cl (T : tK) (s : pS) : pS := p_ex T 59 (p_exq T s)
def p_loc (T : tK) (s : pS) : pS := if p_is T 1 s = true ∧ p_cell (nb T s.1) = false then p_adv T s else p_bad s
def p_if (T : tK) (k : Int32) (s : pS) : pS := if k = 10 ∨ k = 12 then p_ex T 41 (p_exq T (p_ex T 40 s)) else s
def p_el (T : tK) (k : Int32) (b : pS → pS) (s : pS) : pS := if k = 10 ∧ p_is T 11 s = true then b (p_adv T s) else s
def p_or (T : tK) (k : Int32) (b : pS → pS) (s : pS) : pS := if k = 15 then b (p_ex T 16 s) else s
def p_ca (T : tK) (k : Int32) (b : pS → pS) (s : pS) : pS := if k = 17 then b (p_loc T (p_ex T 18 s)) else s
def p_com (T : tK) (k : Int32) (b : pS → pS) (s : pS) : pS := p_ca T k b (p_or T k b (p_el T k b (b (p_if T k s))))
def p_st1 (T : tK) (b : pS → pS) (k : Int32) (s : pS) : pS := if k = 1 then p_cl T (p_ex T 61 s) else if k = 13 then p_ex T 59 s else if k = 14 then p_cl T s else if k = 19 then p_ir false (p_cl T (p_ir true s)) else p_com T k b s
def p_st (T : tK) (b : pS → pS) (s : pS) : pS := if p_beg (kd T s.1) = true ∧ s.2.2.1 < 40 then p_st1 T b (kd T s.1) (p_adv T (p_c1 s)) else p_bad s
def p_go (T : tK) (s : pS) : Bool := s.2.2.2.2.2 && (!(p_is T 0 s) && !(p_is T 125 s))
def p_sts (T : tK) (b : pS → pS) (s : pS) : pS := p_loop (p_go T) (p_st T b) 41 s
def p_body (T : tK) : Nat → pS → pS
  | 0, s => p_bad s
  | f + 1, s => if p_is T 123 s = true then p_ex T 125 (p_sts T (p_body T f) (p_dp (8 - f) (p_adv T s))) else p_bad s
def pdi (fz : Bool) (S : gS) (p : Nat) (T : tK) (d : Nat × Nat) (j : Nat) (args : List Value) (f : pS → pS) : Prop := ∀ (M : rf_M) (s : pS), pz fz S p T M s → gx (cx0 fz) d j 0 (lv_args 0 (.ref 169 :: args)) [] (M, S) (fun r h' => ∃ z M', r = some (.int z) ∧ h' = (M', S) ∧ pz fz S p T M' (f s) ∧ pz_fr p M M')
section PG
variable {fz : Bool} {S : gS} {p : Nat} {T : tK} {M M' : rf_M} {s : pS}
theorem pz.c1 (h : pz fz S p T M s) (hc : s.2.2.1 < 40) : pz fz S p T (rf_wi M p 0 (nI (s.2.2.1 + 1))) (p_c1 s) := by
  obtain ⟨h0, h1, h2, h3, h4, h5, ⟨cc, h6, h7⟩, h8⟩ := h
  have hp : p + 11 ≤ 168 := h0.1.2.2.2.2.1
  have hf : pz_fr p M (rf_wi M p 0 (nI (s.2.2.1 + 1))) := (pz_fr.rfl' p M).wi (by omega)
  refine ⟨h0.fr hf, ⟨?_, h1.2⟩, ?_, ⟨rf_wi_at _ _ _ _, hc⟩, ⟨?_, h4.2⟩, ⟨?_, h5.2⟩, ⟨cc, h6, ?_⟩, ?_⟩
  · rw [rf_wi_of _ _ (by omega)]; exact h1.1
  · rw [rf_wi_of _ _ (by omega)]; exact h2
  · rw [rf_wi_of _ _ (by omega)]; exact h4.1
  · rw [rf_wi_of _ _ (by omega)]; exact h5.1
  · rw [rf_wi_of _ _ (by omega)]; exact h7
  · rw [rf_wi_of _ _ (by omega)]; exact h8
theorem pz.ir (h : pz fz S p T M s) {b : Bool} : pz fz S p T (rf_wi M 169 4 (bI b)) (p_ir b s) := by
  obtain ⟨h0, h1, h2, h3, h4, h5, ⟨cc, h6, h7⟩, h8⟩ := h
  have hp : p + 11 ≤ 168 := h0.1.2.2.2.2.1
  have hf : pz_fr p M (rf_wi M 169 4 (bI b)) := (pz_fr.rfl' p M).wi (by omega)
  refine ⟨h0.fr hf, ⟨?_, h1.2⟩, rf_wi_at _ _ _ _, ⟨?_, h3.2⟩, ⟨?_, h4.2⟩, ⟨?_, h5.2⟩, ⟨cc, h6, ?_⟩, ?_⟩
  · rw [rf_wi_of _ _ (by omega)]; exact h1.1
  · rw [rf_wi_of _ _ (by omega)]; exact h3.1
  · rw [rf_wi_of _ _ (by omega)]; exact h4.1
  · rw [rf_wi_of _ _ (by omega)]; exact h5.1
  · rw [rf_wi_of _ _ (by omega)]; exact h7
  · rw [rf_wi_of _ _ (by omega)]; exact h8
theorem pz.dp (h : pz fz S p T M s) {m : Nat} (hm : m ≤ 8) : pz fz S p T (rf_wi M p 2 (nI (max s.2.2.2.2.1 m))) (p_dp m s) := by
  obtain ⟨h0, h1, h2, h3, h4, h5, ⟨cc, h6, h7⟩, h8⟩ := h
  have hp : p + 11 ≤ 168 := h0.1.2.2.2.2.1
  have hf : pz_fr p M (rf_wi M p 2 (nI (max s.2.2.2.2.1 m))) := (pz_fr.rfl' p M).wi (by omega)
  refine ⟨h0.fr hf, ⟨?_, h1.2⟩, ?_, ⟨?_, h3.2⟩, ⟨?_, h4.2⟩, ⟨rf_wi_at _ _ _ _, (by show max s.2.2.2.2.1 m ≤ 8; omega)⟩, ⟨cc, h6, ?_⟩, ?_⟩
  · rw [rf_wi_of _ _ (by omega)]; exact h1.1
  · rw [rf_wi_of _ _ (by omega)]; exact h2
  · rw [rf_wi_of _ _ (by omega)]; exact h3.1
  · rw [rf_wi_of _ _ (by omega)]; exact h4.1
  · rw [rf_wi_of _ _ (by omega)]; exact h7
  · rw [rf_wi_of _ _ (by omega)]; exact h8
theorem p_canBegin {x : Int32} : gx (cx0 fz) (0, 0) 40 0 [(0, .int x)] [] (M, S) (fun r h' => r = some (.int (bI (p_beg x))) ∧ h' = (M, S)) := by
  refine g1 (n := 1) rfl rfl rfl rfl ?_
  refine g3 (pc' := if p_beg x then 92 else 94) (st' := []) rfl rfl ?_ ?_
  · by_cases ho : x.toInt < 1 ∨ 19 < x.toInt
    · have e : p_beg x = false := by
        unfold p_beg
        rw [Bool.eq_false_iff]
        intro hh
        have := List.elem_iff.mp hh
        simp only [List.mem_cons, List.not_mem_nil, or_false] at this
        omega
      rw [e]
      exact if_pos ho
    · have hx : ∃ k : Nat, k < 19 ∧ x = Int32.ofNat (k + 1) := by
        refine ⟨(x.toInt - 1).toNat, by omega, Int32.toInt_inj.mp ?_⟩
        rw [Int32.toInt_ofNat']
        rw [Int.bmod_eq_of_le (by have : Int32.size = 4294967296 := rfl; omega) (by have : Int32.size = 4294967296 := rfl; omega)]
        omega
      obtain ⟨k, hk, rfl⟩ := hx
      have hk19 : k = 0 ∨ k = 1 ∨ k = 2 ∨ k = 3 ∨ k = 4 ∨ k = 5 ∨ k = 6 ∨ k = 7 ∨ k = 8 ∨ k = 9 ∨ k = 10 ∨ k = 11 ∨ k = 12 ∨ k = 13 ∨ k = 14 ∨ k = 15 ∨ k = 16 ∨ k = 17 ∨ k = 18 := by omega
      rcases hk19 with rfl | rfl | rfl | rfl | rfl | rfl | rfl | rfl | rfl | rfl | rfl | rfl | rfl | rfl | rfl | rfl | rfl | rfl | rfl <;> rfl
  · cases hc : p_beg x
    · refine g1 (n := 1) rfl rfl rfl rfl ?_
      exact gx_ret rfl rfl ⟨rfl, rfl⟩
    · refine g1 (n := 1) rfl rfl rfl rfl ?_
      exact gx_ret rfl rfl ⟨rfl, rfl⟩
theorem p_open (h : pz fz S p T M s) {a b c e : Int32} : gx (cx0 fz) (0, 0) 41 0 [(0, .ref p), (1, .int a), (2, .int b), (3, .int c), (4, .int e)] [] (M, S) (fun r h' => (s.2.2.1 < 40 ∧ r = some (.int (nI s.2.2.1)) ∧ ∃ M', h' = (M', S) ∧ pz fz S p T M' (p_c1 s) ∧ pz_fr p M M') ∨ (¬ s.2.2.1 < 40 ∧ r = some (.int (Int32.ofInt (-1))) ∧ h' = (M, S))) := by
  have h' := h
  obtain ⟨h0, h1, h2, h3, h4, h5, ⟨cc, h6, h7⟩, h8⟩ := h
  obtain ⟨hh, ⟨r0, r1, r2, r3, r4, r5⟩, hT, hl, hrow⟩ := h0
  have hp : 25 ≤ p ∧ p + 11 ≤ 168 := ⟨hh.2.2.2.1, hh.2.2.2.2.1⟩
  have h3b := h3.2
  refine g1 (n := 1) rfl rfl rfl rfl ?_
  refine m_gf rfl hh.2.2.1 rfl (v := .int (nI s.2.2.1)) (by show Value.int (M.1 p 0) = _; rw [h3.1]) ?_
  refine g1 (n := 2) rfl rfl rfl rfl ?_
  refine g_ic rfl (fun k => ?_) (fun k => ?_)
  rotate_left
  · have k : ¬ (nI s.2.2.1).toInt < 40 := fun z => k ((rf_cc_iff _ 40 .lt).mpr z)
    rw [nI_int (by omega)] at k
    refine g1 (n := 1) rfl rfl rfl rfl ?_
    exact gx_ret rfl rfl (Or.inr ⟨by omega, rfl, rfl⟩)
  have k : (nI s.2.2.1).toInt < 40 := (rf_cc_iff _ 40 .lt).mp k
  rw [nI_int (by omega)] at k
  have k : s.2.2.1 < 40 := by omega
  refine g1 (n := 1) rfl rfl rfl rfl ?_
  refine m_gf rfl hh.2.2.1 rfl (v := .int (nI s.2.2.1)) (by show Value.int (M.1 p 0) = _; rw [h3.1]) ?_
  refine g2 (n := 2) rfl rfl rfl rfl ?_
  refine g1 (n := 1) rfl rfl rfl rfl ?_
  refine g0 rfl rfl rfl ?_
  refine m_gf rfl hh.2.2.1 rfl (v := .int (nI s.2.2.1)) (by show Value.int (M.1 p 0) = _; rw [h3.1]) ?_
  refine g1 (n := 1) rfl rfl rfl rfl ?_
  refine g0 rfl rfl rfl ?_
  refine m_pf rfl hh.2.2.1 rfl (M' := rf_wi M p 0 (nI s.2.2.1 + Int32.ofInt 1)) rfl ?_
  rw [nI_suc (by omega)]
  have H := h'.c1 k
  have F : pz_fr p M (rf_wi M p 0 (nI (s.2.2.1 + 1))) := (pz_fr.rfl' p M).wi (by omega)
  have C : (rf_wi M p 0 (nI (s.2.2.1 + 1))).1 p 3 = nI cc := by rw [rf_wi_of _ _ (by omega)]; exact h7
  have R : (rf_wi M p 0 (nI (s.2.2.1 + 1))).2 = M.2 := rfl
  generalize rf_wi M p 0 (nI (s.2.2.1 + 1)) = M1 at H F C R ⊢
  have R5 : ∀ k, 5 ≤ k → k ≤ 15 → M1.2.2 p k = some (p + (k - 4)) := fun k k1 k2 => by rw [R]; exact r5 k k1 k2
  clear R
  refine g1 (n := 1) rfl rfl rfl rfl ?_
  refine m_gf rfl hh.2.2.1 rfl (v := .ref (p + 1)) (by show va_rf (M1.2.2 p 5) = _; rw [R5 5 (by omega) (by omega)]; rfl) ?_
  refine g1 (n := 2) rfl rfl rfl rfl ?_
  refine g1 (n := 1) rfl rfl rfl rfl ?_
  refine m_is rfl (hh.2.2.2.2.2.1 1 (by omega) (by omega)) (nI_int (by omega)) k ?_
  generalize hM2 : rf_wi M1 (p + 1) s.2.2.1 _ = M2
  replace H : pz fz S p T M2 (p_c1 s) := by rw [← hM2]; exact H.cc (by omega)
  replace F : pz_fr p M M2 := by rw [← hM2]; exact F.wi (by omega)
  replace C : M2.1 p 3 = nI cc := by rw [← hM2, rf_wi_of _ _ (by omega)]; exact C
  replace R5 : ∀ k, 5 ≤ k → k ≤ 15 → M2.2.2 p k = some (p + (k - 4)) := fun k k1 k2 => by rw [← hM2]; exact R5 k k1 k2
  clear hM2 M1
  obtain ⟨M1, hM1⟩ : ∃ M1, M1 = M2 := ⟨M2, rfl⟩
  subst hM1
  refine g1 (n := 1) rfl rfl rfl rfl ?_
  refine m_gf rfl hh.2.2.1 rfl (v := .ref (p + 2)) (by show va_rf (M1.2.2 p 6) = _; rw [R5 6 (by omega) (by omega)]; rfl) ?_
  refine g1 (n := 2) rfl rfl rfl rfl ?_
  refine g1 (n := 1) rfl rfl rfl rfl ?_
  refine m_is rfl (hh.2.2.2.2.2.1 2 (by omega) (by omega)) (nI_int (by omega)) k ?_
  generalize hM2 : rf_wi M1 (p + 2) s.2.2.1 _ = M2
  replace H : pz fz S p T M2 (p_c1 s) := by rw [← hM2]; exact H.cc (by omega)
  replace F : pz_fr p M M2 := by rw [← hM2]; exact F.wi (by omega)
  replace C : M2.1 p 3 = nI cc := by rw [← hM2, rf_wi_of _ _ (by omega)]; exact C
  replace R5 : ∀ k, 5 ≤ k → k ≤ 15 → M2.2.2 p k = some (p + (k - 4)) := fun k k1 k2 => by rw [← hM2]; exact R5 k k1 k2
  clear hM2 M1
  obtain ⟨M1, hM1⟩ : ∃ M1, M1 = M2 := ⟨M2, rfl⟩
  subst hM1
  refine g1 (n := 1) rfl rfl rfl rfl ?_
  refine m_gf rfl hh.2.2.1 rfl (v := .ref (p + 3)) (by show va_rf (M1.2.2 p 7) = _; rw [R5 7 (by omega) (by omega)]; rfl) ?_
  refine g1 (n := 2) rfl rfl rfl rfl ?_
  refine g1 (n := 1) rfl rfl rfl rfl ?_
  refine m_gf rfl hh.2.2.1 rfl (v := .int (nI cc)) (by show Value.int (M1.1 p 3) = _; rw [C]) ?_
  refine m_is rfl (hh.2.2.2.2.2.1 3 (by omega) (by omega)) (nI_int (by omega)) k ?_
  generalize hM2 : rf_wi M1 (p + 3) s.2.2.1 _ = M2
  replace H : pz fz S p T M2 (p_c1 s) := by rw [← hM2]; exact H.cc (by omega)
  replace F : pz_fr p M M2 := by rw [← hM2]; exact F.wi (by omega)
  replace C : M2.1 p 3 = nI cc := by rw [← hM2, rf_wi_of _ _ (by omega)]; exact C
  replace R5 : ∀ k, 5 ≤ k → k ≤ 15 → M2.2.2 p k = some (p + (k - 4)) := fun k k1 k2 => by rw [← hM2]; exact R5 k k1 k2
  clear hM2 M1
  obtain ⟨M1, hM1⟩ : ∃ M1, M1 = M2 := ⟨M2, rfl⟩
  subst hM1
  refine g1 (n := 1) rfl rfl rfl rfl ?_
  refine m_gf rfl hh.2.2.1 rfl (v := .ref (p + 4)) (by show va_rf (M1.2.2 p 8) = _; rw [R5 8 (by omega) (by omega)]; rfl) ?_
  refine g1 (n := 2) rfl rfl rfl rfl ?_
  refine g1 (n := 1) rfl rfl rfl rfl ?_
  refine m_is rfl (hh.2.2.2.2.2.1 4 (by omega) (by omega)) (nI_int (by omega)) k ?_
  generalize hM2 : rf_wi M1 (p + 4) s.2.2.1 _ = M2
  replace H : pz fz S p T M2 (p_c1 s) := by rw [← hM2]; exact H.cc (by omega)
  replace F : pz_fr p M M2 := by rw [← hM2]; exact F.wi (by omega)
  replace C : M2.1 p 3 = nI cc := by rw [← hM2, rf_wi_of _ _ (by omega)]; exact C
  replace R5 : ∀ k, 5 ≤ k → k ≤ 15 → M2.2.2 p k = some (p + (k - 4)) := fun k k1 k2 => by rw [← hM2]; exact R5 k k1 k2
  clear hM2 M1
  obtain ⟨M1, hM1⟩ : ∃ M1, M1 = M2 := ⟨M2, rfl⟩
  subst hM1
  refine g1 (n := 1) rfl rfl rfl rfl ?_
  refine m_gf rfl hh.2.2.1 rfl (v := .ref (p + 5)) (by show va_rf (M1.2.2 p 9) = _; rw [R5 9 (by omega) (by omega)]; rfl) ?_
  refine g1 (n := 2) rfl rfl rfl rfl ?_
  refine g1 (n := 1) rfl rfl rfl rfl ?_
  refine m_is rfl (hh.2.2.2.2.2.1 5 (by omega) (by omega)) (nI_int (by omega)) k ?_
  generalize hM2 : rf_wi M1 (p + 5) s.2.2.1 _ = M2
  replace H : pz fz S p T M2 (p_c1 s) := by rw [← hM2]; exact H.cc (by omega)
  replace F : pz_fr p M M2 := by rw [← hM2]; exact F.wi (by omega)
  replace C : M2.1 p 3 = nI cc := by rw [← hM2, rf_wi_of _ _ (by omega)]; exact C
  replace R5 : ∀ k, 5 ≤ k → k ≤ 15 → M2.2.2 p k = some (p + (k - 4)) := fun k k1 k2 => by rw [← hM2]; exact R5 k k1 k2
  clear hM2 M1
  obtain ⟨M1, hM1⟩ : ∃ M1, M1 = M2 := ⟨M2, rfl⟩
  subst hM1
  refine g1 (n := 1) rfl rfl rfl rfl ?_
  refine m_gf rfl hh.2.2.1 rfl (v := .ref (p + 6)) (by show va_rf (M1.2.2 p 10) = _; rw [R5 10 (by omega) (by omega)]; rfl) ?_
  refine g1 (n := 2) rfl rfl rfl rfl ?_
  refine g1 (n := 2) rfl rfl rfl rfl ?_
  refine m_is rfl (hh.2.2.2.2.2.1 6 (by omega) (by omega)) (nI_int (by omega)) k ?_
  generalize hM2 : rf_wi M1 (p + 6) s.2.2.1 _ = M2
  replace H : pz fz S p T M2 (p_c1 s) := by rw [← hM2]; exact H.cc (by omega)
  replace F : pz_fr p M M2 := by rw [← hM2]; exact F.wi (by omega)
  replace C : M2.1 p 3 = nI cc := by rw [← hM2, rf_wi_of _ _ (by omega)]; exact C
  replace R5 : ∀ k, 5 ≤ k → k ≤ 15 → M2.2.2 p k = some (p + (k - 4)) := fun k k1 k2 => by rw [← hM2]; exact R5 k k1 k2
  clear hM2 M1
  obtain ⟨M1, hM1⟩ : ∃ M1, M1 = M2 := ⟨M2, rfl⟩
  subst hM1
  refine g1 (n := 1) rfl rfl rfl rfl ?_
  refine m_gf rfl hh.2.2.1 rfl (v := .ref (p + 7)) (by show va_rf (M1.2.2 p 11) = _; rw [R5 11 (by omega) (by omega)]; rfl) ?_
  refine g1 (n := 2) rfl rfl rfl rfl ?_
  refine g1 (n := 1) rfl rfl rfl rfl ?_
  refine m_is rfl (hh.2.2.2.2.2.1 7 (by omega) (by omega)) (nI_int (by omega)) k ?_
  generalize hM2 : rf_wi M1 (p + 7) s.2.2.1 _ = M2
  replace H : pz fz S p T M2 (p_c1 s) := by rw [← hM2]; exact H.cc (by omega)
  replace F : pz_fr p M M2 := by rw [← hM2]; exact F.wi (by omega)
  replace C : M2.1 p 3 = nI cc := by rw [← hM2, rf_wi_of _ _ (by omega)]; exact C
  replace R5 : ∀ k, 5 ≤ k → k ≤ 15 → M2.2.2 p k = some (p + (k - 4)) := fun k k1 k2 => by rw [← hM2]; exact R5 k k1 k2
  clear hM2 M1
  obtain ⟨M1, hM1⟩ : ∃ M1, M1 = M2 := ⟨M2, rfl⟩
  subst hM1
  refine g1 (n := 1) rfl rfl rfl rfl ?_
  refine m_gf rfl hh.2.2.1 rfl (v := .ref (p + 8)) (by show va_rf (M1.2.2 p 12) = _; rw [R5 12 (by omega) (by omega)]; rfl) ?_
  refine g1 (n := 2) rfl rfl rfl rfl ?_
  refine g1 (n := 1) rfl rfl rfl rfl ?_
  refine m_is rfl (hh.2.2.2.2.2.1 8 (by omega) (by omega)) (nI_int (by omega)) k ?_
  generalize hM2 : rf_wi M1 (p + 8) s.2.2.1 _ = M2
  replace H : pz fz S p T M2 (p_c1 s) := by rw [← hM2]; exact H.cc (by omega)
  replace F : pz_fr p M M2 := by rw [← hM2]; exact F.wi (by omega)
  replace C : M2.1 p 3 = nI cc := by rw [← hM2, rf_wi_of _ _ (by omega)]; exact C
  replace R5 : ∀ k, 5 ≤ k → k ≤ 15 → M2.2.2 p k = some (p + (k - 4)) := fun k k1 k2 => by rw [← hM2]; exact R5 k k1 k2
  clear hM2 M1
  obtain ⟨M1, hM1⟩ : ∃ M1, M1 = M2 := ⟨M2, rfl⟩
  subst hM1
  refine g1 (n := 1) rfl rfl rfl rfl ?_
  refine m_gf rfl hh.2.2.1 rfl (v := .ref (p + 9)) (by show va_rf (M1.2.2 p 13) = _; rw [R5 13 (by omega) (by omega)]; rfl) ?_
  refine g1 (n := 2) rfl rfl rfl rfl ?_
  refine g1 (n := 1) rfl rfl rfl rfl ?_
  refine m_is rfl (hh.2.2.2.2.2.1 9 (by omega) (by omega)) (nI_int (by omega)) k ?_
  generalize hM2 : rf_wi M1 (p + 9) s.2.2.1 _ = M2
  replace H : pz fz S p T M2 (p_c1 s) := by rw [← hM2]; exact H.cc (by omega)
  replace F : pz_fr p M M2 := by rw [← hM2]; exact F.wi (by omega)
  replace C : M2.1 p 3 = nI cc := by rw [← hM2, rf_wi_of _ _ (by omega)]; exact C
  replace R5 : ∀ k, 5 ≤ k → k ≤ 15 → M2.2.2 p k = some (p + (k - 4)) := fun k k1 k2 => by rw [← hM2]; exact R5 k k1 k2
  clear hM2 M1
  obtain ⟨M1, hM1⟩ : ∃ M1, M1 = M2 := ⟨M2, rfl⟩
  subst hM1
  refine g1 (n := 2) rfl rfl rfl rfl ?_
  exact gx_ret rfl rfl (Or.inl ⟨k, rfl, _, rfl, H, F⟩)
end PG
/-! THE PARSER: a closed exp, a catch's letter, bodies -/
def p_ix (z : Int32) : Prop := z = Int32.ofInt (-1) ∨ ∃ c, c < 40 ∧ z = nI c
def pdj (fz : Bool) (S : gS) (p : Nat) (T : tK) (d : Nat × Nat) (j : Nat) (args : List Value) (f : pS → pS) : Prop := ∀ (M : rf_M) (s : pS), pz fz S p T M s → gx (cx0 fz) d j 0 (lv_args 0 (.ref 169 :: args)) [] (M, S) (fun r h' => ∃ z M', r = some (.int z) ∧ p_ix z ∧ h' = (M', S) ∧ pz fz S p T M' (f s) ∧ pz_fr p M M')
section M4
variable {cx : rf_C} {d : Nat × Nat} {i pc : Nat} {ls : rf_L} {st : List Value} {Q : Option Value → rf_H → Prop} {M : rf_M} {S : gS}
theorem m_max {J : Instr} {x y : Int32} (hf : cx.1 i pc = some (J, [(13, 0)])) (hk : rf_kd J = 5) (hd : rf_ok8 st d 13 = true) (k : gx cx d i (pc + 3) ls (.int (if x < y then y else x) :: st) (M, S) Q) : gx cx d i pc ls (.int y :: .int x :: st) (M, S) Q := by
  refine gx_step hf (pc' := pc + 3) (ls' := ls) (st' := .int (if x < y then y else x) :: st) (h' := (M, S)) ?_ k
  unfold rf_ex
  simp only [hk]
  show (if (10 : Int) ≤ 13 then (rf_bi cx 13 d (.int y :: .int x :: st) (M, S)).map _ else _) = _
  rw [if_pos (by decide)]
  show ((if rf_ok8 st d 13 = true then some (Value.int (if x < y then y else x) :: st, (M, S)) else none).map _) = _
  rw [if_pos hd]
  rfl
theorem m_lsw {J : Instr} {aux : List (Int × Nat)} {x : Int32} {q0 : Int} {q1 : Array (Int × Int)} {t : Nat} (hf : cx.1 i pc = some (.lookupswitch q0 q1, aux)) (ht : rf_sw aux.tail (rf_tg aux) x.toInt = t) (k : gx cx d i t ls st (M, S) Q) : gx cx d i pc ls (.int x :: st) (M, S) Q := by
  refine g3 hf rfl (pc' := t) (st' := st) ?_ k
  show some (rf_sw aux.tail (rf_tg aux) x.toInt, st) = _
  rw [ht]
end M4
section PH
variable {fz : Bool} {S : gS} {p : Nat} {T : tK} {M M' : rf_M} {s : pS}
theorem p_closed : pdo fz S p T (40, 1020) 46 [] (p_cl T) := by
  intro M s hq
  refine g1 (n := 1) rfl rfl rfl rfl ?_
  refine g1 (n := 1) rfl rfl rfl rfl ?_
  refine m_iv (a := 169) (as := [.int (nI 0)]) (rest := []) rfl (by decide) hq.1.1.1 rfl rfl (Nat.le_of_ble_eq_true rfl) ⟨by show 1 ≤ 40; omega, by show 3 + 19 ≤ 1020; omega, Nat.le_of_ble_eq_true rfl⟩ ?_
  refine gx_room (gx_mono (p_exp0 M s hq) ?_) (by show 39 ≤ 40 - 1; omega) (by show 995 ≤ 1020 - (3 + 19); omega)
  rintro r h' ⟨rfl, M1, rfl, q1, q2⟩
  refine g1 (n := 1) rfl rfl rfl rfl ?_
  refine m_gf rfl q1.1.1.1 rfl (pz_prog q1) ?_
  refine g1 (n := 1) rfl rfl rfl rfl ?_
  refine g1 (n := 1) rfl rfl rfl rfl ?_
  refine m_iv (a := p) (as := [.int _, .int _]) (rest := []) rfl (by decide) q1.1.1.2.2.1 rfl rfl (Nat.le_of_ble_eq_true rfl) ⟨by show 1 ≤ 40; omega, by show 3 + 19 ≤ 1020; omega, Nat.le_of_ble_eq_true rfl⟩ ?_
  refine gx_room (gx_mono (p_emit q1) ?_) (Nat.zero_le _) (Nat.zero_le _)
  rintro r h' ⟨rfl, M2, rfl, q3, q4⟩
  refine g1 (n := 1) rfl rfl rfl rfl ?_
  refine g1 (n := 2) rfl rfl rfl rfl ?_
  refine m_iv (a := 169) (as := [.int 59]) (rest := []) rfl (by decide) q3.1.1.1 rfl rfl (Nat.le_of_ble_eq_true rfl) ⟨by show 1 ≤ 40; omega, by show 2 + 19 ≤ 1020; omega, Nat.le_of_ble_eq_true rfl⟩ ?_
  refine gx_room (gx_mono (p_expect M2 _ q3) ?_) (by show 1 ≤ 40 - 1; omega) (by show 40 ≤ 1020 - (2 + 19); omega)
  rintro r h' ⟨rfl, M3, rfl, q5, q6⟩
  exact gx_ret rfl rfl ⟨rfl, M3, rfl, q5, (q2.trans q4).trans q6⟩
theorem p_local : pdi fz S p T (1, 40) 55 [] (p_loc T) := by
  intro M s hq
  have bad : ¬ (p_is T 1 s = true ∧ p_cell (nb T s.1) = false) → gx (cx0 fz) (1, 40) 55 20 [(1, .int (nb T s.1)), (0, .ref 169)] [] (M, S) (fun r h' => ∃ z M', r = some (.int z) ∧ h' = (M', S) ∧ pz fz S p T M' (p_loc T s) ∧ pz_fr p M M') := by
    intro hc
    refine g1 (n := 1) rfl rfl rfl rfl ?_
    refine m_iv (a := 169) (as := []) (rest := []) rfl (by decide) hq.1.1.1 rfl rfl (Nat.le_of_ble_eq_true rfl) ⟨by show 1 ≤ 1; omega, by show 1 + 19 ≤ 40; omega, Nat.le_of_ble_eq_true rfl⟩ ?_
    refine gx_room (gx_mono (p_refuse M s hq) ?_) (Nat.zero_le _) (Nat.zero_le _)
    rintro r h' ⟨rfl, M1, rfl, q1, q2⟩
    refine g1 (n := 2) rfl rfl rfl rfl ?_
    refine gx_ret rfl rfl ⟨_, M1, rfl, rfl, ?_, q2⟩
    unfold p_loc
    rw [if_neg hc]
    exact q1
  refine g1 (n := 1) rfl rfl rfl rfl ?_
  refine m_iv (a := 169) (as := []) (rest := []) rfl (by decide) hq.1.1.1 rfl rfl (Nat.le_of_ble_eq_true rfl) ⟨by show 1 ≤ 1; omega, by show 1 + 19 ≤ 40; omega, Nat.le_of_ble_eq_true rfl⟩ ?_
  refine gx_room (gx_mono (p_number hq) ?_) (Nat.zero_le _) (Nat.zero_le _)
  rintro r h' ⟨rfl, rfl⟩
  refine g2 (n := 1) rfl rfl rfl rfl ?_
  refine g1 (n := 1) rfl rfl rfl rfl ?_
  refine g1 (n := 1) rfl rfl rfl rfl ?_
  refine m_iv (a := 169) (as := [.int 1]) (rest := []) rfl (by decide) hq.1.1.1 rfl rfl (Nat.le_of_ble_eq_true rfl) ⟨by show 1 ≤ 1; omega, by show 2 + 19 ≤ 40; omega, Nat.le_of_ble_eq_true rfl⟩ ?_
  refine gx_room (gx_mono (p_isAt hq) ?_) (Nat.zero_le _) (Nat.zero_le _)
  rintro r h' ⟨rfl, rfl⟩
  refine g_if rfl (fun c => bad (fun z => by rw [bI_no c] at z; cases z.1)) (fun c => ?_)
  have y1 := bI_yes c
  refine g1 (n := 1) rfl rfl rfl rfl ?_
  refine m_st (as := [.int (nb T s.1)]) (rest := []) rfl (by decide) rfl (Nat.le_of_ble_eq_true rfl) ⟨Nat.le_of_ble_eq_true rfl, Nat.le_of_ble_eq_true rfl, Nat.le_of_ble_eq_true rfl⟩ ?_
  refine gx_room (gx_mono (p_isCell (x := nb T s.1)) ?_) (Nat.zero_le _) (Nat.zero_le _)
  rintro r h' ⟨rfl, rfl⟩
  refine g_if rfl (fun c2 => ?_) (fun c2 => bad (fun z => by rw [bI_yes c2] at z; cases z.2))
  have n2 := bI_no c2
  refine g1 (n := 1) rfl rfl rfl rfl ?_
  refine m_iv (a := 169) (as := []) (rest := []) rfl (by decide) hq.1.1.1 rfl rfl (Nat.le_of_ble_eq_true rfl) ⟨by show 1 ≤ 1; omega, by show 1 + 19 ≤ 40; omega, Nat.le_of_ble_eq_true rfl⟩ ?_
  refine gx_room (gx_mono (p_advance M s hq) ?_) (Nat.zero_le _) (Nat.zero_le _)
  rintro r h' ⟨rfl, M1, rfl, q1, q2⟩
  refine g1 (n := 1) rfl rfl rfl rfl ?_
  refine gx_ret rfl rfl ⟨_, M1, rfl, rfl, ?_, q2⟩
  unfold p_loc
  rw [if_pos ⟨y1, n2⟩]
  exact q1
theorem p_body0 {x y : Int32} : pdi fz S p T (40, 1030) 54 [.int x, .int y, .int (nI 8)] (p_body T 0) := by
  intro M s hq
  have bad : p_body T 0 s = p_bad s → gx (cx0 fz) (40, 1030) 54 15 [(0, .ref 169), (1, .int x), (2, .int y), (3, .int (nI 8))] [] (M, S) (fun r h' => ∃ z M', r = some (.int z) ∧ h' = (M', S) ∧ pz fz S p T M' (p_body T 0 s) ∧ pz_fr p M M') := by
    intro hc
    refine g1 (n := 1) rfl rfl rfl rfl ?_
    refine m_iv (a := 169) (as := []) (rest := []) rfl (by decide) hq.1.1.1 rfl rfl (Nat.le_of_ble_eq_true rfl) ⟨by show 1 ≤ 40; omega, by show 1 + 19 ≤ 1030; omega, Nat.le_of_ble_eq_true rfl⟩ ?_
    refine gx_room (gx_mono (p_refuse M s hq) ?_) (Nat.zero_le _) (Nat.zero_le _)
    rintro r h' ⟨rfl, M1, rfl, q1, q2⟩
    refine g1 (n := 1) rfl rfl rfl rfl ?_
    refine gx_ret rfl rfl ⟨_, M1, rfl, rfl, ?_, q2⟩
    rw [hc]
    exact q1
  refine g1 (n := 1) rfl rfl rfl rfl ?_
  refine g1 (n := 2) rfl rfl rfl rfl ?_
  refine m_iv (a := 169) (as := [.int 123]) (rest := []) rfl (by decide) hq.1.1.1 rfl rfl (Nat.le_of_ble_eq_true rfl) ⟨by show 1 ≤ 40; omega, by show 2 + 19 ≤ 1030; omega, Nat.le_of_ble_eq_true rfl⟩ ?_
  refine gx_room (gx_mono (p_isAt hq) ?_) (Nat.zero_le _) (Nat.zero_le _)
  rintro r h' ⟨rfl, rfl⟩
  refine g_if rfl (fun c => bad rfl) (fun c => ?_)
  have y1 := bI_yes c
  refine g1 (n := 1) rfl rfl rfl rfl ?_
  refine g1 (n := 2) rfl rfl rfl rfl ?_
  refine g_ic rfl (fun c8 => absurd c8 (by decide)) (fun _ => bad rfl)
theorem p_bodyS {f d : Nat} {x y : Int32} (hd : d + (f + 1) = 8) (hs : pdj fz S p T (43 + 4 * f, 1102 + 99 * f) 35 [.int x, .int y, .int (nI (d + 1))] (p_sts T (p_body T f))) : pdi fz S p T (40 + 4 * (f + 1), 1030 + 99 * (f + 1)) 54 [.int x, .int y, .int (nI d)] (p_body T (f + 1)) := by
  intro M s hq
  have bad : p_body T (f + 1) s = p_bad s → gx (cx0 fz) (40 + 4 * (f + 1), 1030 + 99 * (f + 1)) 54 15 [(0, .ref 169), (1, .int x), (2, .int y), (3, .int (nI d))] [] (M, S) (fun r h' => ∃ z M', r = some (.int z) ∧ h' = (M', S) ∧ pz fz S p T M' (p_body T (f + 1) s) ∧ pz_fr p M M') := by
    intro hc
    refine g1 (n := 1) rfl rfl rfl rfl ?_
    refine m_iv (a := 169) (as := []) (rest := []) rfl (by decide) hq.1.1.1 rfl rfl (Nat.le_of_ble_eq_true rfl) ⟨by show 1 ≤ 40 + 4 * (f + 1); omega, by show 1 + 19 ≤ 1030 + 99 * (f + 1); omega, Nat.le_of_ble_eq_true rfl⟩ ?_
    refine gx_room (gx_mono (p_refuse M s hq) ?_) (Nat.zero_le _) (Nat.zero_le _)
    rintro r h' ⟨rfl, M1, rfl, q1, q2⟩
    refine g1 (n := 1) rfl rfl rfl rfl ?_
    refine gx_ret rfl rfl ⟨_, M1, rfl, rfl, ?_, q2⟩
    rw [hc]
    exact q1
  refine g1 (n := 1) rfl rfl rfl rfl ?_
  refine g1 (n := 2) rfl rfl rfl rfl ?_
  refine m_iv (a := 169) (as := [.int 123]) (rest := []) rfl (by decide) hq.1.1.1 rfl rfl (Nat.le_of_ble_eq_true rfl) ⟨by show 1 ≤ 40 + 4 * (f + 1); omega, by show 2 + 19 ≤ 1030 + 99 * (f + 1); omega, Nat.le_of_ble_eq_true rfl⟩ ?_
  refine gx_room (gx_mono (p_isAt hq) ?_) (Nat.zero_le _) (Nat.zero_le _)
  rintro r h' ⟨rfl, rfl⟩
  refine g_if rfl (fun c => bad (by unfold p_body; rw [if_neg (by rw [bI_no c]; simp)])) (fun c => ?_)
  have y1 := bI_yes c
  refine g1 (n := 1) rfl rfl rfl rfl ?_
  refine g1 (n := 2) rfl rfl rfl rfl ?_
  refine g_ic rfl (fun _ => ?_) (fun c8 => absurd ((rf_cc_iff (nI d) 8 .lt).mpr (by show (nI d).toInt < 8; rw [nI_int (by omega)]; omega)) c8)
  refine g1 (n := 1) rfl rfl rfl rfl ?_
  refine m_iv (a := 169) (as := []) (rest := []) rfl (by decide) hq.1.1.1 rfl rfl (Nat.le_of_ble_eq_true rfl) ⟨by show 1 ≤ 40 + 4 * (f + 1); omega, by show 1 + 19 ≤ 1030 + 99 * (f + 1); omega, Nat.le_of_ble_eq_true rfl⟩ ?_
  refine gx_room (gx_mono (p_advance M s hq) ?_) (Nat.zero_le _) (Nat.zero_le _)
  rintro r h' ⟨rfl, M1, rfl, q1, q2⟩
  refine g1 (n := 1) rfl rfl rfl rfl ?_
  refine m_gf rfl q1.1.1.1 rfl (pz_prog q1) ?_
  refine g1 (n := 1) rfl rfl rfl rfl ?_
  refine m_gf rfl q1.1.1.1 rfl (pz_prog q1) ?_
  have hdp := q1.2.2.2.2.2.1
  refine m_gf rfl q1.1.1.2.2.1 rfl (v := .int (nI (p_adv T s).2.2.2.2.1)) (by show Value.int (M1.1 p 2) = _; rw [hdp.1]) ?_
  refine g1 (n := 1) rfl rfl rfl rfl ?_
  refine g1 (n := 1) rfl rfl rfl rfl ?_
  refine g0 rfl rfl rfl ?_
  rw [nI_suc (by omega)]
  have hdb := hdp.2
  refine m_max rfl rfl (by unfold rf_ok8; simp only [Bool.and_eq_true, decide_eq_true_eq]; exact ⟨by show 1 ≤ 40 + 4 * (f + 1); omega, by show 1 + 13 ≤ 1030 + 99 * (f + 1); omega⟩) ?_
  have em : (if nI (p_adv T s).2.2.2.2.1 < nI (d + 1) then nI (d + 1) else nI (p_adv T s).2.2.2.2.1) = nI (max (p_adv T s).2.2.2.2.1 (8 - f)) := by
    rw [show 8 - f = d + 1 by omega]
    split
    · rename_i hlt
      rw [Int32.lt_iff_toInt_lt, nI_int (by omega), nI_int (by omega)] at hlt
      congr 1
      omega
    · rename_i hlt
      rw [Int32.lt_iff_toInt_lt, nI_int (by omega), nI_int (by omega)] at hlt
      congr 1
      omega
  rw [em]
  refine m_pf rfl q1.1.1.2.2.1 rfl (M' := rf_wi M1 p 2 (nI (max (p_adv T s).2.2.2.2.1 (8 - f)))) rfl ?_
  have q3 := q1.dp (m := 8 - f) (by omega)
  have q4 : pz_fr p M (rf_wi M1 p 2 (nI (max (p_adv T s).2.2.2.2.1 (8 - f)))) := q2.wi (by omega)
  generalize rf_wi M1 p 2 (nI (max (p_adv T s).2.2.2.2.1 (8 - f))) = M2 at q3 q4 ⊢
  refine g1 (n := 1) rfl rfl rfl rfl ?_
  refine g1 (n := 1) rfl rfl rfl rfl ?_
  refine g1 (n := 1) rfl rfl rfl rfl ?_
  refine g1 (n := 1) rfl rfl rfl rfl ?_
  refine g1 (n := 1) rfl rfl rfl rfl ?_
  refine g0 rfl rfl rfl ?_
  rw [nI_suc (by omega)]
  refine m_iv (a := 169) (as := [.int x, .int y, .int (nI (d + 1))]) (rest := []) rfl (by decide) q3.1.1.1 rfl rfl (Nat.le_of_ble_eq_true rfl) ⟨by show 1 ≤ 40 + 4 * (f + 1); omega, by show 8 + 19 ≤ 1030 + 99 * (f + 1); omega, Nat.le_of_ble_eq_true rfl⟩ ?_
  refine gx_room (gx_mono (hs M2 _ q3) ?_) (by show 43 + 4 * f ≤ 40 + 4 * (f + 1) - 1; omega) (by show 1102 + 99 * f ≤ 1030 + 99 * (f + 1) - (8 + 19); omega)
  rintro r h' ⟨z, M3, rfl, -, rfl, q5, q6⟩
  refine g2 (n := 2) rfl rfl rfl rfl ?_
  refine g1 (n := 1) rfl rfl rfl rfl ?_
  refine g1 (n := 2) rfl rfl rfl rfl ?_
  refine m_iv (a := 169) (as := [.int 125]) (rest := []) rfl (by decide) q5.1.1.1 rfl rfl (Nat.le_of_ble_eq_true rfl) ⟨by show 1 ≤ 40 + 4 * (f + 1); omega, by show 2 + 19 ≤ 1030 + 99 * (f + 1); omega, Nat.le_of_ble_eq_true rfl⟩ ?_
  refine gx_room (gx_mono (p_expect M3 _ q5) ?_) (by show 1 ≤ 40 + 4 * (f + 1) - 1; omega) (by show 40 ≤ 1030 + 99 * (f + 1) - (2 + 19); omega)
  rintro r h' ⟨rfl, M4, rfl, q7, q8⟩
  refine g1 (n := 2) rfl rfl rfl rfl ?_
  refine gx_ret rfl rfl ⟨_, M4, rfl, rfl, ?_, (q4.trans q6).trans q8⟩
  unfold p_body
  rw [if_pos y1]
  exact q7
theorem p_compound {f d c : Nat} {k : Int32} (hc40 : c < 40) (hb : ∀ x y, pdi fz S p T (40 + 4 * f, 1030 + 99 * f) 54 [.int x, .int y, .int (nI d)] (p_body T f)) : pdo fz S p T (41 + 4 * f, 1054 + 99 * f) 53 [.int k, .int (nI c), .int (nI d)] (p_com T k (p_body T f)) := by
  intro M s hq0
  have f117 : ∀ (M' : rf_M) (s' : pS), pz fz S p T M' s' → pz_fr p M M' → gx (cx0 fz) (41 + 4 * f, 1054 + 99 * f) 53 117 [(0, .ref 169), (1, .int k), (2, .int (nI c)), (3, .int (nI d))] [] (M', S) (fun r h' => r = none ∧ ∃ M', h' = (M', S) ∧ pz fz S p T M' (p_ca T k (p_body T f) s') ∧ pz_fr p M M') := by
    intro M' s' hq hfr
    refine g1 (n := 1) rfl rfl rfl rfl ?_
    refine g1 (n := 2) rfl rfl rfl rfl ?_
    refine g_ic rfl (fun ck => ?_) (fun ck => ?_)
    · have ck : ¬ k = 17 := fun z => (rf_cc_iff k 17 .ne).mp ck (by rw [z])
      refine gx_ret rfl rfl ⟨rfl, M', rfl, ?_, hfr⟩
      unfold p_ca
      rw [if_neg ck]
      exact hq
    have ck : k = 17 := Classical.byContradiction fun z => ck ((rf_cc_iff k 17 .ne).mpr (fun w => z (Int32.toInt_inj.mp w)))
    refine g1 (n := 1) rfl rfl rfl rfl ?_
    refine g1 (n := 2) rfl rfl rfl rfl ?_
    refine m_iv (a := 169) (as := [.int 18]) (rest := []) rfl (by decide) hq.1.1.1 rfl rfl (Nat.le_of_ble_eq_true rfl) ⟨by show 1 ≤ 41 + 4 * f; omega, by show 2 + 19 ≤ 1054 + 99 * f; omega, Nat.le_of_ble_eq_true rfl⟩ ?_
    refine gx_room (gx_mono (p_expect M' _ hq) ?_) (by show 1 ≤ 41 + 4 * f - 1; omega) (by show 40 ≤ 1054 + 99 * f - (2 + 19); omega)
    rintro r h' ⟨rfl, M1, rfl, q1, q2⟩
    refine g1 (n := 1) rfl rfl rfl rfl ?_
    refine m_gf rfl q1.1.1.1 rfl (pz_prog q1) ?_
    refine m_gf rfl q1.1.1.2.2.1 rfl (v := .ref (p + 2)) (by show va_rf (M1.2.2 p 6) = _; rw [q1.1.2.1.2.2.2.2.2 6 (by omega) (by omega)]; rfl) ?_
    refine g1 (n := 1) rfl rfl rfl rfl ?_
    refine g1 (n := 1) rfl rfl rfl rfl ?_
    refine m_iv (a := 169) (as := []) (rest := [.int (nI c), .ref (p + 2)]) rfl (by decide) q1.1.1.1 rfl rfl (Nat.le_of_ble_eq_true rfl) ⟨by show 1 ≤ 41 + 4 * f; omega, by show 2 + 19 ≤ 1054 + 99 * f; omega, Nat.le_of_ble_eq_true rfl⟩ ?_
    refine gx_room (gx_mono (p_local M1 _ q1) ?_) (by show 1 ≤ 41 + 4 * f - 1; omega) (by show 40 ≤ 1054 + 99 * f - (2 + 19); omega)
    rintro r h' ⟨z, M2, rfl, rfl, q3, q4⟩
    have hpb : 25 ≤ p ∧ p + 11 ≤ 168 := ⟨q3.1.1.2.2.2.1, q3.1.1.2.2.2.2.1⟩
    refine m_is rfl (q3.1.1.2.2.2.2.2.1 2 (by omega) (by omega)) (nI_int (by omega)) hc40 ?_
    have q5 := q3.cc (a := p + 2) (k := c) (x := z) (by omega)
    have q6 : pz_fr p M (rf_wi M2 (p + 2) c z) := ((hfr.trans q2).trans q4).wi (by omega)
    generalize rf_wi M2 (p + 2) c z = M3 at q5 q6 ⊢
    refine g1 (n := 1) rfl rfl rfl rfl ?_
    refine m_gf rfl q5.1.1.1 rfl (pz_prog q5) ?_
    refine m_gf rfl q5.1.1.2.2.1 rfl (v := .ref (p + 9)) (by show va_rf (M3.2.2 p 13) = _; rw [q5.1.2.1.2.2.2.2.2 13 (by omega) (by omega)]; rfl) ?_
    refine g1 (n := 1) rfl rfl rfl rfl ?_
    refine g1 (n := 1) rfl rfl rfl rfl ?_
    refine g1 (n := 1) rfl rfl rfl rfl ?_
    refine g1 (n := 1) rfl rfl rfl rfl ?_
    refine g1 (n := 1) rfl rfl rfl rfl ?_
    refine m_iv (a := 169) (as := [.int (nI c), .int _, .int (nI d)]) (rest := [.int (nI c), .ref (p + 9)]) rfl (by decide) q5.1.1.1 rfl rfl (Nat.le_of_ble_eq_true rfl) ⟨by show 1 ≤ 41 + 4 * f; omega, by show 5 + 19 ≤ 1054 + 99 * f; omega, Nat.le_of_ble_eq_true rfl⟩ ?_
    refine gx_room (gx_mono (hb _ _ M3 _ q5) ?_) (by show 40 + 4 * f ≤ 41 + 4 * f - 1; omega) (by show 1030 + 99 * f ≤ 1054 + 99 * f - (5 + 19); omega)
    rintro r h' ⟨z, Mb, rfl, rfl, b1, b2⟩
    refine m_is rfl (b1.1.1.2.2.2.2.2.1 9 (by omega) (by omega)) (nI_int (by omega)) hc40 ?_
    refine gx_ret rfl rfl ⟨rfl, _, rfl, ?_, (q6.trans b2).wi (by omega)⟩
    unfold p_ca
    rw [if_pos ck]
    exact b1.cc (by omega)
  have f89 : ∀ (M' : rf_M) (s' : pS), pz fz S p T M' s' → pz_fr p M M' → gx (cx0 fz) (41 + 4 * f, 1054 + 99 * f) 53 89 [(0, .ref 169), (1, .int k), (2, .int (nI c)), (3, .int (nI d))] [] (M', S) (fun r h' => r = none ∧ ∃ M', h' = (M', S) ∧ pz fz S p T M' (p_ca T k (p_body T f) (p_or T k (p_body T f) s')) ∧ pz_fr p M M') := by
    intro M' s' hq hfr
    refine g1 (n := 1) rfl rfl rfl rfl ?_
    refine g1 (n := 2) rfl rfl rfl rfl ?_
    refine g_ic rfl (fun ck => ?_) (fun ck => ?_)
    · have ck : ¬ k = 15 := fun z => (rf_cc_iff k 15 .ne).mp ck (by rw [z])
      have := f117 M' s' hq hfr
      have e : p_or T k (p_body T f) s' = s' := by unfold p_or; rw [if_neg ck]
      rw [e]
      exact this
    have ck : k = 15 := Classical.byContradiction fun z => ck ((rf_cc_iff k 15 .ne).mpr (fun w => z (Int32.toInt_inj.mp w)))
    refine g1 (n := 1) rfl rfl rfl rfl ?_
    refine g1 (n := 2) rfl rfl rfl rfl ?_
    refine m_iv (a := 169) (as := [.int 16]) (rest := []) rfl (by decide) hq.1.1.1 rfl rfl (Nat.le_of_ble_eq_true rfl) ⟨by show 1 ≤ 41 + 4 * f; omega, by show 2 + 19 ≤ 1054 + 99 * f; omega, Nat.le_of_ble_eq_true rfl⟩ ?_
    refine gx_room (gx_mono (p_expect M' _ hq) ?_) (by show 1 ≤ 41 + 4 * f - 1; omega) (by show 40 ≤ 1054 + 99 * f - (2 + 19); omega)
    rintro r h' ⟨rfl, M1, rfl, q1, q2⟩
    have hpb : 25 ≤ p ∧ p + 11 ≤ 168 := ⟨q1.1.1.2.2.2.1, q1.1.1.2.2.2.2.1⟩
    refine g1 (n := 1) rfl rfl rfl rfl ?_
    refine m_gf rfl q1.1.1.1 rfl (pz_prog q1) ?_
    refine m_gf rfl q1.1.1.2.2.1 rfl (v := .ref (p + 9)) (by show va_rf (M1.2.2 p 13) = _; rw [q1.1.2.1.2.2.2.2.2 13 (by omega) (by omega)]; rfl) ?_
    refine g1 (n := 1) rfl rfl rfl rfl ?_
    refine g1 (n := 1) rfl rfl rfl rfl ?_
    refine g1 (n := 1) rfl rfl rfl rfl ?_
    refine g1 (n := 1) rfl rfl rfl rfl ?_
    refine g1 (n := 1) rfl rfl rfl rfl ?_
    refine m_iv (a := 169) (as := [.int (nI c), .int _, .int (nI d)]) (rest := [.int (nI c), .ref (p + 9)]) rfl (by decide) q1.1.1.1 rfl rfl (Nat.le_of_ble_eq_true rfl) ⟨by show 1 ≤ 41 + 4 * f; omega, by show 5 + 19 ≤ 1054 + 99 * f; omega, Nat.le_of_ble_eq_true rfl⟩ ?_
    refine gx_room (gx_mono (hb _ _ M1 _ q1) ?_) (by show 40 + 4 * f ≤ 41 + 4 * f - 1; omega) (by show 1030 + 99 * f ≤ 1054 + 99 * f - (5 + 19); omega)
    rintro r h' ⟨z, Mb, rfl, rfl, b1, b2⟩
    refine m_is rfl (b1.1.1.2.2.2.2.2.1 9 (by omega) (by omega)) (nI_int (by omega)) hc40 ?_
    have e : p_or T k (p_body T f) s' = p_body T f (p_ex T 16 s') := by unfold p_or; rw [if_pos ck]
    rw [e]
    exact f117 _ _ (b1.cc (by omega)) (((hfr.trans q2).trans b2).wi (by omega))
  have f54 : ∀ (M' : rf_M) (s' : pS), pz fz S p T M' s' → pz_fr p M M' → gx (cx0 fz) (41 + 4 * f, 1054 + 99 * f) 53 54 [(0, .ref 169), (1, .int k), (2, .int (nI c)), (3, .int (nI d))] [] (M', S) (fun r h' => r = none ∧ ∃ M', h' = (M', S) ∧ pz fz S p T M' (p_ca T k (p_body T f) (p_or T k (p_body T f) (p_el T k (p_body T f) s'))) ∧ pz_fr p M M') := by
    intro M' s' hq hfr
    refine g1 (n := 1) rfl rfl rfl rfl ?_
    refine g1 (n := 2) rfl rfl rfl rfl ?_
    refine g_ic rfl (fun ck => ?_) (fun ck => ?_)
    · have ck : ¬ k = 10 := fun z => (rf_cc_iff k 10 .ne).mp ck (by rw [z])
      have := f89 M' s' hq hfr
      have e : p_el T k (p_body T f) s' = s' := by unfold p_el; rw [if_neg (fun z => ck z.1)]
      rw [e]
      exact this
    have ck : k = 10 := Classical.byContradiction fun z => ck ((rf_cc_iff k 10 .ne).mpr (fun w => z (Int32.toInt_inj.mp w)))
    refine g1 (n := 1) rfl rfl rfl rfl ?_
    refine g1 (n := 2) rfl rfl rfl rfl ?_
    refine m_iv (a := 169) (as := [.int 11]) (rest := []) rfl (by decide) hq.1.1.1 rfl rfl (Nat.le_of_ble_eq_true rfl) ⟨by show 1 ≤ 41 + 4 * f; omega, by show 2 + 19 ≤ 1054 + 99 * f; omega, Nat.le_of_ble_eq_true rfl⟩ ?_
    refine gx_room (gx_mono (p_isAt hq) ?_) (Nat.zero_le _) (Nat.zero_le _)
    rintro r h' ⟨rfl, rfl⟩
    refine g_if rfl (fun c2 => ?_) (fun c2 => ?_)
    · have := f89 M' s' hq hfr
      have e : p_el T k (p_body T f) s' = s' := by unfold p_el; rw [if_neg (fun z => by rw [bI_no c2] at z; cases z.2)]
      rw [e]
      exact this
    have y2 := bI_yes c2
    refine g1 (n := 1) rfl rfl rfl rfl ?_
    refine m_iv (a := 169) (as := []) (rest := []) rfl (by decide) hq.1.1.1 rfl rfl (Nat.le_of_ble_eq_true rfl) ⟨by show 1 ≤ 41 + 4 * f; omega, by show 1 + 19 ≤ 1054 + 99 * f; omega, Nat.le_of_ble_eq_true rfl⟩ ?_
    refine gx_room (gx_mono (p_advance M' _ hq) ?_) (Nat.zero_le _) (Nat.zero_le _)
    rintro r h' ⟨rfl, M1, rfl, q1, q2⟩
    have hpb : 25 ≤ p ∧ p + 11 ≤ 168 := ⟨q1.1.1.2.2.2.1, q1.1.1.2.2.2.2.1⟩
    refine g1 (n := 1) rfl rfl rfl rfl ?_
    refine m_gf rfl q1.1.1.1 rfl (pz_prog q1) ?_
    refine m_gf rfl q1.1.1.2.2.1 rfl (v := .ref (p + 9)) (by show va_rf (M1.2.2 p 13) = _; rw [q1.1.2.1.2.2.2.2.2 13 (by omega) (by omega)]; rfl) ?_
    refine g1 (n := 1) rfl rfl rfl rfl ?_
    refine g1 (n := 1) rfl rfl rfl rfl ?_
    refine g1 (n := 1) rfl rfl rfl rfl ?_
    refine g1 (n := 1) rfl rfl rfl rfl ?_
    refine g1 (n := 1) rfl rfl rfl rfl ?_
    refine m_iv (a := 169) (as := [.int (nI c), .int _, .int (nI d)]) (rest := [.int (nI c), .ref (p + 9)]) rfl (by decide) q1.1.1.1 rfl rfl (Nat.le_of_ble_eq_true rfl) ⟨by show 1 ≤ 41 + 4 * f; omega, by show 5 + 19 ≤ 1054 + 99 * f; omega, Nat.le_of_ble_eq_true rfl⟩ ?_
    refine gx_room (gx_mono (hb _ _ M1 _ q1) ?_) (by show 40 + 4 * f ≤ 41 + 4 * f - 1; omega) (by show 1030 + 99 * f ≤ 1054 + 99 * f - (5 + 19); omega)
    rintro r h' ⟨z, Mb, rfl, rfl, b1, b2⟩
    refine m_is rfl (b1.1.1.2.2.2.2.2.1 9 (by omega) (by omega)) (nI_int (by omega)) hc40 ?_
    have e : p_el T k (p_body T f) s' = p_body T f (p_adv T s') := by unfold p_el; rw [if_pos ⟨ck, y2⟩]
    rw [e]
    exact f89 _ _ (b1.cc (by omega)) (((hfr.trans q2).trans b2).wi (by omega))
  have f38 : ∀ (M' : rf_M) (s' : pS), pz fz S p T M' s' → pz_fr p M M' → gx (cx0 fz) (41 + 4 * f, 1054 + 99 * f) 53 38 [(0, .ref 169), (1, .int k), (2, .int (nI c)), (3, .int (nI d))] [] (M', S) (fun r h' => r = none ∧ ∃ M', h' = (M', S) ∧ pz fz S p T M' (p_ca T k (p_body T f) (p_or T k (p_body T f) (p_el T k (p_body T f) (p_body T f s')))) ∧ pz_fr p M M') := by
    intro M' s' hq hfr
    have hpb : 25 ≤ p ∧ p + 11 ≤ 168 := ⟨hq.1.1.2.2.2.1, hq.1.1.2.2.2.2.1⟩
    refine g1 (n := 1) rfl rfl rfl rfl ?_
    refine m_gf rfl hq.1.1.1 rfl (pz_prog hq) ?_
    refine m_gf rfl hq.1.1.2.2.1 rfl (v := .ref (p + 8)) (by show va_rf (M'.2.2 p 12) = _; rw [hq.1.2.1.2.2.2.2.2 12 (by omega) (by omega)]; rfl) ?_
    refine g1 (n := 1) rfl rfl rfl rfl ?_
    refine g1 (n := 1) rfl rfl rfl rfl ?_
    refine g1 (n := 1) rfl rfl rfl rfl ?_
    refine g1 (n := 1) rfl rfl rfl rfl ?_
    refine g1 (n := 1) rfl rfl rfl rfl ?_
    refine m_iv (a := 169) (as := [.int (nI c), .int _, .int (nI d)]) (rest := [.int (nI c), .ref (p + 8)]) rfl (by decide) hq.1.1.1 rfl rfl (Nat.le_of_ble_eq_true rfl) ⟨by show 1 ≤ 41 + 4 * f; omega, by show 5 + 19 ≤ 1054 + 99 * f; omega, Nat.le_of_ble_eq_true rfl⟩ ?_
    refine gx_room (gx_mono (hb _ _ M' _ hq) ?_) (by show 40 + 4 * f ≤ 41 + 4 * f - 1; omega) (by show 1030 + 99 * f ≤ 1054 + 99 * f - (5 + 19); omega)
    rintro r h' ⟨z, Mb, rfl, rfl, b1, b2⟩
    refine m_is rfl (b1.1.1.2.2.2.2.2.1 8 (by omega) (by omega)) (nI_int (by omega)) hc40 ?_
    exact f54 _ _ (b1.cc (by omega)) ((hfr.trans b2).wi (by omega))
  have f12 : (k = 10 ∨ k = 12) → gx (cx0 fz) (41 + 4 * f, 1054 + 99 * f) 53 12 [(0, .ref 169), (1, .int k), (2, .int (nI c)), (3, .int (nI d))] [] (M, S) (fun r h' => r = none ∧ ∃ M', h' = (M', S) ∧ pz fz S p T M' (p_com T k (p_body T f) s) ∧ pz_fr p M M') := by
    intro hk
    refine g1 (n := 1) rfl rfl rfl rfl ?_
    refine g1 (n := 2) rfl rfl rfl rfl ?_
    refine m_iv (a := 169) (as := [.int 40]) (rest := []) rfl (by decide) hq0.1.1.1 rfl rfl (Nat.le_of_ble_eq_true rfl) ⟨by show 1 ≤ 41 + 4 * f; omega, by show 2 + 19 ≤ 1054 + 99 * f; omega, Nat.le_of_ble_eq_true rfl⟩ ?_
    refine gx_room (gx_mono (p_expect M _ hq0) ?_) (by show 1 ≤ 41 + 4 * f - 1; omega) (by show 40 ≤ 1054 + 99 * f - (2 + 19); omega)
    rintro r h' ⟨rfl, M1, rfl, q1, q2⟩
    refine g1 (n := 1) rfl rfl rfl rfl ?_
    refine g1 (n := 1) rfl rfl rfl rfl ?_
    refine m_iv (a := 169) (as := [.int (nI 0)]) (rest := []) rfl (by decide) q1.1.1.1 rfl rfl (Nat.le_of_ble_eq_true rfl) ⟨by show 1 ≤ 41 + 4 * f; omega, by show 3 + 19 ≤ 1054 + 99 * f; omega, Nat.le_of_ble_eq_true rfl⟩ ?_
    refine gx_room (gx_mono (p_exp0 M1 _ q1) ?_) (by show 39 ≤ 41 + 4 * f - 1; omega) (by show 995 ≤ 1054 + 99 * f - (3 + 19); omega)
    rintro r h' ⟨rfl, M2, rfl, q3, q4⟩
    refine g1 (n := 1) rfl rfl rfl rfl ?_
    refine m_gf rfl q3.1.1.1 rfl (pz_prog q3) ?_
    refine g1 (n := 1) rfl rfl rfl rfl ?_
    refine g1 (n := 1) rfl rfl rfl rfl ?_
    refine m_iv (a := p) (as := [.int _, .int _]) (rest := []) rfl (by decide) q3.1.1.2.2.1 rfl rfl (Nat.le_of_ble_eq_true rfl) ⟨by show 1 ≤ 41 + 4 * f; omega, by show 3 + 19 ≤ 1054 + 99 * f; omega, Nat.le_of_ble_eq_true rfl⟩ ?_
    refine gx_room (gx_mono (p_emit q3) ?_) (Nat.zero_le _) (Nat.zero_le _)
    rintro r h' ⟨rfl, M3, rfl, q5, q6⟩
    refine g1 (n := 1) rfl rfl rfl rfl ?_
    refine g1 (n := 2) rfl rfl rfl rfl ?_
    refine m_iv (a := 169) (as := [.int 41]) (rest := []) rfl (by decide) q5.1.1.1 rfl rfl (Nat.le_of_ble_eq_true rfl) ⟨by show 1 ≤ 41 + 4 * f; omega, by show 2 + 19 ≤ 1054 + 99 * f; omega, Nat.le_of_ble_eq_true rfl⟩ ?_
    refine gx_room (gx_mono (p_expect M3 _ q5) ?_) (by show 1 ≤ 41 + 4 * f - 1; omega) (by show 40 ≤ 1054 + 99 * f - (2 + 19); omega)
    rintro r h' ⟨rfl, M4, rfl, q7, q8⟩
    have e : p_if T k s = p_ex T 41 (p_exq T (p_ex T 40 s)) := by unfold p_if; rw [if_pos hk]
    unfold p_com
    rw [e]
    exact f38 M4 _ q7 (((q2.trans q4).trans q6).trans q8)
  refine g1 (n := 1) rfl rfl rfl rfl ?_
  refine g1 (n := 2) rfl rfl rfl rfl ?_
  refine g_ic rfl (fun ck => f12 (Or.inl (of_decide_eq_true ck))) (fun ck => ?_)
  refine g1 (n := 1) rfl rfl rfl rfl ?_
  refine g1 (n := 2) rfl rfl rfl rfl ?_
  refine g_ic rfl (fun ck2 => ?_) (fun ck2 => ?_)
  · have e : p_if T k s = s := by
      unfold p_if
      rw [if_neg]
      rintro (z | z)
      · exact ck (decide_eq_true z)
      · exact (rf_cc_iff k 12 .ne).mp ck2 (by rw [z])
    unfold p_com
    rw [e]
    exact f38 M s hq0 (pz_fr.rfl' p M)
  · exact f12 (Or.inr (Classical.byContradiction fun z => ck2 ((rf_cc_iff k 12 .ne).mpr (fun w => z (Int32.toInt_inj.mp w)))))
end PH
/-! THE PARSER: a statement, a row of statements -/
section PI
variable {fz : Bool} {S : gS} {p : Nat} {T : tK} {M M' : rf_M} {s : pS}
theorem nI_m1 {c : Nat} (h : c ≤ 1000) : ¬ nI c = Int32.ofInt (-1) := fun z => by
  have h1 := nI_int (k := c) (by omega)
  rw [z] at h1
  have e1 : (Int32.ofInt (-1)).toInt = -1 := by decide
  omega
theorem p_statement {f d : Nat} {x y : Int32} (hcom : ∀ k c, c < 40 → pdo fz S p T (41 + 4 * f, 1054 + 99 * f) 53 [.int k, .int (nI c), .int (nI d)] (p_com T k (p_body T f))) : pdj fz S p T (42 + 4 * f, 1077 + 99 * f) 38 [.int x, .int y, .int (nI d)] (p_st T (p_body T f)) := by
  intro M s hq
  have bad : ¬ (p_beg (kd T s.1) = true ∧ s.2.2.1 < 40) → gx (cx0 fz) (42 + 4 * f, 1077 + 99 * f) 38 30 [(4, .int (kd T s.1)), (0, .ref 169), (1, .int x), (2, .int y), (3, .int (nI d))] [.int (Int32.ofInt (-1))] (M, S) (fun r h' => ∃ z M', r = some (.int z) ∧ p_ix z ∧ h' = (M', S) ∧ pz fz S p T M' (p_st T (p_body T f) s) ∧ pz_fr p M M') := by
    intro hc
    refine g2 (n := 2) rfl rfl rfl rfl ?_
    refine g1 (n := 2) rfl rfl rfl rfl ?_
    refine g1 (n := 1) rfl rfl rfl rfl ?_
    refine g_ic rfl (fun c => absurd rfl ((rf_cc_iff _ _ .ne).mp c)) (fun _ => ?_)
    refine g1 (n := 1) rfl rfl rfl rfl ?_
    refine m_iv (a := 169) (as := []) (rest := []) rfl (by decide) hq.1.1.1 rfl rfl (Nat.le_of_ble_eq_true rfl) ⟨by show 1 ≤ 42 + 4 * f; omega, by show 1 + 19 ≤ 1077 + 99 * f; omega, Nat.le_of_ble_eq_true rfl⟩ ?_
    refine gx_room (gx_mono (p_refuse M s hq) ?_) (Nat.zero_le _) (Nat.zero_le _)
    rintro r h' ⟨rfl, M1, rfl, q1, q2⟩
    refine g1 (n := 1) rfl rfl rfl rfl ?_
    refine gx_ret rfl rfl ⟨_, M1, rfl, Or.inl rfl, rfl, ?_, q2⟩
    unfold p_st
    rw [if_neg hc]
    exact q1
  have good : p_beg (kd T s.1) = true → s.2.2.1 < 40 → ∀ M1, pz fz S p T M1 (p_c1 s) → pz_fr p M M1 → gx (cx0 fz) (42 + 4 * f, 1077 + 99 * f) 38 44 [(5, .int (nI s.2.2.1)), (4, .int (kd T s.1)), (0, .ref 169), (1, .int x), (2, .int y), (3, .int (nI d))] [] (M1, S) (fun r h' => ∃ z M', r = some (.int z) ∧ p_ix z ∧ h' = (M', S) ∧ pz fz S p T M' (p_st T (p_body T f) s) ∧ pz_fr p M M') := by
    intro hb h40 M1 q1 q2
    have hpb : 25 ≤ p ∧ p + 11 ≤ 168 := ⟨q1.1.1.2.2.2.1, q1.1.1.2.2.2.2.1⟩
    refine g1 (n := 1) rfl rfl rfl rfl ?_
    refine m_gf rfl q1.1.1.1 rfl (pz_prog q1) ?_
    refine m_gf rfl q1.1.1.2.2.1 rfl (v := .ref (p + 2)) (by show va_rf (M1.2.2 p 6) = _; rw [q1.1.2.1.2.2.2.2.2 6 (by omega) (by omega)]; rfl) ?_
    refine g1 (n := 2) rfl rfl rfl rfl ?_
    refine g1 (n := 1) rfl rfl rfl rfl ?_
    refine m_iv (a := 169) (as := []) (rest := [.int (nI s.2.2.1), .ref (p + 2)]) rfl (by decide) q1.1.1.1 rfl rfl (Nat.le_of_ble_eq_true rfl) ⟨by show 1 ≤ 42 + 4 * f; omega, by show 1 + 19 ≤ 1077 + 99 * f; omega, Nat.le_of_ble_eq_true rfl⟩ ?_
    refine gx_room (gx_mono (p_number q1) ?_) (Nat.zero_le _) (Nat.zero_le _)
    rintro r h' ⟨rfl, rfl⟩
    refine m_is rfl (q1.1.1.2.2.2.2.2.1 2 (by omega) (by omega)) (nI_int (by omega)) h40 ?_
    have q3 := q1.cc (a := p + 2) (k := s.2.2.1) (x := nb T (p_c1 s).1) (by omega)
    have q4 : pz_fr p M (rf_wi M1 (p + 2) s.2.2.1 (nb T (p_c1 s).1)) := q2.wi (by omega)
    generalize rf_wi M1 (p + 2) s.2.2.1 (nb T (p_c1 s).1) = M2 at q3 q4 ⊢
    refine g1 (n := 1) rfl rfl rfl rfl ?_
    refine m_iv (a := 169) (as := []) (rest := []) rfl (by decide) q3.1.1.1 rfl rfl (Nat.le_of_ble_eq_true rfl) ⟨by show 1 ≤ 42 + 4 * f; omega, by show 1 + 19 ≤ 1077 + 99 * f; omega, Nat.le_of_ble_eq_true rfl⟩ ?_
    refine gx_room (gx_mono (p_advance M2 _ q3) ?_) (Nat.zero_le _) (Nat.zero_le _)
    rintro r h' ⟨rfl, M3, rfl, q5, q6⟩
    replace q6 := q4.trans q6
    refine g1 (n := 2) rfl rfl rfl rfl ?_
    have est : p_st T (p_body T f) s = p_st1 T (p_body T f) (kd T s.1) (p_adv T (p_c1 s)) := by unfold p_st; rw [if_pos ⟨hb, h40⟩]
    rw [est]
    have hix : p_ix (nI s.2.2.1) := Or.inr ⟨s.2.2.1, h40, rfl⟩
    generalize kd T s.1 = k
    generalize p_adv T (p_c1 s) = t at q5 ⊢
    have fin : ∀ M' t', pz fz S p T M' t' → pz_fr p M M' → t' = p_st1 T (p_body T f) k t → gx (cx0 fz) (42 + 4 * f, 1077 + 99 * f) 38 163 [(5, .int (nI s.2.2.1)), (4, .int k), (0, .ref 169), (1, .int x), (2, .int y), (3, .int (nI d))] [] (M', S) (fun r h' => ∃ z M', r = some (.int z) ∧ p_ix z ∧ h' = (M', S) ∧ pz fz S p T M' (p_st1 T (p_body T f) k t) ∧ pz_fr p M M') := by
      intro M' t' w1 w2 w3
      rw [← w3]
      refine g1 (n := 2) rfl rfl rfl rfl ?_
      exact gx_ret rfl rfl ⟨_, M', rfl, hix, rfl, w1, w2⟩
    by_cases h1 : k = 1
    · refine m_lsw (J := .iadd) rfl (t := 108) (by rw [h1]; rfl) ?_
      refine g1 (n := 1) rfl rfl rfl rfl ?_
      refine g1 (n := 2) rfl rfl rfl rfl ?_
      refine m_iv (a := 169) (as := [.int 61]) (rest := []) rfl (by decide) q5.1.1.1 rfl rfl (Nat.le_of_ble_eq_true rfl) ⟨by show 1 ≤ 42 + 4 * f; omega, by show 2 + 19 ≤ 1077 + 99 * f; omega, Nat.le_of_ble_eq_true rfl⟩ ?_
      refine gx_room (gx_mono (p_expect M3 _ q5) ?_) (by show 1 ≤ 42 + 4 * f - 1; omega) (by show 40 ≤ 1077 + 99 * f - (2 + 19); omega)
      rintro r h' ⟨rfl, M4, rfl, q7, q8⟩
      refine g1 (n := 1) rfl rfl rfl rfl ?_
      refine m_iv (a := 169) (as := []) (rest := []) rfl (by decide) q7.1.1.1 rfl rfl (Nat.le_of_ble_eq_true rfl) ⟨by show 1 ≤ 42 + 4 * f; omega, by show 1 + 19 ≤ 1077 + 99 * f; omega, Nat.le_of_ble_eq_true rfl⟩ ?_
      refine gx_room (gx_mono (p_closed M4 _ q7) ?_) (by show 40 ≤ 42 + 4 * f - 1; omega) (by show 1020 ≤ 1077 + 99 * f - (1 + 19); omega)
      rintro r h' ⟨rfl, M5, rfl, q9, q10⟩
      refine g3 rfl rfl rfl ?_
      exact fin M5 _ q9 ((q6.trans q8).trans q10) (by unfold p_st1; rw [if_pos h1])
    by_cases h13 : k = 13
    · refine m_lsw (J := .iadd) rfl (t := 145) (by rw [h13]; rfl) ?_
      refine g1 (n := 1) rfl rfl rfl rfl ?_
      refine g1 (n := 2) rfl rfl rfl rfl ?_
      refine m_iv (a := 169) (as := [.int 59]) (rest := []) rfl (by decide) q5.1.1.1 rfl rfl (Nat.le_of_ble_eq_true rfl) ⟨by show 1 ≤ 42 + 4 * f; omega, by show 2 + 19 ≤ 1077 + 99 * f; omega, Nat.le_of_ble_eq_true rfl⟩ ?_
      refine gx_room (gx_mono (p_expect M3 _ q5) ?_) (by show 1 ≤ 42 + 4 * f - 1; omega) (by show 40 ≤ 1077 + 99 * f - (2 + 19); omega)
      rintro r h' ⟨rfl, M4, rfl, q7, q8⟩
      refine g3 rfl rfl rfl ?_
      exact fin M4 _ q7 (q6.trans q8) (by unfold p_st1; rw [if_neg h1, if_pos h13])
    by_cases h14 : k = 14
    · refine m_lsw (J := .iadd) rfl (t := 121) (by rw [h14]; rfl) ?_
      refine g1 (n := 1) rfl rfl rfl rfl ?_
      refine m_iv (a := 169) (as := []) (rest := []) rfl (by decide) q5.1.1.1 rfl rfl (Nat.le_of_ble_eq_true rfl) ⟨by show 1 ≤ 42 + 4 * f; omega, by show 1 + 19 ≤ 1077 + 99 * f; omega, Nat.le_of_ble_eq_true rfl⟩ ?_
      refine gx_room (gx_mono (p_closed M3 _ q5) ?_) (by show 40 ≤ 42 + 4 * f - 1; omega) (by show 1020 ≤ 1077 + 99 * f - (1 + 19); omega)
      rintro r h' ⟨rfl, M4, rfl, q7, q8⟩
      refine g3 rfl rfl rfl ?_
      exact fin M4 _ q7 (q6.trans q8) (by unfold p_st1; rw [if_neg h1, if_neg h13, if_pos h14])
    by_cases h19 : k = 19
    · refine m_lsw (J := .iadd) rfl (t := 128) (by rw [h19]; rfl) ?_
      refine g1 (n := 1) rfl rfl rfl rfl ?_
      refine g1 (n := 1) rfl rfl rfl rfl ?_
      refine m_pf rfl q5.1.1.1 rfl (M' := rf_wi M3 169 4 (bI true)) rfl ?_
      have q7 := q5.ir (b := true)
      have q8 : pz_fr p M (rf_wi M3 169 4 (bI true)) := q6.wi (by omega)
      generalize rf_wi M3 169 4 (bI true) = M4 at q7 q8 ⊢
      refine g1 (n := 1) rfl rfl rfl rfl ?_
      refine m_iv (a := 169) (as := []) (rest := []) rfl (by decide) q7.1.1.1 rfl rfl (Nat.le_of_ble_eq_true rfl) ⟨by show 1 ≤ 42 + 4 * f; omega, by show 1 + 19 ≤ 1077 + 99 * f; omega, Nat.le_of_ble_eq_true rfl⟩ ?_
      refine gx_room (gx_mono (p_closed M4 _ q7) ?_) (by show 40 ≤ 42 + 4 * f - 1; omega) (by show 1020 ≤ 1077 + 99 * f - (1 + 19); omega)
      rintro r h' ⟨rfl, M5, rfl, q9, q10⟩
      refine g1 (n := 1) rfl rfl rfl rfl ?_
      refine g1 (n := 1) rfl rfl rfl rfl ?_
      refine m_pf rfl q9.1.1.1 rfl (M' := rf_wi M5 169 4 (bI false)) rfl ?_
      refine g3 rfl rfl rfl ?_
      exact fin _ _ (q9.ir (b := false)) ((q8.trans q10).wi (by omega)) (by unfold p_st1; rw [if_neg h1, if_neg h13, if_neg h14, if_pos h19])
    refine m_lsw (J := .iadd) rfl (t := 154) ?_ ?_
    · show rf_sw [(1, 108), (13, 145), (14, 121), (19, 128)] 154 k.toInt = 154
      simp only [rf_sw]
      rw [if_neg (fun z => h1 (Int32.toInt_inj.mp (by rw [← z]; rfl))), if_neg (fun z => h13 (Int32.toInt_inj.mp (by rw [← z]; rfl))), if_neg (fun z => h14 (Int32.toInt_inj.mp (by rw [← z]; rfl))), if_neg (fun z => h19 (Int32.toInt_inj.mp (by rw [← z]; rfl)))]
    refine g1 (n := 1) rfl rfl rfl rfl ?_
    refine g1 (n := 2) rfl rfl rfl rfl ?_
    refine g1 (n := 2) rfl rfl rfl rfl ?_
    refine g1 (n := 1) rfl rfl rfl rfl ?_
    refine m_iv (a := 169) (as := [.int k, .int (nI s.2.2.1), .int (nI d)]) (rest := []) rfl (by decide) q5.1.1.1 rfl rfl (Nat.le_of_ble_eq_true rfl) ⟨by show 1 ≤ 42 + 4 * f; omega, by show 4 + 19 ≤ 1077 + 99 * f; omega, Nat.le_of_ble_eq_true rfl⟩ ?_
    refine gx_room (gx_mono (hcom k s.2.2.1 h40 M3 _ q5) ?_) (by show 41 + 4 * f ≤ 42 + 4 * f - 1; omega) (by show 1054 + 99 * f ≤ 1077 + 99 * f - (4 + 19); omega)
    rintro r h' ⟨rfl, M4, rfl, q7, q8⟩
    exact fin M4 _ q7 (q6.trans q8) (by unfold p_st1; rw [if_neg h1, if_neg h13, if_neg h14, if_neg h19])
  refine g1 (n := 1) rfl rfl rfl rfl ?_
  refine m_iv (a := 169) (as := []) (rest := []) rfl (by decide) hq.1.1.1 rfl rfl (Nat.le_of_ble_eq_true rfl) ⟨by show 1 ≤ 42 + 4 * f; omega, by show 1 + 19 ≤ 1077 + 99 * f; omega, Nat.le_of_ble_eq_true rfl⟩ ?_
  refine gx_room (gx_mono (p_token hq) ?_) (Nat.zero_le _) (Nat.zero_le _)
  rintro r h' ⟨rfl, rfl⟩
  refine g2 (n := 2) rfl rfl rfl rfl ?_
  refine g1 (n := 2) rfl rfl rfl rfl ?_
  refine m_st (as := [.int (kd T s.1)]) (rest := []) rfl (by decide) rfl (Nat.le_of_ble_eq_true rfl) ⟨by show 1 ≤ 42 + 4 * f; omega, by show 1 + 19 ≤ 1077 + 99 * f; omega, Nat.le_of_ble_eq_true rfl⟩ ?_
  refine gx_room (gx_mono (p_canBegin (x := kd T s.1)) ?_) (Nat.zero_le _) (Nat.zero_le _)
  rintro r h' ⟨rfl, rfl⟩
  refine g_if rfl (fun c => ?_) (fun c => ?_)
  · refine g1 (n := 1) rfl rfl rfl rfl ?_
    exact bad (fun z => by rw [bI_no c] at z; cases z.1)
  have hb := bI_yes c
  refine g1 (n := 1) rfl rfl rfl rfl ?_
  refine m_gf rfl hq.1.1.1 rfl (pz_prog hq) ?_
  refine g1 (n := 2) rfl rfl rfl rfl ?_
  refine g1 (n := 1) rfl rfl rfl rfl ?_
  refine g1 (n := 1) rfl rfl rfl rfl ?_
  refine g1 (n := 1) rfl rfl rfl rfl ?_
  refine m_iv (a := p) (as := [.int (kd T s.1), .int x, .int y, .int (nI d)]) (rest := []) rfl (by decide) hq.1.1.2.2.1 rfl rfl (Nat.le_of_ble_eq_true rfl) ⟨by show 1 ≤ 42 + 4 * f; omega, by show 6 + 19 ≤ 1077 + 99 * f; omega, Nat.le_of_ble_eq_true rfl⟩ ?_
  refine gx_room (gx_mono (p_open hq) ?_) (Nat.zero_le _) (Nat.zero_le _)
  rintro r h' (⟨h40, rfl, M1, rfl, q1, q2⟩ | ⟨h40, rfl, rfl⟩)
  · refine g3 rfl rfl rfl ?_
    refine g2 (n := 2) rfl rfl rfl rfl ?_
    refine g1 (n := 2) rfl rfl rfl rfl ?_
    refine g1 (n := 1) rfl rfl rfl rfl ?_
    refine g_ic rfl (fun _ => ?_) (fun c2 => absurd ((rf_cc_iff _ _ .ne).mpr (fun w => nI_m1 (by omega) (Int32.toInt_inj.mp w))) c2)
    exact good hb h40 M1 q1 q2
  · refine g3 rfl rfl rfl ?_
    exact bad (fun z => h40 z.2)
theorem p_statements {f d : Nat} {x y : Int32} (hst : pdj fz S p T (42 + 4 * f, 1077 + 99 * f) 38 [.int x, .int y, .int (nI d)] (p_st T (p_body T f))) : pdj fz S p T (43 + 4 * f, 1102 + 99 * f) 35 [.int x, .int y, .int (nI d)] (p_sts T (p_body T f)) := by
  intro M s h0
  have loop : ∀ (m i : Nat) (ls : rf_L) (a l w : Int32), 41 - i ≤ m → i ≤ 41 → p_ix a → p_ix l → (ls = [(6, .int (nI i)), (5, .int l), (4, .int a), (0, .ref 169), (1, .int x), (2, .int y), (3, .int (nI d))] ∨ ls = [(6, .int (nI i)), (5, .int l), (4, .int a), (7, .int w), (0, .ref 169), (1, .int x), (2, .int y), (3, .int (nI d))] ∨ ls = [(6, .int (nI i)), (5, .int l), (7, .int w), (4, .int a), (0, .ref 169), (1, .int x), (2, .int y), (3, .int (nI d))]) → ∀ (M' : rf_M) (s' : pS), pz fz S p T M' s' → pz_fr p M M' → gx (cx0 fz) (43 + 4 * f, 1102 + 99 * f) 35 9 ls [] (M', S) (fun r h' => ∃ z M'', r = some (.int z) ∧ p_ix z ∧ h' = (M'', S) ∧ pz fz S p T M'' (p_loop (p_go T) (p_st T (p_body T f)) (41 - i) s') ∧ pz_fr p M M'') := by
    intro m
    induction m with
    | zero =>
      intro i ls a l w g0 g1' ha hl hls M' s' hq hfr
      have hi : i = 41 := by omega
      subst hi
      rcases hls with rfl | rfl | rfl
      · refine g1 (n := 2) rfl rfl rfl rfl ?_
        refine g1 (n := 2) rfl rfl rfl rfl ?_
        refine g_ic rfl (fun _ => ?_) (fun c => absurd (by decide) c)
        refine g1 (n := 2) rfl rfl rfl rfl ?_
        exact gx_ret rfl rfl ⟨_, M', rfl, ha, rfl, hq, hfr⟩
      · refine g1 (n := 2) rfl rfl rfl rfl ?_
        refine g1 (n := 2) rfl rfl rfl rfl ?_
        refine g_ic rfl (fun _ => ?_) (fun c => absurd (by decide) c)
        refine g1 (n := 2) rfl rfl rfl rfl ?_
        exact gx_ret rfl rfl ⟨_, M', rfl, ha, rfl, hq, hfr⟩
      · refine g1 (n := 2) rfl rfl rfl rfl ?_
        refine g1 (n := 2) rfl rfl rfl rfl ?_
        refine g_ic rfl (fun _ => ?_) (fun c => absurd (by decide) c)
        refine g1 (n := 2) rfl rfl rfl rfl ?_
        exact gx_ret rfl rfl ⟨_, M', rfl, ha, rfl, hq, hfr⟩
    | succ m ih =>
      intro i ls a l w g0 g1' ha hl hls M' s' hq hfr
      by_cases hi : i = 41
      · subst hi
        rcases hls with rfl | rfl | rfl
        · refine g1 (n := 2) rfl rfl rfl rfl ?_
          refine g1 (n := 2) rfl rfl rfl rfl ?_
          refine g_ic rfl (fun _ => ?_) (fun c => absurd (by decide) c)
          refine g1 (n := 2) rfl rfl rfl rfl ?_
          exact gx_ret rfl rfl ⟨_, M', rfl, ha, rfl, hq, hfr⟩
        · refine g1 (n := 2) rfl rfl rfl rfl ?_
          refine g1 (n := 2) rfl rfl rfl rfl ?_
          refine g_ic rfl (fun _ => ?_) (fun c => absurd (by decide) c)
          refine g1 (n := 2) rfl rfl rfl rfl ?_
          exact gx_ret rfl rfl ⟨_, M', rfl, ha, rfl, hq, hfr⟩
        · refine g1 (n := 2) rfl rfl rfl rfl ?_
          refine g1 (n := 2) rfl rfl rfl rfl ?_
          refine g_ic rfl (fun _ => ?_) (fun c => absurd (by decide) c)
          refine g1 (n := 2) rfl rfl rfl rfl ?_
          exact gx_ret rfl rfl ⟨_, M', rfl, ha, rfl, hq, hfr⟩
      obtain ⟨n, hn⟩ : ∃ n, 41 - i = n + 1 := ⟨41 - i - 1, by omega⟩
      have hn2 : 41 - (i + 1) = n := by omega
      have stop : p_go T s' = false → p_loop (p_go T) (p_st T (p_body T f)) (41 - i) s' = s' := by
        intro hc
        rw [hn]
        show (if p_go T s' = true then _ else _) = _
        rw [hc]; rfl
      have go1 : p_go T s' = true → p_loop (p_go T) (p_st T (p_body T f)) (41 - i) s' = p_loop (p_go T) (p_st T (p_body T f)) n (p_st T (p_body T f) s') := by
        intro hc
        rw [hn]
        show (if p_go T s' = true then _ else _) = _
        rw [hc]; rfl
      have bod : ∀ z Mz, p_ix z → pz fz S p T Mz (p_st T (p_body T f) s') → pz_fr p M Mz → p_go T s' = true → gx (cx0 fz) (43 + 4 * f, 1102 + 99 * f) 35 52 [(7, .int z), (6, .int (nI i)), (5, .int l), (4, .int a), (0, .ref 169), (1, .int x), (2, .int y), (3, .int (nI d))] [] (Mz, S) (fun r h' => ∃ z M'', r = some (.int z) ∧ p_ix z ∧ h' = (M'', S) ∧ pz fz S p T M'' (p_loop (p_go T) (p_st T (p_body T f)) (41 - i) s') ∧ pz_fr p M M'') := by
        intro z Mz hz b1 b2 hc
        have hpb : 25 ≤ p ∧ p + 11 ≤ 168 := ⟨b1.1.1.2.2.2.1, b1.1.1.2.2.2.2.1⟩
        rw [go1 hc, ← hn2]
        refine g1 (n := 2) rfl rfl rfl rfl ?_
        refine g1 (n := 1) rfl rfl rfl rfl ?_
        refine g_ic rfl (fun c => ?_) (fun c => ?_)
        · have c : ¬ l = Int32.ofInt (-1) := fun z => (rf_cc_iff _ _ .ne).mp c (by rw [z])
          obtain ⟨c0, hc0, hlc⟩ : ∃ c, c < 40 ∧ l = nI c := hl.resolve_left c
          refine g1 (n := 1) rfl rfl rfl rfl ?_
          refine m_gf rfl b1.1.1.1 rfl (pz_prog b1) ?_
          refine m_gf rfl b1.1.1.2.2.1 rfl (v := .ref (p + 7)) (by show va_rf (Mz.2.2 p 11) = _; rw [b1.1.2.1.2.2.2.2.2 11 (by omega) (by omega)]; rfl) ?_
          refine g1 (n := 2) rfl rfl rfl rfl ?_
          refine g1 (n := 2) rfl rfl rfl rfl ?_
          refine m_is rfl (b1.1.1.2.2.2.2.2.1 7 (by omega) (by omega)) (k := c0) (by rw [hlc]; exact nI_int (by omega)) hc0 ?_
          refine g1 (n := 2) rfl rfl rfl rfl ?_
          refine g2 (n := 2) rfl rfl rfl rfl ?_
          refine g2 (n := 3) rfl rfl rfl rfl ?_
          refine g3 rfl rfl rfl ?_
          rw [nI_suc (by omega)]
          exact ih (i + 1) _ a z z (by omega) (by omega) ha hz (Or.inr (Or.inr rfl)) _ _ (b1.cc (by omega)) (b2.wi (by omega))
        · refine g1 (n := 2) rfl rfl rfl rfl ?_
          refine g2 (n := 2) rfl rfl rfl rfl ?_
          refine g3 rfl rfl rfl ?_
          refine g1 (n := 2) rfl rfl rfl rfl ?_
          refine g2 (n := 2) rfl rfl rfl rfl ?_
          refine g2 (n := 3) rfl rfl rfl rfl ?_
          refine g3 rfl rfl rfl ?_
          rw [nI_suc (by omega)]
          exact ih (i + 1) _ z z z (by omega) (by omega) hz hz (Or.inr (Or.inl rfl)) _ _ b1 b2
      rcases hls with rfl | rfl | rfl
      · have ret : p_go T s' = false → gx (cx0 fz) (43 + 4 * f, 1102 + 99 * f) 35 40 [(6, .int (nI i)), (5, .int l), (4, .int a), (0, .ref 169), (1, .int x), (2, .int y), (3, .int (nI d))] [] (M', S) (fun r h' => ∃ z M'', r = some (.int z) ∧ p_ix z ∧ h' = (M'', S) ∧ pz fz S p T M'' (p_loop (p_go T) (p_st T (p_body T f)) (41 - i) s') ∧ pz_fr p M M'') := by
          intro hc
          refine g1 (n := 2) rfl rfl rfl rfl ?_
          refine gx_ret rfl rfl ⟨_, M', rfl, ha, rfl, ?_, hfr⟩
          rw [stop hc]
          exact hq
        refine g1 (n := 2) rfl rfl rfl rfl ?_
        refine g1 (n := 2) rfl rfl rfl rfl ?_
        refine g_ic rfl (fun c => ?_) (fun _ => ?_)
        · have c : (40 : Int) < (nI i).toInt := (rf_cc_iff _ 40 .gt).mp c
          rw [nI_int (by omega)] at c
          exact absurd c (by omega)
        refine g1 (n := 1) rfl rfl rfl rfl ?_
        refine m_iv (a := 169) (as := []) (rest := []) rfl (by decide) hq.1.1.1 rfl rfl (Nat.le_of_ble_eq_true rfl) ⟨by show 1 ≤ 43 + 4 * f; omega, by show 1 + 19 ≤ 1102 + 99 * f; omega, Nat.le_of_ble_eq_true rfl⟩ ?_
        refine gx_room (gx_mono (p_faulty hq) ?_) (Nat.zero_le _) (Nat.zero_le _)
        rintro r h' ⟨rfl, rfl⟩
        refine g_if rfl (fun c => ret (by unfold p_go; rw [show s'.2.2.2.2.2 = false by simpa using bI_yes2 c]; rfl)) (fun c => ?_)
        have hok : s'.2.2.2.2.2 = true := by simpa using bI_no2 c
        refine g1 (n := 1) rfl rfl rfl rfl ?_
        refine g1 (n := 1) rfl rfl rfl rfl ?_
        refine m_iv (a := 169) (as := [.int 0]) (rest := []) rfl (by decide) hq.1.1.1 rfl rfl (Nat.le_of_ble_eq_true rfl) ⟨by show 1 ≤ 43 + 4 * f; omega, by show 2 + 19 ≤ 1102 + 99 * f; omega, Nat.le_of_ble_eq_true rfl⟩ ?_
        refine gx_room (gx_mono (p_isAt hq) ?_) (Nat.zero_le _) (Nat.zero_le _)
        rintro r h' ⟨rfl, rfl⟩
        refine g_if rfl (fun c2 => ret (by unfold p_go; rw [bI_yes2 c2]; simp)) (fun c2 => ?_)
        have n0 := bI_no2 c2
        refine g1 (n := 1) rfl rfl rfl rfl ?_
        refine g1 (n := 2) rfl rfl rfl rfl ?_
        refine m_iv (a := 169) (as := [.int 125]) (rest := []) rfl (by decide) hq.1.1.1 rfl rfl (Nat.le_of_ble_eq_true rfl) ⟨by show 1 ≤ 43 + 4 * f; omega, by show 2 + 19 ≤ 1102 + 99 * f; omega, Nat.le_of_ble_eq_true rfl⟩ ?_
        refine gx_room (gx_mono (p_isAt hq) ?_) (Nat.zero_le _) (Nat.zero_le _)
        rintro r h' ⟨rfl, rfl⟩
        refine g_if rfl (fun c3 => ?_) (fun c3 => ret (by unfold p_go; rw [bI_yes c3]; simp))
        have n125 := bI_no c3
        have hc : p_go T s' = true := by unfold p_go; rw [hok, n0, n125]; rfl
        refine g1 (n := 1) rfl rfl rfl rfl ?_
        refine g1 (n := 1) rfl rfl rfl rfl ?_
        refine g1 (n := 1) rfl rfl rfl rfl ?_
        refine g1 (n := 1) rfl rfl rfl rfl ?_
        refine m_iv (a := 169) (as := [.int x, .int y, .int (nI d)]) (rest := []) rfl (by decide) hq.1.1.1 rfl rfl (Nat.le_of_ble_eq_true rfl) ⟨by show 1 ≤ 43 + 4 * f; omega, by show 6 + 19 ≤ 1102 + 99 * f; omega, Nat.le_of_ble_eq_true rfl⟩ ?_
        refine gx_room (gx_mono (hst M' _ hq) ?_) (by show 42 + 4 * f ≤ 43 + 4 * f - 1; omega) (by show 1077 + 99 * f ≤ 1102 + 99 * f - (6 + 19); omega)
        rintro r h' ⟨z, Mz, rfl, hz, rfl, b1, b2⟩
        refine g2 (n := 2) rfl rfl rfl rfl ?_
        exact bod z Mz hz b1 (hfr.trans b2) hc
      · have ret : p_go T s' = false → gx (cx0 fz) (43 + 4 * f, 1102 + 99 * f) 35 40 [(6, .int (nI i)), (5, .int l), (4, .int a), (7, .int w), (0, .ref 169), (1, .int x), (2, .int y), (3, .int (nI d))] [] (M', S) (fun r h' => ∃ z M'', r = some (.int z) ∧ p_ix z ∧ h' = (M'', S) ∧ pz fz S p T M'' (p_loop (p_go T) (p_st T (p_body T f)) (41 - i) s') ∧ pz_fr p M M'') := by
          intro hc
          refine g1 (n := 2) rfl rfl rfl rfl ?_
          refine gx_ret rfl rfl ⟨_, M', rfl, ha, rfl, ?_, hfr⟩
          rw [stop hc]
          exact hq
        refine g1 (n := 2) rfl rfl rfl rfl ?_
        refine g1 (n := 2) rfl rfl rfl rfl ?_
        refine g_ic rfl (fun c => ?_) (fun _ => ?_)
        · have c : (40 : Int) < (nI i).toInt := (rf_cc_iff _ 40 .gt).mp c
          rw [nI_int (by omega)] at c
          exact absurd c (by omega)
        refine g1 (n := 1) rfl rfl rfl rfl ?_
        refine m_iv (a := 169) (as := []) (rest := []) rfl (by decide) hq.1.1.1 rfl rfl (Nat.le_of_ble_eq_true rfl) ⟨by show 1 ≤ 43 + 4 * f; omega, by show 1 + 19 ≤ 1102 + 99 * f; omega, Nat.le_of_ble_eq_true rfl⟩ ?_
        refine gx_room (gx_mono (p_faulty hq) ?_) (Nat.zero_le _) (Nat.zero_le _)
        rintro r h' ⟨rfl, rfl⟩
        refine g_if rfl (fun c => ret (by unfold p_go; rw [show s'.2.2.2.2.2 = false by simpa using bI_yes2 c]; rfl)) (fun c => ?_)
        have hok : s'.2.2.2.2.2 = true := by simpa using bI_no2 c
        refine g1 (n := 1) rfl rfl rfl rfl ?_
        refine g1 (n := 1) rfl rfl rfl rfl ?_
        refine m_iv (a := 169) (as := [.int 0]) (rest := []) rfl (by decide) hq.1.1.1 rfl rfl (Nat.le_of_ble_eq_true rfl) ⟨by show 1 ≤ 43 + 4 * f; omega, by show 2 + 19 ≤ 1102 + 99 * f; omega, Nat.le_of_ble_eq_true rfl⟩ ?_
        refine gx_room (gx_mono (p_isAt hq) ?_) (Nat.zero_le _) (Nat.zero_le _)
        rintro r h' ⟨rfl, rfl⟩
        refine g_if rfl (fun c2 => ret (by unfold p_go; rw [bI_yes2 c2]; simp)) (fun c2 => ?_)
        have n0 := bI_no2 c2
        refine g1 (n := 1) rfl rfl rfl rfl ?_
        refine g1 (n := 2) rfl rfl rfl rfl ?_
        refine m_iv (a := 169) (as := [.int 125]) (rest := []) rfl (by decide) hq.1.1.1 rfl rfl (Nat.le_of_ble_eq_true rfl) ⟨by show 1 ≤ 43 + 4 * f; omega, by show 2 + 19 ≤ 1102 + 99 * f; omega, Nat.le_of_ble_eq_true rfl⟩ ?_
        refine gx_room (gx_mono (p_isAt hq) ?_) (Nat.zero_le _) (Nat.zero_le _)
        rintro r h' ⟨rfl, rfl⟩
        refine g_if rfl (fun c3 => ?_) (fun c3 => ret (by unfold p_go; rw [bI_yes c3]; simp))
        have n125 := bI_no c3
        have hc : p_go T s' = true := by unfold p_go; rw [hok, n0, n125]; rfl
        refine g1 (n := 1) rfl rfl rfl rfl ?_
        refine g1 (n := 1) rfl rfl rfl rfl ?_
        refine g1 (n := 1) rfl rfl rfl rfl ?_
        refine g1 (n := 1) rfl rfl rfl rfl ?_
        refine m_iv (a := 169) (as := [.int x, .int y, .int (nI d)]) (rest := []) rfl (by decide) hq.1.1.1 rfl rfl (Nat.le_of_ble_eq_true rfl) ⟨by show 1 ≤ 43 + 4 * f; omega, by show 6 + 19 ≤ 1102 + 99 * f; omega, Nat.le_of_ble_eq_true rfl⟩ ?_
        refine gx_room (gx_mono (hst M' _ hq) ?_) (by show 42 + 4 * f ≤ 43 + 4 * f - 1; omega) (by show 1077 + 99 * f ≤ 1102 + 99 * f - (6 + 19); omega)
        rintro r h' ⟨z, Mz, rfl, hz, rfl, b1, b2⟩
        refine g2 (n := 2) rfl rfl rfl rfl ?_
        exact bod z Mz hz b1 (hfr.trans b2) hc
      · have ret : p_go T s' = false → gx (cx0 fz) (43 + 4 * f, 1102 + 99 * f) 35 40 [(6, .int (nI i)), (5, .int l), (7, .int w), (4, .int a), (0, .ref 169), (1, .int x), (2, .int y), (3, .int (nI d))] [] (M', S) (fun r h' => ∃ z M'', r = some (.int z) ∧ p_ix z ∧ h' = (M'', S) ∧ pz fz S p T M'' (p_loop (p_go T) (p_st T (p_body T f)) (41 - i) s') ∧ pz_fr p M M'') := by
          intro hc
          refine g1 (n := 2) rfl rfl rfl rfl ?_
          refine gx_ret rfl rfl ⟨_, M', rfl, ha, rfl, ?_, hfr⟩
          rw [stop hc]
          exact hq
        refine g1 (n := 2) rfl rfl rfl rfl ?_
        refine g1 (n := 2) rfl rfl rfl rfl ?_
        refine g_ic rfl (fun c => ?_) (fun _ => ?_)
        · have c : (40 : Int) < (nI i).toInt := (rf_cc_iff _ 40 .gt).mp c
          rw [nI_int (by omega)] at c
          exact absurd c (by omega)
        refine g1 (n := 1) rfl rfl rfl rfl ?_
        refine m_iv (a := 169) (as := []) (rest := []) rfl (by decide) hq.1.1.1 rfl rfl (Nat.le_of_ble_eq_true rfl) ⟨by show 1 ≤ 43 + 4 * f; omega, by show 1 + 19 ≤ 1102 + 99 * f; omega, Nat.le_of_ble_eq_true rfl⟩ ?_
        refine gx_room (gx_mono (p_faulty hq) ?_) (Nat.zero_le _) (Nat.zero_le _)
        rintro r h' ⟨rfl, rfl⟩
        refine g_if rfl (fun c => ret (by unfold p_go; rw [show s'.2.2.2.2.2 = false by simpa using bI_yes2 c]; rfl)) (fun c => ?_)
        have hok : s'.2.2.2.2.2 = true := by simpa using bI_no2 c
        refine g1 (n := 1) rfl rfl rfl rfl ?_
        refine g1 (n := 1) rfl rfl rfl rfl ?_
        refine m_iv (a := 169) (as := [.int 0]) (rest := []) rfl (by decide) hq.1.1.1 rfl rfl (Nat.le_of_ble_eq_true rfl) ⟨by show 1 ≤ 43 + 4 * f; omega, by show 2 + 19 ≤ 1102 + 99 * f; omega, Nat.le_of_ble_eq_true rfl⟩ ?_
        refine gx_room (gx_mono (p_isAt hq) ?_) (Nat.zero_le _) (Nat.zero_le _)
        rintro r h' ⟨rfl, rfl⟩
        refine g_if rfl (fun c2 => ret (by unfold p_go; rw [bI_yes2 c2]; simp)) (fun c2 => ?_)
        have n0 := bI_no2 c2
        refine g1 (n := 1) rfl rfl rfl rfl ?_
        refine g1 (n := 2) rfl rfl rfl rfl ?_
        refine m_iv (a := 169) (as := [.int 125]) (rest := []) rfl (by decide) hq.1.1.1 rfl rfl (Nat.le_of_ble_eq_true rfl) ⟨by show 1 ≤ 43 + 4 * f; omega, by show 2 + 19 ≤ 1102 + 99 * f; omega, Nat.le_of_ble_eq_true rfl⟩ ?_
        refine gx_room (gx_mono (p_isAt hq) ?_) (Nat.zero_le _) (Nat.zero_le _)
        rintro r h' ⟨rfl, rfl⟩
        refine g_if rfl (fun c3 => ?_) (fun c3 => ret (by unfold p_go; rw [bI_yes c3]; simp))
        have n125 := bI_no c3
        have hc : p_go T s' = true := by unfold p_go; rw [hok, n0, n125]; rfl
        refine g1 (n := 1) rfl rfl rfl rfl ?_
        refine g1 (n := 1) rfl rfl rfl rfl ?_
        refine g1 (n := 1) rfl rfl rfl rfl ?_
        refine g1 (n := 1) rfl rfl rfl rfl ?_
        refine m_iv (a := 169) (as := [.int x, .int y, .int (nI d)]) (rest := []) rfl (by decide) hq.1.1.1 rfl rfl (Nat.le_of_ble_eq_true rfl) ⟨by show 1 ≤ 43 + 4 * f; omega, by show 6 + 19 ≤ 1102 + 99 * f; omega, Nat.le_of_ble_eq_true rfl⟩ ?_
        refine gx_room (gx_mono (hst M' _ hq) ?_) (by show 42 + 4 * f ≤ 43 + 4 * f - 1; omega) (by show 1077 + 99 * f ≤ 1102 + 99 * f - (6 + 19); omega)
        rintro r h' ⟨z, Mz, rfl, hz, rfl, b1, b2⟩
        refine g2 (n := 2) rfl rfl rfl rfl ?_
        exact bod z Mz hz b1 (hfr.trans b2) hc
  refine g1 (n := 1) rfl rfl rfl rfl ?_
  refine g2 (n := 2) rfl rfl rfl rfl ?_
  refine g1 (n := 1) rfl rfl rfl rfl ?_
  refine g2 (n := 2) rfl rfl rfl rfl ?_
  refine g1 (n := 1) rfl rfl rfl rfl ?_
  refine g2 (n := 2) rfl rfl rfl rfl ?_
  exact loop 41 0 _ (Int32.ofInt (-1)) (Int32.ofInt (-1)) 0 (by omega) (by omega) (Or.inl rfl) (Or.inl rfl) (Or.inl rfl) M s h0 (pz_fr.rfl' p M)
theorem p_bodyA : ∀ (f d : Nat), d + f = 8 → ∀ x y, pdi fz S p T (40 + 4 * f, 1030 + 99 * f) 54 [.int x, .int y, .int (nI d)] (p_body T f)
  | 0, d, h => by
    have e : d = 8 := by omega
    subst e
    intro x y
    exact p_body0
  | f + 1, d, h => by
    intro x y
    have hb := p_bodyA f (d + 1) (by omega)
    exact p_bodyS h (p_statements (p_statement (fun k c hc => p_compound hc hb)))
/-- a row of statements that lies in nothing -/
theorem p_top {x y : Int32} : pdj fz S p T (75, 1894) 35 [.int x, .int y, .int (nI 0)] (p_sts T (p_body T 8)) := p_statements (f := 8) (p_statement (fun k c hc => p_compound hc (p_bodyA 8 0 rfl)))
end PI
/-! THE PARSER: a text; what a call of text() does -/
/-- the tokens of n bytes -/
def p_T (b : Nat → Int32) (n : Nat) : tK := sp_scan b n 800 0
/-- the state with which a text is over -/
def p_all (T : tK) : pS := p_ex T 0 (p_sts T (p_body T 8) (0, false, 0, 0, 0, true))
/-- what the parser wants to find: shapes, references, words -/
def pq (fz : Bool) (S : gS) (p : Nat) (M : rf_M) : Prop := (go (cx0 fz) S 169 2 ∧ sc_S fz S ∧ go (cx0 fz) S p 1 ∧ 25 ≤ p ∧ p + 11 ≤ 168 ∧ (∀ k, 1 ≤ k → k ≤ 9 → ga (cx0 fz) S (p + k) .int 40) ∧ (∀ k, 10 ≤ k → k ≤ 11 → ga (cx0 fz) S (p + k) .int 160)) ∧ (M.2.2 169 0 = some 170 ∧ ∀ k, 5 ≤ k → k ≤ 15 → M.2.2 p k = some (p + (k - 4))) ∧ sc_M fz S (rf_wq M 170 4 (some 23))
/-- nothing else is changed: the program p, the parser, the scanner with its rows -/
def pq_fr (p : Nat) (M M' : rf_M) : Prop := (∀ a k, ¬ (p ≤ a ∧ a ≤ p + 11) → ¬ (169 ≤ a ∧ a ≤ 173) → M'.1 a k = M.1 a k) ∧ M'.2.1 = M.2.1 ∧ ∀ a k, ¬ (a = 169 ∧ k = 1) → ¬ (a = 170 ∧ k = 4) → M'.2.2 a k = M.2.2 a k
theorem kd_of {T : tK} {i : Nat} {e : Int32 × Nat × Int32} (h : T[i]? = some e) : kd T i = e.1 ∧ nb T i = e.2.2 := by
  unfold kd nb
  rw [h]
  exact ⟨rfl, rfl⟩
theorem kd_end (T : tK) : kd T T.length = 0 ∧ nb T T.length = 0 := by
  unfold kd nb
  rw [List.getElem?_eq_none (Nat.le_refl _)]
  exact ⟨rfl, rfl⟩
section PJ
variable {fz : Bool} {S : gS} {p : Nat} {M M' : rf_M}
theorem pz.en {T : tK} {s : pS} {x : Int32} (h : pz fz S p T M s) : pz fz S p T (rf_wi M p 4 x) s := by
  obtain ⟨h0, h1, h2, h3, h4, h5, ⟨cc, h6, h7⟩, h8⟩ := h
  have hp : p + 11 ≤ 168 := h0.1.2.2.2.2.1
  have hf : pz_fr p M (rf_wi M p 4 x) := (pz_fr.rfl' p M).wi (by omega)
  refine ⟨h0.fr hf, ⟨?_, h1.2⟩, ?_, ⟨?_, h3.2⟩, ⟨?_, h4.2⟩, ⟨?_, h5.2⟩, ⟨cc, h6, ?_⟩, ?_⟩
  · rw [rf_wi_of _ _ (by omega)]; exact h1.1
  · rw [rf_wi_of _ _ (by omega)]; exact h2
  · rw [rf_wi_of _ _ (by omega)]; exact h3.1
  · rw [rf_wi_of _ _ (by omega)]; exact h4.1
  · rw [rf_wi_of _ _ (by omega)]; exact h5.1
  · rw [rf_wi_of _ _ (by omega)]; exact h7
  · rw [rf_wi_of _ _ (by omega)]; exact h8
theorem p_reset (hg : go (cx0 fz) S p 1) : gx (cx0 fz) (0, 0) 18 0 [(0, .ref p)] [] (M, S) (fun r h' => r = none ∧ h' = (rf_wi (rf_wi (rf_wi (rf_wi (rf_wi M p 0 (nI 0)) p 1 (nI 0)) p 2 (nI 0)) p 3 (nI 0)) p 4 (Int32.ofInt (-1)), S)) := by
  refine g1 (n := 1) rfl rfl rfl rfl ?_
  refine g1 (n := 1) rfl rfl rfl rfl ?_
  refine m_pf rfl hg rfl (M' := (rf_wi M p 0 (nI 0))) rfl ?_
  refine g1 (n := 1) rfl rfl rfl rfl ?_
  refine g1 (n := 1) rfl rfl rfl rfl ?_
  refine m_pf rfl hg rfl (M' := (rf_wi (rf_wi M p 0 (nI 0)) p 1 (nI 0))) rfl ?_
  refine g1 (n := 1) rfl rfl rfl rfl ?_
  refine g1 (n := 1) rfl rfl rfl rfl ?_
  refine m_pf rfl hg rfl (M' := (rf_wi (rf_wi (rf_wi M p 0 (nI 0)) p 1 (nI 0)) p 2 (nI 0))) rfl ?_
  refine g1 (n := 1) rfl rfl rfl rfl ?_
  refine g1 (n := 1) rfl rfl rfl rfl ?_
  refine m_pf rfl hg rfl (M' := (rf_wi (rf_wi (rf_wi (rf_wi M p 0 (nI 0)) p 1 (nI 0)) p 2 (nI 0)) p 3 (nI 0))) rfl ?_
  refine g1 (n := 1) rfl rfl rfl rfl ?_
  refine g1 (n := 1) rfl rfl rfl rfl ?_
  refine m_pf rfl hg rfl (M' := (rf_wi (rf_wi (rf_wi (rf_wi (rf_wi M p 0 (nI 0)) p 1 (nI 0)) p 2 (nI 0)) p 3 (nI 0)) p 4 (Int32.ofInt (-1)))) rfl ?_
  exact gx_ret rfl rfl ⟨rfl, rfl⟩
theorem p_parse {n : Nat} (h : pq fz S p M) (hn : n ≤ 800) : gx (cx0 fz) (80, 1980) 17 0 [(0, .ref 169), (1, .ref 23), (2, .int (nI n)), (3, .ref p)] [] (M, S) (fun r h' => ∃ z M', r = some (.int z) ∧ h' = (M', S) ∧ decide (z = -1) = (p_all (p_T (M.1 23) n)).2.2.2.2.2 ∧ M'.1 p 0 = nI (p_all (p_T (M.1 23) n)).2.2.1 ∧ M'.1 p 1 = nI (p_all (p_T (M.1 23) n)).2.2.2.1 ∧ M'.1 p 2 = nI (p_all (p_T (M.1 23) n)).2.2.2.2.1 ∧ pq_fr p M M') := by
  obtain ⟨hh, ⟨r0, r5⟩, hM⟩ := h
  have hpb : 25 ≤ p ∧ p + 11 ≤ 168 := ⟨hh.2.2.2.1, hh.2.2.2.2.1⟩
  refine g1 (n := 1) rfl rfl rfl rfl ?_
  refine g1 (n := 1) rfl rfl rfl rfl ?_
  refine m_pf rfl hh.1 rfl (M' := rf_wq M 169 1 (some p)) rfl ?_
  refine g1 (n := 1) rfl rfl rfl rfl ?_
  refine m_gf rfl hh.1 rfl (v := .ref p) (by show va_rf ((rf_wq M 169 1 (some p)).2.2 169 1) = _; rw [rf_wq_at]; rfl) ?_
  refine m_iv (a := p) (as := []) (rest := []) rfl (by decide) hh.2.2.1 rfl rfl (Nat.le_of_ble_eq_true rfl) ⟨by show 1 ≤ 80; omega, by show 1 + 19 ≤ 1980; omega, Nat.le_of_ble_eq_true rfl⟩ ?_
  refine gx_room (gx_mono (p_reset (M := rf_wq M 169 1 (some p)) hh.2.2.1) ?_) (Nat.zero_le _) (Nat.zero_le _)
  rintro r h' ⟨rfl, rfl⟩
  generalize hMa : rf_wi (rf_wi (rf_wi (rf_wi (rf_wi (rf_wq M 169 1 (some p)) p 0 (nI 0)) p 1 (nI 0)) p 2 (nI 0)) p 3 (nI 0)) p 4 (Int32.ofInt (-1)) = Ma
  have a0 : Ma.1 p 0 = nI 0 := by rw [← hMa, rf_wi_of _ _ (by omega), rf_wi_of _ _ (by omega), rf_wi_of _ _ (by omega), rf_wi_of _ _ (by omega), rf_wi_at]
  have a1 : Ma.1 p 1 = nI 0 := by rw [← hMa, rf_wi_of _ _ (by omega), rf_wi_of _ _ (by omega), rf_wi_of _ _ (by omega), rf_wi_at]
  have a2 : Ma.1 p 2 = nI 0 := by rw [← hMa, rf_wi_of _ _ (by omega), rf_wi_of _ _ (by omega), rf_wi_at]
  have a3 : Ma.1 p 3 = nI 0 := by rw [← hMa, rf_wi_of _ _ (by omega), rf_wi_at]
  have aI : ∀ a k, a ≠ p → Ma.1 a k = M.1 a k := fun a k hak => by
    rw [← hMa, rf_wi_of _ _ (by omega), rf_wi_of _ _ (by omega), rf_wi_of _ _ (by omega), rf_wi_of _ _ (by omega), rf_wi_of _ _ (by omega)]
    rfl
  have aR : Ma.2 = (rf_wq M 169 1 (some p)).2 := by rw [← hMa]; rfl
  clear hMa
  refine g1 (n := 1) rfl rfl rfl rfl ?_
  refine g1 (n := 1) rfl rfl rfl rfl ?_
  refine m_pf rfl hh.1 rfl (M' := rf_wi Ma 169 2 (nI 0)) rfl ?_
  refine g1 (n := 1) rfl rfl rfl rfl ?_
  refine g1 (n := 1) rfl rfl rfl rfl ?_
  refine m_pf rfl hh.1 rfl (M' := rf_wi (rf_wi Ma 169 2 (nI 0)) 169 3 (Int32.ofInt (-1))) rfl ?_
  refine g1 (n := 1) rfl rfl rfl rfl ?_
  refine g1 (n := 1) rfl rfl rfl rfl ?_
  refine m_pf rfl hh.1 rfl (M' := rf_wi (rf_wi (rf_wi Ma 169 2 (nI 0)) 169 3 (Int32.ofInt (-1))) 169 4 (bI false)) rfl ?_
  generalize hMb : rf_wi (rf_wi (rf_wi Ma 169 2 (nI 0)) 169 3 (Int32.ofInt (-1))) 169 4 (bI false) = Mb
  have b2 : Mb.1 169 2 = nI 0 := by rw [← hMb, rf_wi_of _ _ (by omega), rf_wi_of _ _ (by omega), rf_wi_at]
  have b3 : Mb.1 169 3 = Int32.ofInt (-1) := by rw [← hMb, rf_wi_of _ _ (by omega), rf_wi_at]
  have b4 : Mb.1 169 4 = bI false := by rw [← hMb, rf_wi_at]
  have bI2 : ∀ a k, a ≠ 169 → Mb.1 a k = Ma.1 a k := fun a k hak => by rw [← hMb, rf_wi_of _ _ (by omega), rf_wi_of _ _ (by omega), rf_wi_of _ _ (by omega)]
  have bR : Mb.2 = (rf_wq M 169 1 (some p)).2 := by rw [← hMb]; exact aR
  clear hMb
  have bR2 : ∀ a k, ¬ (a = 169 ∧ k = 1) → Mb.2.2 a k = M.2.2 a k := fun a k hak => by rw [bR]; exact rf_wq_of M (some p) (by omega)
  refine g1 (n := 1) rfl rfl rfl rfl ?_
  refine m_gf rfl hh.1 rfl (v := .ref 170) (by show va_rf (Mb.2.2 169 0) = _; rw [bR2 169 0 (by omega), r0]; rfl) ?_
  refine g1 (n := 1) rfl rfl rfl rfl ?_
  refine g1 (n := 1) rfl rfl rfl rfl ?_
  refine m_iv (a := 170) (as := [.ref 23, .int (nI n)]) (rest := []) rfl (by decide) hh.2.1.1 rfl rfl (Nat.le_of_ble_eq_true rfl) ⟨by show 1 ≤ 80; omega, by show 4 + 19 ≤ 1980; omega, Nat.le_of_ble_eq_true rfl⟩ ?_
  have hMb2 : sc_M fz S (rf_wq Mb 170 4 (some 23)) := by
    have e1 : ∀ c k, c < 22 → (rf_wq Mb 170 4 (some 23)).1 c k = (rf_wq M 170 4 (some 23)).1 c k := fun c k hc => (bI2 c k (by omega)).trans (aI c k (by omega))
    have e2 : ∀ c k, ¬ (c = 169 ∧ k = 1) → (rf_wq Mb 170 4 (some 23)).2.2 c k = (rf_wq M 170 4 (some 23)).2.2 c k := fun c k hck => by
      by_cases h4 : c = 170 ∧ k = 4
      · obtain ⟨rfl, rfl⟩ := h4
        rw [rf_wq_at, rf_wq_at]
      · rw [rf_wq_of _ _ (by omega), rf_wq_of _ _ (by omega)]
        exact bR2 c k hck
    obtain ⟨⟨m1, m2, m3, m4⟩, w1, w2, w3, w4, w5, w6, w7, w8, w9, w10⟩ := hM
    exact ⟨⟨(e2 _ _ (by omega)).trans m1, (e2 _ _ (by omega)).trans m2, (e2 _ _ (by omega)).trans m3, (e2 _ _ (by omega)).trans m4⟩, sc_w_of e1 (e2 _ _ (by omega)) ⟨by omega, by omega⟩ w1, sc_w_of e1 (e2 _ _ (by omega)) ⟨by omega, by omega⟩ w2, sc_w_of e1 (e2 _ _ (by omega)) ⟨by omega, by omega⟩ w3, sc_w_of e1 (e2 _ _ (by omega)) ⟨by omega, by omega⟩ w4, sc_w_of e1 (e2 _ _ (by omega)) ⟨by omega, by omega⟩ w5, sc_w_of e1 (e2 _ _ (by omega)) ⟨by omega, by omega⟩ w6, sc_w_of e1 (e2 _ _ (by omega)) ⟨by omega, by omega⟩ w7, sc_w_of e1 (e2 _ _ (by omega)) ⟨by omega, by omega⟩ w8, sc_w_of e1 (e2 _ _ (by omega)) ⟨by omega, by omega⟩ w9, sc_w_of e1 (e2 _ _ (by omega)) ⟨by omega, by omega⟩ w10⟩
  refine gx_room (gx_mono (sc_scan (M := Mb) hh.2.1 hMb2 hn) ?_) (by show 8 ≤ 80 - 1; omega) (by show 260 ≤ 1980 - (4 + 19); omega)
  rintro r h' ⟨rfl, Mc, rfl, hd⟩
  have etape : Mb.1 23 = M.1 23 := by funext k; exact (bI2 23 k (by omega)).trans (aI 23 k (by omega))
  rw [etape] at hd
  show gx (cx0 fz) (80, 1980) 17 36 _ _ _ _
  change sc_done fz S Mb n (p_T (M.1 23) n) Mc at hd
  have hst0 : ∀ e ∈ p_T (M.1 23) n, e.2.1 < n := fun e he => (sp_scan_b 800 0 e he).2.1
  generalize p_T (M.1 23) n = T at hd hst0 ⊢
  have hst : ∀ (i : Nat) (hi : i < T.length), T[i].2.1 ≤ 800 := fun i hi => by have := hst0 _ (List.getElem_mem hi); omega
  obtain ⟨d1, d2, d3, d4, d5, d6, d7, ⟨d8, d9, d10⟩, -, -⟩ := hd
  have cR : ∀ a k, ¬ (a = 169 ∧ k = 1) → ¬ (a = 170 ∧ k = 4) → Mc.2.2 a k = M.2.2 a k := fun a k k1 k2 => by rw [d10]; exact (rf_wq_of Mb (some 23) (by omega)).trans (bR2 a k k1)
  have cP : Mc.2.2 169 1 = some p := by rw [d10, rf_wq_of _ _ (by omega), bR, rf_wq_at]
  have cI : ∀ a k, a ≠ p → ¬ (169 ≤ a ∧ a ≤ 173) → Mc.1 a k = M.1 a k := fun a k k1 k2 => ((d8 a k (by omega) (by omega)).trans (bI2 a k (by omega))).trans (aI a k k1)
  have cp : ∀ k, Mc.1 p k = Ma.1 p k := fun k => (d8 p k (by omega) (by omega)).trans (bI2 p k (by omega))
  have c9 : ∀ k, Mc.1 169 k = Mb.1 169 k := fun k => d8 169 k (by omega) (by omega)
  have q0 : pz fz S p T Mc (0, false, 0, 0, 0, true) := by
    refine ⟨⟨hh, ⟨(cR 169 0 (by omega) (by omega)).trans r0, cP, d1.1.1, d1.1.2.1, d1.1.2.2.1, fun k k1 k2 => (cR p k (by omega) (by omega)).trans (r5 k k1 k2)⟩, d3, d2, fun i hi => ?_⟩, ⟨(c9 2).trans b2, Nat.zero_le _⟩, (c9 4).trans b4, ⟨(cp 0).trans a0, by decide⟩, ⟨(cp 1).trans a1, by decide⟩, ⟨(cp 2).trans a2, by decide⟩, ⟨0, by decide, (cp 3).trans a3⟩, ?_⟩
    · by_cases hi2 : i = T.length
      · subst hi2
        obtain ⟨k1, k2⟩ := kd_end T
        rw [k1, k2]
        exact ⟨d5, ⟨n, hn, d6⟩, d7⟩
      · have hi3 : i < T.length := by omega
        have he := List.getElem?_eq_getElem hi3
        obtain ⟨e1, e2, e3⟩ := d4 i _ he
        obtain ⟨k1, k2⟩ := kd_of he
        rw [k1, k2]
        exact ⟨e1, ⟨T[i].2.1, hst i hi3, e2⟩, e3⟩
    · rw [c9 3, b3]; rfl
  refine g1 (n := 1) rfl rfl rfl rfl ?_
  refine m_gf rfl q0.1.1.1 rfl (pz_prog q0) ?_
  refine g1 (n := 1) rfl rfl rfl rfl ?_
  refine g1 (n := 1) rfl rfl rfl rfl ?_
  refine g1 (n := 1) rfl rfl rfl rfl ?_
  refine g1 (n := 1) rfl rfl rfl rfl ?_
  refine m_iv (a := 169) (as := [.int _, .int _, .int (nI 0)]) (rest := [.ref p]) rfl (by decide) q0.1.1.1 rfl rfl (Nat.le_of_ble_eq_true rfl) ⟨by show 1 ≤ 80; omega, by show 8 + 19 ≤ 1980; omega, Nat.le_of_ble_eq_true rfl⟩ ?_
  refine gx_room (gx_mono (p_top Mc _ q0) ?_) (by show 75 ≤ 80 - 1; omega) (by show 1894 ≤ 1980 - (8 + 19); omega)
  rintro r h' ⟨z, Md, rfl, -, rfl, q1, q2⟩
  refine m_pf rfl q1.1.1.2.2.1 rfl (M' := rf_wi Md p 4 z) rfl ?_
  have q3 : pz fz S p T (rf_wi Md p 4 z) (p_sts T (p_body T 8) (0, false, 0, 0, 0, true)) := q1.en
  have q4 : pz_fr p Mc (rf_wi Md p 4 z) := q2.wi (by omega)
  generalize rf_wi Md p 4 z = Me at q3 q4 ⊢
  refine g1 (n := 1) rfl rfl rfl rfl ?_
  refine g1 (n := 1) rfl rfl rfl rfl ?_
  refine m_iv (a := 169) (as := [.int 0]) (rest := []) rfl (by decide) q3.1.1.1 rfl rfl (Nat.le_of_ble_eq_true rfl) ⟨by show 1 ≤ 80; omega, by show 2 + 19 ≤ 1980; omega, Nat.le_of_ble_eq_true rfl⟩ ?_
  refine gx_room (gx_mono (p_expect Me _ q3) ?_) (by show 1 ≤ 80 - 1; omega) (by show 40 ≤ 1980 - (2 + 19); omega)
  rintro r h' ⟨rfl, Mf, rfl, q5, q6⟩
  refine g1 (n := 1) rfl rfl rfl rfl ?_
  refine m_gf rfl q5.1.1.1 rfl (v := .int (Mf.1 169 3)) rfl ?_
  have q7 := q4.trans q6
  refine gx_ret rfl rfl ⟨_, Mf, rfl, rfl, q5.2.2.2.2.2.2.2, q5.2.2.2.1.1, q5.2.2.2.2.1.1, q5.2.2.2.2.2.1.1, fun a k k1 k2 => ?_, ?_, fun a k k1 k2 => ?_⟩
  · exact (q7.1 a k k1 (by omega)).trans (cI a k (by omega) k2)
  · rw [show Mf.2.1 = Mc.2.1 by rw [q7.2], d9, show Mb.2.1 = M.2.1 by rw [bR]; rfl]
  · rw [show Mf.2.2 = Mc.2.2 by rw [q7.2]]; exact cR a k k1 k2
end PJ
/-! THE TAPE: feed, end -/
def sh8 (t : Nat) : Int32 := Int32.ofInt (24 - 8 * (t : Int))
/-- byte t of a number, the highest first -/
def fb (x : Int32) (t : Nat) : Int32 := (x.toUInt32 >>> ((sh8 t).toUInt32 &&& Int32.toUInt32 31)).toInt32 &&& (Int16.ofInt 255).toInt32
/-- m bytes more from n on -/
def tp_fr (n m : Nat) (M M' : rf_M) : Prop := (∀ a k, ¬ (a = 22 ∧ k = 1) → ¬ (a = 23 ∧ n ≤ k ∧ k < n + m) → M'.1 a k = M.1 a k) ∧ M'.2 = M.2
theorem tp_fr.rfl' (n : Nat) (M : rf_M) : tp_fr n 0 M M := ⟨fun _ _ _ _ => rfl, rfl⟩
theorem tp_fr.trans {n m m' : Nat} {M M' M'' : rf_M} (h : tp_fr n m M M') (h' : tp_fr (n + m) m' M' M'') : tp_fr n (m + m') M M'' := ⟨fun a k h1 h2 => (h'.1 a k h1 (by omega)).trans (h.1 a k h1 (by omega)), h'.2.trans h.2⟩
section TP
variable {fz : Bool} {S : gS} {M M' : rf_M} {n : Nat} {x : Int32}
theorem tp_number (hg : go (cx0 fz) S 22 0) (ht : ga (cx0 fz) S 23 .int 800) (r0 : M.2.2 22 0 = some 23) (hn : M.1 22 1 = nI n) (h8 : n + 4 ≤ 800) : gx (cx0 fz) (0, 0) 14 0 [(0, .ref 22), (1, .int x)] [] (M, S) (fun r h' => r = none ∧ ∃ M', h' = (M', S) ∧ M'.1 22 1 = nI (n + 4) ∧ (∀ t, t < 4 → M'.1 23 (n + t) = fb x t) ∧ tp_fr n 4 M M') := by
  have step : ∀ (t : Nat), t < 4 → ∀ M', M'.1 22 1 = nI (n + t) → (∀ j, j < t → M'.1 23 (n + j) = fb x j) → tp_fr n t M M' → (∀ M'', M''.1 22 1 = nI (n + (t + 1)) → (∀ j, j < t + 1 → M''.1 23 (n + j) = fb x j) → tp_fr n (t + 1) M M'' → gx (cx0 fz) (0, 0) 14 3 [(2, .int (sh8 (t + 1))), (0, .ref 22), (1, .int x)] [] (M'', S) (fun r h' => r = none ∧ ∃ M', h' = (M', S) ∧ M'.1 22 1 = nI (n + 4) ∧ (∀ t, t < 4 → M'.1 23 (n + t) = fb x t) ∧ tp_fr n 4 M M')) → gx (cx0 fz) (0, 0) 14 3 [(2, .int (sh8 t)), (0, .ref 22), (1, .int x)] [] (M', S) (fun r h' => r = none ∧ ∃ M', h' = (M', S) ∧ M'.1 22 1 = nI (n + 4) ∧ (∀ t, t < 4 → M'.1 23 (n + t) = fb x t) ∧ tp_fr n 4 M M') := by
    intro t ht4 M' m1 m2 m3 next
    have r0' : M'.2.2 22 0 = some 23 := by rw [m3.2]; exact r0
    have hsh : ¬ rf_cc (sh8 t) 0 .lt = true := by
      have ht4' : t = 0 ∨ t = 1 ∨ t = 2 ∨ t = 3 := by omega
      rcases ht4' with rfl | rfl | rfl | rfl <;> decide
    have hsh2 : sh8 t + Int32.ofInt (-8) = sh8 (t + 1) := by
      have ht4' : t = 0 ∨ t = 1 ∨ t = 2 ∨ t = 3 := by omega
      rcases ht4' with rfl | rfl | rfl | rfl <;> decide
    refine g1 (n := 1) rfl rfl rfl rfl ?_
    refine g_if rfl (fun c => absurd c hsh) (fun _ => ?_)
    refine g1 (n := 1) rfl rfl rfl rfl ?_
    refine m_gf rfl hg rfl (v := .int (nI (n + t))) (by show Value.int (M'.1 22 1) = _; rw [m1]) ?_
    refine g1 (n := 3) rfl rfl rfl rfl ?_
    refine g_ic rfl (fun c => ?_) (fun _ => ?_)
    · have c : (800 : Int) ≤ (nI (n + t)).toInt := (rf_cc_iff _ 800 .ge).mp c
      rw [nI_int (by omega)] at c
      exact absurd c (by omega)
    refine g1 (n := 1) rfl rfl rfl rfl ?_
    refine m_gf rfl hg rfl (v := .ref 23) (by show va_rf (M'.2.2 22 0) = _; rw [r0']; rfl) ?_
    refine g1 (n := 1) rfl rfl rfl rfl ?_
    refine m_gf rfl hg rfl (v := .int (nI (n + t))) (by show Value.int (M'.1 22 1) = _; rw [m1]) ?_
    refine g1 (n := 1) rfl rfl rfl rfl ?_
    refine g1 (n := 1) rfl rfl rfl rfl ?_
    refine g0 rfl rfl rfl ?_
    refine g1 (n := 3) rfl rfl rfl rfl ?_
    refine g0 rfl rfl rfl ?_
    refine m_is (k := n + t) rfl ht (nI_int (by omega)) (by omega) ?_
    refine g1 (n := 1) rfl rfl rfl rfl ?_
    refine g0 rfl rfl rfl ?_
    refine m_gf rfl hg rfl (v := .int (nI (n + t))) (by show Value.int ((rf_wi M' 23 (n + t) (fb x t)).1 22 1) = _; rw [rf_wi_of _ _ (by omega), m1]) ?_
    refine g1 (n := 1) rfl rfl rfl rfl ?_
    refine g0 rfl rfl rfl ?_
    refine m_pf rfl hg rfl (M' := rf_wi (rf_wi M' 23 (n + t) (fb x t)) 22 1 (nI (n + t) + Int32.ofInt 1)) rfl ?_
    rw [nI_suc (by omega)]
    refine g2 (n := 3) rfl rfl rfl rfl ?_
    refine g3 rfl rfl rfl ?_
    have e2 : rf_s1 [(2, Value.int (sh8 t)), (0, .ref 22), (1, .int x)] 2 (.int (sh8 t + Int32.ofInt (-8))) = [(2, .int (sh8 (t + 1))), (0, .ref 22), (1, .int x)] := by rw [hsh2]; rfl
    rw [e2]
    refine next _ ?_ ?_ ⟨?_, m3.2⟩
    · rw [rf_wi_at, Nat.add_assoc]
    · intro j hj
      rw [rf_wi_of _ _ (by omega)]
      by_cases hjt : j = t
      · rw [hjt, rf_wi_at]
      · rw [rf_wi_of _ _ (by omega)]; exact m2 j (by omega)
    · intro a k h1 h2
      rw [rf_wi_of _ _ (by omega), rf_wi_of _ _ (by omega)]
      exact m3.1 a k h1 (by omega)
  refine g1 (n := 2) rfl rfl rfl rfl ?_
  refine g2 (n := 1) rfl rfl rfl rfl ?_
  refine step 0 (by omega) M hn (fun j hj => absurd hj (Nat.not_lt_zero _)) (tp_fr.rfl' n M) (fun M1 a1 a2 a3 => ?_)
  refine step 1 (by omega) M1 a1 a2 a3 (fun M2 b1 b2 b3 => ?_)
  refine step 2 (by omega) M2 b1 b2 b3 (fun M3 c1 c2 c3 => ?_)
  refine step 3 (by omega) M3 c1 c2 c3 (fun M4 d1 d2 d3 => ?_)
  refine g1 (n := 1) rfl rfl rfl rfl ?_
  refine g_if rfl (fun _ => ?_) (fun c => absurd (by decide) c)
  exact gx_ret rfl rfl ⟨rfl, M4, rfl, d1, d2, d3⟩
/-- the bytes of five numbers -/
def fb5 (a b c d e : Int32) (t : Nat) : Int32 := if t < 4 then fb a t else if t < 8 then fb b (t - 4) else if t < 12 then fb c (t - 8) else if t < 16 then fb d (t - 12) else fb e (t - 16)
theorem tp_feed {a b c d e : Int32} (hg : go (cx0 fz) S 22 0) (ht : ga (cx0 fz) S 23 .int 800) (r0 : M.2.2 22 0 = some 23) (hn : M.1 22 1 = nI n) (h8 : n ≤ 800) : gx (cx0 fz) (1, 30) 13 0 [(0, .ref 22), (1, .int a), (2, .int b), (3, .int c), (4, .int d), (5, .int e)] [] (M, S) (fun r h' => (n ≤ 780 ∧ r = some (.int (nI (n + 20))) ∧ ∃ M', h' = (M', S) ∧ M'.1 22 1 = nI (n + 20) ∧ (∀ t, t < 20 → M'.1 23 (n + t) = fb5 a b c d e t) ∧ tp_fr n 20 M M') ∨ (780 < n ∧ r = some (.int (Int32.ofInt (-1))) ∧ h' = (M, S))) := by
  refine g1 (n := 1) rfl rfl rfl rfl ?_
  refine m_gf rfl hg rfl (v := .int (nI n)) (by show Value.int (M.1 22 1) = _; rw [hn]) ?_
  refine g1 (n := 2) rfl rfl rfl rfl ?_
  refine g0 rfl rfl rfl ?_
  refine g1 (n := 3) rfl rfl rfl rfl ?_
  have e20 : (nI n + (Int8.ofInt 20).toInt32).toInt = (n : Int) + 20 := by
    rw [Int32.toInt_add, nI_int (by omega), show (Int8.ofInt 20).toInt32.toInt = 20 from rfl]
    exact Int.bmod_eq_of_le (by omega) (by omega)
  refine g_ic rfl (fun k => ?_) (fun k => ?_)
  rotate_left
  · have k : ¬ (nI n + (Int8.ofInt 20).toInt32).toInt ≤ 800 := fun z => k ((rf_cc_iff _ 800 .le).mpr z)
    rw [e20] at k
    refine g1 (n := 1) rfl rfl rfl rfl ?_
    exact gx_ret rfl rfl (Or.inr ⟨by omega, rfl, rfl⟩)
  have k : (nI n + (Int8.ofInt 20).toInt32).toInt ≤ 800 := (rf_cc_iff _ 800 .le).mp k
  rw [e20] at k
  have hk : n ≤ 780 := by omega
  have one : ∀ {M1 : rf_M} {n1 : Nat} (y : Int32), M1.2.2 22 0 = some 23 → M1.1 22 1 = nI n1 → n1 + 4 ≤ 800 → gx (cx0 fz) (0, 0) 14 0 (lv_args 0 [.ref 22, .int y]) [] (M1, S) (fun r h' => r = none ∧ ∃ M', h' = (M', S) ∧ M'.1 22 1 = nI (n1 + 4) ∧ (∀ t, t < 4 → M'.1 23 (n1 + t) = fb y t) ∧ tp_fr n1 4 M1 M') := fun y q1 q2 q3 => tp_number hg ht q1 q2 q3
  refine g1 (n := 1) rfl rfl rfl rfl ?_
  refine g1 (n := 1) rfl rfl rfl rfl ?_
  refine m_iv (a := 22) (as := [.int a]) (rest := []) rfl (by decide) hg rfl rfl (Nat.le_of_ble_eq_true rfl) ⟨Nat.le_of_ble_eq_true rfl, Nat.le_of_ble_eq_true rfl, Nat.le_of_ble_eq_true rfl⟩ ?_
  refine gx_room (gx_mono (one a r0 hn (by omega)) ?_) (Nat.zero_le _) (Nat.zero_le _)
  rintro r h' ⟨rfl, M1, rfl, a1, a2, a3⟩
  refine g1 (n := 1) rfl rfl rfl rfl ?_
  refine g1 (n := 1) rfl rfl rfl rfl ?_
  refine m_iv (a := 22) (as := [.int b]) (rest := []) rfl (by decide) hg rfl rfl (Nat.le_of_ble_eq_true rfl) ⟨Nat.le_of_ble_eq_true rfl, Nat.le_of_ble_eq_true rfl, Nat.le_of_ble_eq_true rfl⟩ ?_
  refine gx_room (gx_mono (one b (by rw [a3.2]; exact r0) a1 (by omega)) ?_) (Nat.zero_le _) (Nat.zero_le _)
  rintro r h' ⟨rfl, M2, rfl, b1, b2, b3⟩
  refine g1 (n := 1) rfl rfl rfl rfl ?_
  refine g1 (n := 1) rfl rfl rfl rfl ?_
  refine m_iv (a := 22) (as := [.int c]) (rest := []) rfl (by decide) hg rfl rfl (Nat.le_of_ble_eq_true rfl) ⟨Nat.le_of_ble_eq_true rfl, Nat.le_of_ble_eq_true rfl, Nat.le_of_ble_eq_true rfl⟩ ?_
  refine gx_room (gx_mono (one c (by rw [b3.2, a3.2]; exact r0) b1 (by omega)) ?_) (Nat.zero_le _) (Nat.zero_le _)
  rintro r h' ⟨rfl, M3, rfl, c1, c2, c3⟩
  refine g1 (n := 1) rfl rfl rfl rfl ?_
  refine g1 (n := 2) rfl rfl rfl rfl ?_
  refine m_iv (a := 22) (as := [.int d]) (rest := []) rfl (by decide) hg rfl rfl (Nat.le_of_ble_eq_true rfl) ⟨Nat.le_of_ble_eq_true rfl, Nat.le_of_ble_eq_true rfl, Nat.le_of_ble_eq_true rfl⟩ ?_
  refine gx_room (gx_mono (one d (by rw [c3.2, b3.2, a3.2]; exact r0) c1 (by omega)) ?_) (Nat.zero_le _) (Nat.zero_le _)
  rintro r h' ⟨rfl, M4, rfl, d1, d2, d3⟩
  refine g1 (n := 1) rfl rfl rfl rfl ?_
  refine g1 (n := 2) rfl rfl rfl rfl ?_
  refine m_iv (a := 22) (as := [.int e]) (rest := []) rfl (by decide) hg rfl rfl (Nat.le_of_ble_eq_true rfl) ⟨Nat.le_of_ble_eq_true rfl, Nat.le_of_ble_eq_true rfl, Nat.le_of_ble_eq_true rfl⟩ ?_
  refine gx_room (gx_mono (one e (by rw [d3.2, c3.2, b3.2, a3.2]; exact r0) d1 (by omega)) ?_) (Nat.zero_le _) (Nat.zero_le _)
  rintro r h' ⟨rfl, M5, rfl, e1, e2, e3⟩
  refine g1 (n := 1) rfl rfl rfl rfl ?_
  refine m_gf rfl hg rfl (v := .int (nI (n + 20))) (by show Value.int (M5.1 22 1) = _; rw [e1]) ?_
  refine gx_ret rfl rfl (Or.inl ⟨hk, rfl, M5, rfl, e1, fun t ht20 => ?_, (((a3.trans b3).trans c3).trans d3).trans e3⟩)
  unfold fb5
  by_cases h4 : t < 4
  · rw [if_pos h4, e3.1 23 _ (by omega) (by omega), d3.1 23 _ (by omega) (by omega), c3.1 23 _ (by omega) (by omega), b3.1 23 _ (by omega) (by omega)]
    exact a2 t h4
  rw [if_neg h4]
  by_cases h8' : t < 8
  · rw [if_pos h8', e3.1 23 _ (by omega) (by omega), d3.1 23 _ (by omega) (by omega), c3.1 23 _ (by omega) (by omega), show n + t = n + 4 + (t - 4) by omega]
    exact b2 _ (by omega)
  rw [if_neg h8']
  by_cases h12 : t < 12
  · rw [if_pos h12, e3.1 23 _ (by omega) (by omega), d3.1 23 _ (by omega) (by omega), show n + t = n + 4 + 4 + (t - 8) by omega]
    exact c2 _ (by omega)
  rw [if_neg h12]
  by_cases h16 : t < 16
  · rw [if_pos h16, e3.1 23 _ (by omega) (by omega), show n + t = n + 4 + 4 + 4 + (t - 12) by omega]
    exact d2 _ (by omega)
  rw [if_neg h16, show n + t = n + 4 + 4 + 4 + 4 + (t - 16) by omega]
  exact e2 _ (by omega)
/-- end: of the last 20 bytes m stay -/
theorem tp_end (hg : go (cx0 fz) S 22 0) (hn : M.1 22 1 = nI n) (h8 : n ≤ 800) : gx (cx0 fz) (0, 0) 15 0 [(0, .ref 22), (1, .int x)] [] (M, S) (fun r h' => ((0 ≤ x.toInt ∧ x.toInt ≤ 20 ∧ 20 ≤ n) ∧ r = some (.int (nI (n - 20 + x.toInt.toNat))) ∧ h' = (rf_wi M 22 1 (nI (n - 20 + x.toInt.toNat)), S)) ∨ (¬ (0 ≤ x.toInt ∧ x.toInt ≤ 20 ∧ 20 ≤ n) ∧ r = some (.int (Int32.ofInt (-1))) ∧ h' = (M, S))) := by
  have bad : ¬ (0 ≤ x.toInt ∧ x.toInt ≤ 20 ∧ 20 ≤ n) → gx (cx0 fz) (0, 0) 15 19 [(0, .ref 22), (1, .int x)] [] (M, S) (fun r h' => ((0 ≤ x.toInt ∧ x.toInt ≤ 20 ∧ 20 ≤ n) ∧ r = some (.int (nI (n - 20 + x.toInt.toNat))) ∧ h' = (rf_wi M 22 1 (nI (n - 20 + x.toInt.toNat)), S)) ∨ (¬ (0 ≤ x.toInt ∧ x.toInt ≤ 20 ∧ 20 ≤ n) ∧ r = some (.int (Int32.ofInt (-1))) ∧ h' = (M, S))) := by
    intro hc
    refine g1 (n := 1) rfl rfl rfl rfl ?_
    exact gx_ret rfl rfl (Or.inr ⟨hc, rfl, rfl⟩)
  refine g1 (n := 1) rfl rfl rfl rfl ?_
  refine g_if rfl (fun c => bad (fun z => ?_)) (fun c => ?_)
  · have c : x.toInt < (0 : Int32).toInt := (rf_cc_iff x 0 .lt).mp c
    rw [Int32.toInt_zero] at c
    omega
  have c : ¬ x.toInt < (0 : Int32).toInt := fun z => c ((rf_cc_iff x 0 .lt).mpr z)
  rw [Int32.toInt_zero] at c
  refine g1 (n := 1) rfl rfl rfl rfl ?_
  refine g1 (n := 2) rfl rfl rfl rfl ?_
  refine g_ic rfl (fun c2 => bad (fun z => ?_)) (fun c2 => ?_)
  · have c2 : (20 : Int) < x.toInt := (rf_cc_iff x 20 .gt).mp c2
    omega
  have c2 : ¬ (20 : Int) < x.toInt := fun z => c2 ((rf_cc_iff x 20 .gt).mpr z)
  refine g1 (n := 1) rfl rfl rfl rfl ?_
  refine m_gf rfl hg rfl (v := .int (nI n)) (by show Value.int (M.1 22 1) = _; rw [hn]) ?_
  refine g1 (n := 2) rfl rfl rfl rfl ?_
  refine g_ic rfl (fun c3 => ?_) (fun c3 => bad (fun z => ?_))
  rotate_left
  · have c3 : ¬ (20 : Int) ≤ (nI n).toInt := fun z => c3 ((rf_cc_iff _ 20 .ge).mpr z)
    rw [nI_int (by omega)] at c3
    omega
  have c3 : (20 : Int) ≤ (nI n).toInt := (rf_cc_iff _ 20 .ge).mp c3
  rw [nI_int (by omega)] at c3
  refine g1 (n := 1) rfl rfl rfl rfl ?_
  refine g1 (n := 1) rfl rfl rfl rfl ?_
  refine m_gf rfl hg rfl (v := .int (nI n)) (by show Value.int (M.1 22 1) = _; rw [hn]) ?_
  refine g1 (n := 2) rfl rfl rfl rfl ?_
  refine g0 rfl rfl rfl ?_
  refine g1 (n := 1) rfl rfl rfl rfl ?_
  refine g0 rfl rfl rfl ?_
  have e : nI n - (Int8.ofInt 20).toInt32 + x = nI (n - 20 + x.toInt.toNat) := by
    refine Int32.toInt_inj.mp ?_
    have e1 : (nI n - (Int8.ofInt 20).toInt32).toInt = (n : Int) - 20 := by
      rw [Int32.toInt_sub, nI_int (by omega), show (Int8.ofInt 20).toInt32.toInt = 20 from rfl]
      exact Int.bmod_eq_of_le (by omega) (by omega)
    rw [Int32.toInt_add, e1, nI_int (by omega), Int.bmod_eq_of_le (by omega) (by omega)]
    omega
  rw [e]
  refine m_pf rfl hg rfl (M' := rf_wi M 22 1 (nI (n - 20 + x.toInt.toNat))) rfl ?_
  refine g1 (n := 1) rfl rfl rfl rfl ?_
  refine m_gf rfl hg rfl (v := .int (nI (n - 20 + x.toInt.toNat))) (by show Value.int ((rf_wi M 22 1 (nI (n - 20 + x.toInt.toNat))).1 22 1) = _; rw [rf_wi_at]) ?_
  exact gx_ret rfl rfl (Or.inl ⟨⟨by omega, by omega, by omega⟩, rfl, rfl⟩)
end TP
