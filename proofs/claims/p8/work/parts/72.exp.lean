/-! THE PARSER: exps -/
def p_cell (x : Int32) : Bool := decide (0 ≤ x.toInt) && decide (x.toInt < 16)
def p_u1 (s : pS) : pS := (s.1, s.2.1, s.2.2.1, s.2.2.2.1 + 1, s.2.2.2.2)
def p_loop (c : pS → Bool) (g : pS → pS) : Nat → pS → pS
  | 0, s => s
  | n + 1, s => if c s = true then p_loop c g n (g s) else s
def p_m (T : tK) (s : pS) : Bool := p_is T 42 s || (p_is T 47 s || p_is T 37 s)
def p_a (T : tK) (s : pS) : Bool := p_is T 43 s || p_is T 45 s
def p_c (T : tK) (s : pS) : Bool := p_is T 60 s || (p_is T 61 s || p_is T 35 s)
def p_prod (T : tK) (u : pS → pS) (s : pS) : pS := p_loop (p_m T) (fun s => u (p_adv T s)) 60 (u s)
def p_sum (T : tK) (u : pS → pS) (s : pS) : pS := p_loop (p_a T) (fun s => p_prod T u (p_adv T s)) 60 (p_prod T u s)
def p_expr (T : tK) (u : pS → pS) (s : pS) : pS := if p_c T (p_sum T u s) = true then p_sum T u (p_adv T (p_sum T u s)) else p_sum T u s
def p_un (T : tK) : Nat → pS → pS
  | 0, s => if s.2.2.2.2.2 = false ∨ 60 ≤ s.2.2.2.1 then p_bad s else if p_is T 2 (p_u1 s) = true then p_adv T (p_u1 s) else if p_is T 1 (p_u1 s) = true ∧ (p_cell (nb T s.1) = true ∨ s.2.1 = false) then p_adv T (p_u1 s) else p_bad (p_u1 s)
  | f + 1, s => if s.2.2.2.2.2 = false ∨ 60 ≤ s.2.2.2.1 then p_bad s else if p_is T 2 (p_u1 s) = true then p_adv T (p_u1 s) else if p_is T 1 (p_u1 s) = true ∧ (p_cell (nb T s.1) = true ∨ s.2.1 = false) then p_adv T (p_u1 s) else if p_is T 45 (p_u1 s) = true then p_un T f (p_adv T (p_u1 s)) else if p_is T 40 (p_u1 s) = true then p_ex T 41 (p_expr T (p_un T f) (p_adv T (p_u1 s))) else p_bad (p_u1 s)
section PE
variable {fz : Bool} {S : gS} {p : Nat} {T : tK} {M M' : rf_M} {s : pS} {R1 R2 : Nat}
theorem bI_no2 {c : Bool} (h : ¬ rf_cc (bI c) 0 .ne = true) : c = false := by
  cases c
  · rfl
  · exact absurd (by decide) h
theorem bI_yes2 {c : Bool} (h : rf_cc (bI c) 0 .ne = true) : c = true := by
  cases c
  · exact absurd h (by decide)
  · rfl
theorem p_isCell {x : Int32} : gx (cx0 fz) (0, 0) 52 0 [(0, .int x)] [] (M, S) (fun r h' => r = some (.int (bI (p_cell x))) ∧ h' = (M, S)) := by
  refine g1 (n := 1) rfl rfl rfl rfl ?_
  refine g_if rfl (fun c => ?_) (fun c => ?_)
  · have c : x.toInt < (0 : Int32).toInt := (rf_cc_iff x 0 .lt).mp c
    rw [Int32.toInt_zero] at c
    refine g1 (n := 1) rfl rfl rfl rfl ?_
    exact gx_ret rfl rfl ⟨by have e : p_cell x = false := by (unfold p_cell; simp; omega)
                             rw [e]; rfl, rfl⟩
  · have c : ¬ x.toInt < (0 : Int32).toInt := fun z => c ((rf_cc_iff x 0 .lt).mpr z)
    rw [Int32.toInt_zero] at c
    refine g1 (n := 1) rfl rfl rfl rfl ?_
    refine g1 (n := 2) rfl rfl rfl rfl ?_
    refine g_ic rfl (fun c2 => ?_) (fun c2 => ?_)
    · have c2 : (16 : Int) ≤ x.toInt := (rf_cc_iff x 16 .ge).mp c2
      refine g1 (n := 1) rfl rfl rfl rfl ?_
      exact gx_ret rfl rfl ⟨by have e : p_cell x = false := by (unfold p_cell; simp; omega)
                               rw [e]; rfl, rfl⟩
    · have c2 : ¬ (16 : Int) ≤ x.toInt := fun z => c2 ((rf_cc_iff x 16 .ge).mpr z)
      refine g1 (n := 1) rfl rfl rfl rfl ?_
      refine g3 rfl rfl rfl ?_
      exact gx_ret rfl rfl ⟨by have e : p_cell x = true := by (unfold p_cell; simp; omega)
                               rw [e]; rfl, rfl⟩
theorem pz_prog (h : pz fz S p T M s) : rf_rd M ((cx0 fz).2.2.1 (2 : Nat) 1) 169 1 = .ref p := by
  show va_rf (M.2.2 169 1) = _
  rw [h.1.2.1.2.1]; rfl
theorem p_product {d : Nat} {u : pS → pS} (hR1 : 2 ≤ R1) (hR2 : 80 ≤ R2) (hu : pdo fz S p T (R1, R2) 50 [.int (nI d)] u) : pdo fz S p T (R1 + 1, R2 + 25) 49 [.int (nI d)] (p_prod T u) := by
  intro M s h
  have loop : ∀ (m k : Nat) (e : rf_L), 60 - k ≤ m → k ≤ 60 → (e = [] ∨ ∃ x, e = [(3, Value.int x)]) → ∀ (M' : rf_M) (s' : pS), pz fz S p T M' s' → pz_fr p M M' → gx (cx0 fz) (R1 + 1, R2 + 25) 49 7 ((2, .int (nI k)) :: (e ++ [(0, .ref 169), (1, .int (nI d))])) [] (M', S) (fun r h' => r = none ∧ ∃ M'', h' = (M'', S) ∧ pz fz S p T M'' (p_loop (p_m T) (fun s => u (p_adv T s)) (60 - k) s') ∧ pz_fr p M M'') := by
    intro m
    induction m with
    | zero =>
      intro k e h0 h1 he M' s' hq hfr
      have hk : k = 60 := by omega
      subst hk
      rcases he with rfl | ⟨x, rfl⟩
      · refine g1 (n := 1) rfl rfl rfl rfl ?_
        refine g1 (n := 2) rfl rfl rfl rfl ?_
        refine g_ic rfl (fun _ => ?_) (fun c => absurd (by decide) c)
        exact gx_ret rfl rfl ⟨rfl, M', rfl, hq, hfr⟩
      · refine g1 (n := 1) rfl rfl rfl rfl ?_
        refine g1 (n := 2) rfl rfl rfl rfl ?_
        refine g_ic rfl (fun _ => ?_) (fun c => absurd (by decide) c)
        exact gx_ret rfl rfl ⟨rfl, M', rfl, hq, hfr⟩
    | succ m ih =>
      intro k e h0 h1 he M' s' hq hfr
      by_cases hk : k = 60
      · subst hk
        rcases he with rfl | ⟨x, rfl⟩
        · refine g1 (n := 1) rfl rfl rfl rfl ?_
          refine g1 (n := 2) rfl rfl rfl rfl ?_
          refine g_ic rfl (fun _ => ?_) (fun c => absurd (by decide) c)
          exact gx_ret rfl rfl ⟨rfl, M', rfl, hq, hfr⟩
        · refine g1 (n := 1) rfl rfl rfl rfl ?_
          refine g1 (n := 2) rfl rfl rfl rfl ?_
          refine g_ic rfl (fun _ => ?_) (fun c => absurd (by decide) c)
          exact gx_ret rfl rfl ⟨rfl, M', rfl, hq, hfr⟩
      obtain ⟨f, hf⟩ : ∃ f, 60 - k = f + 1 := ⟨60 - k - 1, by omega⟩
      have hf2 : 60 - (k + 1) = f := by omega
      have stop : p_m T s' = false → p_loop (p_m T) (fun s => u (p_adv T s)) (60 - k) s' = s' := by
        intro hc
        rw [hf]
        show (if p_m T s' = true then _ else _) = _
        rw [hc]; rfl
      have go1 : p_m T s' = true → p_loop (p_m T) (fun s => u (p_adv T s)) (60 - k) s' = p_loop (p_m T) (fun s => u (p_adv T s)) f (u (p_adv T s')) := by
        intro hc
        rw [hf]
        show (if p_m T s' = true then _ else _) = _
        rw [hc]; rfl
      rcases he with rfl | ⟨x, rfl⟩
      · have bod : p_m T s' = true → gx (cx0 fz) (R1 + 1, R2 + 25) 49 40 [(2, .int (nI k)), (0, .ref 169), (1, .int (nI d))] [] (M', S) (fun r h' => r = none ∧ ∃ M'', h' = (M'', S) ∧ pz fz S p T M'' (p_loop (p_m T) (fun s => u (p_adv T s)) (60 - k) s') ∧ pz_fr p M M'') := by
          intro hc
          refine g1 (n := 1) rfl rfl rfl rfl ?_
          refine m_iv (a := 169) (as := []) (rest := []) rfl (by decide) hq.1.1.1 rfl rfl (Nat.le_of_ble_eq_true rfl) ⟨by show 1 ≤ R1 + 1; omega, by show 1 + 19 ≤ R2 + 25; omega, Nat.le_of_ble_eq_true rfl⟩ ?_
          refine gx_room (gx_mono (p_token hq) ?_) (Nat.zero_le _) (Nat.zero_le _)
          rintro r h' ⟨rfl, rfl⟩
          refine g2 (n := 1) rfl rfl rfl rfl ?_
          refine g1 (n := 1) rfl rfl rfl rfl ?_
          refine m_iv (a := 169) (as := []) (rest := []) rfl (by decide) hq.1.1.1 rfl rfl (Nat.le_of_ble_eq_true rfl) ⟨by show 1 ≤ R1 + 1; omega, by show 1 + 19 ≤ R2 + 25; omega, Nat.le_of_ble_eq_true rfl⟩ ?_
          refine gx_room (gx_mono (p_advance M' s' hq) ?_) (Nat.zero_le _) (Nat.zero_le _)
          rintro r h' ⟨rfl, M1, rfl, q1, q2⟩
          refine g1 (n := 1) rfl rfl rfl rfl ?_
          refine g1 (n := 1) rfl rfl rfl rfl ?_
          refine m_iv (a := 169) (as := [.int (nI d)]) (rest := []) rfl (by decide) q1.1.1.1 rfl rfl (Nat.le_of_ble_eq_true rfl) ⟨by show 1 ≤ R1 + 1; omega, by show 2 + 19 ≤ R2 + 25; omega, Nat.le_of_ble_eq_true rfl⟩ ?_
          refine gx_room (gx_mono (hu M1 _ q1) ?_) (by show R1 ≤ R1 + 1 - 1; omega) (by show R2 ≤ R2 + 25 - (2 + 19); omega)
          rintro r h' ⟨rfl, M2, rfl, q3, q4⟩
          refine g1 (n := 1) rfl rfl rfl rfl ?_
          refine m_gf rfl q3.1.1.1 rfl (pz_prog q3) ?_
          refine g1 (n := 1) rfl rfl rfl rfl ?_
          refine g1 (n := 1) rfl rfl rfl rfl ?_
          refine m_iv (a := p) (as := [.int _, .int _]) (rest := []) rfl (by decide) q3.1.1.2.2.1 rfl rfl (Nat.le_of_ble_eq_true rfl) ⟨by show 1 ≤ R1 + 1; omega, by show 3 + 19 ≤ R2 + 25; omega, Nat.le_of_ble_eq_true rfl⟩ ?_
          refine gx_room (gx_mono (p_emit q3) ?_) (Nat.zero_le _) (Nat.zero_le _)
          rintro r h' ⟨rfl, M3, rfl, q5, q6⟩
          refine g2 (n := 3) rfl rfl rfl rfl ?_
          refine g3 rfl rfl rfl ?_
          rw [nI_suc (by omega), go1 hc]
          have := ih (k + 1) [(3, .int (kd T s'.1))] (by omega) (by omega) (Or.inr ⟨_, rfl⟩) M3 _ q5 (((hfr.trans q2).trans q4).trans q6)
          rw [hf2] at this
          exact this
        refine g1 (n := 1) rfl rfl rfl rfl ?_
        refine g1 (n := 2) rfl rfl rfl rfl ?_
        refine g_ic rfl (fun c => ?_) (fun c => ?_)
        · have c : (60 : Int) ≤ (nI k).toInt := (rf_cc_iff _ 60 .ge).mp c
          rw [nI_int (by omega)] at c
          exact absurd c (by omega)
        clear c
        refine g1 (n := 1) rfl rfl rfl rfl ?_
        refine g1 (n := 2) rfl rfl rfl rfl ?_
        refine m_iv (a := 169) (as := [.int 42]) (rest := []) rfl (by decide) hq.1.1.1 rfl rfl (Nat.le_of_ble_eq_true rfl) ⟨by show 1 ≤ R1 + 1; omega, by show 2 + 19 ≤ R2 + 25; omega, Nat.le_of_ble_eq_true rfl⟩ ?_
        refine gx_room (gx_mono (p_isAt hq) ?_) (Nat.zero_le _) (Nat.zero_le _)
        rintro r h' ⟨rfl, rfl⟩
        refine g_if rfl (fun c => bod (by unfold p_m; rw [bI_yes2 c]; simp)) (fun c => ?_)
        have e0 := bI_no2 c
        refine g1 (n := 1) rfl rfl rfl rfl ?_
        refine g1 (n := 2) rfl rfl rfl rfl ?_
        refine m_iv (a := 169) (as := [.int 47]) (rest := []) rfl (by decide) hq.1.1.1 rfl rfl (Nat.le_of_ble_eq_true rfl) ⟨by show 1 ≤ R1 + 1; omega, by show 2 + 19 ≤ R2 + 25; omega, Nat.le_of_ble_eq_true rfl⟩ ?_
        refine gx_room (gx_mono (p_isAt hq) ?_) (Nat.zero_le _) (Nat.zero_le _)
        rintro r h' ⟨rfl, rfl⟩
        refine g_if rfl (fun c => bod (by unfold p_m; rw [bI_yes2 c, e0]; simp)) (fun c => ?_)
        have e1 := bI_no2 c
        refine g1 (n := 1) rfl rfl rfl rfl ?_
        refine g1 (n := 2) rfl rfl rfl rfl ?_
        refine m_iv (a := 169) (as := [.int 37]) (rest := []) rfl (by decide) hq.1.1.1 rfl rfl (Nat.le_of_ble_eq_true rfl) ⟨by show 1 ≤ R1 + 1; omega, by show 2 + 19 ≤ R2 + 25; omega, Nat.le_of_ble_eq_true rfl⟩ ?_
        refine gx_room (gx_mono (p_isAt hq) ?_) (Nat.zero_le _) (Nat.zero_le _)
        rintro r h' ⟨rfl, rfl⟩
        refine g_if rfl (fun c => ?_) (fun c => bod (by unfold p_m; rw [bI_yes c]; simp))
        have e2 := bI_no c
        refine gx_ret rfl rfl ⟨rfl, M', rfl, ?_, hfr⟩
        rw [stop (by unfold p_m; rw [e0, e1, e2]; rfl)]
        exact hq
      · have bod : p_m T s' = true → gx (cx0 fz) (R1 + 1, R2 + 25) 49 40 [(2, .int (nI k)), (3, .int x), (0, .ref 169), (1, .int (nI d))] [] (M', S) (fun r h' => r = none ∧ ∃ M'', h' = (M'', S) ∧ pz fz S p T M'' (p_loop (p_m T) (fun s => u (p_adv T s)) (60 - k) s') ∧ pz_fr p M M'') := by
          intro hc
          refine g1 (n := 1) rfl rfl rfl rfl ?_
          refine m_iv (a := 169) (as := []) (rest := []) rfl (by decide) hq.1.1.1 rfl rfl (Nat.le_of_ble_eq_true rfl) ⟨by show 1 ≤ R1 + 1; omega, by show 1 + 19 ≤ R2 + 25; omega, Nat.le_of_ble_eq_true rfl⟩ ?_
          refine gx_room (gx_mono (p_token hq) ?_) (Nat.zero_le _) (Nat.zero_le _)
          rintro r h' ⟨rfl, rfl⟩
          refine g2 (n := 1) rfl rfl rfl rfl ?_
          refine g1 (n := 1) rfl rfl rfl rfl ?_
          refine m_iv (a := 169) (as := []) (rest := []) rfl (by decide) hq.1.1.1 rfl rfl (Nat.le_of_ble_eq_true rfl) ⟨by show 1 ≤ R1 + 1; omega, by show 1 + 19 ≤ R2 + 25; omega, Nat.le_of_ble_eq_true rfl⟩ ?_
          refine gx_room (gx_mono (p_advance M' s' hq) ?_) (Nat.zero_le _) (Nat.zero_le _)
          rintro r h' ⟨rfl, M1, rfl, q1, q2⟩
          refine g1 (n := 1) rfl rfl rfl rfl ?_
          refine g1 (n := 1) rfl rfl rfl rfl ?_
          refine m_iv (a := 169) (as := [.int (nI d)]) (rest := []) rfl (by decide) q1.1.1.1 rfl rfl (Nat.le_of_ble_eq_true rfl) ⟨by show 1 ≤ R1 + 1; omega, by show 2 + 19 ≤ R2 + 25; omega, Nat.le_of_ble_eq_true rfl⟩ ?_
          refine gx_room (gx_mono (hu M1 _ q1) ?_) (by show R1 ≤ R1 + 1 - 1; omega) (by show R2 ≤ R2 + 25 - (2 + 19); omega)
          rintro r h' ⟨rfl, M2, rfl, q3, q4⟩
          refine g1 (n := 1) rfl rfl rfl rfl ?_
          refine m_gf rfl q3.1.1.1 rfl (pz_prog q3) ?_
          refine g1 (n := 1) rfl rfl rfl rfl ?_
          refine g1 (n := 1) rfl rfl rfl rfl ?_
          refine m_iv (a := p) (as := [.int _, .int _]) (rest := []) rfl (by decide) q3.1.1.2.2.1 rfl rfl (Nat.le_of_ble_eq_true rfl) ⟨by show 1 ≤ R1 + 1; omega, by show 3 + 19 ≤ R2 + 25; omega, Nat.le_of_ble_eq_true rfl⟩ ?_
          refine gx_room (gx_mono (p_emit q3) ?_) (Nat.zero_le _) (Nat.zero_le _)
          rintro r h' ⟨rfl, M3, rfl, q5, q6⟩
          refine g2 (n := 3) rfl rfl rfl rfl ?_
          refine g3 rfl rfl rfl ?_
          rw [nI_suc (by omega), go1 hc]
          have := ih (k + 1) [(3, .int (kd T s'.1))] (by omega) (by omega) (Or.inr ⟨_, rfl⟩) M3 _ q5 (((hfr.trans q2).trans q4).trans q6)
          rw [hf2] at this
          exact this
        refine g1 (n := 1) rfl rfl rfl rfl ?_
        refine g1 (n := 2) rfl rfl rfl rfl ?_
        refine g_ic rfl (fun c => ?_) (fun c => ?_)
        · have c : (60 : Int) ≤ (nI k).toInt := (rf_cc_iff _ 60 .ge).mp c
          rw [nI_int (by omega)] at c
          exact absurd c (by omega)
        clear c
        refine g1 (n := 1) rfl rfl rfl rfl ?_
        refine g1 (n := 2) rfl rfl rfl rfl ?_
        refine m_iv (a := 169) (as := [.int 42]) (rest := []) rfl (by decide) hq.1.1.1 rfl rfl (Nat.le_of_ble_eq_true rfl) ⟨by show 1 ≤ R1 + 1; omega, by show 2 + 19 ≤ R2 + 25; omega, Nat.le_of_ble_eq_true rfl⟩ ?_
        refine gx_room (gx_mono (p_isAt hq) ?_) (Nat.zero_le _) (Nat.zero_le _)
        rintro r h' ⟨rfl, rfl⟩
        refine g_if rfl (fun c => bod (by unfold p_m; rw [bI_yes2 c]; simp)) (fun c => ?_)
        have e0 := bI_no2 c
        refine g1 (n := 1) rfl rfl rfl rfl ?_
        refine g1 (n := 2) rfl rfl rfl rfl ?_
        refine m_iv (a := 169) (as := [.int 47]) (rest := []) rfl (by decide) hq.1.1.1 rfl rfl (Nat.le_of_ble_eq_true rfl) ⟨by show 1 ≤ R1 + 1; omega, by show 2 + 19 ≤ R2 + 25; omega, Nat.le_of_ble_eq_true rfl⟩ ?_
        refine gx_room (gx_mono (p_isAt hq) ?_) (Nat.zero_le _) (Nat.zero_le _)
        rintro r h' ⟨rfl, rfl⟩
        refine g_if rfl (fun c => bod (by unfold p_m; rw [bI_yes2 c, e0]; simp)) (fun c => ?_)
        have e1 := bI_no2 c
        refine g1 (n := 1) rfl rfl rfl rfl ?_
        refine g1 (n := 2) rfl rfl rfl rfl ?_
        refine m_iv (a := 169) (as := [.int 37]) (rest := []) rfl (by decide) hq.1.1.1 rfl rfl (Nat.le_of_ble_eq_true rfl) ⟨by show 1 ≤ R1 + 1; omega, by show 2 + 19 ≤ R2 + 25; omega, Nat.le_of_ble_eq_true rfl⟩ ?_
        refine gx_room (gx_mono (p_isAt hq) ?_) (Nat.zero_le _) (Nat.zero_le _)
        rintro r h' ⟨rfl, rfl⟩
        refine g_if rfl (fun c => ?_) (fun c => bod (by unfold p_m; rw [bI_yes c]; simp))
        have e2 := bI_no c
        refine gx_ret rfl rfl ⟨rfl, M', rfl, ?_, hfr⟩
        rw [stop (by unfold p_m; rw [e0, e1, e2]; rfl)]
        exact hq
  have hq := h
  refine g1 (n := 1) rfl rfl rfl rfl ?_
  refine g1 (n := 1) rfl rfl rfl rfl ?_
  refine m_iv (a := 169) (as := [.int (nI d)]) (rest := []) rfl (by decide) hq.1.1.1 rfl rfl (Nat.le_of_ble_eq_true rfl) ⟨by show 1 ≤ R1 + 1; omega, by show 2 + 19 ≤ R2 + 25; omega, Nat.le_of_ble_eq_true rfl⟩ ?_
  refine gx_room (gx_mono (hu M s h) ?_) (by show R1 ≤ R1 + 1 - 1; omega) (by show R2 ≤ R2 + 25 - (2 + 19); omega)
  rintro r h' ⟨rfl, M1, rfl, q1, q2⟩
  refine g1 (n := 1) rfl rfl rfl rfl ?_
  refine g2 (n := 1) rfl rfl rfl rfl ?_
  exact loop 60 0 [] (by omega) (by omega) (Or.inl rfl) M1 _ q1 q2
theorem p_summ {d : Nat} {u : pS → pS} (hR1 : 2 ≤ R1) (hR2 : 80 ≤ R2) (hu : pdo fz S p T (R1, R2) 49 [.int (nI d)] (p_prod T u)) : pdo fz S p T (R1 + 1, R2 + 25) 48 [.int (nI d)] (p_sum T u) := by
  intro M s h
  have loop : ∀ (m k : Nat) (e : rf_L), 60 - k ≤ m → k ≤ 60 → (e = [] ∨ ∃ x, e = [(3, Value.int x)]) → ∀ (M' : rf_M) (s' : pS), pz fz S p T M' s' → pz_fr p M M' → gx (cx0 fz) (R1 + 1, R2 + 25) 48 7 ((2, .int (nI k)) :: (e ++ [(0, .ref 169), (1, .int (nI d))])) [] (M', S) (fun r h' => r = none ∧ ∃ M'', h' = (M'', S) ∧ pz fz S p T M'' (p_loop (p_a T) (fun s => p_prod T u (p_adv T s)) (60 - k) s') ∧ pz_fr p M M'') := by
    intro m
    induction m with
    | zero =>
      intro k e h0 h1 he M' s' hq hfr
      have hk : k = 60 := by omega
      subst hk
      rcases he with rfl | ⟨x, rfl⟩
      · refine g1 (n := 1) rfl rfl rfl rfl ?_
        refine g1 (n := 2) rfl rfl rfl rfl ?_
        refine g_ic rfl (fun _ => ?_) (fun c => absurd (by decide) c)
        exact gx_ret rfl rfl ⟨rfl, M', rfl, hq, hfr⟩
      · refine g1 (n := 1) rfl rfl rfl rfl ?_
        refine g1 (n := 2) rfl rfl rfl rfl ?_
        refine g_ic rfl (fun _ => ?_) (fun c => absurd (by decide) c)
        exact gx_ret rfl rfl ⟨rfl, M', rfl, hq, hfr⟩
    | succ m ih =>
      intro k e h0 h1 he M' s' hq hfr
      by_cases hk : k = 60
      · subst hk
        rcases he with rfl | ⟨x, rfl⟩
        · refine g1 (n := 1) rfl rfl rfl rfl ?_
          refine g1 (n := 2) rfl rfl rfl rfl ?_
          refine g_ic rfl (fun _ => ?_) (fun c => absurd (by decide) c)
          exact gx_ret rfl rfl ⟨rfl, M', rfl, hq, hfr⟩
        · refine g1 (n := 1) rfl rfl rfl rfl ?_
          refine g1 (n := 2) rfl rfl rfl rfl ?_
          refine g_ic rfl (fun _ => ?_) (fun c => absurd (by decide) c)
          exact gx_ret rfl rfl ⟨rfl, M', rfl, hq, hfr⟩
      obtain ⟨f, hf⟩ : ∃ f, 60 - k = f + 1 := ⟨60 - k - 1, by omega⟩
      have hf2 : 60 - (k + 1) = f := by omega
      have stop : p_a T s' = false → p_loop (p_a T) (fun s => p_prod T u (p_adv T s)) (60 - k) s' = s' := by
        intro hc
        rw [hf]
        show (if p_a T s' = true then _ else _) = _
        rw [hc]; rfl
      have go1 : p_a T s' = true → p_loop (p_a T) (fun s => p_prod T u (p_adv T s)) (60 - k) s' = p_loop (p_a T) (fun s => p_prod T u (p_adv T s)) f (p_prod T u (p_adv T s')) := by
        intro hc
        rw [hf]
        show (if p_a T s' = true then _ else _) = _
        rw [hc]; rfl
      rcases he with rfl | ⟨x, rfl⟩
      · have bod : p_a T s' = true → gx (cx0 fz) (R1 + 1, R2 + 25) 48 31 [(2, .int (nI k)), (0, .ref 169), (1, .int (nI d))] [] (M', S) (fun r h' => r = none ∧ ∃ M'', h' = (M'', S) ∧ pz fz S p T M'' (p_loop (p_a T) (fun s => p_prod T u (p_adv T s)) (60 - k) s') ∧ pz_fr p M M'') := by
          intro hc
          refine g1 (n := 1) rfl rfl rfl rfl ?_
          refine m_iv (a := 169) (as := []) (rest := []) rfl (by decide) hq.1.1.1 rfl rfl (Nat.le_of_ble_eq_true rfl) ⟨by show 1 ≤ R1 + 1; omega, by show 1 + 19 ≤ R2 + 25; omega, Nat.le_of_ble_eq_true rfl⟩ ?_
          refine gx_room (gx_mono (p_token hq) ?_) (Nat.zero_le _) (Nat.zero_le _)
          rintro r h' ⟨rfl, rfl⟩
          refine g2 (n := 1) rfl rfl rfl rfl ?_
          refine g1 (n := 1) rfl rfl rfl rfl ?_
          refine m_iv (a := 169) (as := []) (rest := []) rfl (by decide) hq.1.1.1 rfl rfl (Nat.le_of_ble_eq_true rfl) ⟨by show 1 ≤ R1 + 1; omega, by show 1 + 19 ≤ R2 + 25; omega, Nat.le_of_ble_eq_true rfl⟩ ?_
          refine gx_room (gx_mono (p_advance M' s' hq) ?_) (Nat.zero_le _) (Nat.zero_le _)
          rintro r h' ⟨rfl, M1, rfl, q1, q2⟩
          refine g1 (n := 1) rfl rfl rfl rfl ?_
          refine g1 (n := 1) rfl rfl rfl rfl ?_
          refine m_iv (a := 169) (as := [.int (nI d)]) (rest := []) rfl (by decide) q1.1.1.1 rfl rfl (Nat.le_of_ble_eq_true rfl) ⟨by show 1 ≤ R1 + 1; omega, by show 4 + 19 ≤ R2 + 25; omega, Nat.le_of_ble_eq_true rfl⟩ ?_
          refine gx_room (gx_mono (hu M1 _ q1) ?_) (by show R1 ≤ R1 + 1 - 1; omega) (by show R2 ≤ R2 + 25 - (4 + 19); omega)
          rintro r h' ⟨rfl, M2, rfl, q3, q4⟩
          refine g1 (n := 1) rfl rfl rfl rfl ?_
          refine m_gf rfl q3.1.1.1 rfl (pz_prog q3) ?_
          refine g1 (n := 1) rfl rfl rfl rfl ?_
          refine g1 (n := 1) rfl rfl rfl rfl ?_
          refine m_iv (a := p) (as := [.int _, .int _]) (rest := []) rfl (by decide) q3.1.1.2.2.1 rfl rfl (Nat.le_of_ble_eq_true rfl) ⟨by show 1 ≤ R1 + 1; omega, by show 3 + 19 ≤ R2 + 25; omega, Nat.le_of_ble_eq_true rfl⟩ ?_
          refine gx_room (gx_mono (p_emit q3) ?_) (Nat.zero_le _) (Nat.zero_le _)
          rintro r h' ⟨rfl, M3, rfl, q5, q6⟩
          refine g2 (n := 3) rfl rfl rfl rfl ?_
          refine g3 rfl rfl rfl ?_
          rw [nI_suc (by omega), go1 hc]
          have := ih (k + 1) [(3, .int (kd T s'.1))] (by omega) (by omega) (Or.inr ⟨_, rfl⟩) M3 _ q5 (((hfr.trans q2).trans q4).trans q6)
          rw [hf2] at this
          exact this
        refine g1 (n := 1) rfl rfl rfl rfl ?_
        refine g1 (n := 2) rfl rfl rfl rfl ?_
        refine g_ic rfl (fun c => ?_) (fun c => ?_)
        · have c : (60 : Int) ≤ (nI k).toInt := (rf_cc_iff _ 60 .ge).mp c
          rw [nI_int (by omega)] at c
          exact absurd c (by omega)
        clear c
        refine g1 (n := 1) rfl rfl rfl rfl ?_
        refine g1 (n := 2) rfl rfl rfl rfl ?_
        refine m_iv (a := 169) (as := [.int 43]) (rest := []) rfl (by decide) hq.1.1.1 rfl rfl (Nat.le_of_ble_eq_true rfl) ⟨by show 1 ≤ R1 + 1; omega, by show 2 + 19 ≤ R2 + 25; omega, Nat.le_of_ble_eq_true rfl⟩ ?_
        refine gx_room (gx_mono (p_isAt hq) ?_) (Nat.zero_le _) (Nat.zero_le _)
        rintro r h' ⟨rfl, rfl⟩
        refine g_if rfl (fun c => bod (by unfold p_a; rw [bI_yes2 c]; simp)) (fun c => ?_)
        have e0 := bI_no2 c
        refine g1 (n := 1) rfl rfl rfl rfl ?_
        refine g1 (n := 2) rfl rfl rfl rfl ?_
        refine m_iv (a := 169) (as := [.int 45]) (rest := []) rfl (by decide) hq.1.1.1 rfl rfl (Nat.le_of_ble_eq_true rfl) ⟨by show 1 ≤ R1 + 1; omega, by show 2 + 19 ≤ R2 + 25; omega, Nat.le_of_ble_eq_true rfl⟩ ?_
        refine gx_room (gx_mono (p_isAt hq) ?_) (Nat.zero_le _) (Nat.zero_le _)
        rintro r h' ⟨rfl, rfl⟩
        refine g_if rfl (fun c => ?_) (fun c => bod (by unfold p_a; rw [bI_yes c]; simp))
        have e1 := bI_no c
        refine gx_ret rfl rfl ⟨rfl, M', rfl, ?_, hfr⟩
        rw [stop (by unfold p_a; rw [e0, e1]; rfl)]
        exact hq
      · have bod : p_a T s' = true → gx (cx0 fz) (R1 + 1, R2 + 25) 48 31 [(2, .int (nI k)), (3, .int x), (0, .ref 169), (1, .int (nI d))] [] (M', S) (fun r h' => r = none ∧ ∃ M'', h' = (M'', S) ∧ pz fz S p T M'' (p_loop (p_a T) (fun s => p_prod T u (p_adv T s)) (60 - k) s') ∧ pz_fr p M M'') := by
          intro hc
          refine g1 (n := 1) rfl rfl rfl rfl ?_
          refine m_iv (a := 169) (as := []) (rest := []) rfl (by decide) hq.1.1.1 rfl rfl (Nat.le_of_ble_eq_true rfl) ⟨by show 1 ≤ R1 + 1; omega, by show 1 + 19 ≤ R2 + 25; omega, Nat.le_of_ble_eq_true rfl⟩ ?_
          refine gx_room (gx_mono (p_token hq) ?_) (Nat.zero_le _) (Nat.zero_le _)
          rintro r h' ⟨rfl, rfl⟩
          refine g2 (n := 1) rfl rfl rfl rfl ?_
          refine g1 (n := 1) rfl rfl rfl rfl ?_
          refine m_iv (a := 169) (as := []) (rest := []) rfl (by decide) hq.1.1.1 rfl rfl (Nat.le_of_ble_eq_true rfl) ⟨by show 1 ≤ R1 + 1; omega, by show 1 + 19 ≤ R2 + 25; omega, Nat.le_of_ble_eq_true rfl⟩ ?_
          refine gx_room (gx_mono (p_advance M' s' hq) ?_) (Nat.zero_le _) (Nat.zero_le _)
          rintro r h' ⟨rfl, M1, rfl, q1, q2⟩
          refine g1 (n := 1) rfl rfl rfl rfl ?_
          refine g1 (n := 1) rfl rfl rfl rfl ?_
          refine m_iv (a := 169) (as := [.int (nI d)]) (rest := []) rfl (by decide) q1.1.1.1 rfl rfl (Nat.le_of_ble_eq_true rfl) ⟨by show 1 ≤ R1 + 1; omega, by show 4 + 19 ≤ R2 + 25; omega, Nat.le_of_ble_eq_true rfl⟩ ?_
          refine gx_room (gx_mono (hu M1 _ q1) ?_) (by show R1 ≤ R1 + 1 - 1; omega) (by show R2 ≤ R2 + 25 - (4 + 19); omega)
          rintro r h' ⟨rfl, M2, rfl, q3, q4⟩
          refine g1 (n := 1) rfl rfl rfl rfl ?_
          refine m_gf rfl q3.1.1.1 rfl (pz_prog q3) ?_
          refine g1 (n := 1) rfl rfl rfl rfl ?_
          refine g1 (n := 1) rfl rfl rfl rfl ?_
          refine m_iv (a := p) (as := [.int _, .int _]) (rest := []) rfl (by decide) q3.1.1.2.2.1 rfl rfl (Nat.le_of_ble_eq_true rfl) ⟨by show 1 ≤ R1 + 1; omega, by show 3 + 19 ≤ R2 + 25; omega, Nat.le_of_ble_eq_true rfl⟩ ?_
          refine gx_room (gx_mono (p_emit q3) ?_) (Nat.zero_le _) (Nat.zero_le _)
          rintro r h' ⟨rfl, M3, rfl, q5, q6⟩
          refine g2 (n := 3) rfl rfl rfl rfl ?_
          refine g3 rfl rfl rfl ?_
          rw [nI_suc (by omega), go1 hc]
          have := ih (k + 1) [(3, .int (kd T s'.1))] (by omega) (by omega) (Or.inr ⟨_, rfl⟩) M3 _ q5 (((hfr.trans q2).trans q4).trans q6)
          rw [hf2] at this
          exact this
        refine g1 (n := 1) rfl rfl rfl rfl ?_
        refine g1 (n := 2) rfl rfl rfl rfl ?_
        refine g_ic rfl (fun c => ?_) (fun c => ?_)
        · have c : (60 : Int) ≤ (nI k).toInt := (rf_cc_iff _ 60 .ge).mp c
          rw [nI_int (by omega)] at c
          exact absurd c (by omega)
        clear c
        refine g1 (n := 1) rfl rfl rfl rfl ?_
        refine g1 (n := 2) rfl rfl rfl rfl ?_
        refine m_iv (a := 169) (as := [.int 43]) (rest := []) rfl (by decide) hq.1.1.1 rfl rfl (Nat.le_of_ble_eq_true rfl) ⟨by show 1 ≤ R1 + 1; omega, by show 2 + 19 ≤ R2 + 25; omega, Nat.le_of_ble_eq_true rfl⟩ ?_
        refine gx_room (gx_mono (p_isAt hq) ?_) (Nat.zero_le _) (Nat.zero_le _)
        rintro r h' ⟨rfl, rfl⟩
        refine g_if rfl (fun c => bod (by unfold p_a; rw [bI_yes2 c]; simp)) (fun c => ?_)
        have e0 := bI_no2 c
        refine g1 (n := 1) rfl rfl rfl rfl ?_
        refine g1 (n := 2) rfl rfl rfl rfl ?_
        refine m_iv (a := 169) (as := [.int 45]) (rest := []) rfl (by decide) hq.1.1.1 rfl rfl (Nat.le_of_ble_eq_true rfl) ⟨by show 1 ≤ R1 + 1; omega, by show 2 + 19 ≤ R2 + 25; omega, Nat.le_of_ble_eq_true rfl⟩ ?_
        refine gx_room (gx_mono (p_isAt hq) ?_) (Nat.zero_le _) (Nat.zero_le _)
        rintro r h' ⟨rfl, rfl⟩
        refine g_if rfl (fun c => ?_) (fun c => bod (by unfold p_a; rw [bI_yes c]; simp))
        have e1 := bI_no c
        refine gx_ret rfl rfl ⟨rfl, M', rfl, ?_, hfr⟩
        rw [stop (by unfold p_a; rw [e0, e1]; rfl)]
        exact hq
  have hq := h
  refine g1 (n := 1) rfl rfl rfl rfl ?_
  refine g1 (n := 1) rfl rfl rfl rfl ?_
  refine m_iv (a := 169) (as := [.int (nI d)]) (rest := []) rfl (by decide) hq.1.1.1 rfl rfl (Nat.le_of_ble_eq_true rfl) ⟨by show 1 ≤ R1 + 1; omega, by show 4 + 19 ≤ R2 + 25; omega, Nat.le_of_ble_eq_true rfl⟩ ?_
  refine gx_room (gx_mono (hu M s h) ?_) (by show R1 ≤ R1 + 1 - 1; omega) (by show R2 ≤ R2 + 25 - (4 + 19); omega)
  rintro r h' ⟨rfl, M1, rfl, q1, q2⟩
  refine g1 (n := 1) rfl rfl rfl rfl ?_
  refine g2 (n := 1) rfl rfl rfl rfl ?_
  exact loop 60 0 [] (by omega) (by omega) (Or.inl rfl) M1 _ q1 q2
end PE
