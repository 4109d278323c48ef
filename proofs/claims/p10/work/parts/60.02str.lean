def sp_val (b : Nat → Int32) (i : Nat) : Nat → Int32
  | 0 => 0
  | k + 1 => sp_val b i k * 10 + (b (i + k) - 48)
theorem nI_suc {k : Nat} (h : k ≤ 1000) : nI k + Int32.ofInt 1 = nI (k + 1) := by
  refine Int32.toInt_inj.mp ?_
  rw [Int32.toInt_add, nI_int (by omega), nI_int (by omega), Int32.toInt_ofInt_of_le (by omega) (by omega)]
  exact Int.bmod_eq_of_le (by omega) (by omega)
theorem nI_sub {i j : Nat} (h : i ≤ j) (hj : j ≤ 1000) : (nI j - nI i).toInt = ((j - i : Nat) : Int) := by
  rw [Int32.toInt_sub, nI_int (by omega), nI_int (by omega)]
  rw [Int.bmod_eq_of_le (by omega) (by omega)]
  omega
/-- what the scanner's own slots say: next, length, last -/
def sc_at (M : rf_M) (i n l : Nat) : Prop := M.1 170 6 = nI i ∧ M.1 170 5 = nI n ∧ M.1 170 3 = nI l
def sc_let (M : rf_M) (i n l : Nat) : rf_M := if sp_e sp_l (M.1 23) n i - i = 1 then rf_wi (rf_wi (rf_wi M 170 6 (nI (sp_e sp_l (M.1 23) n i))) 171 l 1) 173 l (M.1 23 i - 97) else rf_wi (rf_wi M 170 6 (nI (sp_e sp_l (M.1 23) n i))) 171 l (sp_word (M.1 23) i (sp_e sp_l (M.1 23) n i))
def sc_dig (M : rf_M) (i n l : Nat) : rf_M := rf_wi (rf_wi (rf_wi M 170 6 (nI (sp_e sp_d (M.1 23) n i))) 171 l (if 9 < sp_e sp_d (M.1 23) n i - i then 3 else 2)) 173 l (sp_val (M.1 23) i (min (sp_e sp_d (M.1 23) n i - i) 9))
section SC3
variable {fz : Bool} {S : gS} {M : rf_M}
theorem sc_letters {i n l : Nat} (hS : sc_S fz S) (hM : sc_M fz S M) (hat : sc_at M i n l) (hin : i ≤ n) (hn : n ≤ 800) (hl : l ≤ 800) : gx (cx0 fz) (6, 190) 22 0 [(0, .ref 170)] [] (M, S) (fun r h' => r = none ∧ h' = (sc_let M i n l, S)) := by
  obtain ⟨a1, a2, a3⟩ := hat
  have r0 : M.2.2 170 0 = some 171 := hM.1.1
  have r2 : M.2.2 170 2 = some 173 := hM.1.2.2.1
  have r4 : M.2.2 170 4 = some 23 := hM.1.2.2.2
  have loop : ∀ (m k : Nat), n - k ≤ m → i ≤ k → k ≤ n → sp_e sp_l (M.1 23) n k = sp_e sp_l (M.1 23) n i → gx (cx0 fz) (6, 190) 22 5 [(1, .int (nI i)), (0, .ref 170)] [] (rf_wi M 170 6 (nI k), S) (fun r h' => r = none ∧ h' = (sc_let M i n l, S)) := by
    -- behind the loop
    have after : ∀ k, i ≤ k → k ≤ n → k = sp_e sp_l (M.1 23) n i → gx (cx0 fz) (6, 190) 22 44 [(1, .int (nI i)), (0, .ref 170)] [] (rf_wi M 170 6 (nI k), S) (fun r h' => r = none ∧ h' = (sc_let M i n l, S)) := by
      intro k h1 h2 h3
      refine g1 (n := 1) rfl rfl rfl rfl ?_
      refine m_gf rfl hS.1 rfl (v := .int (nI k)) rfl ?_
      refine g1 (n := 1) rfl rfl rfl rfl ?_
      refine g0 rfl rfl rfl ?_
      refine g1 (n := 1) rfl rfl rfl rfl ?_
      refine g_ic rfl (fun c => ?_) (fun c => ?_)
      · have c : ¬ (nI k - nI i).toInt = 1 := (rf_cc_iff _ _ .ne).mp c
        rw [nI_sub h1 (by omega)] at c
        refine g1 (n := 1) rfl rfl rfl rfl ?_
        refine m_gf rfl hS.1 rfl (v := .ref 171) (by show va_rf (M.2.2 170 0) = _; rw [r0]; rfl) ?_
        refine g1 (n := 1) rfl rfl rfl rfl ?_
        refine m_gf rfl hS.1 rfl (v := .int (nI l)) (by show Value.int (M.1 170 3) = _; rw [a3]) ?_
        refine g1 (n := 1) rfl rfl rfl rfl ?_
        refine g1 (n := 1) rfl rfl rfl rfl ?_
        refine m_iv (a := 170) (as := [.int (nI i)]) (rest := [.int (nI l), .ref 171]) rfl (by decide) hS.1 rfl rfl (Nat.le_of_ble_eq_true rfl) ⟨Nat.le_of_ble_eq_true rfl, Nat.le_of_ble_eq_true rfl, Nat.le_of_ble_eq_true rfl⟩ ?_
        refine gx_room (gx_mono (sc_word (M := rf_wi M 170 6 (nI k)) hS (sc_M_wi (by omega) hM) (j := k) rfl h1 (by omega)) ?_) (Nat.le_of_ble_eq_true rfl) (Nat.le_of_ble_eq_true rfl)
        rintro r h' ⟨rfl, rfl⟩
        refine m_is rfl hS.2.1 (nI_int (by omega)) (by omega) ?_
        refine gx_ret rfl rfl ⟨rfl, ?_⟩
        unfold sc_let
        rw [← h3, if_neg (by omega)]
        rfl
      · have c : (nI k - nI i).toInt = 1 := Classical.byContradiction fun z => c ((rf_cc_iff _ _ .ne).mpr z)
        rw [nI_sub h1 (by omega)] at c
        refine g1 (n := 1) rfl rfl rfl rfl ?_
        refine m_gf rfl hS.1 rfl (v := .ref 171) (by show va_rf (M.2.2 170 0) = _; rw [r0]; rfl) ?_
        refine g1 (n := 1) rfl rfl rfl rfl ?_
        refine m_gf rfl hS.1 rfl (v := .int (nI l)) (by show Value.int (M.1 170 3) = _; rw [a3]) ?_
        refine g1 (n := 1) rfl rfl rfl rfl ?_
        refine m_is rfl hS.2.1 (nI_int (by omega)) (by omega) ?_
        refine g1 (n := 1) rfl rfl rfl rfl ?_
        refine m_gf rfl hS.1 rfl (v := .ref 173) (by show va_rf (M.2.2 170 2) = _; rw [r2]; rfl) ?_
        refine g1 (n := 1) rfl rfl rfl rfl ?_
        refine m_gf rfl hS.1 rfl (v := .int (nI l)) (by show Value.int (M.1 170 3) = _; rw [a3]) ?_
        refine g1 (n := 1) rfl rfl rfl rfl ?_
        refine m_gf rfl hS.1 rfl (v := .ref 23) (by show va_rf (M.2.2 170 4) = _; rw [r4]; rfl) ?_
        refine g1 (n := 1) rfl rfl rfl rfl ?_
        refine m_il rfl hS.2.2.2.2.oa (nI_int (by omega)) (by omega) ?_
        refine g1 (n := 2) rfl rfl rfl rfl ?_
        refine g0 rfl rfl rfl ?_
        refine m_is rfl hS.2.2.2.1 (nI_int (by omega)) (by omega) ?_
        refine g3 rfl rfl rfl ?_
        refine gx_ret rfl rfl ⟨rfl, ?_⟩
        unfold sc_let
        rw [← h3, if_pos (by omega)]
        rfl
    intro m
    induction m with
    | zero =>
      intro k h0 h1 h2 h3
      have hk : k = n := by omega
      refine g1 (n := 1) rfl rfl rfl rfl ?_
      refine m_gf rfl hS.1 rfl (v := .int (nI k)) rfl ?_
      refine g1 (n := 1) rfl rfl rfl rfl ?_
      refine m_gf rfl hS.1 rfl (v := .int (nI n)) (by show Value.int (M.1 170 5) = _; rw [a2]) ?_
      refine g_ic rfl (fun _ => ?_) (fun c => absurd ((rf_cc_iff _ _ .ge).mpr (by rw [hk]; exact Int.le_refl _)) c)
      exact after k h1 h2 (by rw [← h3]; exact (sp_e_no (by omega)).symm)
    | succ m ih =>
      intro k h0 h1 h2 h3
      refine g1 (n := 1) rfl rfl rfl rfl ?_
      refine m_gf rfl hS.1 rfl (v := .int (nI k)) rfl ?_
      refine g1 (n := 1) rfl rfl rfl rfl ?_
      refine m_gf rfl hS.1 rfl (v := .int (nI n)) (by show Value.int (M.1 170 5) = _; rw [a2]) ?_
      refine g_ic rfl (fun c => ?_) (fun c => ?_)
      · have c : (nI n).toInt ≤ (nI k).toInt := (rf_cc_iff _ _ .ge).mp c
        rw [nI_int (by omega), nI_int (by omega)] at c
        exact after k h1 h2 (by rw [← h3]; exact (sp_e_no (by omega)).symm)
      · have c : ¬ (nI n).toInt ≤ (nI k).toInt := fun z => c ((rf_cc_iff _ _ .ge).mpr z)
        rw [nI_int (by omega), nI_int (by omega)] at c
        refine g1 (n := 1) rfl rfl rfl rfl ?_
        refine m_gf rfl hS.1 rfl (v := .ref 23) (by show va_rf (M.2.2 170 4) = _; rw [r4]; rfl) ?_
        refine g1 (n := 1) rfl rfl rfl rfl ?_
        refine m_gf rfl hS.1 rfl (v := .int (nI k)) rfl ?_
        refine m_il rfl hS.2.2.2.2.oa (nI_int (by omega)) (by omega) ?_
        refine m_st (as := [.int (M.1 23 k)]) (rest := []) rfl (by decide) rfl (Nat.le_of_ble_eq_true rfl) ⟨Nat.le_of_ble_eq_true rfl, Nat.le_of_ble_eq_true rfl, Nat.le_of_ble_eq_true rfl⟩ ?_
        refine gx_room (gx_mono (sc_sl (x := M.1 23 k)) ?_) (Nat.zero_le _) (Nat.zero_le _)
        rintro r h' ⟨rfl, rfl⟩
        refine g_if rfl (fun c2 => ?_) (fun c2 => ?_)
        · have c2 := bI_no c2
          exact after k h1 h2 (by rw [← h3]; exact (sp_e_no (by rw [c2]; simp)).symm)
        · have c2 := bI_yes c2
          refine g1 (n := 1) rfl rfl rfl rfl ?_
          refine g0 rfl rfl rfl ?_
          refine m_gf rfl hS.1 rfl (v := .int (nI k)) rfl ?_
          refine g1 (n := 1) rfl rfl rfl rfl ?_
          refine g0 rfl rfl rfl ?_
          refine m_pf rfl hS.1 rfl (M' := rf_wi (rf_wi M 170 6 (nI k)) 170 6 (nI k + Int32.ofInt 1)) rfl ?_
          refine g3 rfl rfl rfl ?_
          rw [rf_wi_wi, nI_suc (by omega)]
          exact ih (k + 1) (by omega) (by omega) (by omega) (by rw [← h3]; exact (sp_e_yes (by omega) c2).symm)
  refine g1 (n := 1) rfl rfl rfl rfl ?_
  refine m_gf rfl hS.1 rfl (v := .int (nI i)) (by show Value.int (M.1 170 6) = _; rw [a1]) ?_
  refine g2 (n := 1) rfl rfl rfl rfl ?_
  have := loop (n - i) i (Nat.le_refl _) (Nat.le_refl _) hin rfl
  rw [rf_wi_id a1] at this
  exact this
theorem sc_digits {i n l : Nat} (hS : sc_S fz S) (hM : sc_M fz S M) (hat : sc_at M i n l) (hin : i ≤ n) (hn : n ≤ 800) (hl : l ≤ 800) : gx (cx0 fz) (6, 190) 33 0 [(0, .ref 170)] [] (M, S) (fun r h' => r = none ∧ h' = (sc_dig M i n l, S)) := by
  obtain ⟨a1, a2, a3⟩ := hat
  have r0 : M.2.2 170 0 = some 171 := hM.1.1
  have r2 : M.2.2 170 2 = some 173 := hM.1.2.2.1
  have r4 : M.2.2 170 4 = some 23 := hM.1.2.2.2
  have loop : ∀ (m k : Nat), n - k ≤ m → i ≤ k → k ≤ n → sp_e sp_d (M.1 23) n k = sp_e sp_d (M.1 23) n i → gx (cx0 fz) (6, 190) 33 7 [(2, .int (sp_val (M.1 23) i (min (k - i) 9))), (1, .int (nI i)), (0, .ref 170)] [] (rf_wi M 170 6 (nI k), S) (fun r h' => r = none ∧ h' = (sc_dig M i n l, S)) := by
    have after : ∀ k, i ≤ k → k ≤ n → k = sp_e sp_d (M.1 23) n i → gx (cx0 fz) (6, 190) 33 75 [(2, .int (sp_val (M.1 23) i (min (k - i) 9))), (1, .int (nI i)), (0, .ref 170)] [] (rf_wi M 170 6 (nI k), S) (fun r h' => r = none ∧ h' = (sc_dig M i n l, S)) := by
      intro k h1 h2 h3
      have fin : ∀ x : Int32, x = (if 9 < k - i then 3 else 2) → gx (cx0 fz) (6, 190) 33 99 [(2, .int (sp_val (M.1 23) i (min (k - i) 9))), (1, .int (nI i)), (0, .ref 170)] [.int x, .int (nI l), .ref 171] (rf_wi M 170 6 (nI k), S) (fun r h' => r = none ∧ h' = (sc_dig M i n l, S)) := by
        intro x hx
        refine m_is rfl hS.2.1 (nI_int (by omega)) (by omega) ?_
        refine g1 (n := 1) rfl rfl rfl rfl ?_
        refine m_gf rfl hS.1 rfl (v := .ref 173) (by show va_rf (M.2.2 170 2) = _; rw [r2]; rfl) ?_
        refine g1 (n := 1) rfl rfl rfl rfl ?_
        refine m_gf rfl hS.1 rfl (v := .int (nI l)) (by show Value.int (M.1 170 3) = _; rw [a3]) ?_
        refine g1 (n := 1) rfl rfl rfl rfl ?_
        refine m_is rfl hS.2.2.2.1 (nI_int (by omega)) (by omega) ?_
        refine gx_ret rfl rfl ⟨rfl, ?_⟩
        unfold sc_dig
        rw [← h3, hx]
      refine g1 (n := 1) rfl rfl rfl rfl ?_
      refine m_gf rfl hS.1 rfl (v := .ref 171) (by show va_rf (M.2.2 170 0) = _; rw [r0]; rfl) ?_
      refine g1 (n := 1) rfl rfl rfl rfl ?_
      refine m_gf rfl hS.1 rfl (v := .int (nI l)) (by show Value.int (M.1 170 3) = _; rw [a3]) ?_
      refine g1 (n := 1) rfl rfl rfl rfl ?_
      refine m_gf rfl hS.1 rfl (v := .int (nI k)) rfl ?_
      refine g1 (n := 1) rfl rfl rfl rfl ?_
      refine g0 rfl rfl rfl ?_
      refine g1 (n := 2) rfl rfl rfl rfl ?_
      refine g_ic rfl (fun c => ?_) (fun c => ?_)
      · have c : (nI k - nI i).toInt ≤ 9 := (rf_cc_iff _ 9 .le).mp c
        rw [nI_sub h1 (by omega)] at c
        refine g1 (n := 1) rfl rfl rfl rfl ?_
        exact fin _ (by rw [if_neg (by omega)]; rfl)
      · have c : ¬ (nI k - nI i).toInt ≤ 9 := fun z => c ((rf_cc_iff _ 9 .le).mpr z)
        rw [nI_sub h1 (by omega)] at c
        refine g1 (n := 1) rfl rfl rfl rfl ?_
        refine g3 rfl rfl rfl ?_
        exact fin _ (by rw [if_pos (by omega)]; rfl)
    intro m
    induction m with
    | zero =>
      intro k h0 h1 h2 h3
      have hk : k = n := by omega
      refine g1 (n := 1) rfl rfl rfl rfl ?_
      refine m_gf rfl hS.1 rfl (v := .int (nI k)) rfl ?_
      refine g1 (n := 1) rfl rfl rfl rfl ?_
      refine m_gf rfl hS.1 rfl (v := .int (nI n)) (by show Value.int (M.1 170 5) = _; rw [a2]) ?_
      refine g_ic rfl (fun _ => ?_) (fun c => absurd ((rf_cc_iff _ _ .ge).mpr (by rw [hk]; exact Int.le_refl _)) c)
      exact after k h1 h2 (by rw [← h3]; exact (sp_e_no (by omega)).symm)
    | succ m ih =>
      intro k h0 h1 h2 h3
      refine g1 (n := 1) rfl rfl rfl rfl ?_
      refine m_gf rfl hS.1 rfl (v := .int (nI k)) rfl ?_
      refine g1 (n := 1) rfl rfl rfl rfl ?_
      refine m_gf rfl hS.1 rfl (v := .int (nI n)) (by show Value.int (M.1 170 5) = _; rw [a2]) ?_
      refine g_ic rfl (fun c => ?_) (fun c => ?_)
      · have c : (nI n).toInt ≤ (nI k).toInt := (rf_cc_iff _ _ .ge).mp c
        rw [nI_int (by omega), nI_int (by omega)] at c
        exact after k h1 h2 (by rw [← h3]; exact (sp_e_no (by omega)).symm)
      · have c : ¬ (nI n).toInt ≤ (nI k).toInt := fun z => c ((rf_cc_iff _ _ .ge).mpr z)
        rw [nI_int (by omega), nI_int (by omega)] at c
        refine g1 (n := 1) rfl rfl rfl rfl ?_
        refine m_gf rfl hS.1 rfl (v := .ref 23) (by show va_rf (M.2.2 170 4) = _; rw [r4]; rfl) ?_
        refine g1 (n := 1) rfl rfl rfl rfl ?_
        refine m_gf rfl hS.1 rfl (v := .int (nI k)) rfl ?_
        refine m_il rfl hS.2.2.2.2.oa (nI_int (by omega)) (by omega) ?_
        refine m_st (as := [.int (M.1 23 k)]) (rest := []) rfl (by decide) rfl (Nat.le_of_ble_eq_true rfl) ⟨Nat.le_of_ble_eq_true rfl, Nat.le_of_ble_eq_true rfl, Nat.le_of_ble_eq_true rfl⟩ ?_
        refine gx_room (gx_mono (sc_dg (x := M.1 23 k)) ?_) (Nat.zero_le _) (Nat.zero_le _)
        rintro r h' ⟨rfl, rfl⟩
        refine g_if rfl (fun c2 => ?_) (fun c2 => ?_)
        · have c2 := bI_no c2
          exact after k h1 h2 (by rw [← h3]; exact (sp_e_no (by rw [c2]; simp)).symm)
        · have c2 := bI_yes c2
          have step : ∀ x : Int32, x = sp_val (M.1 23) i (min (k + 1 - i) 9) → gx (cx0 fz) (6, 190) 33 62 [(2, .int x), (1, .int (nI i)), (0, .ref 170)] [] (rf_wi M 170 6 (nI k), S) (fun r h' => r = none ∧ h' = (sc_dig M i n l, S)) := by
            intro x hx
            refine g1 (n := 1) rfl rfl rfl rfl ?_
            refine g0 rfl rfl rfl ?_
            refine m_gf rfl hS.1 rfl (v := .int (nI k)) rfl ?_
            refine g1 (n := 1) rfl rfl rfl rfl ?_
            refine g0 rfl rfl rfl ?_
            refine m_pf rfl hS.1 rfl (M' := rf_wi (rf_wi M 170 6 (nI k)) 170 6 (nI k + Int32.ofInt 1)) rfl ?_
            refine g3 rfl rfl rfl ?_
            rw [rf_wi_wi, nI_suc (by omega), hx]
            exact ih (k + 1) (by omega) (by omega) (by omega) (by rw [← h3]; exact (sp_e_yes (by omega) c2).symm)
          refine g1 (n := 1) rfl rfl rfl rfl ?_
          refine m_gf rfl hS.1 rfl (v := .int (nI k)) rfl ?_
          refine g1 (n := 1) rfl rfl rfl rfl ?_
          refine g0 rfl rfl rfl ?_
          refine g1 (n := 2) rfl rfl rfl rfl ?_
          refine g_ic rfl (fun c3 => ?_) (fun c3 => ?_)
          · have c3 : (9 : Int) ≤ (nI k - nI i).toInt := (rf_cc_iff _ 9 .ge).mp c3
            rw [nI_sub h1 (by omega)] at c3
            exact step _ (by rw [show min (k + 1 - i) 9 = min (k - i) 9 by omega])
          · have c3 : ¬ (9 : Int) ≤ (nI k - nI i).toInt := fun z => c3 ((rf_cc_iff _ 9 .ge).mpr z)
            rw [nI_sub h1 (by omega)] at c3
            refine g1 (n := 1) rfl rfl rfl rfl ?_
            refine g1 (n := 2) rfl rfl rfl rfl ?_
            refine g0 rfl rfl rfl ?_
            refine g1 (n := 1) rfl rfl rfl rfl ?_
            refine m_gf rfl hS.1 rfl (v := .ref 23) (by show va_rf (M.2.2 170 4) = _; rw [r4]; rfl) ?_
            refine g1 (n := 1) rfl rfl rfl rfl ?_
            refine m_gf rfl hS.1 rfl (v := .int (nI k)) rfl ?_
            refine m_il rfl hS.2.2.2.2.oa (nI_int (by omega)) (by omega) ?_
            refine g1 (n := 2) rfl rfl rfl rfl ?_
            refine g0 rfl rfl rfl ?_
            refine g0 rfl rfl rfl ?_
            refine g2 (n := 1) rfl rfl rfl rfl ?_
            refine step _ ?_
            rw [show min (k + 1 - i) 9 = min (k - i) 9 + 1 by omega]
            show _ = sp_val (M.1 23) i (min (k - i) 9) * 10 + (M.1 23 (i + min (k - i) 9) - 48)
            rw [show i + min (k - i) 9 = k by omega]
            rfl
  refine g1 (n := 1) rfl rfl rfl rfl ?_
  refine m_gf rfl hS.1 rfl (v := .int (nI i)) (by show Value.int (M.1 170 6) = _; rw [a1]) ?_
  refine g2 (n := 1) rfl rfl rfl rfl ?_
  refine g1 (n := 1) rfl rfl rfl rfl ?_
  refine g2 (n := 1) rfl rfl rfl rfl ?_
  have := loop (n - i) i (Nat.le_refl _) (Nat.le_refl _) hin rfl
  rw [rf_wi_id a1, show min (i - i) 9 = 0 by omega] at this
  exact this
end SC3
/-! one token; the whole text -/
