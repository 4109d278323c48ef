/-! one token; the whole text -/
def sc_tok (M : rf_M) (i n l : Nat) : rf_M := if sp_l (M.1 23 i) = true then sc_let (rf_wi (rf_wi M 172 l (nI i)) 173 l 0) i n l else if sp_d (M.1 23 i) = true then sc_dig (rf_wi (rf_wi M 172 l (nI i)) 173 l 0) i n l else rf_wi (rf_wi (rf_wi (rf_wi M 172 l (nI i)) 173 l 0) 171 l (if sp_s (M.1 23 i) = true then M.1 23 i else 3)) 170 6 (nI (i + 1))
/-- a token: what it is, its number, where it ends -/
def sp_tok (b : Nat → Int32) (n i : Nat) : Int32 × Int32 × Nat := if sp_l (b i) = true then (if sp_e sp_l b n i - i = 1 then (1, b i - 97, sp_e sp_l b n i) else (sp_word b i (sp_e sp_l b n i), 0, sp_e sp_l b n i)) else if sp_d (b i) = true then ((if 9 < sp_e sp_d b n i - i then 3 else 2), sp_val b i (min (sp_e sp_d b n i - i) 9), sp_e sp_d b n i) else ((if sp_s (b i) = true then b i else 3), 0, i + 1)
def sp_bl (x : Int32) : Bool := decide (x.toInt = 32) || decide (x.toInt = 10)
/-- the tokens from i on: what, where, number -/
def sp_scan (b : Nat → Int32) (n : Nat) : Nat → Nat → List (Int32 × Nat × Int32)
  | 0, _ => []
  | f + 1, i => if i < n then (if sp_bl (b i) = true then sp_scan b n f (i + 1) else ((sp_tok b n i).1, i, (sp_tok b n i).2.1) :: sp_scan b n f (sp_tok b n i).2.2) else []
section SC4
variable {fz : Bool} {S : gS} {M : rf_M}
theorem rf_wi_at (M : rf_M) (a k : Nat) (x : Int32) : (rf_wi M a k x).1 a k = x := rf_up2s _ _ _ _
theorem rf_wi_of (M : rf_M) {a k a' k' : Nat} (x : Int32) (h : a' ≠ a ∨ k' ≠ k) : (rf_wi M a k x).1 a' k' = M.1 a' k' := rf_up2 _ _ h
theorem sc_readToken {i n l : Nat} (hS : sc_S fz S) (hM : sc_M fz S M) (hat : sc_at M i n l) (hin : i < n) (hn : n ≤ 800) (hl : l ≤ 800) : gx (cx0 fz) (7, 220) 20 0 [(0, .ref 170)] [] (M, S) (fun r h' => r = none ∧ h' = (sc_tok M i n l, S)) := by
  obtain ⟨a1, a2, a3⟩ := hat
  have r0 : M.2.2 170 0 = some 171 := hM.1.1
  have r1 : M.2.2 170 1 = some 172 := hM.1.2.1
  have r2 : M.2.2 170 2 = some 173 := hM.1.2.2.1
  have r4 : M.2.2 170 4 = some 23 := hM.1.2.2.2
  refine g1 (n := 1) rfl rfl rfl rfl ?_
  refine m_gf rfl hS.1 rfl (v := .ref 172) (by show va_rf (M.2.2 170 1) = _; rw [r1]; rfl) ?_
  refine g1 (n := 1) rfl rfl rfl rfl ?_
  refine m_gf rfl hS.1 rfl (v := .int (nI l)) (by show Value.int (M.1 170 3) = _; rw [a3]) ?_
  refine g1 (n := 1) rfl rfl rfl rfl ?_
  refine m_gf rfl hS.1 rfl (v := .int (nI i)) (by show Value.int (M.1 170 6) = _; rw [a1]) ?_
  refine m_is rfl hS.2.2.1 (nI_int (by omega)) (by omega) ?_
  refine g1 (n := 1) rfl rfl rfl rfl ?_
  refine m_gf rfl hS.1 rfl (v := .ref 173) (by show va_rf (M.2.2 170 2) = _; rw [r2]; rfl) ?_
  refine g1 (n := 1) rfl rfl rfl rfl ?_
  refine m_gf rfl hS.1 rfl (v := .int (nI l)) (by show Value.int (M.1 170 3) = _; rw [a3]) ?_
  refine g1 (n := 1) rfl rfl rfl rfl ?_
  refine m_is rfl hS.2.2.2.1 (nI_int (by omega)) (by omega) ?_
  have hM0 : sc_M fz S (rf_wi (rf_wi M 172 l (nI i)) 173 l (Int32.ofInt 0)) := sc_M_wi (by omega) (sc_M_wi (by omega) hM)
  have hat0 : sc_at (rf_wi (rf_wi M 172 l (nI i)) 173 l (Int32.ofInt 0)) i n l := ⟨a1, a2, a3⟩
  refine g1 (n := 1) rfl rfl rfl rfl ?_
  refine m_gf rfl hS.1 rfl (v := .ref 23) (by show va_rf (M.2.2 170 4) = _; rw [r4]; rfl) ?_
  refine g1 (n := 1) rfl rfl rfl rfl ?_
  refine m_gf rfl hS.1 rfl (v := .int (nI i)) (by show Value.int (M.1 170 6) = _; rw [a1]) ?_
  refine m_il rfl hS.2.2.2.2.oa (nI_int (by omega)) (by omega) ?_
  refine m_st (as := [.int (M.1 23 i)]) (rest := []) rfl (by decide) rfl (Nat.le_of_ble_eq_true rfl) ⟨Nat.le_of_ble_eq_true rfl, Nat.le_of_ble_eq_true rfl, Nat.le_of_ble_eq_true rfl⟩ ?_
  refine gx_room (gx_mono (sc_sl (x := M.1 23 i)) ?_) (Nat.zero_le _) (Nat.zero_le _)
  rintro r h' ⟨rfl, rfl⟩
  refine g_if rfl (fun c => ?_) (fun c => ?_)
  · have c := bI_no c
    refine g1 (n := 1) rfl rfl rfl rfl ?_
    refine m_gf rfl hS.1 rfl (v := .ref 23) (by show va_rf (M.2.2 170 4) = _; rw [r4]; rfl) ?_
    refine g1 (n := 1) rfl rfl rfl rfl ?_
    refine m_gf rfl hS.1 rfl (v := .int (nI i)) (by show Value.int (M.1 170 6) = _; rw [a1]) ?_
    refine m_il rfl hS.2.2.2.2.oa (nI_int (by omega)) (by omega) ?_
    refine m_st (as := [.int (M.1 23 i)]) (rest := []) rfl (by decide) rfl (Nat.le_of_ble_eq_true rfl) ⟨Nat.le_of_ble_eq_true rfl, Nat.le_of_ble_eq_true rfl, Nat.le_of_ble_eq_true rfl⟩ ?_
    refine gx_room (gx_mono (sc_dg (x := M.1 23 i)) ?_) (Nat.zero_le _) (Nat.zero_le _)
    rintro r h' ⟨rfl, rfl⟩
    refine g_if rfl (fun c2 => ?_) (fun c2 => ?_)
    · have c2 := bI_no c2
      have fin : ∀ x : Int32, x = (if sp_s (M.1 23 i) = true then M.1 23 i else 3) → gx (cx0 fz) (7, 220) 20 103 [(0, .ref 170)] [.int x, .int (nI l), .ref 171] (rf_wi (rf_wi M 172 l (nI i)) 173 l (Int32.ofInt 0), S) (fun r h' => r = none ∧ h' = (sc_tok M i n l, S)) := by
        intro x hx
        refine m_is rfl hS.2.1 (nI_int (by omega)) (by omega) ?_
        refine g1 (n := 1) rfl rfl rfl rfl ?_
        refine g0 rfl rfl rfl ?_
        refine m_gf rfl hS.1 rfl (v := .int (nI i)) (by show Value.int (M.1 170 6) = _; rw [a1]) ?_
        refine g1 (n := 1) rfl rfl rfl rfl ?_
        refine g0 rfl rfl rfl ?_
        refine m_pf rfl hS.1 rfl (M' := rf_wi (rf_wi (rf_wi (rf_wi M 172 l (nI i)) 173 l (Int32.ofInt 0)) 171 l x) 170 6 (nI i + Int32.ofInt 1)) rfl ?_
        refine gx_ret rfl rfl ⟨rfl, ?_⟩
        unfold sc_tok
        rw [c, c2, nI_suc (by omega), hx]
        rfl
      refine g1 (n := 1) rfl rfl rfl rfl ?_
      refine m_gf rfl hS.1 rfl (v := .ref 171) (by show va_rf (M.2.2 170 0) = _; rw [r0]; rfl) ?_
      refine g1 (n := 1) rfl rfl rfl rfl ?_
      refine m_gf rfl hS.1 rfl (v := .int (nI l)) (by show Value.int (M.1 170 3) = _; rw [a3]) ?_
      refine g1 (n := 1) rfl rfl rfl rfl ?_
      refine m_gf rfl hS.1 rfl (v := .ref 23) (by show va_rf (M.2.2 170 4) = _; rw [r4]; rfl) ?_
      refine g1 (n := 1) rfl rfl rfl rfl ?_
      refine m_gf rfl hS.1 rfl (v := .int (nI i)) (by show Value.int (M.1 170 6) = _; rw [a1]) ?_
      refine m_il rfl hS.2.2.2.2.oa (nI_int (by omega)) (by omega) ?_
      refine m_st (as := [.int (M.1 23 i)]) (rest := [.int (nI l), .ref 171]) rfl (by decide) rfl (Nat.le_of_ble_eq_true rfl) ⟨Nat.le_of_ble_eq_true rfl, Nat.le_of_ble_eq_true rfl, Nat.le_of_ble_eq_true rfl⟩ ?_
      refine gx_room (gx_mono (sc_sym (x := M.1 23 i)) ?_) (Nat.zero_le _) (Nat.zero_le _)
      rintro r h' ⟨rfl, rfl⟩
      refine g_if rfl (fun c3 => ?_) (fun c3 => ?_)
      · have c3 := bI_no c3
        refine g1 (n := 1) rfl rfl rfl rfl ?_
        exact fin _ (by rw [c3]; rfl)
      · have c3 := bI_yes c3
        refine g1 (n := 1) rfl rfl rfl rfl ?_
        refine m_gf rfl hS.1 rfl (v := .ref 23) (by show va_rf (M.2.2 170 4) = _; rw [r4]; rfl) ?_
        refine g1 (n := 1) rfl rfl rfl rfl ?_
        refine m_gf rfl hS.1 rfl (v := .int (nI i)) (by show Value.int (M.1 170 6) = _; rw [a1]) ?_
        refine m_il rfl hS.2.2.2.2.oa (nI_int (by omega)) (by omega) ?_
        refine g3 rfl rfl rfl ?_
        exact fin _ (by rw [c3]; rfl)
    · have c2 := bI_yes c2
      refine g1 (n := 1) rfl rfl rfl rfl ?_
      refine m_iv (a := 170) (as := []) (rest := []) rfl (by decide) hS.1 rfl rfl (Nat.le_of_ble_eq_true rfl) ⟨Nat.le_of_ble_eq_true rfl, Nat.le_of_ble_eq_true rfl, Nat.le_of_ble_eq_true rfl⟩ ?_
      refine gx_room (gx_mono (sc_digits hS hM0 hat0 (by omega) hn hl) ?_) (Nat.le_of_ble_eq_true rfl) (Nat.le_of_ble_eq_true rfl)
      rintro r h' ⟨rfl, rfl⟩
      refine g3 rfl rfl rfl ?_
      refine gx_ret rfl rfl ⟨rfl, ?_⟩
      unfold sc_tok
      rw [c, c2]
      rfl
  · have c := bI_yes c
    refine g1 (n := 1) rfl rfl rfl rfl ?_
    refine m_iv (a := 170) (as := []) (rest := []) rfl (by decide) hS.1 rfl rfl (Nat.le_of_ble_eq_true rfl) ⟨Nat.le_of_ble_eq_true rfl, Nat.le_of_ble_eq_true rfl, Nat.le_of_ble_eq_true rfl⟩ ?_
    refine gx_room (gx_mono (sc_letters hS hM0 hat0 (by omega) hn hl) ?_) (Nat.le_of_ble_eq_true rfl) (Nat.le_of_ble_eq_true rfl)
    rintro r h' ⟨rfl, rfl⟩
    refine g3 rfl rfl rfl ?_
    refine gx_ret rfl rfl ⟨rfl, ?_⟩
    unfold sc_tok
    rw [c]
    rfl
/-- what a token leaves -/
theorem sc_tok_ok (M : rf_M) (i n l : Nat) : (sc_tok M i n l).1 171 l = (sp_tok (M.1 23) n i).1 ∧ (sc_tok M i n l).1 172 l = nI i ∧ (sc_tok M i n l).1 173 l = (sp_tok (M.1 23) n i).2.1 ∧ (sc_tok M i n l).1 170 6 = nI (sp_tok (M.1 23) n i).2.2 ∧ (∀ a k, ¬ (a = 170 ∧ k = 6) → ¬ ((a = 171 ∨ a = 172 ∨ a = 173) ∧ k = l) → (sc_tok M i n l).1 a k = M.1 a k) ∧ (sc_tok M i n l).2 = M.2 := by
  have e23 : (rf_wi (rf_wi M 172 l (nI i)) 173 l 0).1 23 = M.1 23 := rfl
  have gen : ∀ (x6 x171 x173 : Int32) (M' : rf_M), (M'.1 171 l = x171 ∧ M'.1 172 l = nI i ∧ M'.1 173 l = x173 ∧ M'.1 170 6 = x6 ∧ (∀ a k, ¬ (a = 170 ∧ k = 6) → ¬ ((a = 171 ∨ a = 172 ∨ a = 173) ∧ k = l) → M'.1 a k = M.1 a k) ∧ M'.2 = M.2) → M'.1 171 l = x171 ∧ M'.1 172 l = nI i ∧ M'.1 173 l = x173 ∧ M'.1 170 6 = x6 ∧ (∀ a k, ¬ (a = 170 ∧ k = 6) → ¬ ((a = 171 ∨ a = 172 ∨ a = 173) ∧ k = l) → M'.1 a k = M.1 a k) ∧ M'.2 = M.2 := fun _ _ _ _ h => h
  unfold sc_tok sp_tok
  by_cases h1 : sp_l (M.1 23 i) = true
  · rw [if_pos h1, if_pos h1]
    unfold sc_let
    rw [e23]
    by_cases h2 : sp_e sp_l (M.1 23) n i - i = 1
    · rw [if_pos h2, if_pos h2]
      refine ⟨?_, ?_, ?_, ?_, fun a k q1 q2 => ?_, rfl⟩
      · rw [rf_wi_of _ _ (by omega), rf_wi_at]
      · rw [rf_wi_of _ _ (by omega), rf_wi_of _ _ (by omega), rf_wi_of _ _ (by omega), rf_wi_of _ _ (by omega), rf_wi_at]
      · rw [rf_wi_at]
      · rw [rf_wi_of _ _ (by omega), rf_wi_of _ _ (by omega), rf_wi_at]
      · rw [rf_wi_of _ _ (by omega), rf_wi_of _ _ (by omega), rf_wi_of _ _ (by omega), rf_wi_of _ _ (by omega), rf_wi_of _ _ (by omega)]
    · rw [if_neg h2, if_neg h2]
      refine ⟨?_, ?_, ?_, ?_, fun a k q1 q2 => ?_, rfl⟩
      · rw [rf_wi_at]
      · rw [rf_wi_of _ _ (by omega), rf_wi_of _ _ (by omega), rf_wi_of _ _ (by omega), rf_wi_at]
      · rw [rf_wi_of _ _ (by omega), rf_wi_of _ _ (by omega), rf_wi_at]
      · rw [rf_wi_of _ _ (by omega), rf_wi_at]
      · rw [rf_wi_of _ _ (by omega), rf_wi_of _ _ (by omega), rf_wi_of _ _ (by omega), rf_wi_of _ _ (by omega)]
  · rw [if_neg h1, if_neg h1]
    by_cases h2 : sp_d (M.1 23 i) = true
    · rw [if_pos h2, if_pos h2]
      unfold sc_dig
      rw [e23]
      refine ⟨?_, ?_, ?_, ?_, fun a k q1 q2 => ?_, rfl⟩
      · rw [rf_wi_of _ _ (by omega), rf_wi_at]
      · rw [rf_wi_of _ _ (by omega), rf_wi_of _ _ (by omega), rf_wi_of _ _ (by omega), rf_wi_of _ _ (by omega), rf_wi_at]
      · rw [rf_wi_at]
      · rw [rf_wi_of _ _ (by omega), rf_wi_of _ _ (by omega), rf_wi_at]
      · rw [rf_wi_of _ _ (by omega), rf_wi_of _ _ (by omega), rf_wi_of _ _ (by omega), rf_wi_of _ _ (by omega), rf_wi_of _ _ (by omega)]
    · rw [if_neg h2, if_neg h2]
      refine ⟨?_, ?_, ?_, ?_, fun a k q1 q2 => ?_, rfl⟩
      · rw [rf_wi_of _ _ (by omega), rf_wi_at]
      · rw [rf_wi_of _ _ (by omega), rf_wi_of _ _ (by omega), rf_wi_of _ _ (by omega), rf_wi_at]
      · rw [rf_wi_of _ _ (by omega), rf_wi_of _ _ (by omega), rf_wi_at]
      · rw [rf_wi_at]
      · rw [rf_wi_of _ _ (by omega), rf_wi_of _ _ (by omega), rf_wi_of _ _ (by omega), rf_wi_of _ _ (by omega)]
theorem sp_tok_next {b : Nat → Int32} {n i : Nat} (h : i < n) : i < (sp_tok b n i).2.2 ∧ (sp_tok b n i).2.2 ≤ n := by
  unfold sp_tok
  by_cases h1 : sp_l (b i) = true
  · rw [if_pos h1]
    have e := sp_e_yes (p := sp_l) (b := b) h h1
    have := sp_e_le (p := sp_l) (b := b) (n := n) (i := i + 1) (by omega)
    split
    · dsimp only; omega
    · dsimp only; omega
  · rw [if_neg h1]
    by_cases h2 : sp_d (b i) = true
    · rw [if_pos h2]
      have e := sp_e_yes (p := sp_d) (b := b) h h2
      have := sp_e_le (p := sp_d) (b := b) (n := n) (i := i + 1) (by omega)
      dsimp only; omega
    · rw [if_neg h2]
      dsimp only; omega
end SC4
