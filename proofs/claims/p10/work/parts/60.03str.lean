def sc_tok (M : rf_M) (i n l : Nat) : rf_M := if sp_l (M.1 23 i) = true then sc_let (rf_wi (rf_wi M 172 l (nI i)) 173 l 0) i n l else if sp_d (M.1 23 i) = true then sc_dig (rf_wi (rf_wi M 172 l (nI i)) 173 l 0) i n l else rf_wi (rf_wi (rf_wi (rf_wi M 172 l (nI i)) 173 l 0) 171 l (if sp_s (M.1 23 i) = true then M.1 23 i else 3)) 170 6 (nI (i + 1))
/-- a token: what it is, its number, where it ends -/
def sp_tok (b : Nat → Int32) (n i : Nat) : Int32 × Int32 × Nat := if sp_l (b i) = true then (if sp_e sp_l b n i - i = 1 then (1, b i - 97, sp_e sp_l b n i) else (sp_word b i (sp_e sp_l b n i), 0, sp_e sp_l b n i)) else if sp_d (b i) = true then ((if 9 < sp_e sp_d b n i - i then 3 else 2), sp_val b i (min (sp_e sp_d b n i - i) 9), sp_e sp_d b n i) else ((if sp_s (b i) = true then b i else 3), 0, i + 1)
def sp_bl (x : Int32) : Bool := decide (x.toInt = 32) || decide (x.toInt = 10)
/-- the tokens from i on: what, where, number -/
def sp_scan (b : Nat → Int32) (n : Nat) : Nat → Nat → List (Int32 × Nat × Int32)
  | 0, _ => []
  | f + 1, i => if i < n then (if sp_bl (b i) = true then sp_scan b n f (i + 1) else ((sp_tok b n i).1, i, (sp_tok b n i).2.1) :: sp_scan b n f (sp_tok b n i).2.2) else []
section SC4
variable {fz : Bool} {S : gS} {M : rf_M}
theorem rf_wi_at (M : rf_M) (a k : Nat) (x : Int32) : (rf_wi M a k x).1 a k = x := rf_up2s _ _ _ _
theorem rf_wi_of (M : rf_M) {a k a' k' : Nat} (x : Int32) (h : a' ≠ a ∨ k' ≠ k) : (rf_wi M a k x).1 a' k' = M.1 a' k' := rf_up2 _ _ h
theorem sc_readToken {i n l : Nat} (hS : sc_S fz S) (hM : sc_M fz S M) (hat : sc_at M i n l) (hin : i < n) (hn : n ≤ 800) (hl : l ≤ 800) : gx (cx0 fz) (7, 220) 20 0 [(0, .ref 170)] [] (M, S) (fun r h' => r = none ∧ h' = (sc_tok M i n l, S)) := by
  obtain ⟨a1, a2, a3⟩ := hat
  have r0 : M.2.2 170 0 = some 171 := hM.1.1
  have r1 : M.2.2 170 1 = some 172 := hM.1.2.1
  have r2 : M.2.2 170 2 = some 173 := hM.1.2.2.1
  have r4 : M.2.2 170 4 = some 23 := hM.1.2.2.2
  refine g1 (n := 1) rfl rfl rfl rfl ?_
  refine m_gf rfl hS.1 rfl (v := .ref 172) (by show va_rf (M.2.2 170 1) = _; rw [r1]; rfl) ?_
  refine g1 (n := 1) rfl rfl rfl rfl ?_
  refine m_gf rfl hS.1 rfl (v := .int (nI l)) (by show Value.int (M.1 170 3) = _; rw [a3]) ?_
  refine g1 (n := 1) rfl rfl rfl rfl ?_
  refine m_gf rfl hS.1 rfl (v := .int (nI i)) (by show Value.int (M.1 170 6) = _; rw [a1]) ?_
  refine m_is rfl hS.2.2.1 (nI_int (by omega)) (by omega) ?_
  refine g1 (n := 1) rfl rfl rfl rfl ?_
  refine m_gf rfl hS.1 rfl (v := .ref 173) (by show va_rf (M.2.2 170 2) = _; rw [r2]; rfl) ?_
  refine g1 (n := 1) rfl rfl rfl rfl ?_
  refine m_gf rfl hS.1 rfl (v := .int (nI l)) (by show Value.int (M.1 170 3) = _; rw [a3]) ?_
  refine g1 (n := 1) rfl rfl rfl rfl ?_
  refine m_is rfl hS.2.2.2.1 (nI_int (by omega)) (by omega) ?_
  have hM0 : sc_M fz S (rf_wi (rf_wi M 172 l (nI i)) 173 l (Int32.ofInt 0)) := sc_M_wi (by omega) (sc_M_wi (by omega) hM)
  have hat0 : sc_at (rf_wi (rf_wi M 172 l (nI i)) 173 l (Int32.ofInt 0)) i n l := ⟨a1, a2, a3⟩
  refine g1 (n := 1) rfl rfl rfl rfl ?_
  refine m_gf rfl hS.1 rfl (v := .ref 23) (by show va_rf (M.2.2 170 4) = _; rw [r4]; rfl) ?_
  refine g1 (n := 1) rfl rfl rfl rfl ?_
  refine m_gf rfl hS.1 rfl (v := .int (nI i)) (by show Value.int (M.1 170 6) = _; rw [a1]) ?_
  refine m_il rfl hS.2.2.2.2.oa (nI_int (by omega)) (by omega) ?_
  refine m_st (as := [.int (M.1 23 i)]) (rest := []) rfl (by decide) rfl (Nat.le_of_ble_eq_true rfl) ⟨Nat.le_of_ble_eq_true rfl, Nat.le_of_ble_eq_true rfl, Nat.le_of_ble_eq_true rfl⟩ ?_
  refine gx_room (gx_mono (sc_sl (x := M.1 23 i)) ?_) (Nat.zero_le _) (Nat.zero_le _)
  rintro r h' ⟨rfl, rfl⟩
  refine g_if rfl (fun c => ?_) (fun c => ?_)
  · have c := bI_no c
    refine g1 (n := 1) rfl rfl rfl rfl ?_
    refine m_gf rfl hS.1 rfl (v := .ref 23) (by show va_rf (M.2.2 170 4) = _; rw [r4]; rfl) ?_
    refine g1 (n := 1) rfl rfl rfl rfl ?_
    refine m_gf rfl hS.1 rfl (v := .int (nI i)) (by show Value.int (M.1 170 6) = _; rw [a1]) ?_
    refine m_il rfl hS.2.2.2.2.oa (nI_int (by omega)) (by omega) ?_
    refine m_st (as := [.int (M.1 23 i)]) (rest := []) rfl (by decide) rfl (Nat.le_of_ble_eq_true rfl) ⟨Nat.le_of_ble_eq_true rfl, Nat.le_of_ble_eq_true rfl, Nat.le_of_ble_eq_true rfl⟩ ?_
    refine gx_room (gx_mono (sc_dg (x := M.1 23 i)) ?_) (Nat.zero_le _) (Nat.zero_le _)
    rintro r h' ⟨rfl, rfl⟩
    refine g_if rfl (fun c2 => ?_) (fun c2 => ?_)
    · have c2 := bI_no c2
      have fin : ∀ x : Int32, x = (if sp_s (M.1 23 i) = true then M.1 23 i else 3) → gx (cx0 fz) (7, 220) 20 103 [(0, .ref 170)] [.int x, .int (nI l), .ref 171] (rf_wi (rf_wi M 172 l (nI i)) 173 l (Int32.ofInt 0), S) (fun r h' => r = none ∧ h' = (sc_tok M i n l, S)) := by
        intro x hx
        refine m_is rfl hS.2.1 (nI_int (by omega)) (by omega) ?_
        refine g1 (n := 1) rfl rfl rfl rfl ?_
        refine g0 rfl rfl rfl ?_
        refine m_gf rfl hS.1 rfl (v := .int (nI i)) (by show Value.int (M.1 170 6) = _; rw [a1]) ?_
        refine g1 (n := 1) rfl rfl rfl rfl ?_
        refine g0 rfl rfl rfl ?_
        refine m_pf rfl hS.1 rfl (M' := rf_wi (rf_wi (rf_wi (rf_wi M 172 l (nI i)) 173 l (Int32.ofInt 0)) 171 l x) 170 6 (nI i + Int32.ofInt 1)) rfl ?_
        refine gx_ret rfl rfl ⟨rfl, ?_⟩
        unfold sc_tok
        rw [c, c2, nI_suc (by omega), hx]
        rfl
      refine g1 (n := 1) rfl rfl rfl rfl ?_
      refine m_gf rfl hS.1 rfl (v := .ref 171) (by show va_rf (M.2.2 170 0) = _; rw [r0]; rfl) ?_
      refine g1 (n := 1) rfl rfl rfl rfl ?_
      refine m_gf rfl hS.1 rfl (v := .int (nI l)) (by show Value.int (M.1 170 3) = _; rw [a3]) ?_
      refine g1 (n := 1) rfl rfl rfl rfl ?_
      refine m_gf rfl hS.1 rfl (v := .ref 23) (by show va_rf (M.2.2 170 4) = _; rw [r4]; rfl) ?_
      refine g1 (n := 1) rfl rfl rfl rfl ?_
      refine m_gf rfl hS.1 rfl (v := .int (nI i)) (by show Value.int (M.1 170 6) = _; rw [a1]) ?_
      refine m_il rfl hS.2.2.2.2.oa (nI_int (by omega)) (by omega) ?_
      refine m_st (as := [.int (M.1 23 i)]) (rest := [.int (nI l), .ref 171]) rfl (by decide) rfl (Nat.le_of_ble_eq_true rfl) ⟨Nat.le_of_ble_eq_true rfl, Nat.le_of_ble_eq_true rfl, Nat.le_of_ble_eq_true rfl⟩ ?_
      refine gx_room (gx_mono (sc_sym (x := M.1 23 i)) ?_) (Nat.zero_le _) (Nat.zero_le _)
      rintro r h' ⟨rfl, rfl⟩
      refine g_if rfl (fun c3 => ?_) (fun c3 => ?_)
      · have c3 := bI_no c3
        refine g1 (n := 1) rfl rfl rfl rfl ?_
        exact fin _ (by rw [c3]; rfl)
      · have c3 := bI_yes c3
        refine g1 (n := 1) rfl rfl rfl rfl ?_
        refine m_gf rfl hS.1 rfl (v := .ref 23) (by show va_rf (M.2.2 170 4) = _; rw [r4]; rfl) ?_
        refine g1 (n := 1) rfl rfl rfl rfl ?_
        refine m_gf rfl hS.1 rfl (v := .int (nI i)) (by show Value.int (M.1 170 6) = _; rw [a1]) ?_
        refine m_il rfl hS.2.2.2.2.oa (nI_int (by omega)) (by omega) ?_
        refine g3 rfl rfl rfl ?_
        exact fin _ (by rw [c3]; rfl)
    · have c2 := bI_yes c2
      refine g1 (n := 1) rfl rfl rfl rfl ?_
      refine m_iv (a := 170) (as := []) (rest := []) rfl (by decide) hS.1 rfl rfl (Nat.le_of_ble_eq_true rfl) ⟨Nat.le_of_ble_eq_true rfl, Nat.le_of_ble_eq_true rfl, Nat.le_of_ble_eq_true rfl⟩ ?_
      refine gx_room (gx_mono (sc_digits hS hM0 hat0 (by omega) hn hl) ?_) (Nat.le_of_ble_eq_true rfl) (Nat.le_of_ble_eq_true rfl)
      rintro r h' ⟨rfl, rfl⟩
      refine g3 rfl rfl rfl ?_
      refine gx_ret rfl rfl ⟨rfl, ?_⟩
      unfold sc_tok
      rw [c, c2]
      rfl
  · have c := bI_yes c
    refine g1 (n := 1) rfl rfl rfl rfl ?_
    refine m_iv (a := 170) (as := []) (rest := []) rfl (by decide) hS.1 rfl rfl (Nat.le_of_ble_eq_true rfl) ⟨Nat.le_of_ble_eq_true rfl, Nat.le_of_ble_eq_true rfl, Nat.le_of_ble_eq_true rfl⟩ ?_
    refine gx_room (gx_mono (sc_letters hS hM0 hat0 (by omega) hn hl) ?_) (Nat.le_of_ble_eq_true rfl) (Nat.le_of_ble_eq_true rfl)
    rintro r h' ⟨rfl, rfl⟩
    refine g3 rfl rfl rfl ?_
    refine gx_ret rfl rfl ⟨rfl, ?_⟩
    unfold sc_tok
    rw [c]
    rfl
/-- what a token leaves -/
theorem sc_tok_ok (M : rf_M) (i n l : Nat) : (sc_tok M i n l).1 171 l = (sp_tok (M.1 23) n i).1 ∧ (sc_tok M i n l).1 172 l = nI i ∧ (sc_tok M i n l).1 173 l = (sp_tok (M.1 23) n i).2.1 ∧ (sc_tok M i n l).1 170 6 = nI (sp_tok (M.1 23) n i).2.2 ∧ (∀ a k, ¬ (a = 170 ∧ k = 6) → ¬ ((a = 171 ∨ a = 172 ∨ a = 173) ∧ k = l) → (sc_tok M i n l).1 a k = M.1 a k) ∧ (sc_tok M i n l).2 = M.2 := by
  have e23 : (rf_wi (rf_wi M 172 l (nI i)) 173 l 0).1 23 = M.1 23 := rfl
  have gen : ∀ (x6 x171 x173 : Int32) (M' : rf_M), (M'.1 171 l = x171 ∧ M'.1 172 l = nI i ∧ M'.1 173 l = x173 ∧ M'.1 170 6 = x6 ∧ (∀ a k, ¬ (a = 170 ∧ k = 6) → ¬ ((a = 171 ∨ a = 172 ∨ a = 173) ∧ k = l) → M'.1 a k = M.1 a k) ∧ M'.2 = M.2) → M'.1 171 l = x171 ∧ M'.1 172 l = nI i ∧ M'.1 173 l = x173 ∧ M'.1 170 6 = x6 ∧ (∀ a k, ¬ (a = 170 ∧ k = 6) → ¬ ((a = 171 ∨ a = 172 ∨ a = 173) ∧ k = l) → M'.1 a k = M.1 a k) ∧ M'.2 = M.2 := fun _ _ _ _ h => h
  unfold sc_tok sp_tok
  by_cases h1 : sp_l (M.1 23 i) = true
  · rw [if_pos h1, if_pos h1]
    unfold sc_let
    rw [e23]
    by_cases h2 : sp_e sp_l (M.1 23) n i - i = 1
    · rw [if_pos h2, if_pos h2]
      refine ⟨?_, ?_, ?_, ?_, fun a k q1 q2 => ?_, rfl⟩
      · rw [rf_wi_of _ _ (by omega), rf_wi_at]
      · rw [rf_wi_of _ _ (by omega), rf_wi_of _ _ (by omega), rf_wi_of _ _ (by omega), rf_wi_of _ _ (by omega), rf_wi_at]
      · rw [rf_wi_at]
      · rw [rf_wi_of _ _ (by omega), rf_wi_of _ _ (by omega), rf_wi_at]
      · rw [rf_wi_of _ _ (by omega), rf_wi_of _ _ (by omega), rf_wi_of _ _ (by omega), rf_wi_of _ _ (by omega), rf_wi_of _ _ (by omega)]
    · rw [if_neg h2, if_neg h2]
      refine ⟨?_, ?_, ?_, ?_, fun a k q1 q2 => ?_, rfl⟩
      · rw [rf_wi_at]
      · rw [rf_wi_of _ _ (by omega), rf_wi_of _ _ (by omega), rf_wi_of _ _ (by omega), rf_wi_at]
      · rw [rf_wi_of _ _ (by omega), rf_wi_of _ _ (by omega), rf_wi_at]
      · rw [rf_wi_of _ _ (by omega), rf_wi_at]
      · rw [rf_wi_of _ _ (by omega), rf_wi_of _ _ (by omega), rf_wi_of _ _ (by omega), rf_wi_of _ _ (by omega)]
  · rw [if_neg h1, if_neg h1]
    by_cases h2 : sp_d (M.1 23 i) = true
    · rw [if_pos h2, if_pos h2]
      unfold sc_dig
      rw [e23]
      refine ⟨?_, ?_, ?_, ?_, fun a k q1 q2 => ?_, rfl⟩
      · rw [rf_wi_of _ _ (by omega), rf_wi_at]
      · rw [rf_wi_of _ _ (by omega), rf_wi_of _ _ (by omega), rf_wi_of _ _ (by omega), rf_wi_of _ _ (by omega), rf_wi_at]
      · rw [rf_wi_at]
      · rw [rf_wi_of _ _ (by omega), rf_wi_of _ _ (by omega), rf_wi_at]
      · rw [rf_wi_of _ _ (by omega), rf_wi_of _ _ (by omega), rf_wi_of _ _ (by omega), rf_wi_of _ _ (by omega), rf_wi_of _ _ (by omega)]
    · rw [if_neg h2, if_neg h2]
      refine ⟨?_, ?_, ?_, ?_, fun a k q1 q2 => ?_, rfl⟩
      · rw [rf_wi_of _ _ (by omega), rf_wi_at]
      · rw [rf_wi_of _ _ (by omega), rf_wi_of _ _ (by omega), rf_wi_of _ _ (by omega), rf_wi_at]
      · rw [rf_wi_of _ _ (by omega), rf_wi_of _ _ (by omega), rf_wi_at]
      · rw [rf_wi_at]
      · rw [rf_wi_of _ _ (by omega), rf_wi_of _ _ (by omega), rf_wi_of _ _ (by omega), rf_wi_of _ _ (by omega)]
theorem sp_tok_next {b : Nat → Int32} {n i : Nat} (h : i < n) : i < (sp_tok b n i).2.2 ∧ (sp_tok b n i).2.2 ≤ n := by
  unfold sp_tok
  by_cases h1 : sp_l (b i) = true
  · rw [if_pos h1]
    have e := sp_e_yes (p := sp_l) (b := b) h h1
    have := sp_e_le (p := sp_l) (b := b) (n := n) (i := i + 1) (by omega)
    split
    · dsimp only; omega
    · dsimp only; omega
  · rw [if_neg h1]
    by_cases h2 : sp_d (b i) = true
    · rw [if_pos h2]
      have e := sp_e_yes (p := sp_d) (b := b) h h2
      have := sp_e_le (p := sp_d) (b := b) (n := n) (i := i + 1) (by omega)
      dsimp only; omega
    · rw [if_neg h2]
      dsimp only; omega
end SC4
/-! the whole text -/
section M3
variable {cx : rf_C} {d : Nat × Nat} {i pc : Nat} {ls : rf_L} {st : List Value} {Q : Option Value → rf_H → Prop} {M : rf_M} {S : gS}
theorem m_min {J : Instr} {x y : Int32} (hf : cx.1 i pc = some (J, [(12, 0)])) (hk : rf_kd J = 5) (hd : rf_ok8 st d 13 = true) (k : gx cx d i (pc + 3) ls (.int (if y < x then y else x) :: st) (M, S) Q) : gx cx d i pc ls (.int y :: .int x :: st) (M, S) Q := by
  refine gx_step hf (pc' := pc + 3) (ls' := ls) (st' := .int (if y < x then y else x) :: st) (h' := (M, S)) ?_ k
  unfold rf_ex
  simp only [hk]
  show (if (10 : Int) ≤ 12 then (rf_bi cx 12 d (.int y :: .int x :: st) (M, S)).map _ else _) = _
  rw [if_pos (by decide)]
  show ((if rf_ok8 st d 13 = true then some (Value.int (if y < x then y else x) :: st, (M, S)) else none).map _) = _
  rw [if_pos hd]
  rfl
end M3
/-- the tokens T lie in the rows -/
def sc_row (M : rf_M) (T : List (Int32 × Nat × Int32)) : Prop := ∀ (t : Nat) (e : Int32 × Nat × Int32), T[t]? = some e → M.1 171 t = e.1 ∧ M.1 172 t = nI e.2.1 ∧ M.1 173 t = e.2.2
/-- nothing else has changed, from slot q on nothing in the rows -/
def sc_fr (M M' : rf_M) (q : Nat) : Prop := (∀ a k, ¬ (a = 170 ∧ (k = 3 ∨ k = 5 ∨ k = 6)) → ¬ ((a = 171 ∨ a = 172 ∨ a = 173) ∧ k < q) → M'.1 a k = M.1 a k) ∧ M'.2.1 = M.2.1 ∧ M'.2.2 = (rf_wq M 170 4 (some 23)).2.2
/-- the text is scanned -/
def sc_done (fz : Bool) (S : gS) (M : rf_M) (n : Nat) (T : List (Int32 × Nat × Int32)) (M' : rf_M) : Prop := sc_M fz S M' ∧ M'.1 170 3 = nI T.length ∧ T.length ≤ 800 ∧ sc_row M' T ∧ M'.1 171 T.length = 0 ∧ M'.1 172 T.length = nI n ∧ M'.1 173 T.length = 0 ∧ sc_fr M M' (T.length + 1) ∧ (∃ p, p ≤ n ∧ M'.1 170 6 = nI p) ∧ M'.1 170 5 = nI n
theorem sp_scan_end {b : Nat → Int32} {n : Nat} : ∀ (f i : Nat), n ≤ i → sp_scan b n f i = []
  | 0, _, _ => rfl
  | f + 1, i, h => by
    show (if i < n then _ else _) = _
    rw [if_neg (by omega)]
section SC5
variable {fz : Bool} {S : gS} {M : rf_M}
theorem sc_scan {n : Nat} (hS : sc_S fz S) (hM : sc_M fz S (rf_wq M 170 4 (some 23))) (hn : n ≤ 800) : gx (cx0 fz) (8, 260) 19 0 [(0, .ref 170), (1, .ref 23), (2, .int (nI n))] [] (M, S) (fun r h' => r = none ∧ ∃ M', h' = (M', S) ∧ sc_done fz S M n (sp_scan (M.1 23) n 800 0) M') := by
  have tape : ∀ M' q, sc_fr M M' q → M'.1 23 = M.1 23 := by
    intro M' q h
    funext k
    exact h.1 23 k (by omega) (by omega)
  have after : ∀ (it p : Nat) (T : List (Int32 × Nat × Int32)) (M' : rf_M), sc_M fz S M' → sc_at M' p n T.length → p ≤ n → T.length ≤ 800 → sc_row M' T → sc_fr M M' T.length → T = sp_scan (M.1 23) n 800 0 → gx (cx0 fz) (8, 260) 19 112 [(3, .int (nI it)), (0, .ref 170), (1, .ref 23), (2, .int (nI n))] [] (M', S) (fun r h' => r = none ∧ ∃ M', h' = (M', S) ∧ sc_done fz S M n (sp_scan (M.1 23) n 800 0) M') := by
    intro it p T M' hM' hat hp hT hrow hfr hTe
    obtain ⟨a1, a2, a3⟩ := hat
    have r0 : M'.2.2 170 0 = some 171 := hM'.1.1
    have r1 : M'.2.2 170 1 = some 172 := hM'.1.2.1
    have r2 : M'.2.2 170 2 = some 173 := hM'.1.2.2.1
    refine g1 (n := 1) rfl rfl rfl rfl ?_
    refine m_gf rfl hS.1 rfl (v := .ref 171) (by show va_rf (M'.2.2 170 0) = _; rw [r0]; rfl) ?_
    refine g1 (n := 1) rfl rfl rfl rfl ?_
    refine m_gf rfl hS.1 rfl (v := .int (nI T.length)) (by show Value.int (M'.1 170 3) = _; rw [a3]) ?_
    refine g1 (n := 1) rfl rfl rfl rfl ?_
    refine m_is rfl hS.2.1 (nI_int (by omega)) (by omega) ?_
    refine g1 (n := 1) rfl rfl rfl rfl ?_
    refine m_gf rfl hS.1 rfl (v := .ref 172) (by show va_rf (M'.2.2 170 1) = _; rw [r1]; rfl) ?_
    refine g1 (n := 1) rfl rfl rfl rfl ?_
    refine m_gf rfl hS.1 rfl (v := .int (nI T.length)) (by show Value.int (M'.1 170 3) = _; rw [a3]) ?_
    refine g1 (n := 1) rfl rfl rfl rfl ?_
    refine m_gf rfl hS.1 rfl (v := .int (nI n)) (by show Value.int (M'.1 170 5) = _; rw [a2]) ?_
    refine m_is rfl hS.2.2.1 (nI_int (by omega)) (by omega) ?_
    refine g1 (n := 1) rfl rfl rfl rfl ?_
    refine m_gf rfl hS.1 rfl (v := .ref 173) (by show va_rf (M'.2.2 170 2) = _; rw [r2]; rfl) ?_
    refine g1 (n := 1) rfl rfl rfl rfl ?_
    refine m_gf rfl hS.1 rfl (v := .int (nI T.length)) (by show Value.int (M'.1 170 3) = _; rw [a3]) ?_
    refine g1 (n := 1) rfl rfl rfl rfl ?_
    refine m_is rfl hS.2.2.2.1 (nI_int (by omega)) (by omega) ?_
    refine gx_ret rfl rfl ⟨rfl, _, rfl, ?_⟩
    rw [← hTe]
    refine ⟨sc_M_wi (by omega) (sc_M_wi (by omega) (sc_M_wi (by omega) hM')), a3, hT, ?_, ?_, ?_, ?_, ⟨?_, hfr.2.1, hfr.2.2⟩, ⟨p, hp, a1⟩, a2⟩
    · intro t e he
      have ht : t < T.length := (List.getElem?_eq_some_iff.mp he).1
      obtain ⟨e1, e2, e3⟩ := hrow t e he
      refine ⟨?_, ?_, ?_⟩
      · rw [rf_wi_of _ _ (by omega), rf_wi_of _ _ (by omega), rf_wi_of _ _ (by omega)]; exact e1
      · rw [rf_wi_of _ _ (by omega), rf_wi_of _ _ (by omega), rf_wi_of _ _ (by omega)]; exact e2
      · rw [rf_wi_of _ _ (by omega), rf_wi_of _ _ (by omega), rf_wi_of _ _ (by omega)]; exact e3
    · rw [rf_wi_of _ _ (by omega), rf_wi_of _ _ (by omega), rf_wi_at]; rfl
    · rw [rf_wi_of _ _ (by omega), rf_wi_at]
    · rw [rf_wi_at]; rfl
    · intro a k q1 q2
      rw [rf_wi_of _ _ (by omega), rf_wi_of _ _ (by omega), rf_wi_of _ _ (by omega)]
      exact hfr.1 a k q1 (by omega)
  have loop : ∀ (m it p : Nat) (T : List (Int32 × Nat × Int32)) (M' : rf_M), 800 - it ≤ m → it ≤ 800 → sc_M fz S M' → sc_at M' p n T.length → p ≤ n → T.length ≤ it → sc_row M' T → sc_fr M M' T.length → T ++ sp_scan (M.1 23) n (800 - it) p = sp_scan (M.1 23) n 800 0 → gx (cx0 fz) (8, 260) 19 33 [(3, .int (nI it)), (0, .ref 170), (1, .ref 23), (2, .int (nI n))] [] (M', S) (fun r h' => r = none ∧ ∃ M', h' = (M', S) ∧ sc_done fz S M n (sp_scan (M.1 23) n 800 0) M') := by
    intro m
    induction m with
    | zero =>
      intro it p T M' h0 h1 hM' hat hp hT hrow hfr hTe
      have hit : it = 800 := by omega
      refine g1 (n := 1) rfl rfl rfl rfl ?_
      refine g1 (n := 3) rfl rfl rfl rfl ?_
      refine g_ic rfl (fun _ => ?_) (fun c => absurd ((rf_cc_iff _ 800 .ge).mpr (by rw [hit]; show (Int32.toInt 800) ≤ (nI 800).toInt; rw [nI_int (by omega)]; decide)) c)
      refine after it p T M' hM' hat hp (by omega) hrow hfr ?_
      rw [hit] at hTe
      rw [← hTe]
      exact (List.append_nil T).symm
    | succ m ih =>
      intro it p T M' h0 h1 hM' hat hp hT hrow hfr hTe
      obtain ⟨a1, a2, a3⟩ := hat
      have r4 : M'.2.2 170 4 = some 23 := hM'.1.2.2.2
      have ht := tape M' _ hfr
      refine g1 (n := 1) rfl rfl rfl rfl ?_
      refine g1 (n := 3) rfl rfl rfl rfl ?_
      refine g_ic rfl (fun c => ?_) (fun c => ?_)
      · have c : (800 : Int) ≤ (nI it).toInt := (rf_cc_iff _ 800 .ge).mp c
        rw [nI_int (by omega)] at c
        have hit : it = 800 := by omega
        refine after it p T M' hM' ⟨a1, a2, a3⟩ hp (by omega) hrow hfr ?_
        rw [hit] at hTe
        rw [← hTe]
        exact (List.append_nil T).symm
      have c : ¬ (800 : Int) ≤ (nI it).toInt := fun z => c ((rf_cc_iff _ 800 .ge).mpr z)
      rw [nI_int (by omega)] at c
      refine g1 (n := 1) rfl rfl rfl rfl ?_
      refine m_gf rfl hS.1 rfl (v := .int (nI p)) (by show Value.int (M'.1 170 6) = _; rw [a1]) ?_
      refine g1 (n := 1) rfl rfl rfl rfl ?_
      refine m_gf rfl hS.1 rfl (v := .int (nI n)) (by show Value.int (M'.1 170 5) = _; rw [a2]) ?_
      refine g_ic rfl (fun c2 => ?_) (fun c2 => ?_)
      · have c2 : (nI n).toInt ≤ (nI p).toInt := (rf_cc_iff _ _ .ge).mp c2
        rw [nI_int (by omega), nI_int (by omega)] at c2
        refine after it p T M' hM' ⟨a1, a2, a3⟩ hp (by omega) hrow hfr ?_
        rw [sp_scan_end _ _ (by omega), List.append_nil] at hTe
        exact hTe
      have c2 : ¬ (nI n).toInt ≤ (nI p).toInt := fun z => c2 ((rf_cc_iff _ _ .ge).mpr z)
      rw [nI_int (by omega), nI_int (by omega)] at c2
      obtain ⟨f, hf⟩ : ∃ f, 800 - it = f + 1 := ⟨800 - it - 1, by omega⟩
      have hf2 : 800 - (it + 1) = f := by omega
      have hsc : sp_scan (M.1 23) n (800 - it) p = if sp_bl (M.1 23 p) = true then sp_scan (M.1 23) n f (p + 1) else ((sp_tok (M.1 23) n p).1, p, (sp_tok (M.1 23) n p).2.1) :: sp_scan (M.1 23) n f (sp_tok (M.1 23) n p).2.2 := by
        rw [hf]
        show (if p < n then _ else _) = _
        rw [if_pos (by omega)]
      have inc : ∀ (p' : Nat) (T' : List (Int32 × Nat × Int32)) (M'' : rf_M), sc_M fz S M'' → sc_at M'' p' n T'.length → p' ≤ n → T'.length ≤ it + 1 → sc_row M'' T' → sc_fr M M'' T'.length → T' ++ sp_scan (M.1 23) n f p' = sp_scan (M.1 23) n 800 0 → gx (cx0 fz) (8, 260) 19 106 [(3, .int (nI it)), (0, .ref 170), (1, .ref 23), (2, .int (nI n))] [] (M'', S) (fun r h' => r = none ∧ ∃ M', h' = (M', S) ∧ sc_done fz S M n (sp_scan (M.1 23) n 800 0) M') := by
        intro p' T' M'' q1 q2 q3 q4 q5 q6 q7
        refine g2 (n := 3) rfl rfl rfl rfl ?_
        refine g3 rfl rfl rfl ?_
        have e2 : rf_s1 [(3, Value.int (nI it)), (0, .ref 170), (1, .ref 23), (2, .int (nI n))] 3 (.int (nI it + Int32.ofInt 1)) = [(3, .int (nI (it + 1))), (0, .ref 170), (1, .ref 23), (2, .int (nI n))] := by rw [nI_suc (by omega)]; rfl
        rw [e2]
        exact ih (it + 1) p' T' M'' (by omega) (by omega) q1 q2 q3 q4 q5 q6 (by rw [hf2]; exact q7)
      have blank : sp_bl (M.1 23 p) = true → gx (cx0 fz) (8, 260) 19 79 [(3, .int (nI it)), (0, .ref 170), (1, .ref 23), (2, .int (nI n))] [] (M', S) (fun r h' => r = none ∧ ∃ M', h' = (M', S) ∧ sc_done fz S M n (sp_scan (M.1 23) n 800 0) M') := by
        intro hb
        refine g1 (n := 1) rfl rfl rfl rfl ?_
        refine g0 rfl rfl rfl ?_
        refine m_gf rfl hS.1 rfl (v := .int (nI p)) (by show Value.int (M'.1 170 6) = _; rw [a1]) ?_
        refine g1 (n := 1) rfl rfl rfl rfl ?_
        refine g0 rfl rfl rfl ?_
        refine m_pf rfl hS.1 rfl (M' := rf_wi M' 170 6 (nI p + Int32.ofInt 1)) rfl ?_
        refine g3 rfl rfl rfl ?_
        rw [nI_suc (by omega)]
        refine inc (p + 1) T _ (sc_M_wi (by omega) hM') ⟨rf_wi_at _ _ _ _, a2, a3⟩ (by omega) (by omega) ?_ ⟨?_, hfr.2.1, hfr.2.2⟩ ?_
        · intro t e he
          exact hrow t e he
        · intro a k q1 q2
          rw [rf_wi_of _ _ (by omega)]
          exact hfr.1 a k q1 q2
        · rw [hsc, if_pos hb] at hTe
          exact hTe
      refine g1 (n := 1) rfl rfl rfl rfl ?_
      refine m_gf rfl hS.1 rfl (v := .ref 23) (by show va_rf (M'.2.2 170 4) = _; rw [r4]; rfl) ?_
      refine g1 (n := 1) rfl rfl rfl rfl ?_
      refine m_gf rfl hS.1 rfl (v := .int (nI p)) (by show Value.int (M'.1 170 6) = _; rw [a1]) ?_
      refine m_il rfl hS.2.2.2.2.oa (nI_int (by omega)) (by omega) ?_
      rw [ht]
      refine g1 (n := 2) rfl rfl rfl rfl ?_
      refine g_ic rfl (fun c3 => ?_) (fun c3 => ?_)
      · have c3 : (M.1 23 p).toInt = 32 := (rf_cc_iff _ 32 .eq).mp c3
        exact blank (by unfold sp_bl; simp [c3])
      have c3 : ¬ (M.1 23 p).toInt = 32 := fun z => c3 ((rf_cc_iff _ 32 .eq).mpr z)
      refine g1 (n := 1) rfl rfl rfl rfl ?_
      refine m_gf rfl hS.1 rfl (v := .ref 23) (by show va_rf (M'.2.2 170 4) = _; rw [r4]; rfl) ?_
      refine g1 (n := 1) rfl rfl rfl rfl ?_
      refine m_gf rfl hS.1 rfl (v := .int (nI p)) (by show Value.int (M'.1 170 6) = _; rw [a1]) ?_
      refine m_il rfl hS.2.2.2.2.oa (nI_int (by omega)) (by omega) ?_
      rw [ht]
      refine g1 (n := 2) rfl rfl rfl rfl ?_
      refine g_ic rfl (fun c4 => ?_) (fun c4 => ?_)
      · have c4 : ¬ (M.1 23 p).toInt = 10 := (rf_cc_iff _ 10 .ne).mp c4
        have hb : sp_bl (M.1 23 p) = false := by unfold sp_bl; simp [c3, c4]
        refine g1 (n := 1) rfl rfl rfl rfl ?_
        refine m_iv (a := 170) (as := []) (rest := []) rfl (by decide) hS.1 rfl rfl (Nat.le_of_ble_eq_true rfl) ⟨Nat.le_of_ble_eq_true rfl, Nat.le_of_ble_eq_true rfl, Nat.le_of_ble_eq_true rfl⟩ ?_
        refine gx_room (gx_mono (sc_readToken hS hM' ⟨a1, a2, a3⟩ (by omega) hn (by omega)) ?_) (Nat.le_of_ble_eq_true rfl) (Nat.le_of_ble_eq_true rfl)
        rintro r h' ⟨rfl, rfl⟩
        obtain ⟨k1, k2, k3, k4, k5, k6⟩ := sc_tok_ok M' p n T.length
        rw [ht] at k1 k3 k4
        have hnx := sp_tok_next (b := M.1 23) (n := n) (i := p) (by omega)
        generalize sc_tok M' p n T.length = Mt at k1 k2 k3 k4 k5 k6 ⊢
        have kS : ∀ c k, c < 22 → Mt.1 c k = M'.1 c k := fun c k hc => k5 c k (by omega) (by omega)
        have kR : ∀ c k, Mt.2.2 c k = M'.2.2 c k := fun c k => by rw [k6]
        have hMt : sc_M fz S Mt := sc_M_of kS kR hM'
        refine g1 (n := 1) rfl rfl rfl rfl ?_
        refine g0 rfl rfl rfl ?_
        refine m_gf rfl hS.1 rfl (v := .int (nI T.length)) (by show Value.int (Mt.1 170 3) = _; rw [k5 170 3 (by omega) (by omega), a3]) ?_
        refine g1 (n := 1) rfl rfl rfl rfl ?_
        refine g0 rfl rfl rfl ?_
        refine m_pf rfl hS.1 rfl (M' := rf_wi Mt 170 3 (nI T.length + Int32.ofInt 1)) rfl ?_
        rw [nI_suc (by omega)]
        have hlen : (T ++ [((sp_tok (M.1 23) n p).1, p, (sp_tok (M.1 23) n p).2.1)]).length = T.length + 1 := by simp
        refine inc (sp_tok (M.1 23) n p).2.2 (T ++ [((sp_tok (M.1 23) n p).1, p, (sp_tok (M.1 23) n p).2.1)]) _ (sc_M_wi (by omega) hMt) ⟨?_, ?_, ?_⟩ (by omega) (by omega) ?_ ⟨?_, ?_, ?_⟩ ?_
        · rw [rf_wi_of _ _ (by omega)]; exact k4
        · rw [rf_wi_of _ _ (by omega), k5 170 5 (by omega) (by omega)]; exact a2
        · rw [rf_wi_at, hlen]
        · intro t e he
          rcases sx_snoc he with h | ⟨h, rfl⟩
          · have htl : t < T.length := (List.getElem?_eq_some_iff.mp h).1
            obtain ⟨e1, e2, e3⟩ := hrow t e h
            refine ⟨?_, ?_, ?_⟩
            · rw [rf_wi_of _ _ (by omega), k5 171 t (by omega) (by omega)]; exact e1
            · rw [rf_wi_of _ _ (by omega), k5 172 t (by omega) (by omega)]; exact e2
            · rw [rf_wi_of _ _ (by omega), k5 173 t (by omega) (by omega)]; exact e3
          · subst h
            refine ⟨?_, ?_, ?_⟩
            · rw [rf_wi_of _ _ (by omega)]; exact k1
            · rw [rf_wi_of _ _ (by omega)]; exact k2
            · rw [rf_wi_of _ _ (by omega)]; exact k3
        · intro a k q1 q2
          rw [hlen] at q2
          rw [rf_wi_of _ _ (by omega), k5 a k (by omega) (by omega)]
          exact hfr.1 a k q1 (by omega)
        · show Mt.2.1 = M.2.1
          rw [k6]; exact hfr.2.1
        · show Mt.2.2 = _
          rw [k6]; exact hfr.2.2
        · rw [hsc, if_neg (by rw [hb]; simp)] at hTe
          rw [List.append_assoc]
          exact hTe
      · have c4 : (M.1 23 p).toInt = 10 := Classical.byContradiction fun z => c4 ((rf_cc_iff _ 10 .ne).mpr z)
        exact blank (by unfold sp_bl; simp [c4])
  have eN : ∀ x : Int32, x = nI n → (if nI 800 < x then nI 800 else x) = nI n := by
    intro x hx
    rw [hx, if_neg]
    rw [Int32.lt_iff_toInt_lt, nI_int (by omega), nI_int (by omega)]
    omega
  refine g1 (n := 1) rfl rfl rfl rfl ?_
  refine g1 (n := 1) rfl rfl rfl rfl ?_
  refine m_pf rfl hS.1 rfl (M' := rf_wq M 170 4 (some 23)) rfl ?_
  refine g1 (n := 1) rfl rfl rfl rfl ?_
  refine g1 (n := 1) rfl rfl rfl rfl ?_
  refine g1 (n := 1) rfl rfl rfl rfl ?_
  refine m_ln rfl hS.2.2.2.2.oa ?_
  refine m_min rfl rfl rfl ?_
  rw [eN _ rfl]
  refine g1 (n := 3) rfl rfl rfl rfl ?_
  refine m_min rfl rfl rfl ?_
  rw [show (Int16.ofInt 800).toInt32 = nI 800 from rfl, eN _ rfl]
  refine m_pf rfl hS.1 rfl (M' := rf_wi (rf_wq M 170 4 (some 23)) 170 5 (nI n)) rfl ?_
  refine g1 (n := 1) rfl rfl rfl rfl ?_
  refine g1 (n := 1) rfl rfl rfl rfl ?_
  refine m_pf rfl hS.1 rfl (M' := rf_wi (rf_wi (rf_wq M 170 4 (some 23)) 170 5 (nI n)) 170 6 (nI 0)) rfl ?_
  refine g1 (n := 1) rfl rfl rfl rfl ?_
  refine g1 (n := 1) rfl rfl rfl rfl ?_
  refine m_pf rfl hS.1 rfl (M' := rf_wi (rf_wi (rf_wi (rf_wq M 170 4 (some 23)) 170 5 (nI n)) 170 6 (nI 0)) 170 3 (nI 0)) rfl ?_
  refine g1 (n := 1) rfl rfl rfl rfl ?_
  refine g2 (n := 1) rfl rfl rfl rfl ?_
  refine loop 800 0 0 [] _ (by omega) (by omega) (sc_M_wi (by omega) (sc_M_wi (by omega) (sc_M_wi (by omega) hM))) ⟨rfl, rfl, rfl⟩ (by omega) (by simp) (fun t e he => by simp at he) ⟨fun a k q1 q2 => ?_, rfl, rfl⟩ (by simp)
  rw [rf_wi_of _ _ (by omega), rf_wi_of _ _ (by omega), rf_wi_of _ _ (by omega)]
  rfl
end SC5
/-! bounds of what the scanner lays down -/
