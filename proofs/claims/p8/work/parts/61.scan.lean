/-! THE SCANNER: what it reads -/
def sp_l (x : Int32) : Bool := decide (97 ≤ x.toInt) && decide (x.toInt ≤ 122)
def sp_d (x : Int32) : Bool := decide (48 ≤ x.toInt) && decide (x.toInt ≤ 57)
def sp_s (x : Int32) : Bool := [61, 59, 40, 41, 123, 125, 60, 35, 43, 45, 42, 47, 37].elem x.toInt
def bI (c : Bool) : Int32 := if c then 1 else 0
def sp_end (p : Int32 → Bool) (b : Nat → Int32) (n : Nat) : Nat → Nat → Nat
  | 0, i => i
  | f + 1, i => if i < n ∧ p (b i) = true then sp_end p b n f (i + 1) else i
/-- where a row of such bytes ends -/
def sp_e (p : Int32 → Bool) (b : Nat → Int32) (n i : Nat) : Nat := sp_end p b n (n - i) i
theorem sp_e_yes {p : Int32 → Bool} {b : Nat → Int32} {n i : Nat} (h1 : i < n) (h2 : p (b i) = true) : sp_e p b n i = sp_e p b n (i + 1) := by
  unfold sp_e
  obtain ⟨f, hf⟩ : ∃ f, n - i = f + 1 := ⟨n - i - 1, by omega⟩
  rw [hf, show n - (i + 1) = f by omega]
  show (if i < n ∧ p (b i) = true then _ else _) = _
  rw [if_pos ⟨h1, h2⟩]
theorem sp_e_no {p : Int32 → Bool} {b : Nat → Int32} {n i : Nat} (h : ¬ (i < n ∧ p (b i) = true)) : sp_e p b n i = i := by
  unfold sp_e
  cases n - i with
  | zero => rfl
  | succ f =>
    show (if i < n ∧ p (b i) = true then _ else _) = _
    rw [if_neg h]
theorem sp_end_le {p : Int32 → Bool} {b : Nat → Int32} {n : Nat} : ∀ (f i : Nat), i ≤ n → i ≤ sp_end p b n f i ∧ sp_end p b n f i ≤ n
  | 0, i, h => ⟨Nat.le_refl _, h⟩
  | f + 1, i, h => by
    show i ≤ (if i < n ∧ p (b i) = true then sp_end p b n f (i + 1) else i) ∧ (if i < n ∧ p (b i) = true then sp_end p b n f (i + 1) else i) ≤ n
    split
    · rename_i hc
      have := sp_end_le (p := p) (b := b) f (i + 1) hc.1
      omega
    · omega
theorem sp_e_le {p : Int32 → Bool} {b : Nat → Int32} {n i : Nat} (h : i ≤ n) : i ≤ sp_e p b n i ∧ sp_e p b n i ≤ n := sp_end_le _ _ h
/-- do these letters stand there -/
def sp_wd (b : Nat → Int32) (i j : Nat) (w : List Nat) : Bool := decide (j - i = w.length) && (List.range w.length).all (fun t => decide (b (i + t) = Int32.ofNat (w.getD t 0)))
def sp_word (b : Nat → Int32) (i j : Nat) : Int32 := if sp_wd b i j [105, 102] then 10 else if sp_wd b i j [101, 108, 115, 101] then 11 else if sp_wd b i j [119, 104, 105, 108, 101] then 12 else if sp_wd b i j [114, 101, 116, 114, 121] then 13 else if sp_wd b i j [116, 104, 114, 111, 119] then 14 else if sp_wd b i j [101, 105, 116, 104, 101, 114] then 15 else if sp_wd b i j [111, 114] then 16 else if sp_wd b i j [116, 114, 121] then 17 else if sp_wd b i j [99, 97, 116, 99, 104] then 18 else if sp_wd b i j [97, 108, 119, 97, 121, 115] then 19 else 3
/-- the shapes, the references and the words that the scanner looks at -/
def sc_S (fz : Bool) (S : gS) : Prop := go (cx0 fz) S 170 3 ∧ ga (cx0 fz) S 171 .int 801 ∧ ga (cx0 fz) S 172 .int 801 ∧ ga (cx0 fz) S 173 .int 801 ∧ ga (cx0 fz) S 23 .int 800
def sc_w (fz : Bool) (S : gS) (M : rf_M) (a b : Nat) (w : List Nat) : Prop := tx_w fz S M a b w.length ∧ ∀ t, t < w.length → M.1 b t = Int32.ofNat (w.getD t 0)
def sc_M (fz : Bool) (S : gS) (M : rf_M) : Prop := (M.2.2 170 0 = some 171 ∧ M.2.2 170 1 = some 172 ∧ M.2.2 170 2 = some 173 ∧ M.2.2 170 4 = some 23) ∧ sc_w fz S M 2 3 [105, 102] ∧ sc_w fz S M 4 5 [101, 108, 115, 101] ∧ sc_w fz S M 6 7 [119, 104, 105, 108, 101] ∧ sc_w fz S M 8 9 [114, 101, 116, 114, 121] ∧ sc_w fz S M 10 11 [116, 104, 114, 111, 119] ∧ sc_w fz S M 12 13 [101, 105, 116, 104, 101, 114] ∧ sc_w fz S M 14 15 [111, 114] ∧ sc_w fz S M 16 17 [116, 114, 121] ∧ sc_w fz S M 18 19 [99, 97, 116, 99, 104] ∧ sc_w fz S M 20 21 [97, 108, 119, 97, 121, 115]
section SC
variable {fz : Bool} {S : gS} {M : rf_M}
theorem sc_sl {x : Int32} : gx (cx0 fz) (0, 0) 21 0 [(0, .int x)] [] (M, S) (fun r h' => r = some (.int (bI (sp_l x))) ∧ h' = (M, S)) := by
  refine g1 (n := 1) rfl rfl rfl rfl ?_
  refine g1 (n := 2) rfl rfl rfl rfl ?_
  refine g_ic rfl (fun c => ?_) (fun c => ?_)
  · have c : x.toInt < 97 := (rf_cc_iff x 97 .lt).mp c
    refine g1 (n := 1) rfl rfl rfl rfl ?_
    exact gx_ret rfl rfl ⟨by have e : sp_l x = false := by (unfold sp_l; simp; omega)
                             rw [e]; rfl, rfl⟩
  · have c : ¬ x.toInt < 97 := fun z => c ((rf_cc_iff x 97 .lt).mpr z)
    refine g1 (n := 1) rfl rfl rfl rfl ?_
    refine g1 (n := 2) rfl rfl rfl rfl ?_
    refine g_ic rfl (fun c2 => ?_) (fun c2 => ?_)
    · have c2 : (122 : Int) < x.toInt := (rf_cc_iff x 122 .gt).mp c2
      refine g1 (n := 1) rfl rfl rfl rfl ?_
      exact gx_ret rfl rfl ⟨by have e : sp_l x = false := by (unfold sp_l; simp; omega)
                               rw [e]; rfl, rfl⟩
    · have c2 : ¬ (122 : Int) < x.toInt := fun z => c2 ((rf_cc_iff x 122 .gt).mpr z)
      refine g1 (n := 1) rfl rfl rfl rfl ?_
      refine g3 rfl rfl rfl ?_
      exact gx_ret rfl rfl ⟨by have e : sp_l x = true := by (unfold sp_l; simp; omega)
                               rw [e]; rfl, rfl⟩
theorem sc_dg {x : Int32} : gx (cx0 fz) (0, 0) 32 0 [(0, .int x)] [] (M, S) (fun r h' => r = some (.int (bI (sp_d x))) ∧ h' = (M, S)) := by
  refine g1 (n := 1) rfl rfl rfl rfl ?_
  refine g1 (n := 2) rfl rfl rfl rfl ?_
  refine g_ic rfl (fun c => ?_) (fun c => ?_)
  · have c : x.toInt < 48 := (rf_cc_iff x 48 .lt).mp c
    refine g1 (n := 1) rfl rfl rfl rfl ?_
    exact gx_ret rfl rfl ⟨by have e : sp_d x = false := by (unfold sp_d; simp; omega)
                             rw [e]; rfl, rfl⟩
  · have c : ¬ x.toInt < 48 := fun z => c ((rf_cc_iff x 48 .lt).mpr z)
    refine g1 (n := 1) rfl rfl rfl rfl ?_
    refine g1 (n := 2) rfl rfl rfl rfl ?_
    refine g_ic rfl (fun c2 => ?_) (fun c2 => ?_)
    · have c2 : (57 : Int) < x.toInt := (rf_cc_iff x 57 .gt).mp c2
      refine g1 (n := 1) rfl rfl rfl rfl ?_
      exact gx_ret rfl rfl ⟨by have e : sp_d x = false := by (unfold sp_d; simp; omega)
                               rw [e]; rfl, rfl⟩
    · have c2 : ¬ (57 : Int) < x.toInt := fun z => c2 ((rf_cc_iff x 57 .gt).mpr z)
      refine g1 (n := 1) rfl rfl rfl rfl ?_
      refine g3 rfl rfl rfl ?_
      exact gx_ret rfl rfl ⟨by have e : sp_d x = true := by (unfold sp_d; simp; omega)
                               rw [e]; rfl, rfl⟩
/-- does the word stand between i and j -/
theorem sc_reads {a b i j : Nat} {w : List Nat} (hS : sc_S fz S) (hb : M.2.2 170 4 = some 23) (hw : sc_w fz S M a b w) (hj : M.1 170 6 = nI j) (hij : i ≤ j) (hj8 : j ≤ 800) : gx (cx0 fz) (4, 130) 24 0 [(0, .ref 170), (1, .int (nI i)), (2, .ref a)] [] (M, S) (fun r h' => r = some (.int (bI (sp_wd (M.1 23) i j w))) ∧ h' = (M, S)) := by
  have hn := hw.1.2.2.2.2.1
  have loop : ∀ (m k : Nat), w.length - k ≤ m → k ≤ w.length → j - i = w.length → (∀ t, t < k → M.1 23 (i + t) = Int32.ofNat (w.getD t 0)) → gx (cx0 fz) (4, 130) 24 17 [(3, .int (nI k)), (0, .ref 170), (1, .int (nI i)), (2, .ref a)] [] (M, S) (fun r h' => r = some (.int (bI (sp_wd (M.1 23) i j w))) ∧ h' = (M, S)) := by
    intro m
    induction m with
    | zero =>
      intro k h1 h2 h3 h4
      have hk : k = w.length := by omega
      subst hk
      refine g1 (n := 1) rfl rfl rfl rfl ?_
      refine g1 (n := 1) rfl rfl rfl rfl ?_
      refine m_ivo (a := a) (as := []) (rest := [.int (nI w.length)]) rfl (by decide) hw.1.1 rfl rfl (Nat.le_of_ble_eq_true rfl) ⟨Nat.le_of_ble_eq_true rfl, Nat.le_of_ble_eq_true rfl, Nat.le_of_ble_eq_true rfl⟩ ?_
      refine gx_room (gx_mono (tx_len hw.1) ?_) (Nat.le_of_ble_eq_true rfl) (Nat.le_of_ble_eq_true rfl)
      rintro r h' ⟨rfl, rfl⟩
      refine g_ic rfl (fun _ => ?_) (fun c => absurd ((rf_cc_iff _ _ .ge).mpr (Int.le_refl _)) c)
      refine g1 (n := 1) rfl rfl rfl rfl ?_
      refine gx_ret rfl rfl ⟨?_, rfl⟩
      have e : sp_wd (M.1 23) i j w = true := by
        unfold sp_wd
        simp only [Bool.and_eq_true, decide_eq_true_eq, List.all_eq_true, List.mem_range]
        exact ⟨h3, h4⟩
      rw [e]; rfl
    | succ m ih =>
      intro k h1 h2 h3 h4
      refine g1 (n := 1) rfl rfl rfl rfl ?_
      refine g1 (n := 1) rfl rfl rfl rfl ?_
      refine m_ivo (a := a) (as := []) (rest := [.int (nI k)]) rfl (by decide) hw.1.1 rfl rfl (Nat.le_of_ble_eq_true rfl) ⟨Nat.le_of_ble_eq_true rfl, Nat.le_of_ble_eq_true rfl, Nat.le_of_ble_eq_true rfl⟩ ?_
      refine gx_room (gx_mono (tx_len hw.1) ?_) (Nat.le_of_ble_eq_true rfl) (Nat.le_of_ble_eq_true rfl)
      rintro r h' ⟨rfl, rfl⟩
      refine g_ic rfl (fun c => ?_) (fun c => ?_)
      · have c : (nI w.length).toInt ≤ (nI k).toInt := (rf_cc_iff _ _ .ge).mp c
        rw [nI_int (by omega), nI_int (by omega)] at c
        have hk : k = w.length := by omega
        refine g1 (n := 1) rfl rfl rfl rfl ?_
        refine gx_ret rfl rfl ⟨?_, rfl⟩
        have e : sp_wd (M.1 23) i j w = true := by
          unfold sp_wd
          simp only [Bool.and_eq_true, decide_eq_true_eq, List.all_eq_true, List.mem_range]
          exact ⟨h3, fun t ht => h4 t (by omega)⟩
        rw [e]; rfl
      · have c : ¬ (nI w.length).toInt ≤ (nI k).toInt := fun z => c ((rf_cc_iff _ _ .ge).mpr z)
        rw [nI_int (by omega), nI_int (by omega)] at c
        have hk : k < w.length := by omega
        refine g1 (n := 1) rfl rfl rfl rfl ?_
        refine m_gf rfl hS.1 rfl (v := .ref 23) (by show va_rf (M.2.2 170 4) = _; rw [hb]; rfl) ?_
        refine g1 (n := 1) rfl rfl rfl rfl ?_
        refine g1 (n := 1) rfl rfl rfl rfl ?_
        refine g0 rfl rfl rfl ?_
        have hik : (nI i + nI k).toInt = ((i + k : Nat) : Int) := by
          rw [Int32.toInt_add, nI_int (by omega), nI_int (by omega)]
          exact Int.bmod_eq_of_le (by omega) (by omega)
        refine m_il rfl hS.2.2.2.2.oa hik (by omega) ?_
        refine g1 (n := 1) rfl rfl rfl rfl ?_
        refine g1 (n := 1) rfl rfl rfl rfl ?_
        refine m_ivo (a := a) (as := [.int (nI k)]) (rest := [.int (M.1 23 (i + k))]) rfl (by decide) hw.1.1 rfl rfl (Nat.le_of_ble_eq_true rfl) ⟨Nat.le_of_ble_eq_true rfl, Nat.le_of_ble_eq_true rfl, Nat.le_of_ble_eq_true rfl⟩ ?_
        refine gx_room (gx_mono (tx_char hw.1 (nI_int (by omega)) hk) ?_) (Nat.le_of_ble_eq_true rfl) (Nat.le_of_ble_eq_true rfl)
        rintro r h' ⟨rfl, rfl⟩
        rw [hw.2 k hk]
        refine g_ic rfl (fun c2 => ?_) (fun c2 => ?_)
        · have c2 : M.1 23 (i + k) = Int32.ofNat (w.getD k 0) := of_decide_eq_true c2
          refine g2 (n := 3) rfl rfl rfl rfl ?_
          refine g3 rfl rfl rfl ?_
          have e : nI k + Int32.ofInt 1 = nI (k + 1) := by
            refine Int32.toInt_inj.mp ?_
            rw [Int32.toInt_add, nI_int (by omega), nI_int (by omega), Int32.toInt_ofInt_of_le (by omega) (by omega)]
            exact Int.bmod_eq_of_le (by omega) (by omega)
          have e2 : rf_s1 [(3, Value.int (nI k)), (0, .ref 170), (1, .int (nI i)), (2, .ref a)] 3 (.int (nI k + Int32.ofInt 1)) = [(3, .int (nI (k + 1))), (0, .ref 170), (1, .int (nI i)), (2, .ref a)] := by rw [e]; rfl
          rw [e2]
          refine ih (k + 1) (by omega) (by omega) h3 (fun t ht => ?_)
          by_cases htk : t = k
          · rw [htk]; exact c2
          · exact h4 t (by omega)
        · have c2 : ¬ M.1 23 (i + k) = Int32.ofNat (w.getD k 0) := fun z => c2 (decide_eq_true z)
          refine g1 (n := 1) rfl rfl rfl rfl ?_
          refine gx_ret rfl rfl ⟨?_, rfl⟩
          have e : sp_wd (M.1 23) i j w = false := by
            unfold sp_wd
            rw [Bool.and_eq_false_iff]
            right
            rw [List.all_eq_false]
            exact ⟨k, List.mem_range.mpr hk, by simpa using c2⟩
          rw [e]; rfl
  refine g1 (n := 1) rfl rfl rfl rfl ?_
  refine m_gf rfl hS.1 rfl (v := .int (nI j)) (by show Value.int (M.1 170 6) = _; rw [hj]) ?_
  refine g1 (n := 1) rfl rfl rfl rfl ?_
  refine g0 rfl rfl rfl ?_
  have hji : (nI j - nI i).toInt = ((j - i : Nat) : Int) := by
    rw [Int32.toInt_sub, nI_int (by omega), nI_int (by omega)]
    rw [Int.bmod_eq_of_le (by omega) (by omega)]
    omega
  refine g1 (n := 1) rfl rfl rfl rfl ?_
  refine m_ivo (a := a) (as := []) (rest := [.int (nI j - nI i)]) rfl (by decide) hw.1.1 rfl rfl (Nat.le_of_ble_eq_true rfl) ⟨Nat.le_of_ble_eq_true rfl, Nat.le_of_ble_eq_true rfl, Nat.le_of_ble_eq_true rfl⟩ ?_
  refine gx_room (gx_mono (tx_len hw.1) ?_) (Nat.le_of_ble_eq_true rfl) (Nat.le_of_ble_eq_true rfl)
  rintro r h' ⟨rfl, rfl⟩
  refine g_ic rfl (fun c => ?_) (fun c => ?_)
  · have c : (nI j - nI i).toInt = (nI w.length).toInt := (rf_cc_iff _ _ .eq).mp c
    rw [hji, nI_int (by omega)] at c
    refine g1 (n := 1) rfl rfl rfl rfl ?_
    refine g2 (n := 1) rfl rfl rfl rfl ?_
    exact loop w.length 0 (by omega) (by omega) (by omega) (fun t ht => absurd ht (Nat.not_lt_zero _))
  · have c : ¬ (nI j - nI i).toInt = (nI w.length).toInt := fun z => c ((rf_cc_iff _ _ .eq).mpr z)
    rw [hji, nI_int (by omega)] at c
    refine g1 (n := 1) rfl rfl rfl rfl ?_
    refine gx_ret rfl rfl ⟨?_, rfl⟩
    have e : sp_wd (M.1 23) i j w = false := by
      unfold sp_wd
      rw [Bool.and_eq_false_iff]
      left
      exact decide_eq_false (by omega)
    rw [e]; rfl
end SC
