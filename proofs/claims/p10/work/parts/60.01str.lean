theorem sp_e_yes {p : Int32 → Bool} {b : Nat → Int32} {n i : Nat} (h1 : i < n) (h2 : p (b i) = true) : sp_e p b n i = sp_e p b n (i + 1) := by
  unfold sp_e
  obtain ⟨f, hf⟩ : ∃ f, n - i = f + 1 := ⟨n - i - 1, by omega⟩
  rw [hf, show n - (i + 1) = f by omega]
  show (if i < n ∧ p (b i) = true then _ else _) = _
  rw [if_pos ⟨h1, h2⟩]
theorem sp_e_no {p : Int32 → Bool} {b : Nat → Int32} {n i : Nat} (h : ¬ (i < n ∧ p (b i) = true)) : sp_e p b n i = i := by
  unfold sp_e
  cases n - i with
  | zero => rfl
  | succ f =>
    show (if i < n ∧ p (b i) = true then _ else _) = _
    rw [if_neg h]
theorem sp_end_le {p : Int32 → Bool} {b : Nat → Int32} {n : Nat} : ∀ (f i : Nat), i ≤ n → i ≤ sp_end p b n f i ∧ sp_end p b n f i ≤ n
  | 0, i, h => ⟨Nat.le_refl _, h⟩
  | f + 1, i, h => by
    show i ≤ (if i < n ∧ p (b i) = true then sp_end p b n f (i + 1) else i) ∧ (if i < n ∧ p (b i) = true then sp_end p b n f (i + 1) else i) ≤ n
    split
    · rename_i hc
      have := sp_end_le (p := p) (b := b) f (i + 1) hc.1
      omega
    · omega
theorem sp_e_le {p : Int32 → Bool} {b : Nat → Int32} {n i : Nat} (h : i ≤ n) : i ≤ sp_e p b n i ∧ sp_e p b n i ≤ n := sp_end_le _ _ h
/-- do these letters stand there -/
def sp_wd (b : Nat → Int32) (i j : Nat) (w : List Nat) : Bool := decide (j - i = w.length) && (List.range w.length).all (fun t => decide (b (i + t) = Int32.ofNat (w.getD t 0)))
def sp_word (b : Nat → Int32) (i j : Nat) : Int32 := if sp_wd b i j [105, 102] then 10 else if sp_wd b i j [101, 108, 115, 101] then 11 else if sp_wd b i j [119, 104, 105, 108, 101] then 12 else if sp_wd b i j [114, 101, 116, 114, 121] then 13 else if sp_wd b i j [116, 104, 114, 111, 119] then 14 else if sp_wd b i j [101, 105, 116, 104, 101, 114] then 15 else if sp_wd b i j [111, 114] then 16 else if sp_wd b i j [116, 114, 121] then 17 else if sp_wd b i j [99, 97, 116, 99, 104] then 18 else if sp_wd b i j [97, 108, 119, 97, 121, 115] then 19 else 3
/-- the shapes, the references and the words that the scanner looks at -/
def sc_S (fz : Bool) (S : gS) : Prop := go (cx0 fz) S 170 3 ∧ ga (cx0 fz) S 171 .int 801 ∧ ga (cx0 fz) S 172 .int 801 ∧ ga (cx0 fz) S 173 .int 801 ∧ ga (cx0 fz) S 23 .int 800
def sc_w (fz : Bool) (S : gS) (M : rf_M) (a b : Nat) (w : List Nat) : Prop := tx_w fz S M a b w.length ∧ ∀ t, t < w.length → M.1 b t = Int32.ofNat (w.getD t 0)
def sc_M (fz : Bool) (S : gS) (M : rf_M) : Prop := (M.2.2 170 0 = some 171 ∧ M.2.2 170 1 = some 172 ∧ M.2.2 170 2 = some 173 ∧ M.2.2 170 4 = some 23) ∧ sc_w fz S M 2 3 [105, 102] ∧ sc_w fz S M 4 5 [101, 108, 115, 101] ∧ sc_w fz S M 6 7 [119, 104, 105, 108, 101] ∧ sc_w fz S M 8 9 [114, 101, 116, 114, 121] ∧ sc_w fz S M 10 11 [116, 104, 114, 111, 119] ∧ sc_w fz S M 12 13 [101, 105, 116, 104, 101, 114] ∧ sc_w fz S M 14 15 [111, 114] ∧ sc_w fz S M 16 17 [116, 114, 121] ∧ sc_w fz S M 18 19 [99, 97, 116, 99, 104] ∧ sc_w fz S M 20 21 [97, 108, 119, 97, 121, 115]
section SC
variable {fz : Bool} {S : gS} {M : rf_M}
theorem sc_sl {x : Int32} : gx (cx0 fz) (0, 0) 21 0 [(0, .int x)] [] (M, S) (fun r h' => r = some (.int (bI (sp_l x))) ∧ h' = (M, S)) := by
  refine g1 (n := 1) rfl rfl rfl rfl ?_
  refine g1 (n := 2) rfl rfl rfl rfl ?_
  refine g_ic rfl (fun c => ?_) (fun c => ?_)
  · have c : x.toInt < 97 := (rf_cc_iff x 97 .lt).mp c
    refine g1 (n := 1) rfl rfl rfl rfl ?_
    exact gx_ret rfl rfl ⟨by have e : sp_l x = false := by (unfold sp_l; simp; omega)
                             rw [e]; rfl, rfl⟩
  · have c : ¬ x.toInt < 97 := fun z => c ((rf_cc_iff x 97 .lt).mpr z)
    refine g1 (n := 1) rfl rfl rfl rfl ?_
    refine g1 (n := 2) rfl rfl rfl rfl ?_
    refine g_ic rfl (fun c2 => ?_) (fun c2 => ?_)
    · have c2 : (122 : Int) < x.toInt := (rf_cc_iff x 122 .gt).mp c2
      refine g1 (n := 1) rfl rfl rfl rfl ?_
      exact gx_ret rfl rfl ⟨by have e : sp_l x = false := by (unfold sp_l; simp; omega)
                               rw [e]; rfl, rfl⟩
    · have c2 : ¬ (122 : Int) < x.toInt := fun z => c2 ((rf_cc_iff x 122 .gt).mpr z)
      refine g1 (n := 1) rfl rfl rfl rfl ?_
      refine g3 rfl rfl rfl ?_
      exact gx_ret rfl rfl ⟨by have e : sp_l x = true := by (unfold sp_l; simp; omega)
                               rw [e]; rfl, rfl⟩
theorem sc_dg {x : Int32} : gx (cx0 fz) (0, 0) 32 0 [(0, .int x)] [] (M, S) (fun r h' => r = some (.int (bI (sp_d x))) ∧ h' = (M, S)) := by
  refine g1 (n := 1) rfl rfl rfl rfl ?_
  refine g1 (n := 2) rfl rfl rfl rfl ?_
  refine g_ic rfl (fun c => ?_) (fun c => ?_)
  · have c : x.toInt < 48 := (rf_cc_iff x 48 .lt).mp c
    refine g1 (n := 1) rfl rfl rfl rfl ?_
    exact gx_ret rfl rfl ⟨by have e : sp_d x = false := by (unfold sp_d; simp; omega)
                             rw [e]; rfl, rfl⟩
  · have c : ¬ x.toInt < 48 := fun z => c ((rf_cc_iff x 48 .lt).mpr z)
    refine g1 (n := 1) rfl rfl rfl rfl ?_
    refine g1 (n := 2) rfl rfl rfl rfl ?_
    refine g_ic rfl (fun c2 => ?_) (fun c2 => ?_)
    · have c2 : (57 : Int) < x.toInt := (rf_cc_iff x 57 .gt).mp c2
      refine g1 (n := 1) rfl rfl rfl rfl ?_
      exact gx_ret rfl rfl ⟨by have e : sp_d x = false := by (unfold sp_d; simp; omega)
                               rw [e]; rfl, rfl⟩
    · have c2 : ¬ (57 : Int) < x.toInt := fun z => c2 ((rf_cc_iff x 57 .gt).mpr z)
      refine g1 (n := 1) rfl rfl rfl rfl ?_
      refine g3 rfl rfl rfl ?_
      exact gx_ret rfl rfl ⟨by have e : sp_d x = true := by (unfold sp_d; simp; omega)
                               rw [e]; rfl, rfl⟩
/-- does the word stand between i and j -/
theorem sc_reads {a b i j : Nat} {w : List Nat} (hS : sc_S fz S) (hb : M.2.2 170 4 = some 23) (hw : sc_w fz S M a b w) (hj : M.1 170 6 = nI j) (hij : i ≤ j) (hj8 : j ≤ 800) : gx (cx0 fz) (4, 130) 24 0 [(0, .ref 170), (1, .int (nI i)), (2, .ref a)] [] (M, S) (fun r h' => r = some (.int (bI (sp_wd (M.1 23) i j w))) ∧ h' = (M, S)) := by
  have hn := hw.1.2.2.2.2.1
  have loop : ∀ (m k : Nat), w.length - k ≤ m → k ≤ w.length → j - i = w.length → (∀ t, t < k → M.1 23 (i + t) = Int32.ofNat (w.getD t 0)) → gx (cx0 fz) (4, 130) 24 17 [(3, .int (nI k)), (0, .ref 170), (1, .int (nI i)), (2, .ref a)] [] (M, S) (fun r h' => r = some (.int (bI (sp_wd (M.1 23) i j w))) ∧ h' = (M, S)) := by
    intro m
    induction m with
    | zero =>
      intro k h1 h2 h3 h4
      have hk : k = w.length := by omega
      subst hk
      refine g1 (n := 1) rfl rfl rfl rfl ?_
      refine g1 (n := 1) rfl rfl rfl rfl ?_
      refine m_ivo (a := a) (as := []) (rest := [.int (nI w.length)]) rfl (by decide) hw.1.1 rfl rfl (Nat.le_of_ble_eq_true rfl) ⟨Nat.le_of_ble_eq_true rfl, Nat.le_of_ble_eq_true rfl, Nat.le_of_ble_eq_true rfl⟩ ?_
      refine gx_room (gx_mono (tx_len hw.1) ?_) (Nat.le_of_ble_eq_true rfl) (Nat.le_of_ble_eq_true rfl)
      rintro r h' ⟨rfl, rfl⟩
      refine g_ic rfl (fun _ => ?_) (fun c => absurd ((rf_cc_iff _ _ .ge).mpr (Int.le_refl _)) c)
      refine g1 (n := 1) rfl rfl rfl rfl ?_
      refine gx_ret rfl rfl ⟨?_, rfl⟩
      have e : sp_wd (M.1 23) i j w = true := by
        unfold sp_wd
        simp only [Bool.and_eq_true, decide_eq_true_eq, List.all_eq_true, List.mem_range]
        exact ⟨h3, h4⟩
      rw [e]; rfl
    | succ m ih =>
      intro k h1 h2 h3 h4
      refine g1 (n := 1) rfl rfl rfl rfl ?_
      refine g1 (n := 1) rfl rfl rfl rfl ?_
      refine m_ivo (a := a) (as := []) (rest := [.int (nI k)]) rfl (by decide) hw.1.1 rfl rfl (Nat.le_of_ble_eq_true rfl) ⟨Nat.le_of_ble_eq_true rfl, Nat.le_of_ble_eq_true rfl, Nat.le_of_ble_eq_true rfl⟩ ?_
      refine gx_room (gx_mono (tx_len hw.1) ?_) (Nat.le_of_ble_eq_true rfl) (Nat.le_of_ble_eq_true rfl)
      rintro r h' ⟨rfl, rfl⟩
      refine g_ic rfl (fun c => ?_) (fun c => ?_)
      · have c : (nI w.length).toInt ≤ (nI k).toInt := (rf_cc_iff _ _ .ge).mp c
        rw [nI_int (by omega), nI_int (by omega)] at c
        have hk : k = w.length := by omega
        refine g1 (n := 1) rfl rfl rfl rfl ?_
        refine gx_ret rfl rfl ⟨?_, rfl⟩
        have e : sp_wd (M.1 23) i j w = true := by
          unfold sp_wd
          simp only [Bool.and_eq_true, decide_eq_true_eq, List.all_eq_true, List.mem_range]
          exact ⟨h3, fun t ht => h4 t (by omega)⟩
        rw [e]; rfl
      · have c : ¬ (nI w.length).toInt ≤ (nI k).toInt := fun z => c ((rf_cc_iff _ _ .ge).mpr z)
        rw [nI_int (by omega), nI_int (by omega)] at c
        have hk : k < w.length := by omega
        refine g1 (n := 1) rfl rfl rfl rfl ?_
        refine m_gf rfl hS.1 rfl (v := .ref 23) (by show va_rf (M.2.2 170 4) = _; rw [hb]; rfl) ?_
        refine g1 (n := 1) rfl rfl rfl rfl ?_
        refine g1 (n := 1) rfl rfl rfl rfl ?_
        refine g0 rfl rfl rfl ?_
        have hik : (nI i + nI k).toInt = ((i + k : Nat) : Int) := by
          rw [Int32.toInt_add, nI_int (by omega), nI_int (by omega)]
          exact Int.bmod_eq_of_le (by omega) (by omega)
        refine m_il rfl hS.2.2.2.2.oa hik (by omega) ?_
        refine g1 (n := 1) rfl rfl rfl rfl ?_
        refine g1 (n := 1) rfl rfl rfl rfl ?_
        refine m_ivo (a := a) (as := [.int (nI k)]) (rest := [.int (M.1 23 (i + k))]) rfl (by decide) hw.1.1 rfl rfl (Nat.le_of_ble_eq_true rfl) ⟨Nat.le_of_ble_eq_true rfl, Nat.le_of_ble_eq_true rfl, Nat.le_of_ble_eq_true rfl⟩ ?_
        refine gx_room (gx_mono (tx_char hw.1 (nI_int (by omega)) hk) ?_) (Nat.le_of_ble_eq_true rfl) (Nat.le_of_ble_eq_true rfl)
        rintro r h' ⟨rfl, rfl⟩
        rw [hw.2 k hk]
        refine g_ic rfl (fun c2 => ?_) (fun c2 => ?_)
        · have c2 : M.1 23 (i + k) = Int32.ofNat (w.getD k 0) := of_decide_eq_true c2
          refine g2 (n := 3) rfl rfl rfl rfl ?_
          refine g3 rfl rfl rfl ?_
          have e : nI k + Int32.ofInt 1 = nI (k + 1) := by
            refine Int32.toInt_inj.mp ?_
            rw [Int32.toInt_add, nI_int (by omega), nI_int (by omega), Int32.toInt_ofInt_of_le (by omega) (by omega)]
            exact Int.bmod_eq_of_le (by omega) (by omega)
          have e2 : rf_s1 [(3, Value.int (nI k)), (0, .ref 170), (1, .int (nI i)), (2, .ref a)] 3 (.int (nI k + Int32.ofInt 1)) = [(3, .int (nI (k + 1))), (0, .ref 170), (1, .int (nI i)), (2, .ref a)] := by rw [e]; rfl
          rw [e2]
          refine ih (k + 1) (by omega) (by omega) h3 (fun t ht => ?_)
          by_cases htk : t = k
          · rw [htk]; exact c2
          · exact h4 t (by omega)
        · have c2 : ¬ M.1 23 (i + k) = Int32.ofNat (w.getD k 0) := fun z => c2 (decide_eq_true z)
          refine g1 (n := 1) rfl rfl rfl rfl ?_
          refine gx_ret rfl rfl ⟨?_, rfl⟩
          have e : sp_wd (M.1 23) i j w = false := by
            unfold sp_wd
            rw [Bool.and_eq_false_iff]
            right
            rw [List.all_eq_false]
            exact ⟨k, List.mem_range.mpr hk, by simpa using c2⟩
          rw [e]; rfl
  refine g1 (n := 1) rfl rfl rfl rfl ?_
  refine m_gf rfl hS.1 rfl (v := .int (nI j)) (by show Value.int (M.1 170 6) = _; rw [hj]) ?_
  refine g1 (n := 1) rfl rfl rfl rfl ?_
  refine g0 rfl rfl rfl ?_
  have hji : (nI j - nI i).toInt = ((j - i : Nat) : Int) := by
    rw [Int32.toInt_sub, nI_int (by omega), nI_int (by omega)]
    rw [Int.bmod_eq_of_le (by omega) (by omega)]
    omega
  refine g1 (n := 1) rfl rfl rfl rfl ?_
  refine m_ivo (a := a) (as := []) (rest := [.int (nI j - nI i)]) rfl (by decide) hw.1.1 rfl rfl (Nat.le_of_ble_eq_true rfl) ⟨Nat.le_of_ble_eq_true rfl, Nat.le_of_ble_eq_true rfl, Nat.le_of_ble_eq_true rfl⟩ ?_
  refine gx_room (gx_mono (tx_len hw.1) ?_) (Nat.le_of_ble_eq_true rfl) (Nat.le_of_ble_eq_true rfl)
  rintro r h' ⟨rfl, rfl⟩
  refine g_ic rfl (fun c => ?_) (fun c => ?_)
  · have c : (nI j - nI i).toInt = (nI w.length).toInt := (rf_cc_iff _ _ .eq).mp c
    rw [hji, nI_int (by omega)] at c
    refine g1 (n := 1) rfl rfl rfl rfl ?_
    refine g2 (n := 1) rfl rfl rfl rfl ?_
    exact loop w.length 0 (by omega) (by omega) (by omega) (fun t ht => absurd ht (Nat.not_lt_zero _))
  · have c : ¬ (nI j - nI i).toInt = (nI w.length).toInt := fun z => c ((rf_cc_iff _ _ .eq).mpr z)
    rw [hji, nI_int (by omega)] at c
    refine g1 (n := 1) rfl rfl rfl rfl ?_
    refine gx_ret rfl rfl ⟨?_, rfl⟩
    have e : sp_wd (M.1 23) i j w = false := by
      unfold sp_wd
      rw [Bool.and_eq_false_iff]
      left
      exact decide_eq_false (by omega)
    rw [e]; rfl
end SC
/-! the scanner's methods -/
theorem rf_wi_wi (M : rf_M) (a k : Nat) (x y : Int32) : rf_wi (rf_wi M a k x) a k y = rf_wi M a k y := by
  unfold rf_wi
  refine Prod.ext ?_ rfl
  funext a' k'
  dsimp only
  unfold va_up
  by_cases h : a' = a
  · by_cases h2 : k' = k
    · simp [h, h2]
    · simp [h, h2]
  · simp [h]
theorem rf_wi_id {M : rf_M} {a k : Nat} {x : Int32} (h : M.1 a k = x) : rf_wi M a k x = M := by
  unfold rf_wi
  refine Prod.ext ?_ rfl
  funext a' k'
  dsimp only
  unfold va_up
  by_cases h1 : a' = a
  · by_cases h2 : k' = k
    · subst h1 h2; simp [h]
    · simp [h1, h2]
  · simp [h1]
section M2
variable {cx : rf_C} {d : Nat × Nat} {i pc : Nat} {ls : rf_L} {st : List Value} {Q : Option Value → rf_H → Prop} {M : rf_M} {S : gS} {aux : List (Int × Nat)}
theorem m_iv {idx a ci j n : Nat} {kd : Int} {tg : List (Int × Nat)} {as rest : List Value} (hf : cx.1 i pc = some (.invokevirtual idx, (kd, n) :: tg)) (hk : ¬ 10 ≤ kd) (hs : go cx S a ci) (hl : rf_lk tg (ci : Int) = some j) (hn : as.length = n) (hc : (rest.map fun v => v.category).sum ≤ 8) (hroom : 1 ≤ d.1 ∧ (cx.2.1 j).2.2.1 + 19 ≤ d.2 ∧ (lg_sl (.ref a :: as)).length ≤ (cx.2.1 j).2.2.1) (k : gx cx (d.1 - 1, d.2 - ((cx.2.1 j).2.2.1 + 19)) j 0 (lv_args 0 (.ref a :: as)) [] (M, S) (fun r h' => gx cx d i (pc + 3) ls (r.toList ++ rest) h' Q)) : gx cx d i pc ls (as.reverse ++ .ref a :: rest) (M, S) Q := by
  refine gx_call hf (j := j) (as := .ref a :: as) (rest := rest) ?_ hroom k
  subst hn
  have h1 : (as.reverse ++ .ref a :: rest).drop as.length = .ref a :: rest := by
    rw [← List.length_reverse]; exact List.drop_left
  have h2 : (as.reverse ++ .ref a :: rest).take as.length = as.reverse := by
    rw [← List.length_reverse]; exact List.take_left
  unfold rf_ex
  show (if 10 ≤ kd then _ else _) = _
  rw [if_neg hk]
  unfold rf_ca
  dsimp only
  rw [h1]
  dsimp only
  rw [hs.ob]
  dsimp only
  rw [hs.ky, hl]
  dsimp only
  rw [if_pos ⟨by simp, hc⟩, h2, List.reverse_reverse]
  rfl
end M2
section SC2
variable {fz : Bool} {S : gS} {M : rf_M}
theorem sc_w_of {M M' : rf_M} {a b : Nat} {w : List Nat} (h1 : ∀ c k, c < 22 → M'.1 c k = M.1 c k) (h2 : M'.2.2 a 0 = M.2.2 a 0) (hab : a < 22 ∧ b < 22) (h : sc_w fz S M a b w) : sc_w fz S M' a b w := by
  obtain ⟨⟨t1, t2, t3, t4, t5, t6⟩, t7⟩ := h
  refine ⟨⟨t1, t2, h2.trans t3, (h1 a 1 hab.1).trans t4, t5, fun k hk => ?_⟩, fun t ht => (h1 b t hab.2).trans (t7 t ht)⟩
  obtain ⟨c, c1, c2⟩ := t6 k hk
  exact ⟨c, c1, (h1 b k hab.2).trans c2⟩
theorem sc_M_of {M M' : rf_M} (h1 : ∀ c k, c < 22 → M'.1 c k = M.1 c k) (h2 : ∀ c k, M'.2.2 c k = M.2.2 c k) (h : sc_M fz S M) : sc_M fz S M' := by
  obtain ⟨⟨r1, r2, r3, r4⟩, w1, w2, w3, w4, w5, w6, w7, w8, w9, w10⟩ := h
  exact ⟨⟨(h2 _ _).trans r1, (h2 _ _).trans r2, (h2 _ _).trans r3, (h2 _ _).trans r4⟩, sc_w_of h1 (h2 _ _) ⟨by omega, by omega⟩ w1, sc_w_of h1 (h2 _ _) ⟨by omega, by omega⟩ w2, sc_w_of h1 (h2 _ _) ⟨by omega, by omega⟩ w3, sc_w_of h1 (h2 _ _) ⟨by omega, by omega⟩ w4, sc_w_of h1 (h2 _ _) ⟨by omega, by omega⟩ w5, sc_w_of h1 (h2 _ _) ⟨by omega, by omega⟩ w6, sc_w_of h1 (h2 _ _) ⟨by omega, by omega⟩ w7, sc_w_of h1 (h2 _ _) ⟨by omega, by omega⟩ w8, sc_w_of h1 (h2 _ _) ⟨by omega, by omega⟩ w9, sc_w_of h1 (h2 _ _) ⟨by omega, by omega⟩ w10⟩
theorem sc_M_wi {a k : Nat} {x : Int32} (ha : 22 ≤ a) (h : sc_M fz S M) : sc_M fz S (rf_wi M a k x) := by
  refine sc_M_of (M := M) (M' := rf_wi M a k x) (fun c k' hc => ?_) (fun _ _ => rfl) h
  show va_up M.1 a (va_up (M.1 a) k x) c k' = M.1 c k'
  exact rf_up2 M.1 x (Or.inl (by omega))
theorem bI_no {c : Bool} (h : rf_cc (bI c) 0 .eq = true) : c = false := by
  cases c
  · rfl
  · exact absurd h (by decide)
theorem bI_yes {c : Bool} (h : ¬ rf_cc (bI c) 0 .eq = true) : c = true := by
  cases c
  · exact absurd (by decide) h
  · rfl
theorem sc_word {i j : Nat} (hS : sc_S fz S) (hM : sc_M fz S M) (hj : M.1 170 6 = nI j) (hij : i ≤ j) (hj8 : j ≤ 800) : gx (cx0 fz) (5, 160) 23 0 [(0, .ref 170), (1, .int (nI i))] [] (M, S) (fun r h' => r = some (.int (sp_word (M.1 23) i j)) ∧ h' = (M, S)) := by
  obtain ⟨⟨r1, r2, r3, r4⟩, w1, w2, w3, w4, w5, w6, w7, w8, w9, w10⟩ := hM
  unfold sp_word
  refine g1 (n := 1) rfl rfl rfl rfl ?_
  refine g1 (n := 1) rfl rfl rfl rfl ?_
  refine g7 (n := 2) rfl rfl rfl rfl ?_
  refine m_iv (a := 170) (as := [.int (nI i), .ref 2]) (rest := []) rfl (by decide) hS.1 rfl rfl (Nat.le_of_ble_eq_true rfl) ⟨Nat.le_of_ble_eq_true rfl, Nat.le_of_ble_eq_true rfl, Nat.le_of_ble_eq_true rfl⟩ ?_
  refine gx_room (gx_mono (sc_reads hS r4 w1 hj hij hj8) ?_) (Nat.le_of_ble_eq_true rfl) (Nat.le_of_ble_eq_true rfl)
  rintro r h' ⟨rfl, rfl⟩
  refine g_if rfl (fun c => ?_) (fun c => ?_)
  rotate_left
  · rw [bI_yes c]
    refine g1 (n := 2) rfl rfl rfl rfl ?_
    exact gx_ret rfl rfl ⟨rfl, rfl⟩
  rw [bI_no c]
  clear c
  refine g1 (n := 1) rfl rfl rfl rfl ?_
  refine g1 (n := 1) rfl rfl rfl rfl ?_
  refine g7 (n := 2) rfl rfl rfl rfl ?_
  refine m_iv (a := 170) (as := [.int (nI i), .ref 4]) (rest := []) rfl (by decide) hS.1 rfl rfl (Nat.le_of_ble_eq_true rfl) ⟨Nat.le_of_ble_eq_true rfl, Nat.le_of_ble_eq_true rfl, Nat.le_of_ble_eq_true rfl⟩ ?_
  refine gx_room (gx_mono (sc_reads hS r4 w2 hj hij hj8) ?_) (Nat.le_of_ble_eq_true rfl) (Nat.le_of_ble_eq_true rfl)
  rintro r h' ⟨rfl, rfl⟩
  refine g_if rfl (fun c => ?_) (fun c => ?_)
  rotate_left
  · rw [bI_yes c]
    refine g1 (n := 2) rfl rfl rfl rfl ?_
    exact gx_ret rfl rfl ⟨rfl, rfl⟩
  rw [bI_no c]
  clear c
  refine g1 (n := 1) rfl rfl rfl rfl ?_
  refine g1 (n := 1) rfl rfl rfl rfl ?_
  refine g7 (n := 2) rfl rfl rfl rfl ?_
  refine m_iv (a := 170) (as := [.int (nI i), .ref 6]) (rest := []) rfl (by decide) hS.1 rfl rfl (Nat.le_of_ble_eq_true rfl) ⟨Nat.le_of_ble_eq_true rfl, Nat.le_of_ble_eq_true rfl, Nat.le_of_ble_eq_true rfl⟩ ?_
  refine gx_room (gx_mono (sc_reads hS r4 w3 hj hij hj8) ?_) (Nat.le_of_ble_eq_true rfl) (Nat.le_of_ble_eq_true rfl)
  rintro r h' ⟨rfl, rfl⟩
  refine g_if rfl (fun c => ?_) (fun c => ?_)
  rotate_left
  · rw [bI_yes c]
    refine g1 (n := 2) rfl rfl rfl rfl ?_
    exact gx_ret rfl rfl ⟨rfl, rfl⟩
  rw [bI_no c]
  clear c
  refine g1 (n := 1) rfl rfl rfl rfl ?_
  refine g1 (n := 1) rfl rfl rfl rfl ?_
  refine g7 (n := 2) rfl rfl rfl rfl ?_
  refine m_iv (a := 170) (as := [.int (nI i), .ref 8]) (rest := []) rfl (by decide) hS.1 rfl rfl (Nat.le_of_ble_eq_true rfl) ⟨Nat.le_of_ble_eq_true rfl, Nat.le_of_ble_eq_true rfl, Nat.le_of_ble_eq_true rfl⟩ ?_
  refine gx_room (gx_mono (sc_reads hS r4 w4 hj hij hj8) ?_) (Nat.le_of_ble_eq_true rfl) (Nat.le_of_ble_eq_true rfl)
  rintro r h' ⟨rfl, rfl⟩
  refine g_if rfl (fun c => ?_) (fun c => ?_)
  rotate_left
  · rw [bI_yes c]
    refine g1 (n := 2) rfl rfl rfl rfl ?_
    exact gx_ret rfl rfl ⟨rfl, rfl⟩
  rw [bI_no c]
  clear c
  refine g1 (n := 1) rfl rfl rfl rfl ?_
  refine g1 (n := 1) rfl rfl rfl rfl ?_
  refine g7 (n := 2) rfl rfl rfl rfl ?_
  refine m_iv (a := 170) (as := [.int (nI i), .ref 10]) (rest := []) rfl (by decide) hS.1 rfl rfl (Nat.le_of_ble_eq_true rfl) ⟨Nat.le_of_ble_eq_true rfl, Nat.le_of_ble_eq_true rfl, Nat.le_of_ble_eq_true rfl⟩ ?_
  refine gx_room (gx_mono (sc_reads hS r4 w5 hj hij hj8) ?_) (Nat.le_of_ble_eq_true rfl) (Nat.le_of_ble_eq_true rfl)
  rintro r h' ⟨rfl, rfl⟩
  refine g_if rfl (fun c => ?_) (fun c => ?_)
  rotate_left
  · rw [bI_yes c]
    refine g1 (n := 2) rfl rfl rfl rfl ?_
    exact gx_ret rfl rfl ⟨rfl, rfl⟩
  rw [bI_no c]
  clear c
  refine g1 (n := 1) rfl rfl rfl rfl ?_
  refine g1 (n := 1) rfl rfl rfl rfl ?_
  refine g7 (n := 2) rfl rfl rfl rfl ?_
  refine m_iv (a := 170) (as := [.int (nI i), .ref 12]) (rest := []) rfl (by decide) hS.1 rfl rfl (Nat.le_of_ble_eq_true rfl) ⟨Nat.le_of_ble_eq_true rfl, Nat.le_of_ble_eq_true rfl, Nat.le_of_ble_eq_true rfl⟩ ?_
  refine gx_room (gx_mono (sc_reads hS r4 w6 hj hij hj8) ?_) (Nat.le_of_ble_eq_true rfl) (Nat.le_of_ble_eq_true rfl)
  rintro r h' ⟨rfl, rfl⟩
  refine g_if rfl (fun c => ?_) (fun c => ?_)
  rotate_left
  · rw [bI_yes c]
    refine g1 (n := 2) rfl rfl rfl rfl ?_
    exact gx_ret rfl rfl ⟨rfl, rfl⟩
  rw [bI_no c]
  clear c
  refine g1 (n := 1) rfl rfl rfl rfl ?_
  refine g1 (n := 1) rfl rfl rfl rfl ?_
  refine g7 (n := 2) rfl rfl rfl rfl ?_
  refine m_iv (a := 170) (as := [.int (nI i), .ref 14]) (rest := []) rfl (by decide) hS.1 rfl rfl (Nat.le_of_ble_eq_true rfl) ⟨Nat.le_of_ble_eq_true rfl, Nat.le_of_ble_eq_true rfl, Nat.le_of_ble_eq_true rfl⟩ ?_
  refine gx_room (gx_mono (sc_reads hS r4 w7 hj hij hj8) ?_) (Nat.le_of_ble_eq_true rfl) (Nat.le_of_ble_eq_true rfl)
  rintro r h' ⟨rfl, rfl⟩
  refine g_if rfl (fun c => ?_) (fun c => ?_)
  rotate_left
  · rw [bI_yes c]
    refine g1 (n := 2) rfl rfl rfl rfl ?_
    exact gx_ret rfl rfl ⟨rfl, rfl⟩
  rw [bI_no c]
  clear c
  refine g1 (n := 1) rfl rfl rfl rfl ?_
  refine g1 (n := 1) rfl rfl rfl rfl ?_
  refine g7 (n := 2) rfl rfl rfl rfl ?_
  refine m_iv (a := 170) (as := [.int (nI i), .ref 16]) (rest := []) rfl (by decide) hS.1 rfl rfl (Nat.le_of_ble_eq_true rfl) ⟨Nat.le_of_ble_eq_true rfl, Nat.le_of_ble_eq_true rfl, Nat.le_of_ble_eq_true rfl⟩ ?_
  refine gx_room (gx_mono (sc_reads hS r4 w8 hj hij hj8) ?_) (Nat.le_of_ble_eq_true rfl) (Nat.le_of_ble_eq_true rfl)
  rintro r h' ⟨rfl, rfl⟩
  refine g_if rfl (fun c => ?_) (fun c => ?_)
  rotate_left
  · rw [bI_yes c]
    refine g1 (n := 2) rfl rfl rfl rfl ?_
    exact gx_ret rfl rfl ⟨rfl, rfl⟩
  rw [bI_no c]
  clear c
  refine g1 (n := 1) rfl rfl rfl rfl ?_
  refine g1 (n := 1) rfl rfl rfl rfl ?_
  refine g7 (n := 2) rfl rfl rfl rfl ?_
  refine m_iv (a := 170) (as := [.int (nI i), .ref 18]) (rest := []) rfl (by decide) hS.1 rfl rfl (Nat.le_of_ble_eq_true rfl) ⟨Nat.le_of_ble_eq_true rfl, Nat.le_of_ble_eq_true rfl, Nat.le_of_ble_eq_true rfl⟩ ?_
  refine gx_room (gx_mono (sc_reads hS r4 w9 hj hij hj8) ?_) (Nat.le_of_ble_eq_true rfl) (Nat.le_of_ble_eq_true rfl)
  rintro r h' ⟨rfl, rfl⟩
  refine g_if rfl (fun c => ?_) (fun c => ?_)
  rotate_left
  · rw [bI_yes c]
    refine g1 (n := 2) rfl rfl rfl rfl ?_
    exact gx_ret rfl rfl ⟨rfl, rfl⟩
  rw [bI_no c]
  clear c
  refine g1 (n := 1) rfl rfl rfl rfl ?_
  refine g1 (n := 1) rfl rfl rfl rfl ?_
  refine g7 (n := 2) rfl rfl rfl rfl ?_
  refine m_iv (a := 170) (as := [.int (nI i), .ref 20]) (rest := []) rfl (by decide) hS.1 rfl rfl (Nat.le_of_ble_eq_true rfl) ⟨Nat.le_of_ble_eq_true rfl, Nat.le_of_ble_eq_true rfl, Nat.le_of_ble_eq_true rfl⟩ ?_
  refine gx_room (gx_mono (sc_reads hS r4 w10 hj hij hj8) ?_) (Nat.le_of_ble_eq_true rfl) (Nat.le_of_ble_eq_true rfl)
  rintro r h' ⟨rfl, rfl⟩
  refine g_if rfl (fun c => ?_) (fun c => ?_)
  rotate_left
  · rw [bI_yes c]
    refine g1 (n := 2) rfl rfl rfl rfl ?_
    refine g3 rfl rfl rfl ?_
    exact gx_ret rfl rfl ⟨rfl, rfl⟩
  rw [bI_no c]
  clear c
  refine g1 (n := 1) rfl rfl rfl rfl ?_
  exact gx_ret rfl rfl ⟨rfl, rfl⟩
theorem sc_sym {x : Int32} : gx (cx0 fz) (0, 0) 34 0 [(0, .int x)] [] (M, S) (fun r h' => r = some (.int (bI (sp_s x))) ∧ h' = (M, S)) := by
  refine g1 (n := 1) rfl rfl rfl rfl ?_
  refine g3 (pc' := if sp_s x then 116 else 118) (st' := []) rfl rfl ?_ ?_
  · show some (rf_sw [(35, 116), (37, 116), (40, 116), (41, 116), (42, 116), (43, 116), (45, 116), (47, 116), (59, 116), (60, 116), (61, 116), (123, 116), (125, 116)] 118 x.toInt, ([] : List Value)) = _
    unfold sp_s
    simp only [rf_sw]
    by_cases h35 : (35 : Int) = x.toInt
    · rw [if_pos h35, ← h35]; rfl
    rw [if_neg h35]
    by_cases h37 : (37 : Int) = x.toInt
    · rw [if_pos h37, ← h37]; rfl
    rw [if_neg h37]
    by_cases h40 : (40 : Int) = x.toInt
    · rw [if_pos h40, ← h40]; rfl
    rw [if_neg h40]
    by_cases h41 : (41 : Int) = x.toInt
    · rw [if_pos h41, ← h41]; rfl
    rw [if_neg h41]
    by_cases h42 : (42 : Int) = x.toInt
    · rw [if_pos h42, ← h42]; rfl
    rw [if_neg h42]
    by_cases h43 : (43 : Int) = x.toInt
    · rw [if_pos h43, ← h43]; rfl
    rw [if_neg h43]
    by_cases h45 : (45 : Int) = x.toInt
    · rw [if_pos h45, ← h45]; rfl
    rw [if_neg h45]
    by_cases h47 : (47 : Int) = x.toInt
    · rw [if_pos h47, ← h47]; rfl
    rw [if_neg h47]
    by_cases h59 : (59 : Int) = x.toInt
    · rw [if_pos h59, ← h59]; rfl
    rw [if_neg h59]
    by_cases h60 : (60 : Int) = x.toInt
    · rw [if_pos h60, ← h60]; rfl
    rw [if_neg h60]
    by_cases h61 : (61 : Int) = x.toInt
    · rw [if_pos h61, ← h61]; rfl
    rw [if_neg h61]
    by_cases h123 : (123 : Int) = x.toInt
    · rw [if_pos h123, ← h123]; rfl
    rw [if_neg h123]
    by_cases h125 : (125 : Int) = x.toInt
    · rw [if_pos h125, ← h125]; rfl
    rw [if_neg h125]
    have e : [61, 59, 40, 41, 123, 125, 60, 35, 43, 45, 42, 47, 37].elem x.toInt = false := by
      rw [Bool.eq_false_iff]
      intro hh
      have := List.elem_iff.mp hh
      simp only [List.mem_cons, List.not_mem_nil, or_false] at this
      omega
    rw [e]
    rfl
  · cases hc : sp_s x
    · refine g1 (n := 1) rfl rfl rfl rfl ?_
      exact gx_ret rfl rfl ⟨rfl, rfl⟩
    · refine g1 (n := 1) rfl rfl rfl rfl ?_
      exact gx_ret rfl rfl ⟨rfl, rfl⟩
end SC2
/-! rows of letters, rows of digits -/
