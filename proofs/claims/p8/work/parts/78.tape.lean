/-! THE TAPE: feed, end -/
def sh8 (t : Nat) : Int32 := Int32.ofInt (24 - 8 * (t : Int))
/-- byte t of a number, the highest first -/
def fb (x : Int32) (t : Nat) : Int32 := (x.toUInt32 >>> ((sh8 t).toUInt32 &&& Int32.toUInt32 31)).toInt32 &&& (Int16.ofInt 255).toInt32
/-- m bytes more from n on -/
def tp_fr (n m : Nat) (M M' : rf_M) : Prop := (∀ a k, ¬ (a = 22 ∧ k = 1) → ¬ (a = 23 ∧ n ≤ k ∧ k < n + m) → M'.1 a k = M.1 a k) ∧ M'.2 = M.2
theorem tp_fr.rfl' (n : Nat) (M : rf_M) : tp_fr n 0 M M := ⟨fun _ _ _ _ => rfl, rfl⟩
theorem tp_fr.trans {n m m' : Nat} {M M' M'' : rf_M} (h : tp_fr n m M M') (h' : tp_fr (n + m) m' M' M'') : tp_fr n (m + m') M M'' := ⟨fun a k h1 h2 => (h'.1 a k h1 (by omega)).trans (h.1 a k h1 (by omega)), h'.2.trans h.2⟩
section TP
variable {fz : Bool} {S : gS} {M M' : rf_M} {n : Nat} {x : Int32}
theorem tp_number (hg : go (cx0 fz) S 22 0) (ht : ga (cx0 fz) S 23 .int 800) (r0 : M.2.2 22 0 = some 23) (hn : M.1 22 1 = nI n) (h8 : n + 4 ≤ 800) : gx (cx0 fz) (0, 0) 14 0 [(0, .ref 22), (1, .int x)] [] (M, S) (fun r h' => r = none ∧ ∃ M', h' = (M', S) ∧ M'.1 22 1 = nI (n + 4) ∧ (∀ t, t < 4 → M'.1 23 (n + t) = fb x t) ∧ tp_fr n 4 M M') := by
  have step : ∀ (t : Nat), t < 4 → ∀ M', M'.1 22 1 = nI (n + t) → (∀ j, j < t → M'.1 23 (n + j) = fb x j) → tp_fr n t M M' → (∀ M'', M''.1 22 1 = nI (n + (t + 1)) → (∀ j, j < t + 1 → M''.1 23 (n + j) = fb x j) → tp_fr n (t + 1) M M'' → gx (cx0 fz) (0, 0) 14 3 [(2, .int (sh8 (t + 1))), (0, .ref 22), (1, .int x)] [] (M'', S) (fun r h' => r = none ∧ ∃ M', h' = (M', S) ∧ M'.1 22 1 = nI (n + 4) ∧ (∀ t, t < 4 → M'.1 23 (n + t) = fb x t) ∧ tp_fr n 4 M M')) → gx (cx0 fz) (0, 0) 14 3 [(2, .int (sh8 t)), (0, .ref 22), (1, .int x)] [] (M', S) (fun r h' => r = none ∧ ∃ M', h' = (M', S) ∧ M'.1 22 1 = nI (n + 4) ∧ (∀ t, t < 4 → M'.1 23 (n + t) = fb x t) ∧ tp_fr n 4 M M') := by
    intro t ht4 M' m1 m2 m3 next
    have r0' : M'.2.2 22 0 = some 23 := by rw [m3.2]; exact r0
    have hsh : ¬ rf_cc (sh8 t) 0 .lt = true := by
      have ht4' : t = 0 ∨ t = 1 ∨ t = 2 ∨ t = 3 := by omega
      rcases ht4' with rfl | rfl | rfl | rfl <;> decide
    have hsh2 : sh8 t + Int32.ofInt (-8) = sh8 (t + 1) := by
      have ht4' : t = 0 ∨ t = 1 ∨ t = 2 ∨ t = 3 := by omega
      rcases ht4' with rfl | rfl | rfl | rfl <;> decide
    refine g1 (n := 1) rfl rfl rfl rfl ?_
    refine g_if rfl (fun c => absurd c hsh) (fun _ => ?_)
    refine g1 (n := 1) rfl rfl rfl rfl ?_
    refine m_gf rfl hg rfl (v := .int (nI (n + t))) (by show Value.int (M'.1 22 1) = _; rw [m1]) ?_
    refine g1 (n := 3) rfl rfl rfl rfl ?_
    refine g_ic rfl (fun c => ?_) (fun _ => ?_)
    · have c : (800 : Int) ≤ (nI (n + t)).toInt := (rf_cc_iff _ 800 .ge).mp c
      rw [nI_int (by omega)] at c
      exact absurd c (by omega)
    refine g1 (n := 1) rfl rfl rfl rfl ?_
    refine m_gf rfl hg rfl (v := .ref 23) (by show va_rf (M'.2.2 22 0) = _; rw [r0']; rfl) ?_
    refine g1 (n := 1) rfl rfl rfl rfl ?_
    refine m_gf rfl hg rfl (v := .int (nI (n + t))) (by show Value.int (M'.1 22 1) = _; rw [m1]) ?_
    refine g1 (n := 1) rfl rfl rfl rfl ?_
    refine g1 (n := 1) rfl rfl rfl rfl ?_
    refine g0 rfl rfl rfl ?_
    refine g1 (n := 3) rfl rfl rfl rfl ?_
    refine g0 rfl rfl rfl ?_
    refine m_is (k := n + t) rfl ht (nI_int (by omega)) (by omega) ?_
    refine g1 (n := 1) rfl rfl rfl rfl ?_
    refine g0 rfl rfl rfl ?_
    refine m_gf rfl hg rfl (v := .int (nI (n + t))) (by show Value.int ((rf_wi M' 23 (n + t) (fb x t)).1 22 1) = _; rw [rf_wi_of _ _ (by omega), m1]) ?_
    refine g1 (n := 1) rfl rfl rfl rfl ?_
    refine g0 rfl rfl rfl ?_
    refine m_pf rfl hg rfl (M' := rf_wi (rf_wi M' 23 (n + t) (fb x t)) 22 1 (nI (n + t) + Int32.ofInt 1)) rfl ?_
    rw [nI_suc (by omega)]
    refine g2 (n := 3) rfl rfl rfl rfl ?_
    refine g3 rfl rfl rfl ?_
    have e2 : rf_s1 [(2, Value.int (sh8 t)), (0, .ref 22), (1, .int x)] 2 (.int (sh8 t + Int32.ofInt (-8))) = [(2, .int (sh8 (t + 1))), (0, .ref 22), (1, .int x)] := by rw [hsh2]; rfl
    rw [e2]
    refine next _ ?_ ?_ ⟨?_, m3.2⟩
    · rw [rf_wi_at, Nat.add_assoc]
    · intro j hj
      rw [rf_wi_of _ _ (by omega)]
      by_cases hjt : j = t
      · rw [hjt, rf_wi_at]
      · rw [rf_wi_of _ _ (by omega)]; exact m2 j (by omega)
    · intro a k h1 h2
      rw [rf_wi_of _ _ (by omega), rf_wi_of _ _ (by omega)]
      exact m3.1 a k h1 (by omega)
  refine g1 (n := 2) rfl rfl rfl rfl ?_
  refine g2 (n := 1) rfl rfl rfl rfl ?_
  refine step 0 (by omega) M hn (fun j hj => absurd hj (Nat.not_lt_zero _)) (tp_fr.rfl' n M) (fun M1 a1 a2 a3 => ?_)
  refine step 1 (by omega) M1 a1 a2 a3 (fun M2 b1 b2 b3 => ?_)
  refine step 2 (by omega) M2 b1 b2 b3 (fun M3 c1 c2 c3 => ?_)
  refine step 3 (by omega) M3 c1 c2 c3 (fun M4 d1 d2 d3 => ?_)
  refine g1 (n := 1) rfl rfl rfl rfl ?_
  refine g_if rfl (fun _ => ?_) (fun c => absurd (by decide) c)
  exact gx_ret rfl rfl ⟨rfl, M4, rfl, d1, d2, d3⟩
/-- the bytes of five numbers -/
def fb5 (a b c d e : Int32) (t : Nat) : Int32 := if t < 4 then fb a t else if t < 8 then fb b (t - 4) else if t < 12 then fb c (t - 8) else if t < 16 then fb d (t - 12) else fb e (t - 16)
theorem tp_feed {a b c d e : Int32} (hg : go (cx0 fz) S 22 0) (ht : ga (cx0 fz) S 23 .int 800) (r0 : M.2.2 22 0 = some 23) (hn : M.1 22 1 = nI n) (h8 : n ≤ 800) : gx (cx0 fz) (1, 30) 13 0 [(0, .ref 22), (1, .int a), (2, .int b), (3, .int c), (4, .int d), (5, .int e)] [] (M, S) (fun r h' => (n ≤ 780 ∧ r = some (.int (nI (n + 20))) ∧ ∃ M', h' = (M', S) ∧ M'.1 22 1 = nI (n + 20) ∧ (∀ t, t < 20 → M'.1 23 (n + t) = fb5 a b c d e t) ∧ tp_fr n 20 M M') ∨ (780 < n ∧ r = some (.int (Int32.ofInt (-1))) ∧ h' = (M, S))) := by
  refine g1 (n := 1) rfl rfl rfl rfl ?_
  refine m_gf rfl hg rfl (v := .int (nI n)) (by show Value.int (M.1 22 1) = _; rw [hn]) ?_
  refine g1 (n := 2) rfl rfl rfl rfl ?_
  refine g0 rfl rfl rfl ?_
  refine g1 (n := 3) rfl rfl rfl rfl ?_
  have e20 : (nI n + (Int8.ofInt 20).toInt32).toInt = (n : Int) + 20 := by
    rw [Int32.toInt_add, nI_int (by omega), show (Int8.ofInt 20).toInt32.toInt = 20 from rfl]
    exact Int.bmod_eq_of_le (by omega) (by omega)
  refine g_ic rfl (fun k => ?_) (fun k => ?_)
  rotate_left
  · have k : ¬ (nI n + (Int8.ofInt 20).toInt32).toInt ≤ 800 := fun z => k ((rf_cc_iff _ 800 .le).mpr z)
    rw [e20] at k
    refine g1 (n := 1) rfl rfl rfl rfl ?_
    exact gx_ret rfl rfl (Or.inr ⟨by omega, rfl, rfl⟩)
  have k : (nI n + (Int8.ofInt 20).toInt32).toInt ≤ 800 := (rf_cc_iff _ 800 .le).mp k
  rw [e20] at k
  have hk : n ≤ 780 := by omega
  have one : ∀ {M1 : rf_M} {n1 : Nat} (y : Int32), M1.2.2 22 0 = some 23 → M1.1 22 1 = nI n1 → n1 + 4 ≤ 800 → gx (cx0 fz) (0, 0) 14 0 (lv_args 0 [.ref 22, .int y]) [] (M1, S) (fun r h' => r = none ∧ ∃ M', h' = (M', S) ∧ M'.1 22 1 = nI (n1 + 4) ∧ (∀ t, t < 4 → M'.1 23 (n1 + t) = fb y t) ∧ tp_fr n1 4 M1 M') := fun y q1 q2 q3 => tp_number hg ht q1 q2 q3
  refine g1 (n := 1) rfl rfl rfl rfl ?_
  refine g1 (n := 1) rfl rfl rfl rfl ?_
  refine m_iv (a := 22) (as := [.int a]) (rest := []) rfl (by decide) hg rfl rfl (Nat.le_of_ble_eq_true rfl) ⟨Nat.le_of_ble_eq_true rfl, Nat.le_of_ble_eq_true rfl, Nat.le_of_ble_eq_true rfl⟩ ?_
  refine gx_room (gx_mono (one a r0 hn (by omega)) ?_) (Nat.zero_le _) (Nat.zero_le _)
  rintro r h' ⟨rfl, M1, rfl, a1, a2, a3⟩
  refine g1 (n := 1) rfl rfl rfl rfl ?_
  refine g1 (n := 1) rfl rfl rfl rfl ?_
  refine m_iv (a := 22) (as := [.int b]) (rest := []) rfl (by decide) hg rfl rfl (Nat.le_of_ble_eq_true rfl) ⟨Nat.le_of_ble_eq_true rfl, Nat.le_of_ble_eq_true rfl, Nat.le_of_ble_eq_true rfl⟩ ?_
  refine gx_room (gx_mono (one b (by rw [a3.2]; exact r0) a1 (by omega)) ?_) (Nat.zero_le _) (Nat.zero_le _)
  rintro r h' ⟨rfl, M2, rfl, b1, b2, b3⟩
  refine g1 (n := 1) rfl rfl rfl rfl ?_
  refine g1 (n := 1) rfl rfl rfl rfl ?_
  refine m_iv (a := 22) (as := [.int c]) (rest := []) rfl (by decide) hg rfl rfl (Nat.le_of_ble_eq_true rfl) ⟨Nat.le_of_ble_eq_true rfl, Nat.le_of_ble_eq_true rfl, Nat.le_of_ble_eq_true rfl⟩ ?_
  refine gx_room (gx_mono (one c (by rw [b3.2, a3.2]; exact r0) b1 (by omega)) ?_) (Nat.zero_le _) (Nat.zero_le _)
  rintro r h' ⟨rfl, M3, rfl, c1, c2, c3⟩
  refine g1 (n := 1) rfl rfl rfl rfl ?_
  refine g1 (n := 2) rfl rfl rfl rfl ?_
  refine m_iv (a := 22) (as := [.int d]) (rest := []) rfl (by decide) hg rfl rfl (Nat.le_of_ble_eq_true rfl) ⟨Nat.le_of_ble_eq_true rfl, Nat.le_of_ble_eq_true rfl, Nat.le_of_ble_eq_true rfl⟩ ?_
  refine gx_room (gx_mono (one d (by rw [c3.2, b3.2, a3.2]; exact r0) c1 (by omega)) ?_) (Nat.zero_le _) (Nat.zero_le _)
  rintro r h' ⟨rfl, M4, rfl, d1, d2, d3⟩
  refine g1 (n := 1) rfl rfl rfl rfl ?_
  refine g1 (n := 2) rfl rfl rfl rfl ?_
  refine m_iv (a := 22) (as := [.int e]) (rest := []) rfl (by decide) hg rfl rfl (Nat.le_of_ble_eq_true rfl) ⟨Nat.le_of_ble_eq_true rfl, Nat.le_of_ble_eq_true rfl, Nat.le_of_ble_eq_true rfl⟩ ?_
  refine gx_room (gx_mono (one e (by rw [d3.2, c3.2, b3.2, a3.2]; exact r0) d1 (by omega)) ?_) (Nat.zero_le _) (Nat.zero_le _)
  rintro r h' ⟨rfl, M5, rfl, e1, e2, e3⟩
  refine g1 (n := 1) rfl rfl rfl rfl ?_
  refine m_gf rfl hg rfl (v := .int (nI (n + 20))) (by show Value.int (M5.1 22 1) = _; rw [e1]) ?_
  refine gx_ret rfl rfl (Or.inl ⟨hk, rfl, M5, rfl, e1, fun t ht20 => ?_, (((a3.trans b3).trans c3).trans d3).trans e3⟩)
  unfold fb5
  by_cases h4 : t < 4
  · rw [if_pos h4, e3.1 23 _ (by omega) (by omega), d3.1 23 _ (by omega) (by omega), c3.1 23 _ (by omega) (by omega), b3.1 23 _ (by omega) (by omega)]
    exact a2 t h4
  rw [if_neg h4]
  by_cases h8' : t < 8
  · rw [if_pos h8', e3.1 23 _ (by omega) (by omega), d3.1 23 _ (by omega) (by omega), c3.1 23 _ (by omega) (by omega), show n + t = n + 4 + (t - 4) by omega]
    exact b2 _ (by omega)
  rw [if_neg h8']
  by_cases h12 : t < 12
  · rw [if_pos h12, e3.1 23 _ (by omega) (by omega), d3.1 23 _ (by omega) (by omega), show n + t = n + 4 + 4 + (t - 8) by omega]
    exact c2 _ (by omega)
  rw [if_neg h12]
  by_cases h16 : t < 16
  · rw [if_pos h16, e3.1 23 _ (by omega) (by omega), show n + t = n + 4 + 4 + 4 + (t - 12) by omega]
    exact d2 _ (by omega)
  rw [if_neg h16, show n + t = n + 4 + 4 + 4 + 4 + (t - 16) by omega]
  exact e2 _ (by omega)
/-- end: of the last 20 bytes m stay -/
theorem tp_end (hg : go (cx0 fz) S 22 0) (hn : M.1 22 1 = nI n) (h8 : n ≤ 800) : gx (cx0 fz) (0, 0) 15 0 [(0, .ref 22), (1, .int x)] [] (M, S) (fun r h' => ((0 ≤ x.toInt ∧ x.toInt ≤ 20 ∧ 20 ≤ n) ∧ r = some (.int (nI (n - 20 + x.toInt.toNat))) ∧ h' = (rf_wi M 22 1 (nI (n - 20 + x.toInt.toNat)), S)) ∨ (¬ (0 ≤ x.toInt ∧ x.toInt ≤ 20 ∧ 20 ≤ n) ∧ r = some (.int (Int32.ofInt (-1))) ∧ h' = (M, S))) := by
  have bad : ¬ (0 ≤ x.toInt ∧ x.toInt ≤ 20 ∧ 20 ≤ n) → gx (cx0 fz) (0, 0) 15 19 [(0, .ref 22), (1, .int x)] [] (M, S) (fun r h' => ((0 ≤ x.toInt ∧ x.toInt ≤ 20 ∧ 20 ≤ n) ∧ r = some (.int (nI (n - 20 + x.toInt.toNat))) ∧ h' = (rf_wi M 22 1 (nI (n - 20 + x.toInt.toNat)), S)) ∨ (¬ (0 ≤ x.toInt ∧ x.toInt ≤ 20 ∧ 20 ≤ n) ∧ r = some (.int (Int32.ofInt (-1))) ∧ h' = (M, S))) := by
    intro hc
    refine g1 (n := 1) rfl rfl rfl rfl ?_
    exact gx_ret rfl rfl (Or.inr ⟨hc, rfl, rfl⟩)
  refine g1 (n := 1) rfl rfl rfl rfl ?_
  refine g_if rfl (fun c => bad (fun z => ?_)) (fun c => ?_)
  · have c : x.toInt < (0 : Int32).toInt := (rf_cc_iff x 0 .lt).mp c
    rw [Int32.toInt_zero] at c
    omega
  have c : ¬ x.toInt < (0 : Int32).toInt := fun z => c ((rf_cc_iff x 0 .lt).mpr z)
  rw [Int32.toInt_zero] at c
  refine g1 (n := 1) rfl rfl rfl rfl ?_
  refine g1 (n := 2) rfl rfl rfl rfl ?_
  refine g_ic rfl (fun c2 => bad (fun z => ?_)) (fun c2 => ?_)
  · have c2 : (20 : Int) < x.toInt := (rf_cc_iff x 20 .gt).mp c2
    omega
  have c2 : ¬ (20 : Int) < x.toInt := fun z => c2 ((rf_cc_iff x 20 .gt).mpr z)
  refine g1 (n := 1) rfl rfl rfl rfl ?_
  refine m_gf rfl hg rfl (v := .int (nI n)) (by show Value.int (M.1 22 1) = _; rw [hn]) ?_
  refine g1 (n := 2) rfl rfl rfl rfl ?_
  refine g_ic rfl (fun c3 => ?_) (fun c3 => bad (fun z => ?_))
  rotate_left
  · have c3 : ¬ (20 : Int) ≤ (nI n).toInt := fun z => c3 ((rf_cc_iff _ 20 .ge).mpr z)
    rw [nI_int (by omega)] at c3
    omega
  have c3 : (20 : Int) ≤ (nI n).toInt := (rf_cc_iff _ 20 .ge).mp c3
  rw [nI_int (by omega)] at c3
  refine g1 (n := 1) rfl rfl rfl rfl ?_
  refine g1 (n := 1) rfl rfl rfl rfl ?_
  refine m_gf rfl hg rfl (v := .int (nI n)) (by show Value.int (M.1 22 1) = _; rw [hn]) ?_
  refine g1 (n := 2) rfl rfl rfl rfl ?_
  refine g0 rfl rfl rfl ?_
  refine g1 (n := 1) rfl rfl rfl rfl ?_
  refine g0 rfl rfl rfl ?_
  have e : nI n - (Int8.ofInt 20).toInt32 + x = nI (n - 20 + x.toInt.toNat) := by
    refine Int32.toInt_inj.mp ?_
    have e1 : (nI n - (Int8.ofInt 20).toInt32).toInt = (n : Int) - 20 := by
      rw [Int32.toInt_sub, nI_int (by omega), show (Int8.ofInt 20).toInt32.toInt = 20 from rfl]
      exact Int.bmod_eq_of_le (by omega) (by omega)
    rw [Int32.toInt_add, e1, nI_int (by omega), Int.bmod_eq_of_le (by omega) (by omega)]
    omega
  rw [e]
  refine m_pf rfl hg rfl (M' := rf_wi M 22 1 (nI (n - 20 + x.toInt.toNat))) rfl ?_
  refine g1 (n := 1) rfl rfl rfl rfl ?_
  refine m_gf rfl hg rfl (v := .int (nI (n - 20 + x.toInt.toNat))) (by show Value.int ((rf_wi M 22 1 (nI (n - 20 + x.toInt.toNat))).1 22 1) = _; rw [rf_wi_at]) ?_
  exact gx_ret rfl rfl (Or.inl ⟨⟨by omega, by omega, by omega⟩, rfl, rfl⟩)
end TP
