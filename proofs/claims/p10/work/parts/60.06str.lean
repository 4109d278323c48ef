theorem cl_play (fz : Bool) (L : Nat) (xs : Nat → Int32) {M : rf_M} (hin : sx_in (xk_W fz L xs) M) (a0 : Int64) (a1 : Int32) : gx (cx0 fz) (2000, 80000) 108 0 (lv_args 0 [.ref 22, .long a0, .int a1]) [] (M, (HK fz L xs).2) (fun r h' => ∃ (z : Int32) (M' : rf_M), r = some (.int z) ∧ h' = (M', (HK fz L xs).2) ∧ sx_in (xk_W fz L xs) M' ∧ sx_fr (xk_W fz L xs) xk_c_11.2.2.2.1 M M') := by
  refine gx_mono (cl_run fz L xs (c := xk_c_11) (by simp [xk_T]) hin (Nat.le_of_ble_eq_true rfl) ⟨cl_22 fz L xs, cl_l fz L xs a0, cl_i fz L xs a1, trivial⟩) ?_
  rintro v h' ⟨M', rfl, h1, h2, h3⟩
  cases v with
  | none => exact h3.elim
  | some v => obtain ⟨z, rfl, -, -⟩ := h3; exact ⟨z, M', rfl, rfl, h1, h2⟩
theorem cl_client (fz : Bool) (L : Nat) (xs : Nat → Int32) {M : rf_M} (hin : sx_in (xk_W fz L xs) M) (a0 : Int32) (a1 : Int32) : gx (cx0 fz) (2000, 80000) 109 0 (lv_args 0 [.ref 22, .int a0, .int a1]) [] (M, (HK fz L xs).2) (fun r h' => ∃ (z : Int32) (M' : rf_M), r = some (.int z) ∧ h' = (M', (HK fz L xs).2) ∧ sx_in (xk_W fz L xs) M' ∧ sx_fr (xk_W fz L xs) xk_c_12.2.2.2.1 M M') := by
  refine gx_mono (cl_run fz L xs (c := xk_c_12) (by simp [xk_T]) hin (Nat.le_of_ble_eq_true rfl) ⟨cl_22 fz L xs, cl_i fz L xs a0, cl_i fz L xs a1, trivial⟩) ?_
  rintro v h' ⟨M', rfl, h1, h2, h3⟩
  cases v with
  | none => exact h3.elim
  | some v => obtain ⟨z, rfl, -, -⟩ := h3; exact ⟨z, M', rfl, rfl, h1, h2⟩
theorem cl_sees (fz : Bool) (L : Nat) (xs : Nat → Int32) {M : rf_M} (hin : sx_in (xk_W fz L xs) M) (a0 : Int32) (a1 : Int32) : gx (cx0 fz) (2000, 80000) 111 0 (lv_args 0 [.ref 22, .int a0, .int a1]) [] (M, (HK fz L xs).2) (fun r h' => ∃ (z : Int64) (M' : rf_M), r = some (.long z) ∧ h' = (M', (HK fz L xs).2) ∧ sx_in (xk_W fz L xs) M' ∧ sx_fr (xk_W fz L xs) xk_c_13.2.2.2.1 M M') := by
  refine gx_mono (cl_run fz L xs (c := xk_c_13) (by simp [xk_T]) hin (Nat.le_of_ble_eq_true rfl) ⟨cl_22 fz L xs, cl_i fz L xs a0, cl_i fz L xs a1, trivial⟩) ?_
  rintro v h' ⟨M', rfl, h1, h2, h3⟩
  cases v with
  | none => exact h3.elim
  | some v => obtain ⟨z, rfl⟩ := h3; exact ⟨z, M', rfl, rfl, h1, h2⟩
theorem cl_rules (fz : Bool) (L : Nat) (xs : Nat → Int32) {M : rf_M} (hin : sx_in (xk_W fz L xs) M) : gx (cx0 fz) (2000, 80000) 112 0 (lv_args 0 [.ref 22]) [] (M, (HK fz L xs).2) (fun r h' => ∃ (z : Int32) (M' : rf_M), r = some (.int z) ∧ h' = (M', (HK fz L xs).2) ∧ sx_in (xk_W fz L xs) M' ∧ sx_fr (xk_W fz L xs) xk_c_14.2.2.2.1 M M') := by
  refine gx_mono (cl_run fz L xs (c := xk_c_14) (by simp [xk_T]) hin (Nat.le_of_ble_eq_true rfl) ⟨cl_22 fz L xs, trivial⟩) ?_
  rintro v h' ⟨M', rfl, h1, h2, h3⟩
  cases v with
  | none => exact h3.elim
  | some v => obtain ⟨z, rfl, -, -⟩ := h3; exact ⟨z, M', rfl, rfl, h1, h2⟩
theorem cl_rows (fz : Bool) (L : Nat) (xs : Nat → Int32) {M : rf_M} (hin : sx_in (xk_W fz L xs) M) : gx (cx0 fz) (2000, 80000) 113 0 (lv_args 0 [.ref 22]) [] (M, (HK fz L xs).2) (fun r h' => ∃ (z : Int32) (M' : rf_M), r = some (.int z) ∧ h' = (M', (HK fz L xs).2) ∧ sx_in (xk_W fz L xs) M' ∧ sx_fr (xk_W fz L xs) xk_c_15.2.2.2.1 M M') := by
  refine gx_mono (cl_run fz L xs (c := xk_c_15) (by simp [xk_T]) hin (Nat.le_of_ble_eq_true rfl) ⟨cl_22 fz L xs, trivial⟩) ?_
  rintro v h' ⟨M', rfl, h1, h2, h3⟩
  cases v with
  | none => exact h3.elim
  | some v => obtain ⟨z, rfl, -, -⟩ := h3; exact ⟨z, M', rfl, rfl, h1, h2⟩
theorem cl_row (fz : Bool) (L : Nat) (xs : Nat → Int32) {M : rf_M} (hin : sx_in (xk_W fz L xs) M) (a0 : Int32) (a1 : Int32) : gx (cx0 fz) (2000, 80000) 114 0 (lv_args 0 [.ref 22, .int a0, .int a1]) [] (M, (HK fz L xs).2) (fun r h' => ∃ (z : Int32) (M' : rf_M), r = some (.int z) ∧ h' = (M', (HK fz L xs).2) ∧ sx_in (xk_W fz L xs) M' ∧ sx_fr (xk_W fz L xs) xk_c_16.2.2.2.1 M M') := by
  refine gx_mono (cl_run fz L xs (c := xk_c_16) (by simp [xk_T]) hin (Nat.le_of_ble_eq_true rfl) ⟨cl_22 fz L xs, cl_i fz L xs a0, cl_i fz L xs a1, trivial⟩) ?_
  rintro v h' ⟨M', rfl, h1, h2, h3⟩
  cases v with
  | none => exact h3.elim
  | some v => obtain ⟨z, rfl, -, -⟩ := h3; exact ⟨z, M', rfl, rfl, h1, h2⟩
theorem cl_value (fz : Bool) (L : Nat) (xs : Nat → Int32) {M : rf_M} (hin : sx_in (xk_W fz L xs) M) (a0 : Int32) : gx (cx0 fz) (2000, 80000) 117 0 (lv_args 0 [.ref 22, .int a0]) [] (M, (HK fz L xs).2) (fun r h' => ∃ (z : Int64) (M' : rf_M), r = some (.long z) ∧ h' = (M', (HK fz L xs).2) ∧ sx_in (xk_W fz L xs) M' ∧ sx_fr (xk_W fz L xs) xk_c_17.2.2.2.1 M M') := by
  refine gx_mono (cl_run fz L xs (c := xk_c_17) (by simp [xk_T]) hin (Nat.le_of_ble_eq_true rfl) ⟨cl_22 fz L xs, cl_i fz L xs a0, trivial⟩) ?_
  rintro v h' ⟨M', rfl, h1, h2, h3⟩
  cases v with
  | none => exact h3.elim
  | some v => obtain ⟨z, rfl⟩ := h3; exact ⟨z, M', rfl, rfl, h1, h2⟩
theorem cl_replays (fz : Bool) (L : Nat) (xs : Nat → Int32) {M : rf_M} (hin : sx_in (xk_W fz L xs) M) : gx (cx0 fz) (2000, 80000) 118 0 (lv_args 0 [.ref 22]) [] (M, (HK fz L xs).2) (fun r h' => ∃ (z : Int32) (M' : rf_M), r = some (.int z) ∧ h' = (M', (HK fz L xs).2) ∧ sx_in (xk_W fz L xs) M' ∧ sx_fr (xk_W fz L xs) xk_c_18.2.2.2.1 M M') := by
  refine gx_mono (cl_run fz L xs (c := xk_c_18) (by simp [xk_T]) hin (Nat.le_of_ble_eq_true rfl) ⟨cl_22 fz L xs, trivial⟩) ?_
  rintro v h' ⟨M', rfl, h1, h2, h3⟩
  cases v with
  | none => exact h3.elim
  | some v => obtain ⟨z, rfl, -, -⟩ := h3; exact ⟨z, M', rfl, rfl, h1, h2⟩
theorem cl_clear (fz : Bool) (L : Nat) (xs : Nat → Int32) {M : rf_M} (hin : sx_in (xk_W fz L xs) M) : gx (cx0 fz) (2000, 80000) 122 0 (lv_args 0 [.ref 22]) [] (M, (HK fz L xs).2) (fun r h' => ∃ (z : Int32) (M' : rf_M), r = some (.int z) ∧ h' = (M', (HK fz L xs).2) ∧ sx_in (xk_W fz L xs) M' ∧ sx_fr (xk_W fz L xs) xk_c_19.2.2.2.1 M M') := by
  refine gx_mono (cl_run fz L xs (c := xk_c_19) (by simp [xk_T]) hin (Nat.le_of_ble_eq_true rfl) ⟨cl_22 fz L xs, trivial⟩) ?_
  rintro v h' ⟨M', rfl, h1, h2, h3⟩
  cases v with
  | none => exact h3.elim
  | some v => obtain ⟨z, rfl, -, -⟩ := h3; exact ⟨z, M', rfl, rfl, h1, h2⟩
/-! THE PARSER: its state and its small methods -/
abbrev tK : Type := List (Int32 × Nat × Int32)
/-- what stands at place i, and its number -/
def kd (T : tK) (i : Nat) : Int32 := match T[i]? with
  | some e => e.1
  | none => 0
def nb (T : tK) (i : Nat) : Int32 := match T[i]? with
  | some e => e.2.2
  | none => 0
/-- place, in a rule, statements, unaries, deepest, no fault so far -/
abbrev pS : Type := Nat × Bool × Nat × Nat × Nat × Bool
def p_bad (s : pS) : pS := (s.1, s.2.1, s.2.2.1, s.2.2.2.1, s.2.2.2.2.1, false)
def p_adv (T : tK) (s : pS) : pS := (if s.1 < T.length then s.1 + 1 else s.1, s.2)
def p_is (T : tK) (t : Int32) (s : pS) : Bool := s.2.2.2.2.2 && decide (kd T s.1 = t)
def p_ex (T : tK) (t : Int32) (s : pS) : pS := if p_is T t s then p_adv T s else p_bad s
/-- what stays: shapes, references, tokens, the program that is made -/
def pz_S (fz : Bool) (S : gS) (p : Nat) (T : tK) (M : rf_M) : Prop := (go (cx0 fz) S 169 2 ∧ sc_S fz S ∧ go (cx0 fz) S p 1 ∧ 25 ≤ p ∧ p + 11 ≤ 168 ∧ (∀ k, 1 ≤ k → k ≤ 9 → ga (cx0 fz) S (p + k) .int 40) ∧ (∀ k, 10 ≤ k → k ≤ 11 → ga (cx0 fz) S (p + k) .int 160)) ∧ (M.2.2 169 0 = some 170 ∧ M.2.2 169 1 = some p ∧ M.2.2 170 0 = some 171 ∧ M.2.2 170 1 = some 172 ∧ M.2.2 170 2 = some 173 ∧ ∀ k, 5 ≤ k → k ≤ 15 → M.2.2 p k = some (p + (k - 4))) ∧ T.length ≤ 800 ∧ M.1 170 3 = nI T.length ∧ ∀ i, i ≤ T.length → M.1 171 i = kd T i ∧ (∃ x, x ≤ 800 ∧ M.1 172 i = nI x) ∧ M.1 173 i = nb T i
def pz (fz : Bool) (S : gS) (p : Nat) (T : tK) (M : rf_M) (s : pS) : Prop := pz_S fz S p T M ∧ (M.1 169 2 = nI s.1 ∧ s.1 ≤ T.length) ∧ M.1 169 4 = bI s.2.1 ∧ (M.1 p 0 = nI s.2.2.1 ∧ s.2.2.1 ≤ 40) ∧ (M.1 p 1 = nI s.2.2.2.1 ∧ s.2.2.2.1 ≤ 60) ∧ (M.1 p 2 = nI s.2.2.2.2.1 ∧ s.2.2.2.2.1 ≤ 8) ∧ (∃ cc, cc ≤ 160 ∧ M.1 p 3 = nI cc) ∧ decide (M.1 169 3 = -1) = s.2.2.2.2.2
/-- nothing but the parser's slots and the program has changed -/
def pz_fr (p : Nat) (M M' : rf_M) : Prop := (∀ a k, ¬ (p ≤ a ∧ a ≤ p + 11) → ¬ (a = 169 ∧ (k = 2 ∨ k = 3 ∨ k = 4)) → M'.1 a k = M.1 a k) ∧ M'.2 = M.2
theorem pz_fr.rfl' (p : Nat) (M : rf_M) : pz_fr p M M := ⟨fun _ _ _ _ => rfl, rfl⟩
theorem pz_fr.trans {p : Nat} {M M' M'' : rf_M} (h : pz_fr p M M') (h' : pz_fr p M' M'') : pz_fr p M M'' := ⟨fun a k h1 h2 => (h'.1 a k h1 h2).trans (h.1 a k h1 h2), h'.2.trans h.2⟩
theorem pz_fr.wi {p : Nat} {M M' : rf_M} {a k : Nat} {x : Int32} (h : pz_fr p M M') (ha : (p ≤ a ∧ a ≤ p + 11) ∨ (a = 169 ∧ (k = 2 ∨ k = 3 ∨ k = 4))) : pz_fr p M (rf_wi M' a k x) := by
  refine ⟨fun a' k' h1 h2 => ?_, h.2⟩
  rw [rf_wi_of _ _ (by omega)]
  exact h.1 a' k' h1 h2
section PZ
variable {fz : Bool} {S : gS} {p : Nat} {T : tK} {M M' : rf_M} {s : pS}
theorem pz_S.fr (h : pz_S fz S p T M) (hf : pz_fr p M M') : pz_S fz S p T M' := by
  obtain ⟨h1, h2, h3, h4, h5⟩ := h
  have hp : p + 11 ≤ 168 := h1.2.2.2.2.1
  have e2 : M'.2.2 = M.2.2 := by rw [hf.2]
  refine ⟨h1, by rw [e2]; exact h2, h3, ?_, fun i hi => ?_⟩
  · rw [hf.1 170 3 (by omega) (by omega)]; exact h4
  · rw [hf.1 171 i (by omega) (by omega), hf.1 172 i (by omega) (by omega), hf.1 173 i (by omega) (by omega)]
    exact h5 i hi
theorem pz.at' (h : pz fz S p T M s) {i : Nat} (hi : i ≤ T.length) : pz fz S p T (rf_wi M 169 2 (nI i)) (i, s.2) := by
  obtain ⟨h0, h1, h2, h3, h4, h5, ⟨cc, h6, h7⟩, h8⟩ := h
  have hp : p + 11 ≤ 168 := h0.1.2.2.2.2.1
  have hf : pz_fr p M (rf_wi M 169 2 (nI i)) := (pz_fr.rfl' p M).wi (by omega)
  refine ⟨h0.fr hf, ⟨rf_wi_at _ _ _ _, hi⟩, ?_, ⟨?_, h3.2⟩, ⟨?_, h4.2⟩, ⟨?_, h5.2⟩, ⟨cc, h6, ?_⟩, ?_⟩
  · rw [rf_wi_of _ _ (by omega)]; exact h2
  · rw [rf_wi_of _ _ (by omega)]; exact h3.1
  · rw [rf_wi_of _ _ (by omega)]; exact h4.1
  · rw [rf_wi_of _ _ (by omega)]; exact h5.1
  · rw [rf_wi_of _ _ (by omega)]; exact h7
  · rw [rf_wi_of _ _ (by omega)]; exact h8
theorem pz.bad (h : pz fz S p T M s) {x : Int32} (hx : ¬ x = -1) : pz fz S p T (rf_wi M 169 3 x) (p_bad s) := by
  obtain ⟨h0, h1, h2, h3, h4, h5, ⟨cc, h6, h7⟩, h8⟩ := h
  have hp : p + 11 ≤ 168 := h0.1.2.2.2.2.1
  have hf : pz_fr p M (rf_wi M 169 3 x) := (pz_fr.rfl' p M).wi (by omega)
  refine ⟨h0.fr hf, ⟨?_, h1.2⟩, ?_, ⟨?_, h3.2⟩, ⟨?_, h4.2⟩, ⟨?_, h5.2⟩, ⟨cc, h6, ?_⟩, ?_⟩
  · rw [rf_wi_of _ _ (by omega)]; exact h1.1
  · rw [rf_wi_of _ _ (by omega)]; exact h2
  · rw [rf_wi_of _ _ (by omega)]; exact h3.1
  · rw [rf_wi_of _ _ (by omega)]; exact h4.1
  · rw [rf_wi_of _ _ (by omega)]; exact h5.1
  · rw [rf_wi_of _ _ (by omega)]; exact h7
  · rw [rf_wi_at]; exact decide_eq_false hx
theorem pz.un (h : pz fz S p T M s) (hu : s.2.2.2.1 < 60) : pz fz S p T (rf_wi M p 1 (nI (s.2.2.2.1 + 1))) (s.1, s.2.1, s.2.2.1, s.2.2.2.1 + 1, s.2.2.2.2) := by
  obtain ⟨h0, h1, h2, h3, h4, h5, ⟨cc, h6, h7⟩, h8⟩ := h
  have hp : p + 11 ≤ 168 := h0.1.2.2.2.2.1
  have hf : pz_fr p M (rf_wi M p 1 (nI (s.2.2.2.1 + 1))) := (pz_fr.rfl' p M).wi (by omega)
  refine ⟨h0.fr hf, ⟨?_, h1.2⟩, ?_, ⟨?_, h3.2⟩, ⟨rf_wi_at _ _ _ _, hu⟩, ⟨?_, h5.2⟩, ⟨cc, h6, ?_⟩, ?_⟩
  · rw [rf_wi_of _ _ (by omega)]; exact h1.1
  · rw [rf_wi_of _ _ (by omega)]; exact h2
  · rw [rf_wi_of _ _ (by omega)]; exact h3.1
  · rw [rf_wi_of _ _ (by omega)]; exact h5.1
  · rw [rf_wi_of _ _ (by omega)]; exact h7
  · rw [rf_wi_of _ _ (by omega)]; exact h8
/-- the program's code changes nothing of this -/
theorem pz.cc (h : pz fz S p T M s) {a k : Nat} {x : Int32} (ha : p + 1 ≤ a ∧ a ≤ p + 11) : pz fz S p T (rf_wi M a k x) s := by
  obtain ⟨h0, h1, h2, h3, h4, h5, ⟨cc, h6, h7⟩, h8⟩ := h
  have hp : p + 11 ≤ 168 := h0.1.2.2.2.2.1
  have hf : pz_fr p M (rf_wi M a k x) := (pz_fr.rfl' p M).wi (by omega)
  refine ⟨h0.fr hf, ⟨?_, h1.2⟩, ?_, ⟨?_, h3.2⟩, ⟨?_, h4.2⟩, ⟨?_, h5.2⟩, ⟨cc, h6, ?_⟩, ?_⟩
  · rw [rf_wi_of _ _ (by omega)]; exact h1.1
  · rw [rf_wi_of _ _ (by omega)]; exact h2
  · rw [rf_wi_of _ _ (by omega)]; exact h3.1
  · rw [rf_wi_of _ _ (by omega)]; exact h4.1
  · rw [rf_wi_of _ _ (by omega)]; exact h5.1
  · rw [rf_wi_of _ _ (by omega)]; exact h7
  · rw [rf_wi_of _ _ (by omega)]; exact h8
theorem pz.cc3 (h : pz fz S p T M s) {c : Nat} (hc : c ≤ 160) : pz fz S p T (rf_wi M p 3 (nI c)) s := by
  obtain ⟨h0, h1, h2, h3, h4, h5, ⟨cc, h6, h7⟩, h8⟩ := h
  have hp : p + 11 ≤ 168 := h0.1.2.2.2.2.1
  have hf : pz_fr p M (rf_wi M p 3 (nI c)) := (pz_fr.rfl' p M).wi (by omega)
  refine ⟨h0.fr hf, ⟨?_, h1.2⟩, ?_, ⟨?_, h3.2⟩, ⟨?_, h4.2⟩, ⟨?_, h5.2⟩, ⟨c, hc, rf_wi_at _ _ _ _⟩, ?_⟩
  · rw [rf_wi_of _ _ (by omega)]; exact h1.1
  · rw [rf_wi_of _ _ (by omega)]; exact h2
  · rw [rf_wi_of _ _ (by omega)]; exact h3.1
  · rw [rf_wi_of _ _ (by omega)]; exact h4.1
  · rw [rf_wi_of _ _ (by omega)]; exact h5.1
  · rw [rf_wi_of _ _ (by omega)]; exact h8
/-- what a method of the parser does: it comes to f s, and changes nothing else -/
def pdo (fz : Bool) (S : gS) (p : Nat) (T : tK) (d : Nat × Nat) (j : Nat) (args : List Value) (f : pS → pS) : Prop := ∀ (M : rf_M) (s : pS), pz fz S p T M s → gx (cx0 fz) d j 0 (lv_args 0 (.ref 169 :: args)) [] (M, S) (fun r h' => r = none ∧ ∃ M', h' = (M', S) ∧ pz fz S p T M' (f s) ∧ pz_fr p M M')
theorem p_faulty (h : pz fz S p T M s) : gx (cx0 fz) (0, 0) 36 0 [(0, .ref 169)] [] (M, S) (fun r h' => r = some (.int (bI (!s.2.2.2.2.2))) ∧ h' = (M, S)) := by
  have hok := h.2.2.2.2.2.2.2
  refine g1 (n := 1) rfl rfl rfl rfl ?_
  refine m_gf rfl h.1.1.1 rfl (v := .int (M.1 169 3)) rfl ?_
  refine g1 (n := 1) rfl rfl rfl rfl ?_
  refine g_ic rfl (fun c => ?_) (fun c => ?_)
  · have c : M.1 169 3 = -1 := of_decide_eq_true c
    refine g1 (n := 1) rfl rfl rfl rfl ?_
    refine gx_ret rfl rfl ⟨?_, rfl⟩
    rw [← hok, decide_eq_true c]; rfl
  · have c : ¬ M.1 169 3 = -1 := fun z => c (decide_eq_true z)
    refine g1 (n := 1) rfl rfl rfl rfl ?_
    refine g3 rfl rfl rfl ?_
    refine gx_ret rfl rfl ⟨?_, rfl⟩
    rw [← hok, decide_eq_false c]; rfl
theorem p_refuse : pdo fz S p T (0, 0) 42 [] p_bad := by
  intro M s h
  have h' := h
  obtain ⟨h0, h1, h2, h3, h4, h5, h6, h8⟩ := h
  obtain ⟨hh, ⟨r0, r1, r2, r3, r4, r5⟩, hT, hl, hrow⟩ := h0
  obtain ⟨x, hx, ex⟩ := (hrow s.1 h1.2).2.1
  refine g1 (n := 1) rfl rfl rfl rfl ?_
  refine m_gf rfl hh.1 rfl (v := .int (M.1 169 3)) rfl ?_
  refine g1 (n := 1) rfl rfl rfl rfl ?_
  refine g_ic rfl (fun c => ?_) (fun c => ?_)
  · have c : ¬ M.1 169 3 = -1 := fun z => (rf_cc_iff _ _ .ne).mp c (by rw [z]; rfl)
    refine gx_ret rfl rfl ⟨rfl, M, rfl, ?_, pz_fr.rfl' p M⟩
    have e : p_bad s = s := by
      unfold p_bad
      rw [← (h8.symm.trans (decide_eq_false c))]
    rw [e]; exact h'
  · refine g1 (n := 1) rfl rfl rfl rfl ?_
    refine g1 (n := 1) rfl rfl rfl rfl ?_
    refine m_gf rfl hh.1 rfl (v := .ref 170) (by show va_rf (M.2.2 169 0) = _; rw [r0]; rfl) ?_
    refine m_gf rfl hh.2.1.1 rfl (v := .ref 172) (by show va_rf (M.2.2 170 1) = _; rw [r3]; rfl) ?_
    refine g1 (n := 1) rfl rfl rfl rfl ?_
    refine m_gf rfl hh.1 rfl (v := .int (nI s.1)) (by show Value.int (M.1 169 2) = _; rw [h1.1]) ?_
    refine m_il rfl hh.2.1.2.2.1.oa (nI_int (by omega)) (by omega) ?_
    rw [ex]
    refine m_pf rfl hh.1 rfl (M' := rf_wi M 169 3 (nI x)) rfl ?_
    have hne : ¬ nI x = -1 := fun z => by
      have := nI_int (k := x) (by omega)
      rw [z] at this
      have e1 : (-1 : Int32).toInt = -1 := by decide
      omega
    exact gx_ret rfl rfl ⟨rfl, _, rfl, h'.bad hne, (pz_fr.rfl' p M).wi (by omega)⟩
theorem p_token (h : pz fz S p T M s) : gx (cx0 fz) (0, 0) 39 0 [(0, .ref 169)] [] (M, S) (fun r h' => r = some (.int (kd T s.1)) ∧ h' = (M, S)) := by
  obtain ⟨h0, h1, h2, h3, h4, h5, h6, h8⟩ := h
  obtain ⟨hh, ⟨r0, r1, r2, r3, r4, r5⟩, hT, hl, hrow⟩ := h0
  refine g1 (n := 1) rfl rfl rfl rfl ?_
  refine m_gf rfl hh.1 rfl (v := .ref 170) (by show va_rf (M.2.2 169 0) = _; rw [r0]; rfl) ?_
  refine m_gf rfl hh.2.1.1 rfl (v := .ref 171) (by show va_rf (M.2.2 170 0) = _; rw [r2]; rfl) ?_
  refine g1 (n := 1) rfl rfl rfl rfl ?_
  refine m_gf rfl hh.1 rfl (v := .int (nI s.1)) (by show Value.int (M.1 169 2) = _; rw [h1.1]) ?_
  refine m_il rfl hh.2.1.2.1.oa (nI_int (by omega)) (by omega) ?_
  rw [(hrow s.1 h1.2).1]
  exact gx_ret rfl rfl ⟨rfl, rfl⟩
theorem p_number (h : pz fz S p T M s) : gx (cx0 fz) (0, 0) 43 0 [(0, .ref 169)] [] (M, S) (fun r h' => r = some (.int (nb T s.1)) ∧ h' = (M, S)) := by
  obtain ⟨h0, h1, h2, h3, h4, h5, h6, h8⟩ := h
  obtain ⟨hh, ⟨r0, r1, r2, r3, r4, r5⟩, hT, hl, hrow⟩ := h0
  refine g1 (n := 1) rfl rfl rfl rfl ?_
  refine m_gf rfl hh.1 rfl (v := .ref 170) (by show va_rf (M.2.2 169 0) = _; rw [r0]; rfl) ?_
  refine m_gf rfl hh.2.1.1 rfl (v := .ref 173) (by show va_rf (M.2.2 170 2) = _; rw [r4]; rfl) ?_
  refine g1 (n := 1) rfl rfl rfl rfl ?_
  refine m_gf rfl hh.1 rfl (v := .int (nI s.1)) (by show Value.int (M.1 169 2) = _; rw [h1.1]) ?_
  refine m_il rfl hh.2.1.2.2.2.1.oa (nI_int (by omega)) (by omega) ?_
  rw [(hrow s.1 h1.2).2.2]
  exact gx_ret rfl rfl ⟨rfl, rfl⟩
theorem p_advance : pdo fz S p T (0, 0) 44 [] (p_adv T) := by
  intro M s h
  have h' := h
  obtain ⟨h0, h1, h2, h3, h4, h5, h6, h8⟩ := h
  obtain ⟨hh, ⟨r0, r1, r2, r3, r4, r5⟩, hT, hl, hrow⟩ := h0
  refine g1 (n := 1) rfl rfl rfl rfl ?_
  refine m_gf rfl hh.1 rfl (v := .int (nI s.1)) (by show Value.int (M.1 169 2) = _; rw [h1.1]) ?_
  refine g1 (n := 1) rfl rfl rfl rfl ?_
  refine m_gf rfl hh.1 rfl (v := .ref 170) (by show va_rf (M.2.2 169 0) = _; rw [r0]; rfl) ?_
  refine m_gf rfl hh.2.1.1 rfl (v := .int (nI T.length)) (by show Value.int (M.1 170 3) = _; rw [hl]) ?_
  refine g_ic rfl (fun c => ?_) (fun c => ?_)
  · have c : (nI T.length).toInt ≤ (nI s.1).toInt := (rf_cc_iff _ _ .ge).mp c
    rw [nI_int (by omega), nI_int (by omega)] at c
    refine gx_ret rfl rfl ⟨rfl, M, rfl, ?_, pz_fr.rfl' p M⟩
    have e : p_adv T s = s := by
      unfold p_adv
      rw [if_neg (by omega)]
    rw [e]; exact h'
  · have c : ¬ (nI T.length).toInt ≤ (nI s.1).toInt := fun z => c ((rf_cc_iff _ _ .ge).mpr z)
    rw [nI_int (by omega), nI_int (by omega)] at c
    refine g1 (n := 1) rfl rfl rfl rfl ?_
    refine g0 rfl rfl rfl ?_
    refine m_gf rfl hh.1 rfl (v := .int (nI s.1)) (by show Value.int (M.1 169 2) = _; rw [h1.1]) ?_
    refine g1 (n := 1) rfl rfl rfl rfl ?_
    refine g0 rfl rfl rfl ?_
    refine m_pf rfl hh.1 rfl (M' := rf_wi M 169 2 (nI s.1 + Int32.ofInt 1)) rfl ?_
    rw [nI_suc (by omega)]
    refine gx_ret rfl rfl ⟨rfl, _, rfl, ?_, (pz_fr.rfl' p M).wi (by omega)⟩
    unfold p_adv
    rw [if_pos (by omega)]
    exact h'.at' (by omega)
theorem p_isAt (h : pz fz S p T M s) {t : Int32} : gx (cx0 fz) (0, 0) 37 0 [(0, .ref 169), (1, .int t)] [] (M, S) (fun r h' => r = some (.int (bI (p_is T t s))) ∧ h' = (M, S)) := by
  obtain ⟨h0, h1, h2, h3, h4, h5, h6, h8⟩ := h
  obtain ⟨hh, ⟨r0, r1, r2, r3, r4, r5⟩, hT, hl, hrow⟩ := h0
  refine g1 (n := 1) rfl rfl rfl rfl ?_
  refine m_gf rfl hh.1 rfl (v := .int (M.1 169 3)) rfl ?_
  refine g1 (n := 1) rfl rfl rfl rfl ?_
  refine g_ic rfl (fun c => ?_) (fun c => ?_)
  · have c : ¬ M.1 169 3 = -1 := fun z => (rf_cc_iff _ _ .ne).mp c (by rw [z]; rfl)
    refine g1 (n := 1) rfl rfl rfl rfl ?_
    refine gx_ret rfl rfl ⟨?_, rfl⟩
    unfold p_is
    rw [← h8, decide_eq_false c]; rfl
  · have c : M.1 169 3 = -1 := Classical.byContradiction fun z => c ((rf_cc_iff _ _ .ne).mpr (fun w => z (Int32.toInt_inj.mp w)))
    refine g1 (n := 1) rfl rfl rfl rfl ?_
    refine m_gf rfl hh.1 rfl (v := .ref 170) (by show va_rf (M.2.2 169 0) = _; rw [r0]; rfl) ?_
    refine m_gf rfl hh.2.1.1 rfl (v := .ref 171) (by show va_rf (M.2.2 170 0) = _; rw [r2]; rfl) ?_
    refine g1 (n := 1) rfl rfl rfl rfl ?_
    refine m_gf rfl hh.1 rfl (v := .int (nI s.1)) (by show Value.int (M.1 169 2) = _; rw [h1.1]) ?_
    refine m_il rfl hh.2.1.2.1.oa (nI_int (by omega)) (by omega) ?_
    rw [(hrow s.1 h1.2).1]
    refine g1 (n := 1) rfl rfl rfl rfl ?_
    refine g_ic rfl (fun c2 => ?_) (fun c2 => ?_)
    · have c2 : ¬ kd T s.1 = t := fun z => (rf_cc_iff _ _ .ne).mp c2 (by rw [z])
      refine g1 (n := 1) rfl rfl rfl rfl ?_
      refine gx_ret rfl rfl ⟨?_, rfl⟩
      unfold p_is
      rw [decide_eq_false c2, Bool.and_false]; rfl
    · have c2 : kd T s.1 = t := Classical.byContradiction fun z => c2 ((rf_cc_iff _ _ .ne).mpr (fun w => z (Int32.toInt_inj.mp w)))
      refine g1 (n := 1) rfl rfl rfl rfl ?_
      refine g3 rfl rfl rfl ?_
      refine gx_ret rfl rfl ⟨?_, rfl⟩
      unfold p_is
      rw [← h8, decide_eq_true c, decide_eq_true c2]; rfl
theorem p_expect {t : Int32} : pdo fz S p T (1, 40) 45 [.int t] (p_ex T t) := by
  intro M s h
  refine g1 (n := 1) rfl rfl rfl rfl ?_
  refine g1 (n := 1) rfl rfl rfl rfl ?_
  refine m_iv (a := 169) (as := [.int t]) (rest := []) rfl (by decide) h.1.1.1 rfl rfl (Nat.le_of_ble_eq_true rfl) ⟨Nat.le_of_ble_eq_true rfl, Nat.le_of_ble_eq_true rfl, Nat.le_of_ble_eq_true rfl⟩ ?_
  refine gx_room (gx_mono (p_isAt h) ?_) (Nat.zero_le _) (Nat.zero_le _)
  rintro r h' ⟨rfl, rfl⟩
  unfold p_ex
  refine g_if rfl (fun c => ?_) (fun c => ?_)
  · rw [bI_no c]
    refine g1 (n := 1) rfl rfl rfl rfl ?_
    refine m_iv (a := 169) (as := []) (rest := []) rfl (by decide) h.1.1.1 rfl rfl (Nat.le_of_ble_eq_true rfl) ⟨Nat.le_of_ble_eq_true rfl, Nat.le_of_ble_eq_true rfl, Nat.le_of_ble_eq_true rfl⟩ ?_
    refine gx_room (gx_mono (p_refuse M s h) ?_) (Nat.zero_le _) (Nat.zero_le _)
    rintro r h' ⟨rfl, M', rfl, q1, q2⟩
    exact gx_ret rfl rfl ⟨rfl, M', rfl, q1, q2⟩
  · rw [bI_yes c]
    refine g1 (n := 1) rfl rfl rfl rfl ?_
    refine m_iv (a := 169) (as := []) (rest := []) rfl (by decide) h.1.1.1 rfl rfl (Nat.le_of_ble_eq_true rfl) ⟨Nat.le_of_ble_eq_true rfl, Nat.le_of_ble_eq_true rfl, Nat.le_of_ble_eq_true rfl⟩ ?_
    refine gx_room (gx_mono (p_advance M s h) ?_) (Nat.zero_le _) (Nat.zero_le _)
    rintro r h' ⟨rfl, M', rfl, q1, q2⟩
    refine g3 rfl rfl rfl ?_
    exact gx_ret rfl rfl ⟨rfl, M', rfl, q1, q2⟩
theorem p_emit (h : pz fz S p T M s) {x y : Int32} : gx (cx0 fz) (0, 0) 51 0 [(0, .ref p), (1, .int x), (2, .int y)] [] (M, S) (fun r h' => r = none ∧ ∃ M', h' = (M', S) ∧ pz fz S p T M' s ∧ pz_fr p M M') := by
  have h' := h
  obtain ⟨h0, h1, h2, h3, h4, h5, ⟨cc, h6, h7⟩, h8⟩ := h
  obtain ⟨hh, ⟨r0, r1, r2, r3, r4, r5⟩, hT, hl, hrow⟩ := h0
  have hp : 25 ≤ p ∧ p + 11 ≤ 168 := ⟨hh.2.2.2.1, hh.2.2.2.2.1⟩
  refine g1 (n := 1) rfl rfl rfl rfl ?_
  refine m_gf rfl hh.2.2.1 rfl (v := .int (nI cc)) (by show Value.int (M.1 p 3) = _; rw [h7]) ?_
  refine g1 (n := 3) rfl rfl rfl rfl ?_
  refine g_ic rfl (fun c => ?_) (fun c => ?_)
  · exact gx_ret rfl rfl ⟨rfl, M, rfl, h', pz_fr.rfl' p M⟩
  · have c : ¬ (160 : Int) ≤ (nI cc).toInt := fun z => c ((rf_cc_iff _ 160 .ge).mpr z)
    rw [nI_int (by omega)] at c
    refine g1 (n := 1) rfl rfl rfl rfl ?_
    refine m_gf rfl hh.2.2.1 rfl (v := .ref (p + 10)) (by show va_rf (M.2.2 p 14) = _; rw [r5 14 (by omega) (by omega)]; rfl) ?_
    refine g1 (n := 1) rfl rfl rfl rfl ?_
    refine m_gf rfl hh.2.2.1 rfl (v := .int (nI cc)) (by show Value.int (M.1 p 3) = _; rw [h7]) ?_
    refine g1 (n := 1) rfl rfl rfl rfl ?_
    refine m_is rfl (hh.2.2.2.2.2.2 10 (by omega) (by omega)) (nI_int (by omega)) (by omega) ?_
    refine g1 (n := 1) rfl rfl rfl rfl ?_
    refine m_gf rfl hh.2.2.1 rfl (v := .ref (p + 11)) (by show va_rf (M.2.2 p 15) = _; rw [r5 15 (by omega) (by omega)]; rfl) ?_
    refine g1 (n := 1) rfl rfl rfl rfl ?_
    refine m_gf rfl hh.2.2.1 rfl (v := .int (nI cc)) (by show Value.int ((rf_wi M (p + 10) cc x).1 p 3) = _; rw [rf_wi_of _ _ (by omega), h7]) ?_
    refine g1 (n := 1) rfl rfl rfl rfl ?_
    refine m_is rfl (hh.2.2.2.2.2.2 11 (by omega) (by omega)) (nI_int (by omega)) (by omega) ?_
    refine g1 (n := 1) rfl rfl rfl rfl ?_
    refine g0 rfl rfl rfl ?_
    refine m_gf rfl hh.2.2.1 rfl (v := .int (nI cc)) (by show Value.int ((rf_wi (rf_wi M (p + 10) cc x) (p + 11) cc y).1 p 3) = _; rw [rf_wi_of _ _ (by omega), rf_wi_of _ _ (by omega), h7]) ?_
    refine g1 (n := 1) rfl rfl rfl rfl ?_
    refine g0 rfl rfl rfl ?_
    refine m_pf rfl hh.2.2.1 rfl (M' := rf_wi (rf_wi (rf_wi M (p + 10) cc x) (p + 11) cc y) p 3 (nI cc + Int32.ofInt 1)) rfl ?_
    rw [nI_suc (by omega)]
    exact gx_ret rfl rfl ⟨rfl, _, rfl, ((h'.cc (by omega)).cc (by omega)).cc3 (by omega), (((pz_fr.rfl' p M).wi (by omega)).wi (by omega)).wi (by omega)⟩
end PZ
