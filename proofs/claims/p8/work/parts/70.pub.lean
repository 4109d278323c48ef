/-! EACH CALL of the program ends; what the regions say holds on; it writes within its list (printed by wip/tools/pub.py) -/
theorem cl_run (fz : Bool) (L : Nat) (xs : Nat → Int32) {c : sxC} (hc : c ∈ xk_T.2.1) {args : List Value} {M : rf_M} (hin : sx_in (xk_W fz L xs) M) (hm : sx_mv c args ≤ 1900) (hfit : sx_fitl (xk_W fz L xs) c.2.1 args) : gx (cx0 fz) (2000, 80000) c.1 0 (lv_args 0 args) [] (M, (HK fz L xs).2) (fun v h' => ∃ M', h' = (M', (HK fz L xs).2) ∧ sx_in (xk_W fz L xs) M' ∧ sx_fr (xk_W fz L xs) c.2.2.2.1 M M' ∧ sx_pok (xk_W fz L xs) c.2.2.1 v) := by
  refine xk_all fz L xs c hc args M (2000, 80000) ⟨by show sx_mv c args ≤ 2000; omega, ?_⟩ hin hfit
  have e : xk_T.2.2.2 = 29 := rfl
  rw [e]
  show sx_mv c args * 29 + 30 ≤ 80000
  omega
theorem cl_22 (fz : Bool) (L : Nat) (xs : Nat → Int32) : sx_fits (xk_W fz L xs) (.inr (some (0, false))) (.ref 22) := ⟨some 22, rfl, ⟨Nat.le_refl _, by show 22 < (HK fz L xs).2.2.1; rw [HK_n]; decide, rfl⟩⟩
theorem cl_i (fz : Bool) (L : Nat) (xs : Nat → Int32) (x : Int32) : sx_fits (xk_W fz L xs) (.inl ((-2147483648), 2147483647)) (.int x) := ⟨x, rfl, (sx_rg x).1, (sx_rg x).2⟩
theorem cl_l (fz : Bool) (L : Nat) (xs : Nat → Int32) (x : Int64) : sx_fits (xk_W fz L xs) (.inr none) (.long x) := ⟨x, rfl⟩
theorem cl_feed (fz : Bool) (L : Nat) (xs : Nat → Int32) {M : rf_M} (hin : sx_in (xk_W fz L xs) M) (a0 : Int32) (a1 : Int32) (a2 : Int32) (a3 : Int32) (a4 : Int32) : gx (cx0 fz) (2000, 80000) 13 0 (lv_args 0 [.ref 22, .int a0, .int a1, .int a2, .int a3, .int a4]) [] (M, (HK fz L xs).2) (fun r h' => ∃ (z : Int32) (M' : rf_M), r = some (.int z) ∧ h' = (M', (HK fz L xs).2) ∧ sx_in (xk_W fz L xs) M' ∧ sx_fr (xk_W fz L xs) xk_c_1.2.2.2.1 M M') := by
  refine gx_mono (cl_run fz L xs (c := xk_c_1) (by simp [xk_T]) hin (Nat.le_of_ble_eq_true rfl) ⟨cl_22 fz L xs, cl_i fz L xs a0, cl_i fz L xs a1, cl_i fz L xs a2, cl_i fz L xs a3, cl_i fz L xs a4, trivial⟩) ?_
  rintro v h' ⟨M', rfl, h1, h2, h3⟩
  cases v with
  | none => exact h3.elim
  | some v => obtain ⟨z, rfl, -, -⟩ := h3; exact ⟨z, M', rfl, rfl, h1, h2⟩
theorem cl_end (fz : Bool) (L : Nat) (xs : Nat → Int32) {M : rf_M} (hin : sx_in (xk_W fz L xs) M) (a0 : Int32) : gx (cx0 fz) (2000, 80000) 15 0 (lv_args 0 [.ref 22, .int a0]) [] (M, (HK fz L xs).2) (fun r h' => ∃ (z : Int32) (M' : rf_M), r = some (.int z) ∧ h' = (M', (HK fz L xs).2) ∧ sx_in (xk_W fz L xs) M' ∧ sx_fr (xk_W fz L xs) xk_c_2.2.2.2.1 M M') := by
  refine gx_mono (cl_run fz L xs (c := xk_c_2) (by simp [xk_T]) hin (Nat.le_of_ble_eq_true rfl) ⟨cl_22 fz L xs, cl_i fz L xs a0, trivial⟩) ?_
  rintro v h' ⟨M', rfl, h1, h2, h3⟩
  cases v with
  | none => exact h3.elim
  | some v => obtain ⟨z, rfl, -, -⟩ := h3; exact ⟨z, M', rfl, rfl, h1, h2⟩
theorem cl_text (fz : Bool) (L : Nat) (xs : Nat → Int32) {M : rf_M} (hin : sx_in (xk_W fz L xs) M) : gx (cx0 fz) (2000, 80000) 16 0 (lv_args 0 [.ref 22]) [] (M, (HK fz L xs).2) (fun r h' => ∃ (z : Int32) (M' : rf_M), r = some (.int z) ∧ h' = (M', (HK fz L xs).2) ∧ sx_in (xk_W fz L xs) M' ∧ sx_fr (xk_W fz L xs) xk_c_3.2.2.2.1 M M') := by
  refine gx_mono (cl_run fz L xs (c := xk_c_3) (by simp [xk_T]) hin (Nat.le_of_ble_eq_true rfl) ⟨cl_22 fz L xs, trivial⟩) ?_
  rintro v h' ⟨M', rfl, h1, h2, h3⟩
  cases v with
  | none => exact h3.elim
  | some v => obtain ⟨z, rfl, -, -⟩ := h3; exact ⟨z, M', rfl, rfl, h1, h2⟩
theorem cl_place (fz : Bool) (L : Nat) (xs : Nat → Int32) {M : rf_M} (hin : sx_in (xk_W fz L xs) M) : gx (cx0 fz) (2000, 80000) 56 0 (lv_args 0 [.ref 22]) [] (M, (HK fz L xs).2) (fun r h' => ∃ (z : Int32) (M' : rf_M), r = some (.int z) ∧ h' = (M', (HK fz L xs).2) ∧ sx_in (xk_W fz L xs) M' ∧ sx_fr (xk_W fz L xs) xk_c_4.2.2.2.1 M M') := by
  refine gx_mono (cl_run fz L xs (c := xk_c_4) (by simp [xk_T]) hin (Nat.le_of_ble_eq_true rfl) ⟨cl_22 fz L xs, trivial⟩) ?_
  rintro v h' ⟨M', rfl, h1, h2, h3⟩
  cases v with
  | none => exact h3.elim
  | some v => obtain ⟨z, rfl, -, -⟩ := h3; exact ⟨z, M', rfl, rfl, h1, h2⟩
theorem cl_told (fz : Bool) (L : Nat) (xs : Nat → Int32) {M : rf_M} (hin : sx_in (xk_W fz L xs) M) (a0 : Int32) (a1 : Int32) : gx (cx0 fz) (2000, 80000) 57 0 (lv_args 0 [.ref 22, .int a0, .int a1]) [] (M, (HK fz L xs).2) (fun r h' => ∃ (z : Int32) (M' : rf_M), r = some (.int z) ∧ h' = (M', (HK fz L xs).2) ∧ sx_in (xk_W fz L xs) M' ∧ sx_fr (xk_W fz L xs) xk_c_5.2.2.2.1 M M') := by
  refine gx_mono (cl_run fz L xs (c := xk_c_5) (by simp [xk_T]) hin (Nat.le_of_ble_eq_true rfl) ⟨cl_22 fz L xs, cl_i fz L xs a0, cl_i fz L xs a1, trivial⟩) ?_
  rintro v h' ⟨M', rfl, h1, h2, h3⟩
  cases v with
  | none => exact h3.elim
  | some v => obtain ⟨z, rfl, -, -⟩ := h3; exact ⟨z, M', rfl, rfl, h1, h2⟩
theorem cl_put (fz : Bool) (L : Nat) (xs : Nat → Int32) {M : rf_M} (hin : sx_in (xk_W fz L xs) M) (a0 : Int32) (a1 : Int64) : gx (cx0 fz) (2000, 80000) 59 0 (lv_args 0 [.ref 22, .int a0, .long a1]) [] (M, (HK fz L xs).2) (fun r h' => ∃ (z : Int32) (M' : rf_M), r = some (.int z) ∧ h' = (M', (HK fz L xs).2) ∧ sx_in (xk_W fz L xs) M' ∧ sx_fr (xk_W fz L xs) xk_c_6.2.2.2.1 M M') := by
  refine gx_mono (cl_run fz L xs (c := xk_c_6) (by simp [xk_T]) hin (Nat.le_of_ble_eq_true rfl) ⟨cl_22 fz L xs, cl_i fz L xs a0, cl_l fz L xs a1, trivial⟩) ?_
  rintro v h' ⟨M', rfl, h1, h2, h3⟩
  cases v with
  | none => exact h3.elim
  | some v => obtain ⟨z, rfl, -, -⟩ := h3; exact ⟨z, M', rfl, rfl, h1, h2⟩
theorem cl_cell (fz : Bool) (L : Nat) (xs : Nat → Int32) {M : rf_M} (hin : sx_in (xk_W fz L xs) M) (a0 : Int32) : gx (cx0 fz) (2000, 80000) 79 0 (lv_args 0 [.ref 22, .int a0]) [] (M, (HK fz L xs).2) (fun r h' => ∃ (z : Int64) (M' : rf_M), r = some (.long z) ∧ h' = (M', (HK fz L xs).2) ∧ sx_in (xk_W fz L xs) M' ∧ sx_fr (xk_W fz L xs) xk_c_7.2.2.2.1 M M') := by
  refine gx_mono (cl_run fz L xs (c := xk_c_7) (by simp [xk_T]) hin (Nat.le_of_ble_eq_true rfl) ⟨cl_22 fz L xs, cl_i fz L xs a0, trivial⟩) ?_
  rintro v h' ⟨M', rfl, h1, h2, h3⟩
  cases v with
  | none => exact h3.elim
  | some v => obtain ⟨z, rfl⟩ := h3; exact ⟨z, M', rfl, rfl, h1, h2⟩
theorem cl_version (fz : Bool) (L : Nat) (xs : Nat → Int32) {M : rf_M} (hin : sx_in (xk_W fz L xs) M) (a0 : Int32) : gx (cx0 fz) (2000, 80000) 80 0 (lv_args 0 [.ref 22, .int a0]) [] (M, (HK fz L xs).2) (fun r h' => ∃ (z : Int32) (M' : rf_M), r = some (.int z) ∧ h' = (M', (HK fz L xs).2) ∧ sx_in (xk_W fz L xs) M' ∧ sx_fr (xk_W fz L xs) xk_c_8.2.2.2.1 M M') := by
  refine gx_mono (cl_run fz L xs (c := xk_c_8) (by simp [xk_T]) hin (Nat.le_of_ble_eq_true rfl) ⟨cl_22 fz L xs, cl_i fz L xs a0, trivial⟩) ?_
  rintro v h' ⟨M', rfl, h1, h2, h3⟩
  cases v with
  | none => exact h3.elim
  | some v => obtain ⟨z, rfl, -, -⟩ := h3; exact ⟨z, M', rfl, rfl, h1, h2⟩
theorem cl_add (fz : Bool) (L : Nat) (xs : Nat → Int32) {M : rf_M} (hin : sx_in (xk_W fz L xs) M) (a0 : Int32) (a1 : Int32) : gx (cx0 fz) (2000, 80000) 81 0 (lv_args 0 [.ref 22, .int a0, .int a1]) [] (M, (HK fz L xs).2) (fun r h' => ∃ (z : Int32) (M' : rf_M), r = some (.int z) ∧ h' = (M', (HK fz L xs).2) ∧ sx_in (xk_W fz L xs) M' ∧ sx_fr (xk_W fz L xs) xk_c_9.2.2.2.1 M M') := by
  refine gx_mono (cl_run fz L xs (c := xk_c_9) (by simp [xk_T]) hin (Nat.le_of_ble_eq_true rfl) ⟨cl_22 fz L xs, cl_i fz L xs a0, cl_i fz L xs a1, trivial⟩) ?_
  rintro v h' ⟨M', rfl, h1, h2, h3⟩
  cases v with
  | none => exact h3.elim
  | some v => obtain ⟨z, rfl, -, -⟩ := h3; exact ⟨z, M', rfl, rfl, h1, h2⟩
theorem cl_turn (fz : Bool) (L : Nat) (xs : Nat → Int32) {M : rf_M} (hin : sx_in (xk_W fz L xs) M) (a0 : Int32) : gx (cx0 fz) (2000, 80000) 84 0 (lv_args 0 [.ref 22, .int a0]) [] (M, (HK fz L xs).2) (fun r h' => ∃ (z : Int32) (M' : rf_M), r = some (.int z) ∧ h' = (M', (HK fz L xs).2) ∧ sx_in (xk_W fz L xs) M' ∧ sx_fr (xk_W fz L xs) xk_c_10.2.2.2.1 M M') := by
  refine gx_mono (cl_run fz L xs (c := xk_c_10) (by simp [xk_T]) hin (Nat.le_of_ble_eq_true rfl) ⟨cl_22 fz L xs, cl_i fz L xs a0, trivial⟩) ?_
  rintro v h' ⟨M', rfl, h1, h2, h3⟩
  cases v with
  | none => exact h3.elim
  | some v => obtain ⟨z, rfl, -, -⟩ := h3; exact ⟨z, M', rfl, rfl, h1, h2⟩
theorem cl_play (fz : Bool) (L : Nat) (xs : Nat → Int32) {M : rf_M} (hin : sx_in (xk_W fz L xs) M) (a0 : Int64) (a1 : Int32) : gx (cx0 fz) (2000, 80000) 108 0 (lv_args 0 [.ref 22, .long a0, .int a1]) [] (M, (HK fz L xs).2) (fun r h' => ∃ (z : Int32) (M' : rf_M), r = some (.int z) ∧ h' = (M', (HK fz L xs).2) ∧ sx_in (xk_W fz L xs) M' ∧ sx_fr (xk_W fz L xs) xk_c_11.2.2.2.1 M M') := by
  refine gx_mono (cl_run fz L xs (c := xk_c_11) (by simp [xk_T]) hin (Nat.le_of_ble_eq_true rfl) ⟨cl_22 fz L xs, cl_l fz L xs a0, cl_i fz L xs a1, trivial⟩) ?_
  rintro v h' ⟨M', rfl, h1, h2, h3⟩
  cases v with
  | none => exact h3.elim
  | some v => obtain ⟨z, rfl, -, -⟩ := h3; exact ⟨z, M', rfl, rfl, h1, h2⟩
theorem cl_client (fz : Bool) (L : Nat) (xs : Nat → Int32) {M : rf_M} (hin : sx_in (xk_W fz L xs) M) (a0 : Int32) (a1 : Int32) : gx (cx0 fz) (2000, 80000) 109 0 (lv_args 0 [.ref 22, .int a0, .int a1]) [] (M, (HK fz L xs).2) (fun r h' => ∃ (z : Int32) (M' : rf_M), r = some (.int z) ∧ h' = (M', (HK fz L xs).2) ∧ sx_in (xk_W fz L xs) M' ∧ sx_fr (xk_W fz L xs) xk_c_12.2.2.2.1 M M') := by
  refine gx_mono (cl_run fz L xs (c := xk_c_12) (by simp [xk_T]) hin (Nat.le_of_ble_eq_true rfl) ⟨cl_22 fz L xs, cl_i fz L xs a0, cl_i fz L xs a1, trivial⟩) ?_
  rintro v h' ⟨M', rfl, h1, h2, h3⟩
  cases v with
  | none => exact h3.elim
  | some v => obtain ⟨z, rfl, -, -⟩ := h3; exact ⟨z, M', rfl, rfl, h1, h2⟩
theorem cl_sees (fz : Bool) (L : Nat) (xs : Nat → Int32) {M : rf_M} (hin : sx_in (xk_W fz L xs) M) (a0 : Int32) (a1 : Int32) : gx (cx0 fz) (2000, 80000) 111 0 (lv_args 0 [.ref 22, .int a0, .int a1]) [] (M, (HK fz L xs).2) (fun r h' => ∃ (z : Int64) (M' : rf_M), r = some (.long z) ∧ h' = (M', (HK fz L xs).2) ∧ sx_in (xk_W fz L xs) M' ∧ sx_fr (xk_W fz L xs) xk_c_13.2.2.2.1 M M') := by
  refine gx_mono (cl_run fz L xs (c := xk_c_13) (by simp [xk_T]) hin (Nat.le_of_ble_eq_true rfl) ⟨cl_22 fz L xs, cl_i fz L xs a0, cl_i fz L xs a1, trivial⟩) ?_
  rintro v h' ⟨M', rfl, h1, h2, h3⟩
  cases v with
  | none => exact h3.elim
  | some v => obtain ⟨z, rfl⟩ := h3; exact ⟨z, M', rfl, rfl, h1, h2⟩
theorem cl_rules (fz : Bool) (L : Nat) (xs : Nat → Int32) {M : rf_M} (hin : sx_in (xk_W fz L xs) M) : gx (cx0 fz) (2000, 80000) 112 0 (lv_args 0 [.ref 22]) [] (M, (HK fz L xs).2) (fun r h' => ∃ (z : Int32) (M' : rf_M), r = some (.int z) ∧ h' = (M', (HK fz L xs).2) ∧ sx_in (xk_W fz L xs) M' ∧ sx_fr (xk_W fz L xs) xk_c_14.2.2.2.1 M M') := by
  refine gx_mono (cl_run fz L xs (c := xk_c_14) (by simp [xk_T]) hin (Nat.le_of_ble_eq_true rfl) ⟨cl_22 fz L xs, trivial⟩) ?_
  rintro v h' ⟨M', rfl, h1, h2, h3⟩
  cases v with
  | none => exact h3.elim
  | some v => obtain ⟨z, rfl, -, -⟩ := h3; exact ⟨z, M', rfl, rfl, h1, h2⟩
theorem cl_rows (fz : Bool) (L : Nat) (xs : Nat → Int32) {M : rf_M} (hin : sx_in (xk_W fz L xs) M) : gx (cx0 fz) (2000, 80000) 113 0 (lv_args 0 [.ref 22]) [] (M, (HK fz L xs).2) (fun r h' => ∃ (z : Int32) (M' : rf_M), r = some (.int z) ∧ h' = (M', (HK fz L xs).2) ∧ sx_in (xk_W fz L xs) M' ∧ sx_fr (xk_W fz L xs) xk_c_15.2.2.2.1 M M') := by
  refine gx_mono (cl_run fz L xs (c := xk_c_15) (by simp [xk_T]) hin (Nat.le_of_ble_eq_true rfl) ⟨cl_22 fz L xs, trivial⟩) ?_
  rintro v h' ⟨M', rfl, h1, h2, h3⟩
  cases v with
  | none => exact h3.elim
  | some v => obtain ⟨z, rfl, -, -⟩ := h3; exact ⟨z, M', rfl, rfl, h1, h2⟩
theorem cl_row (fz : Bool) (L : Nat) (xs : Nat → Int32) {M : rf_M} (hin : sx_in (xk_W fz L xs) M) (a0 : Int32) (a1 : Int32) : gx (cx0 fz) (2000, 80000) 114 0 (lv_args 0 [.ref 22, .int a0, .int a1]) [] (M, (HK fz L xs).2) (fun r h' => ∃ (z : Int32) (M' : rf_M), r = some (.int z) ∧ h' = (M', (HK fz L xs).2) ∧ sx_in (xk_W fz L xs) M' ∧ sx_fr (xk_W fz L xs) xk_c_16.2.2.2.1 M M') := by
  refine gx_mono (cl_run fz L xs (c := xk_c_16) (by simp [xk_T]) hin (Nat.le_of_ble_eq_true rfl) ⟨cl_22 fz L xs, cl_i fz L xs a0, cl_i fz L xs a1, trivial⟩) ?_
  rintro v h' ⟨M', rfl, h1, h2, h3⟩
  cases v with
  | none => exact h3.elim
  | some v => obtain ⟨z, rfl, -, -⟩ := h3; exact ⟨z, M', rfl, rfl, h1, h2⟩
theorem cl_value (fz : Bool) (L : Nat) (xs : Nat → Int32) {M : rf_M} (hin : sx_in (xk_W fz L xs) M) (a0 : Int32) : gx (cx0 fz) (2000, 80000) 117 0 (lv_args 0 [.ref 22, .int a0]) [] (M, (HK fz L xs).2) (fun r h' => ∃ (z : Int64) (M' : rf_M), r = some (.long z) ∧ h' = (M', (HK fz L xs).2) ∧ sx_in (xk_W fz L xs) M' ∧ sx_fr (xk_W fz L xs) xk_c_17.2.2.2.1 M M') := by
  refine gx_mono (cl_run fz L xs (c := xk_c_17) (by simp [xk_T]) hin (Nat.le_of_ble_eq_true rfl) ⟨cl_22 fz L xs, cl_i fz L xs a0, trivial⟩) ?_
  rintro v h' ⟨M', rfl, h1, h2, h3⟩
  cases v with
  | none => exact h3.elim
  | some v => obtain ⟨z, rfl⟩ := h3; exact ⟨z, M', rfl, rfl, h1, h2⟩
theorem cl_replays (fz : Bool) (L : Nat) (xs : Nat → Int32) {M : rf_M} (hin : sx_in (xk_W fz L xs) M) : gx (cx0 fz) (2000, 80000) 118 0 (lv_args 0 [.ref 22]) [] (M, (HK fz L xs).2) (fun r h' => ∃ (z : Int32) (M' : rf_M), r = some (.int z) ∧ h' = (M', (HK fz L xs).2) ∧ sx_in (xk_W fz L xs) M' ∧ sx_fr (xk_W fz L xs) xk_c_18.2.2.2.1 M M') := by
  refine gx_mono (cl_run fz L xs (c := xk_c_18) (by simp [xk_T]) hin (Nat.le_of_ble_eq_true rfl) ⟨cl_22 fz L xs, trivial⟩) ?_
  rintro v h' ⟨M', rfl, h1, h2, h3⟩
  cases v with
  | none => exact h3.elim
  | some v => obtain ⟨z, rfl, -, -⟩ := h3; exact ⟨z, M', rfl, rfl, h1, h2⟩
theorem cl_clear (fz : Bool) (L : Nat) (xs : Nat → Int32) {M : rf_M} (hin : sx_in (xk_W fz L xs) M) : gx (cx0 fz) (2000, 80000) 122 0 (lv_args 0 [.ref 22]) [] (M, (HK fz L xs).2) (fun r h' => ∃ (z : Int32) (M' : rf_M), r = some (.int z) ∧ h' = (M', (HK fz L xs).2) ∧ sx_in (xk_W fz L xs) M' ∧ sx_fr (xk_W fz L xs) xk_c_19.2.2.2.1 M M') := by
  refine gx_mono (cl_run fz L xs (c := xk_c_19) (by simp [xk_T]) hin (Nat.le_of_ble_eq_true rfl) ⟨cl_22 fz L xs, trivial⟩) ?_
  rintro v h' ⟨M', rfl, h1, h2, h3⟩
  cases v with
  | none => exact h3.elim
  | some v => obtain ⟨z, rfl, -, -⟩ := h3; exact ⟨z, M', rfl, rfl, h1, h2⟩
