def xk_wb (h : rf_H) (a b : Nat) (w : List Nat) : Bool := decide (h.2.1 a = .inl 0) && (decide (h.2.1 b = .inr (.byte, w.length)) && (decide (h.1.2.2 a 0 = some b) && (decide (h.1.1 a 1 = 0) && (List.range w.length).all (fun t => decide (h.1.1 b t = Int32.ofNat (w.getD t 0)) && decide (w.getD t 0 < 128)))))
def xk_wl : List (Nat × Nat × List Nat) := [(2, 3, [105, 102]), (4, 5, [101, 108, 115, 101]), (6, 7, [119, 104, 105, 108, 101]), (8, 9, [114, 101, 116, 114, 121]), (10, 11, [116, 104, 114, 111, 119]), (12, 13, [101, 105, 116, 104, 101, 114]), (14, 15, [111, 114]), (16, 17, [116, 114, 121]), (18, 19, [99, 97, 116, 99, 104]), (20, 21, [97, 108, 119, 97, 121, 115])]
theorem K2_words (fz : Bool) : xk_wl.all (fun q => xk_wb (K2 fz) q.1 q.2.1 q.2.2) = true := by cases fz <;> decide +kernel
theorem pt_r (row : Nat → Int32) (sh : rf_S) (h : rf_H) (a k : Nat) : (pt_H row sh h).1.2.2 a k = h.1.2.2 a k := rfl
theorem HK_r (fz : Bool) (L : Nat) (xs : Nat → Int32) (a k : Nat) : (HK fz L xs).1.2.2 a k = (K2 fz).1.2.2 a k := by
  unfold HK
  generalize K2 fz = h
  exact pt_r xs (.inr (.int, L)) h a k
theorem xk_wbo (fz : Bool) (L : Nat) (xs : Nat → Int32) {a b : Nat} {w : List Nat} (ha : 1 < a ∧ a < 22) (hb : 1 < b ∧ b < 22) (hw : w.length ≤ 100) (h : xk_wb (K2 fz) a b w = true) : sc_w fz (HK fz L xs).2 (HK fz L xs).1 a b w := by
  unfold xk_wb at h
  simp only [Bool.and_eq_true, decide_eq_true_eq, List.all_eq_true, List.mem_range] at h
  obtain ⟨h1, h2, h3, h4, h5⟩ := h
  have eS : ∀ c, 1 < c → (HK fz L xs).2.1 c = (K2 fz).2.1 c := fun c hc => by
    show va_up (K2 fz).2.1 1 _ c = _
    unfold va_up
    rw [if_neg (by omega)]
  have eI : ∀ c k, 1 < c → (HK fz L xs).1.1 c k = (K2 fz).1.1 c k := fun c k hc => by
    show va_up (K2 fz).1.1 1 xs c k = _
    unfold va_up
    rw [if_neg (by omega)]
  have hn : (HK fz L xs).2.2.1 = 406 := HK_n fz L xs
  refine ⟨⟨⟨by omega, ha.2, by rw [hn]; omega, by rw [eS a ha.1]; exact h1⟩, ⟨by omega, by rw [hn]; omega, by rw [eS b hb.1]; exact h2⟩, (HK_r fz L xs a 0).trans h3, by rw [eI a 1 ha.1]; exact h4, hw, fun k hk => ?_⟩, fun t ht => by rw [eI b t hb.1]; exact (h5 t ht).1⟩
  exact ⟨w.getD k 0, (h5 k hk).2, by rw [eI b k hb.1]; exact (h5 k hk).1⟩
theorem xk_oldHK (fz : Bool) (L : Nat) (xs : Nat → Int32) : xk_old fz (HK fz L xs).2 (HK fz L xs).1 := by
  have h := List.all_eq_true.mp (K2_words fz)
  exact ⟨xk_wbo fz L xs (by decide) (by decide) (by decide) (h (2, 3, [105, 102]) (by decide)), xk_wbo fz L xs (by decide) (by decide) (by decide) (h (4, 5, [101, 108, 115, 101]) (by decide)), xk_wbo fz L xs (by decide) (by decide) (by decide) (h (6, 7, [119, 104, 105, 108, 101]) (by decide)), xk_wbo fz L xs (by decide) (by decide) (by decide) (h (8, 9, [114, 101, 116, 114, 121]) (by decide)), xk_wbo fz L xs (by decide) (by decide) (by decide) (h (10, 11, [116, 104, 114, 111, 119]) (by decide)), xk_wbo fz L xs (by decide) (by decide) (by decide) (h (12, 13, [101, 105, 116, 104, 101, 114]) (by decide)), xk_wbo fz L xs (by decide) (by decide) (by decide) (h (14, 15, [111, 114]) (by decide)), xk_wbo fz L xs (by decide) (by decide) (by decide) (h (16, 17, [116, 114, 121]) (by decide)), xk_wbo fz L xs (by decide) (by decide) (by decide) (h (18, 19, [99, 97, 116, 99, 104]) (by decide)), xk_wbo fz L xs (by decide) (by decide) (by decide) (h (20, 21, [97, 108, 119, 97, 121, 115]) (by decide))⟩
theorem xk_all (fz : Bool) (L : Nat) (xs : Nat → Int32) : ∀ c ∈ xk_T.2.1, ∀ args, sx_cok xk_T (xk_W fz L xs) c args := by
  refine sx_main (fun c hc args => ?_) (xk_Wck fz L xs)
  have hc : c ∈ [xk_c_0] := hc
  have e : c = xk_c_0 := by simpa using hc
  subst e
  exact xk_scan_ok (hp := (xk_W fz L xs).2.1) (hs := (xk_W fz L xs).2.2) (HK_n fz L xs) (xk_oldHK fz L xs) args
/-! WHAT IS LEFT of a claim: a relation J of the two memories that every pair of calls keeps (printed by wip/tools/law.py) -/
theorem pt_sl (row : Nat → Int32) (sh : rf_S) (h : rf_H) : (pt_H row sh h).2.2.2 = h.2.2.2 := rfl
theorem K2_sl (fz : Bool) : (K2 fz).2.2.2 = 49191 := by
  have h := K2_ok fz
  rw [K2_eq fz] at h
  simp only [Option.map_some, Option.some.injEq, Prod.mk.injEq] at h
  exact h.2.2
theorem HK_sl (fz : Bool) (L : Nat) (xs : Nat → Int32) : (HK fz L xs).2.2.2 = 49191 := (pt_sl xs (.inr (.int, L)) (K2 fz)).trans (K2_sl fz)
theorem HK_go (fz : Bool) (L : Nat) (xs : Nat → Int32) {a ci : Nat} (h1 : 22 ≤ a) (h2 : a < 406) (h : shK.getD (a - 22) shD = .inl ci) : go (cx0 fz) (HK fz L xs).2 a ci := by
  refine ⟨h1, by omega, by rw [HK_n]; exact h2, ?_⟩
  rw [HK_shp fz L xs h1, K2_shp fz h1 h2]
  exact h
theorem HK_1 (fz : Bool) (L : Nat) (xs : Nat → Int32) : (HK fz L xs).2.1 1 = .inr (.int, L) := by
  unfold HK
  generalize K2 fz = h
  show va_up h.2.1 1 (.inr (.int, L)) 1 = _
  exact va_up_self h.2.1 1 (.inr (.int, L))
theorem pu_of (fz : Bool) {L : Nat} (xs : Nat → Int32) (hL : L ≤ 3072) {J : rf_M → Prop} (hJ : ∀ M, J M → ∀ k, M.1 1 k = xs k)
    (hp_13 : ∀ (a0 : Int32) (a1 : Int32) (a2 : Int32) (a3 : Int32) (a4 : Int32), lw_I (cx0 fz) (HK fz L xs).2 xs J false 13 128 [.int a0, .int a1, .int a2, .int a3, .int a4])
    (hp_15 : ∀ (a0 : Int32), lw_I (cx0 fz) (HK fz L xs).2 xs J false 15 129 [.int a0])
    (hp_16 : lw_I (cx0 fz) (HK fz L xs).2 xs J false 16 130 [])
    (hp_56 : lw_I (cx0 fz) (HK fz L xs).2 xs J false 56 152 [])
    (hp_57 : ∀ (a0 : Int32) (a1 : Int32), lw_I (cx0 fz) (HK fz L xs).2 xs J false 57 153 [.int a0, .int a1])
    (hp_59 : ∀ (a0 : Int32) (a1 : Int64), lw_I (cx0 fz) (HK fz L xs).2 xs J false 59 184 [.int a0, .long a1])
    (hp_79 : ∀ (a0 : Int32), lw_L (cx0 fz) (HK fz L xs).2 xs J false 79 185 [.int a0])
    (hp_80 : ∀ (a0 : Int32), lw_I (cx0 fz) (HK fz L xs).2 xs J false 80 186 [.int a0])
    (hp_81 : ∀ (a0 : Int32) (a1 : Int32), lw_I (cx0 fz) (HK fz L xs).2 xs J true 81 187 [.int a0, .int a1])
    (hp_84 : ∀ (a0 : Int32), lw_I (cx0 fz) (HK fz L xs).2 xs J false 84 154 [.int a0])
    (hp_108 : ∀ (a0 : Int64) (a1 : Int32), lw_I (cx0 fz) (HK fz L xs).2 xs J false 108 183 [.long a0, .int a1])
    (hp_109 : ∀ (a0 : Int32) (a1 : Int32), lw_I (cx0 fz) (HK fz L xs).2 xs J false 109 188 [.int a0, .int a1])
    (hp_111 : ∀ (a0 : Int32) (a1 : Int32), lw_L (cx0 fz) (HK fz L xs).2 xs J false 111 189 [.int a0, .int a1])
    (hp_112 : lw_I (cx0 fz) (HK fz L xs).2 xs J false 112 190 [])
    (hp_113 : lw_I (cx0 fz) (HK fz L xs).2 xs J false 113 191 [])
    (hp_114 : ∀ (a0 : Int32) (a1 : Int32), lw_I (cx0 fz) (HK fz L xs).2 xs J false 114 192 [.int a0, .int a1])
    (hp_117 : ∀ (a0 : Int32), lw_L (cx0 fz) (HK fz L xs).2 xs J false 117 193 [.int a0])
    (hp_118 : lw_I (cx0 fz) (HK fz L xs).2 xs J false 118 194 [])
    (hp_122 : lw_I (cx0 fz) (HK fz L xs).2 xs J false 122 197 []) (HJ0 : J (HK fz L xs).1) : pu_goal fz L xs := by
  have k := law_go (S := (HK fz L xs).2) (M0 := (HK fz L xs).1) fz xs hL hJ (HK_go fz L xs (by decide) (by decide) rfl) (HK_go fz L xs (by decide) (by decide) rfl) (HK_1 fz L xs) (by rw [HK_n]; decide) hp_13 hp_15 hp_16 hp_56 hp_57 hp_59 hp_79 hp_80 hp_81 hp_84 hp_108 hp_109 hp_111 hp_112 hp_113 hp_114 hp_117 hp_118 hp_122 HJ0
  have e : ((HK fz L xs).1, (HK fz L xs).2) = HK fz L xs := Prod.eta (HK fz L xs)
  rw [e] at k
  obtain ⟨n, r, hF, h1, h2, h3⟩ := law_made fz L xs k
  rw [h2] at h1
  exact ⟨n, hF, h1, by rw [h3, HK_n]; decide, by rw [h3, HK_sl]; decide⟩
/-! EACH CALL of the program ends; what the regions say holds on; it writes within its list (printed by wip/tools/pub.py) -/
theorem cl_run (fz : Bool) (L : Nat) (xs : Nat → Int32) {c : sxC} (hc : c ∈ xk_T.2.1) {args : List Value} {M : rf_M} (hin : sx_in (xk_W fz L xs) M) (hm : sx_mv c args ≤ 1900) (hfit : sx_fitl (xk_W fz L xs) c.2.1 args) : gx (cx0 fz) (2000, 80000) c.1 0 (lv_args 0 args) [] (M, (HK fz L xs).2) (fun v h' => ∃ M', h' = (M', (HK fz L xs).2) ∧ sx_in (xk_W fz L xs) M' ∧ sx_fr (xk_W fz L xs) c.2.2.2.1 M M' ∧ sx_pok (xk_W fz L xs) c.2.2.1 v) := by
  refine xk_all fz L xs c hc args M (2000, 80000) ⟨by show sx_mv c args ≤ 2000; omega, ?_⟩ hin hfit
  have e : xk_T.2.2.2 = 29 := rfl
  rw [e]
  show sx_mv c args * 29 + 30 ≤ 80000
  omega
theorem cl_22 (fz : Bool) (L : Nat) (xs : Nat → Int32) : sx_fits (xk_W fz L xs) (.inr (some (0, false))) (.ref 22) := ⟨some 22, rfl, ⟨Nat.le_refl _, by show 22 < (HK fz L xs).2.2.1; rw [HK_n]; decide, rfl⟩⟩
theorem cl_i (fz : Bool) (L : Nat) (xs : Nat → Int32) (x : Int32) : sx_fits (xk_W fz L xs) (.inl ((-2147483648), 2147483647)) (.int x) := ⟨x, rfl, (sx_rg x).1, (sx_rg x).2⟩
theorem cl_l (fz : Bool) (L : Nat) (xs : Nat → Int32) (x : Int64) : sx_fits (xk_W fz L xs) (.inr none) (.long x) := ⟨x, rfl⟩
theorem cl_feed (fz : Bool) (L : Nat) (xs : Nat → Int32) {M : rf_M} (hin : sx_in (xk_W fz L xs) M) (a0 : Int32) (a1 : Int32) (a2 : Int32) (a3 : Int32) (a4 : Int32) : gx (cx0 fz) (2000, 80000) 13 0 (lv_args 0 [.ref 22, .int a0, .int a1, .int a2, .int a3, .int a4]) [] (M, (HK fz L xs).2) (fun r h' => ∃ (z : Int32) (M' : rf_M), r = some (.int z) ∧ h' = (M', (HK fz L xs).2) ∧ sx_in (xk_W fz L xs) M' ∧ sx_fr (xk_W fz L xs) xk_c_1.2.2.2.1 M M') := by
  refine gx_mono (cl_run fz L xs (c := xk_c_1) (by simp [xk_T]) hin (Nat.le_of_ble_eq_true rfl) ⟨cl_22 fz L xs, cl_i fz L xs a0, cl_i fz L xs a1, cl_i fz L xs a2, cl_i fz L xs a3, cl_i fz L xs a4, trivial⟩) ?_
  rintro v h' ⟨M', rfl, h1, h2, h3⟩
  cases v with
  | none => exact h3.elim
  | some v => obtain ⟨z, rfl, -, -⟩ := h3; exact ⟨z, M', rfl, rfl, h1, h2⟩
theorem cl_end (fz : Bool) (L : Nat) (xs : Nat → Int32) {M : rf_M} (hin : sx_in (xk_W fz L xs) M) (a0 : Int32) : gx (cx0 fz) (2000, 80000) 15 0 (lv_args 0 [.ref 22, .int a0]) [] (M, (HK fz L xs).2) (fun r h' => ∃ (z : Int32) (M' : rf_M), r = some (.int z) ∧ h' = (M', (HK fz L xs).2) ∧ sx_in (xk_W fz L xs) M' ∧ sx_fr (xk_W fz L xs) xk_c_2.2.2.2.1 M M') := by
  refine gx_mono (cl_run fz L xs (c := xk_c_2) (by simp [xk_T]) hin (Nat.le_of_ble_eq_true rfl) ⟨cl_22 fz L xs, cl_i fz L xs a0, trivial⟩) ?_
  rintro v h' ⟨M', rfl, h1, h2, h3⟩
  cases v with
  | none => exact h3.elim
  | some v => obtain ⟨z, rfl, -, -⟩ := h3; exact ⟨z, M', rfl, rfl, h1, h2⟩
theorem cl_text (fz : Bool) (L : Nat) (xs : Nat → Int32) {M : rf_M} (hin : sx_in (xk_W fz L xs) M) : gx (cx0 fz) (2000, 80000) 16 0 (lv_args 0 [.ref 22]) [] (M, (HK fz L xs).2) (fun r h' => ∃ (z : Int32) (M' : rf_M), r = some (.int z) ∧ h' = (M', (HK fz L xs).2) ∧ sx_in (xk_W fz L xs) M' ∧ sx_fr (xk_W fz L xs) xk_c_3.2.2.2.1 M M') := by
  refine gx_mono (cl_run fz L xs (c := xk_c_3) (by simp [xk_T]) hin (Nat.le_of_ble_eq_true rfl) ⟨cl_22 fz L xs, trivial⟩) ?_
  rintro v h' ⟨M', rfl, h1, h2, h3⟩
  cases v with
  | none => exact h3.elim
  | some v => obtain ⟨z, rfl, -, -⟩ := h3; exact ⟨z, M', rfl, rfl, h1, h2⟩
theorem cl_place (fz : Bool) (L : Nat) (xs : Nat → Int32) {M : rf_M} (hin : sx_in (xk_W fz L xs) M) : gx (cx0 fz) (2000, 80000) 56 0 (lv_args 0 [.ref 22]) [] (M, (HK fz L xs).2) (fun r h' => ∃ (z : Int32) (M' : rf_M), r = some (.int z) ∧ h' = (M', (HK fz L xs).2) ∧ sx_in (xk_W fz L xs) M' ∧ sx_fr (xk_W fz L xs) xk_c_4.2.2.2.1 M M') := by
  refine gx_mono (cl_run fz L xs (c := xk_c_4) (by simp [xk_T]) hin (Nat.le_of_ble_eq_true rfl) ⟨cl_22 fz L xs, trivial⟩) ?_
  rintro v h' ⟨M', rfl, h1, h2, h3⟩
  cases v with
  | none => exact h3.elim
  | some v => obtain ⟨z, rfl, -, -⟩ := h3; exact ⟨z, M', rfl, rfl, h1, h2⟩
theorem cl_told (fz : Bool) (L : Nat) (xs : Nat → Int32) {M : rf_M} (hin : sx_in (xk_W fz L xs) M) (a0 : Int32) (a1 : Int32) : gx (cx0 fz) (2000, 80000) 57 0 (lv_args 0 [.ref 22, .int a0, .int a1]) [] (M, (HK fz L xs).2) (fun r h' => ∃ (z : Int32) (M' : rf_M), r = some (.int z) ∧ h' = (M', (HK fz L xs).2) ∧ sx_in (xk_W fz L xs) M' ∧ sx_fr (xk_W fz L xs) xk_c_5.2.2.2.1 M M') := by
  refine gx_mono (cl_run fz L xs (c := xk_c_5) (by simp [xk_T]) hin (Nat.le_of_ble_eq_true rfl) ⟨cl_22 fz L xs, cl_i fz L xs a0, cl_i fz L xs a1, trivial⟩) ?_
  rintro v h' ⟨M', rfl, h1, h2, h3⟩
  cases v with
  | none => exact h3.elim
  | some v => obtain ⟨z, rfl, -, -⟩ := h3; exact ⟨z, M', rfl, rfl, h1, h2⟩
theorem cl_put (fz : Bool) (L : Nat) (xs : Nat → Int32) {M : rf_M} (hin : sx_in (xk_W fz L xs) M) (a0 : Int32) (a1 : Int64) : gx (cx0 fz) (2000, 80000) 59 0 (lv_args 0 [.ref 22, .int a0, .long a1]) [] (M, (HK fz L xs).2) (fun r h' => ∃ (z : Int32) (M' : rf_M), r = some (.int z) ∧ h' = (M', (HK fz L xs).2) ∧ sx_in (xk_W fz L xs) M' ∧ sx_fr (xk_W fz L xs) xk_c_6.2.2.2.1 M M') := by
  refine gx_mono (cl_run fz L xs (c := xk_c_6) (by simp [xk_T]) hin (Nat.le_of_ble_eq_true rfl) ⟨cl_22 fz L xs, cl_i fz L xs a0, cl_l fz L xs a1, trivial⟩) ?_
  rintro v h' ⟨M', rfl, h1, h2, h3⟩
  cases v with
  | none => exact h3.elim
  | some v => obtain ⟨z, rfl, -, -⟩ := h3; exact ⟨z, M', rfl, rfl, h1, h2⟩
theorem cl_cell (fz : Bool) (L : Nat) (xs : Nat → Int32) {M : rf_M} (hin : sx_in (xk_W fz L xs) M) (a0 : Int32) : gx (cx0 fz) (2000, 80000) 79 0 (lv_args 0 [.ref 22, .int a0]) [] (M, (HK fz L xs).2) (fun r h' => ∃ (z : Int64) (M' : rf_M), r = some (.long z) ∧ h' = (M', (HK fz L xs).2) ∧ sx_in (xk_W fz L xs) M' ∧ sx_fr (xk_W fz L xs) xk_c_7.2.2.2.1 M M') := by
  refine gx_mono (cl_run fz L xs (c := xk_c_7) (by simp [xk_T]) hin (Nat.le_of_ble_eq_true rfl) ⟨cl_22 fz L xs, cl_i fz L xs a0, trivial⟩) ?_
  rintro v h' ⟨M', rfl, h1, h2, h3⟩
  cases v with
  | none => exact h3.elim
  | some v => obtain ⟨z, rfl⟩ := h3; exact ⟨z, M', rfl, rfl, h1, h2⟩
theorem cl_version (fz : Bool) (L : Nat) (xs : Nat → Int32) {M : rf_M} (hin : sx_in (xk_W fz L xs) M) (a0 : Int32) : gx (cx0 fz) (2000, 80000) 80 0 (lv_args 0 [.ref 22, .int a0]) [] (M, (HK fz L xs).2) (fun r h' => ∃ (z : Int32) (M' : rf_M), r = some (.int z) ∧ h' = (M', (HK fz L xs).2) ∧ sx_in (xk_W fz L xs) M' ∧ sx_fr (xk_W fz L xs) xk_c_8.2.2.2.1 M M') := by
  refine gx_mono (cl_run fz L xs (c := xk_c_8) (by simp [xk_T]) hin (Nat.le_of_ble_eq_true rfl) ⟨cl_22 fz L xs, cl_i fz L xs a0, trivial⟩) ?_
  rintro v h' ⟨M', rfl, h1, h2, h3⟩
  cases v with
  | none => exact h3.elim
  | some v => obtain ⟨z, rfl, -, -⟩ := h3; exact ⟨z, M', rfl, rfl, h1, h2⟩
theorem cl_add (fz : Bool) (L : Nat) (xs : Nat → Int32) {M : rf_M} (hin : sx_in (xk_W fz L xs) M) (a0 : Int32) (a1 : Int32) : gx (cx0 fz) (2000, 80000) 81 0 (lv_args 0 [.ref 22, .int a0, .int a1]) [] (M, (HK fz L xs).2) (fun r h' => ∃ (z : Int32) (M' : rf_M), r = some (.int z) ∧ h' = (M', (HK fz L xs).2) ∧ sx_in (xk_W fz L xs) M' ∧ sx_fr (xk_W fz L xs) xk_c_9.2.2.2.1 M M') := by
  refine gx_mono (cl_run fz L xs (c := xk_c_9) (by simp [xk_T]) hin (Nat.le_of_ble_eq_true rfl) ⟨cl_22 fz L xs, cl_i fz L xs a0, cl_i fz L xs a1, trivial⟩) ?_
  rintro v h' ⟨M', rfl, h1, h2, h3⟩
  cases v with
  | none => exact h3.elim
  | some v => obtain ⟨z, rfl, -, -⟩ := h3; exact ⟨z, M', rfl, rfl, h1, h2⟩
theorem cl_turn (fz : Bool) (L : Nat) (xs : Nat → Int32) {M : rf_M} (hin : sx_in (xk_W fz L xs) M) (a0 : Int32) : gx (cx0 fz) (2000, 80000) 84 0 (lv_args 0 [.ref 22, .int a0]) [] (M, (HK fz L xs).2) (fun r h' => ∃ (z : Int32) (M' : rf_M), r = some (.int z) ∧ h' = (M', (HK fz L xs).2) ∧ sx_in (xk_W fz L xs) M' ∧ sx_fr (xk_W fz L xs) xk_c_10.2.2.2.1 M M') := by
  refine gx_mono (cl_run fz L xs (c := xk_c_10) (by simp [xk_T]) hin (Nat.le_of_ble_eq_true rfl) ⟨cl_22 fz L xs, cl_i fz L xs a0, trivial⟩) ?_
  rintro v h' ⟨M', rfl, h1, h2, h3⟩
  cases v with
  | none => exact h3.elim
  | some v => obtain ⟨z, rfl, -, -⟩ := h3; exact ⟨z, M', rfl, rfl, h1, h2⟩
