/-! THE PROGRAM'S HALF of a pair (printed by wip/tools/quiet.py) -/
/-- what holds of the program between two calls: regions, references; the tape has n bytes, there are c texts -/
def cJ (fz : Bool) (L : Nat) (xs : Nat → Int32) (M : rf_M) (n c : Nat) : Prop := sx_in (xk_W fz L xs) M ∧ cl_ref M ∧ (M.1 22 1 = nI n ∧ n ≤ 800) ∧ (M.1 22 3 = nI c ∧ c ≤ 12)
def md_far (md : List (Nat × Nat)) : Bool := md.all (fun q => decide (q.1 < 100))
theorem rg_far {a : Nat} (h : 353 ≤ a) : xk_rg a = 999 := by
  unfold xk_rg
  by_cases h2 : a < 406
  · have e : (List.range 53).all (fun k => decide (xk_rgL.getD (k + 331) 999 = 999)) = true := by decide +kernel
    have e2 := List.all_eq_true.mp e (a - 353) (List.mem_range.mpr (by omega))
    simp only [decide_eq_true_eq] at e2
    rw [show a - 353 + 331 = a - 22 by omega] at e2
    exact e2
  · have hl : xk_rgL.length = 384 := by decide +kernel
    rw [List.getD_eq_getElem?_getD, List.getElem?_eq_none (by omega)]
    rfl
theorem cl_far (fz : Bool) (L : Nat) (xs : Nat → Int32) {M M' : rf_M} {md : List (Nat × Nat)} (hm : md_far md = true) (hf : sx_fr (xk_W fz L xs) md M M') {a : Nat} (ha : 353 ≤ a) (k : Nat) : sx_same M M' a k := by
  refine hf a k (Or.inr ?_)
  show (xk_rg a, 0) ∉ md ∧ (xk_rg a, k + 1) ∉ md
  rw [rg_far ha]
  constructor
  · intro h
    have := List.all_eq_true.mp hm _ h
    simp at this
  · intro h
    have := List.all_eq_true.mp hm _ h
    simp at this
def md_pro (md : List (Nat × Nat)) : Bool := md.all (fun q => !(q.1 == 4))
theorem cl_pro (fz : Bool) (L : Nat) (xs : Nat → Int32) {M M' : rf_M} {md : List (Nat × Nat)} (hm : md_pro md = true) (hf : sx_fr (xk_W fz L xs) md M M') {i : Nat} (hi : i < 12) (k : Nat) : M'.1 (25 + 12 * i) k = M.1 (25 + 12 * i) k := by
  refine (hf _ k (Or.inr ?_)).1
  show (xk_rg (25 + 12 * i), 0) ∉ md ∧ (xk_rg (25 + 12 * i), k + 1) ∉ md
  rw [rg_p i hi]
  constructor
  · intro h
    have := List.all_eq_true.mp hm _ h
    simp at this
  · intro h
    have := List.all_eq_true.mp hm _ h
    simp at this
theorem HK_row (fz : Bool) (L : Nat) (xs : Nat → Int32) (k : Nat) : (HK fz L xs).1.1 1 k = xs k := by
  show va_up (K2 fz).1.1 1 xs 1 k = _
  rw [va_up_self]
theorem cJ.row {fz : Bool} {L : Nat} {xs : Nat → Int32} {M : rf_M} {n c : Nat} (h : cJ fz L xs M n c) (k : Nat) : M.1 1 k = xs k := ((h.1.2 1 k (by show 1 < 22; omega)).1).trans (HK_row fz L xs k)
theorem cJ.keep {fz : Bool} {L : Nat} {xs : Nat → Int32} {M M' : rf_M} {n c : Nat} {md : List (Nat × Nat)} (h : cJ fz L xs M n c) (hm : md_ok md = true) (hin : sx_in (xk_W fz L xs) M') (hf : sx_fr (xk_W fz L xs) md M M') : cJ fz L xs M' n c ∧ ∀ k, M'.1 23 k = M.1 23 k := by
  obtain ⟨k1, k2, k3, -, k5⟩ := cl_keep (hp := (xk_W fz L xs).2.1) (hs := (xk_W fz L xs).2.2) hm hf
  exact ⟨⟨hin, k5 h.2.1, ⟨k1.trans h.2.2.1.1, h.2.2.1.2⟩, ⟨k2.trans h.2.2.2.1, h.2.2.2.2⟩⟩, k3⟩
theorem cq_place (fz : Bool) (L : Nat) (xs : Nat → Int32) {M : rf_M} {n c : Nat} (h : cJ fz L xs M n c) : gx (cx0 fz) (2000, 80000) 56 0 (lv_args 0 [.ref 22]) [] (M, (HK fz L xs).2) (fun r h' => ∃ (z : Int32) (M' : rf_M), r = some (.int z) ∧ h' = (M', (HK fz L xs).2) ∧ cJ fz L xs M' n c ∧ (∀ k, M'.1 23 k = M.1 23 k) ∧ (∀ i k, i < 12 → M'.1 (25 + 12 * i) k = M.1 (25 + 12 * i) k) ∧ ∀ a k, 353 ≤ a → sx_same M M' a k) := by
  refine gx_mono (cl_place fz L xs h.1) ?_
  rintro r h' ⟨z, M', rfl, rfl, h1, h2⟩
  obtain ⟨k1, k2⟩ := h.keep (md := xk_c_4.2.2.2.1) (by decide) h1 h2
  exact ⟨z, M', rfl, rfl, k1, k2, fun i k hi => cl_pro fz L xs (md := xk_c_4.2.2.2.1) (by decide) h2 hi k, fun a k ha => cl_far fz L xs (md := xk_c_4.2.2.2.1) (by decide) h2 ha k⟩
theorem cq_told (fz : Bool) (L : Nat) (xs : Nat → Int32) {M : rf_M} {n c : Nat} (h : cJ fz L xs M n c) (a0 : Int32) (a1 : Int32) : gx (cx0 fz) (2000, 80000) 57 0 (lv_args 0 [.ref 22, .int a0, .int a1]) [] (M, (HK fz L xs).2) (fun r h' => ∃ (z : Int32) (M' : rf_M), r = some (.int z) ∧ h' = (M', (HK fz L xs).2) ∧ cJ fz L xs M' n c ∧ (∀ k, M'.1 23 k = M.1 23 k) ∧ (∀ i k, i < 12 → M'.1 (25 + 12 * i) k = M.1 (25 + 12 * i) k) ∧ ∀ a k, 353 ≤ a → sx_same M M' a k) := by
  refine gx_mono (cl_told fz L xs h.1 a0 a1) ?_
  rintro r h' ⟨z, M', rfl, rfl, h1, h2⟩
  obtain ⟨k1, k2⟩ := h.keep (md := xk_c_5.2.2.2.1) (by decide) h1 h2
  exact ⟨z, M', rfl, rfl, k1, k2, fun i k hi => cl_pro fz L xs (md := xk_c_5.2.2.2.1) (by decide) h2 hi k, fun a k ha => cl_far fz L xs (md := xk_c_5.2.2.2.1) (by decide) h2 ha k⟩
theorem cq_put (fz : Bool) (L : Nat) (xs : Nat → Int32) {M : rf_M} {n c : Nat} (h : cJ fz L xs M n c) (a0 : Int32) (a1 : Int64) : gx (cx0 fz) (2000, 80000) 59 0 (lv_args 0 [.ref 22, .int a0, .long a1]) [] (M, (HK fz L xs).2) (fun r h' => ∃ (z : Int32) (M' : rf_M), r = some (.int z) ∧ h' = (M', (HK fz L xs).2) ∧ cJ fz L xs M' n c ∧ (∀ k, M'.1 23 k = M.1 23 k) ∧ (∀ i k, i < 12 → M'.1 (25 + 12 * i) k = M.1 (25 + 12 * i) k) ∧ ∀ a k, 353 ≤ a → sx_same M M' a k) := by
  refine gx_mono (cl_put fz L xs h.1 a0 a1) ?_
  rintro r h' ⟨z, M', rfl, rfl, h1, h2⟩
  obtain ⟨k1, k2⟩ := h.keep (md := xk_c_6.2.2.2.1) (by decide) h1 h2
  exact ⟨z, M', rfl, rfl, k1, k2, fun i k hi => cl_pro fz L xs (md := xk_c_6.2.2.2.1) (by decide) h2 hi k, fun a k ha => cl_far fz L xs (md := xk_c_6.2.2.2.1) (by decide) h2 ha k⟩
theorem cq_cell (fz : Bool) (L : Nat) (xs : Nat → Int32) {M : rf_M} {n c : Nat} (h : cJ fz L xs M n c) (a0 : Int32) : gx (cx0 fz) (2000, 80000) 79 0 (lv_args 0 [.ref 22, .int a0]) [] (M, (HK fz L xs).2) (fun r h' => ∃ (z : Int64) (M' : rf_M), r = some (.long z) ∧ h' = (M', (HK fz L xs).2) ∧ cJ fz L xs M' n c ∧ (∀ k, M'.1 23 k = M.1 23 k) ∧ (∀ i k, i < 12 → M'.1 (25 + 12 * i) k = M.1 (25 + 12 * i) k) ∧ ∀ a k, 353 ≤ a → sx_same M M' a k) := by
  refine gx_mono (cl_cell fz L xs h.1 a0) ?_
  rintro r h' ⟨z, M', rfl, rfl, h1, h2⟩
  obtain ⟨k1, k2⟩ := h.keep (md := xk_c_7.2.2.2.1) (by decide) h1 h2
  exact ⟨z, M', rfl, rfl, k1, k2, fun i k hi => cl_pro fz L xs (md := xk_c_7.2.2.2.1) (by decide) h2 hi k, fun a k ha => cl_far fz L xs (md := xk_c_7.2.2.2.1) (by decide) h2 ha k⟩
theorem cq_version (fz : Bool) (L : Nat) (xs : Nat → Int32) {M : rf_M} {n c : Nat} (h : cJ fz L xs M n c) (a0 : Int32) : gx (cx0 fz) (2000, 80000) 80 0 (lv_args 0 [.ref 22, .int a0]) [] (M, (HK fz L xs).2) (fun r h' => ∃ (z : Int32) (M' : rf_M), r = some (.int z) ∧ h' = (M', (HK fz L xs).2) ∧ cJ fz L xs M' n c ∧ (∀ k, M'.1 23 k = M.1 23 k) ∧ (∀ i k, i < 12 → M'.1 (25 + 12 * i) k = M.1 (25 + 12 * i) k) ∧ ∀ a k, 353 ≤ a → sx_same M M' a k) := by
  refine gx_mono (cl_version fz L xs h.1 a0) ?_
  rintro r h' ⟨z, M', rfl, rfl, h1, h2⟩
  obtain ⟨k1, k2⟩ := h.keep (md := xk_c_8.2.2.2.1) (by decide) h1 h2
  exact ⟨z, M', rfl, rfl, k1, k2, fun i k hi => cl_pro fz L xs (md := xk_c_8.2.2.2.1) (by decide) h2 hi k, fun a k ha => cl_far fz L xs (md := xk_c_8.2.2.2.1) (by decide) h2 ha k⟩
theorem cq_add (fz : Bool) (L : Nat) (xs : Nat → Int32) {M : rf_M} {n c : Nat} (h : cJ fz L xs M n c) (a0 : Int32) (a1 : Int32) : gx (cx0 fz) (2000, 80000) 81 0 (lv_args 0 [.ref 22, .int a0, .int a1]) [] (M, (HK fz L xs).2) (fun r h' => ∃ (z : Int32) (M' : rf_M), r = some (.int z) ∧ h' = (M', (HK fz L xs).2) ∧ cJ fz L xs M' n c ∧ (∀ k, M'.1 23 k = M.1 23 k) ∧ (∀ i k, i < 12 → M'.1 (25 + 12 * i) k = M.1 (25 + 12 * i) k) ∧ ∀ a k, 353 ≤ a → sx_same M M' a k) := by
  refine gx_mono (cl_add fz L xs h.1 a0 a1) ?_
  rintro r h' ⟨z, M', rfl, rfl, h1, h2⟩
  obtain ⟨k1, k2⟩ := h.keep (md := xk_c_9.2.2.2.1) (by decide) h1 h2
  exact ⟨z, M', rfl, rfl, k1, k2, fun i k hi => cl_pro fz L xs (md := xk_c_9.2.2.2.1) (by decide) h2 hi k, fun a k ha => cl_far fz L xs (md := xk_c_9.2.2.2.1) (by decide) h2 ha k⟩
theorem cq_turn (fz : Bool) (L : Nat) (xs : Nat → Int32) {M : rf_M} {n c : Nat} (h : cJ fz L xs M n c) (a0 : Int32) : gx (cx0 fz) (2000, 80000) 84 0 (lv_args 0 [.ref 22, .int a0]) [] (M, (HK fz L xs).2) (fun r h' => ∃ (z : Int32) (M' : rf_M), r = some (.int z) ∧ h' = (M', (HK fz L xs).2) ∧ cJ fz L xs M' n c ∧ (∀ k, M'.1 23 k = M.1 23 k) ∧ (∀ i k, i < 12 → M'.1 (25 + 12 * i) k = M.1 (25 + 12 * i) k) ∧ ∀ a k, 353 ≤ a → sx_same M M' a k) := by
  refine gx_mono (cl_turn fz L xs h.1 a0) ?_
  rintro r h' ⟨z, M', rfl, rfl, h1, h2⟩
  obtain ⟨k1, k2⟩ := h.keep (md := xk_c_10.2.2.2.1) (by decide) h1 h2
  exact ⟨z, M', rfl, rfl, k1, k2, fun i k hi => cl_pro fz L xs (md := xk_c_10.2.2.2.1) (by decide) h2 hi k, fun a k ha => cl_far fz L xs (md := xk_c_10.2.2.2.1) (by decide) h2 ha k⟩
theorem cq_play (fz : Bool) (L : Nat) (xs : Nat → Int32) {M : rf_M} {n c : Nat} (h : cJ fz L xs M n c) (a0 : Int64) (a1 : Int32) : gx (cx0 fz) (2000, 80000) 108 0 (lv_args 0 [.ref 22, .long a0, .int a1]) [] (M, (HK fz L xs).2) (fun r h' => ∃ (z : Int32) (M' : rf_M), r = some (.int z) ∧ h' = (M', (HK fz L xs).2) ∧ cJ fz L xs M' n c ∧ (∀ k, M'.1 23 k = M.1 23 k) ∧ (∀ i k, i < 12 → M'.1 (25 + 12 * i) k = M.1 (25 + 12 * i) k) ∧ ∀ a k, 353 ≤ a → sx_same M M' a k) := by
  refine gx_mono (cl_play fz L xs h.1 a0 a1) ?_
  rintro r h' ⟨z, M', rfl, rfl, h1, h2⟩
  obtain ⟨k1, k2⟩ := h.keep (md := xk_c_11.2.2.2.1) (by decide) h1 h2
  exact ⟨z, M', rfl, rfl, k1, k2, fun i k hi => cl_pro fz L xs (md := xk_c_11.2.2.2.1) (by decide) h2 hi k, fun a k ha => cl_far fz L xs (md := xk_c_11.2.2.2.1) (by decide) h2 ha k⟩
theorem cq_client (fz : Bool) (L : Nat) (xs : Nat → Int32) {M : rf_M} {n c : Nat} (h : cJ fz L xs M n c) (a0 : Int32) (a1 : Int32) : gx (cx0 fz) (2000, 80000) 109 0 (lv_args 0 [.ref 22, .int a0, .int a1]) [] (M, (HK fz L xs).2) (fun r h' => ∃ (z : Int32) (M' : rf_M), r = some (.int z) ∧ h' = (M', (HK fz L xs).2) ∧ cJ fz L xs M' n c ∧ (∀ k, M'.1 23 k = M.1 23 k) ∧ (∀ i k, i < 12 → M'.1 (25 + 12 * i) k = M.1 (25 + 12 * i) k) ∧ ∀ a k, 353 ≤ a → sx_same M M' a k) := by
  refine gx_mono (cl_client fz L xs h.1 a0 a1) ?_
  rintro r h' ⟨z, M', rfl, rfl, h1, h2⟩
  obtain ⟨k1, k2⟩ := h.keep (md := xk_c_12.2.2.2.1) (by decide) h1 h2
  exact ⟨z, M', rfl, rfl, k1, k2, fun i k hi => cl_pro fz L xs (md := xk_c_12.2.2.2.1) (by decide) h2 hi k, fun a k ha => cl_far fz L xs (md := xk_c_12.2.2.2.1) (by decide) h2 ha k⟩
theorem cq_sees (fz : Bool) (L : Nat) (xs : Nat → Int32) {M : rf_M} {n c : Nat} (h : cJ fz L xs M n c) (a0 : Int32) (a1 : Int32) : gx (cx0 fz) (2000, 80000) 111 0 (lv_args 0 [.ref 22, .int a0, .int a1]) [] (M, (HK fz L xs).2) (fun r h' => ∃ (z : Int64) (M' : rf_M), r = some (.long z) ∧ h' = (M', (HK fz L xs).2) ∧ cJ fz L xs M' n c ∧ (∀ k, M'.1 23 k = M.1 23 k) ∧ (∀ i k, i < 12 → M'.1 (25 + 12 * i) k = M.1 (25 + 12 * i) k) ∧ ∀ a k, 353 ≤ a → sx_same M M' a k) := by
  refine gx_mono (cl_sees fz L xs h.1 a0 a1) ?_
  rintro r h' ⟨z, M', rfl, rfl, h1, h2⟩
  obtain ⟨k1, k2⟩ := h.keep (md := xk_c_13.2.2.2.1) (by decide) h1 h2
  exact ⟨z, M', rfl, rfl, k1, k2, fun i k hi => cl_pro fz L xs (md := xk_c_13.2.2.2.1) (by decide) h2 hi k, fun a k ha => cl_far fz L xs (md := xk_c_13.2.2.2.1) (by decide) h2 ha k⟩
theorem cq_rules (fz : Bool) (L : Nat) (xs : Nat → Int32) {M : rf_M} {n c : Nat} (h : cJ fz L xs M n c) : gx (cx0 fz) (2000, 80000) 112 0 (lv_args 0 [.ref 22]) [] (M, (HK fz L xs).2) (fun r h' => ∃ (z : Int32) (M' : rf_M), r = some (.int z) ∧ h' = (M', (HK fz L xs).2) ∧ cJ fz L xs M' n c ∧ (∀ k, M'.1 23 k = M.1 23 k) ∧ (∀ i k, i < 12 → M'.1 (25 + 12 * i) k = M.1 (25 + 12 * i) k) ∧ ∀ a k, 353 ≤ a → sx_same M M' a k) := by
  refine gx_mono (cl_rules fz L xs h.1) ?_
  rintro r h' ⟨z, M', rfl, rfl, h1, h2⟩
  obtain ⟨k1, k2⟩ := h.keep (md := xk_c_14.2.2.2.1) (by decide) h1 h2
  exact ⟨z, M', rfl, rfl, k1, k2, fun i k hi => cl_pro fz L xs (md := xk_c_14.2.2.2.1) (by decide) h2 hi k, fun a k ha => cl_far fz L xs (md := xk_c_14.2.2.2.1) (by decide) h2 ha k⟩
theorem cq_rows (fz : Bool) (L : Nat) (xs : Nat → Int32) {M : rf_M} {n c : Nat} (h : cJ fz L xs M n c) : gx (cx0 fz) (2000, 80000) 113 0 (lv_args 0 [.ref 22]) [] (M, (HK fz L xs).2) (fun r h' => ∃ (z : Int32) (M' : rf_M), r = some (.int z) ∧ h' = (M', (HK fz L xs).2) ∧ cJ fz L xs M' n c ∧ (∀ k, M'.1 23 k = M.1 23 k) ∧ (∀ i k, i < 12 → M'.1 (25 + 12 * i) k = M.1 (25 + 12 * i) k) ∧ ∀ a k, 353 ≤ a → sx_same M M' a k) := by
  refine gx_mono (cl_rows fz L xs h.1) ?_
  rintro r h' ⟨z, M', rfl, rfl, h1, h2⟩
  obtain ⟨k1, k2⟩ := h.keep (md := xk_c_15.2.2.2.1) (by decide) h1 h2
  exact ⟨z, M', rfl, rfl, k1, k2, fun i k hi => cl_pro fz L xs (md := xk_c_15.2.2.2.1) (by decide) h2 hi k, fun a k ha => cl_far fz L xs (md := xk_c_15.2.2.2.1) (by decide) h2 ha k⟩
theorem cq_row (fz : Bool) (L : Nat) (xs : Nat → Int32) {M : rf_M} {n c : Nat} (h : cJ fz L xs M n c) (a0 : Int32) (a1 : Int32) : gx (cx0 fz) (2000, 80000) 114 0 (lv_args 0 [.ref 22, .int a0, .int a1]) [] (M, (HK fz L xs).2) (fun r h' => ∃ (z : Int32) (M' : rf_M), r = some (.int z) ∧ h' = (M', (HK fz L xs).2) ∧ cJ fz L xs M' n c ∧ (∀ k, M'.1 23 k = M.1 23 k) ∧ (∀ i k, i < 12 → M'.1 (25 + 12 * i) k = M.1 (25 + 12 * i) k) ∧ ∀ a k, 353 ≤ a → sx_same M M' a k) := by
  refine gx_mono (cl_row fz L xs h.1 a0 a1) ?_
  rintro r h' ⟨z, M', rfl, rfl, h1, h2⟩
  obtain ⟨k1, k2⟩ := h.keep (md := xk_c_16.2.2.2.1) (by decide) h1 h2
  exact ⟨z, M', rfl, rfl, k1, k2, fun i k hi => cl_pro fz L xs (md := xk_c_16.2.2.2.1) (by decide) h2 hi k, fun a k ha => cl_far fz L xs (md := xk_c_16.2.2.2.1) (by decide) h2 ha k⟩
theorem cq_value (fz : Bool) (L : Nat) (xs : Nat → Int32) {M : rf_M} {n c : Nat} (h : cJ fz L xs M n c) (a0 : Int32) : gx (cx0 fz) (2000, 80000) 117 0 (lv_args 0 [.ref 22, .int a0]) [] (M, (HK fz L xs).2) (fun r h' => ∃ (z : Int64) (M' : rf_M), r = some (.long z) ∧ h' = (M', (HK fz L xs).2) ∧ cJ fz L xs M' n c ∧ (∀ k, M'.1 23 k = M.1 23 k) ∧ (∀ i k, i < 12 → M'.1 (25 + 12 * i) k = M.1 (25 + 12 * i) k) ∧ ∀ a k, 353 ≤ a → sx_same M M' a k) := by
  refine gx_mono (cl_value fz L xs h.1 a0) ?_
  rintro r h' ⟨z, M', rfl, rfl, h1, h2⟩
  obtain ⟨k1, k2⟩ := h.keep (md := xk_c_17.2.2.2.1) (by decide) h1 h2
  exact ⟨z, M', rfl, rfl, k1, k2, fun i k hi => cl_pro fz L xs (md := xk_c_17.2.2.2.1) (by decide) h2 hi k, fun a k ha => cl_far fz L xs (md := xk_c_17.2.2.2.1) (by decide) h2 ha k⟩
theorem cq_replays (fz : Bool) (L : Nat) (xs : Nat → Int32) {M : rf_M} {n c : Nat} (h : cJ fz L xs M n c) : gx (cx0 fz) (2000, 80000) 118 0 (lv_args 0 [.ref 22]) [] (M, (HK fz L xs).2) (fun r h' => ∃ (z : Int32) (M' : rf_M), r = some (.int z) ∧ h' = (M', (HK fz L xs).2) ∧ cJ fz L xs M' n c ∧ (∀ k, M'.1 23 k = M.1 23 k) ∧ (∀ i k, i < 12 → M'.1 (25 + 12 * i) k = M.1 (25 + 12 * i) k) ∧ ∀ a k, 353 ≤ a → sx_same M M' a k) := by
  refine gx_mono (cl_replays fz L xs h.1) ?_
  rintro r h' ⟨z, M', rfl, rfl, h1, h2⟩
  obtain ⟨k1, k2⟩ := h.keep (md := xk_c_18.2.2.2.1) (by decide) h1 h2
  exact ⟨z, M', rfl, rfl, k1, k2, fun i k hi => cl_pro fz L xs (md := xk_c_18.2.2.2.1) (by decide) h2 hi k, fun a k ha => cl_far fz L xs (md := xk_c_18.2.2.2.1) (by decide) h2 ha k⟩
theorem cq_clear (fz : Bool) (L : Nat) (xs : Nat → Int32) {M : rf_M} {n c : Nat} (h : cJ fz L xs M n c) : gx (cx0 fz) (2000, 80000) 122 0 (lv_args 0 [.ref 22]) [] (M, (HK fz L xs).2) (fun r h' => ∃ (z : Int32) (M' : rf_M), r = some (.int z) ∧ h' = (M', (HK fz L xs).2) ∧ cJ fz L xs M' n c ∧ (∀ k, M'.1 23 k = M.1 23 k) ∧ (∀ i k, i < 12 → M'.1 (25 + 12 * i) k = M.1 (25 + 12 * i) k) ∧ ∀ a k, 353 ≤ a → sx_same M M' a k) := by
  refine gx_mono (cl_clear fz L xs h.1) ?_
  rintro r h' ⟨z, M', rfl, rfl, h1, h2⟩
  obtain ⟨k1, k2⟩ := h.keep (md := xk_c_19.2.2.2.1) (by decide) h1 h2
  exact ⟨z, M', rfl, rfl, k1, k2, fun i k hi => cl_pro fz L xs (md := xk_c_19.2.2.2.1) (by decide) h2 hi k, fun a k ha => cl_far fz L xs (md := xk_c_19.2.2.2.1) (by decide) h2 ha k⟩
