/-! ALL CONTRACTS HOLD in the world behind the constructors -/
def xk_wb (h : rf_H) (a b : Nat) (w : List Nat) : Bool := decide (h.2.1 a = .inl 0) && (decide (h.2.1 b = .inr (.byte, w.length)) && (decide (h.1.2.2 a 0 = some b) && (decide (h.1.1 a 1 = 0) && (List.range w.length).all (fun t => decide (h.1.1 b t = Int32.ofNat (w.getD t 0)) && decide (w.getD t 0 < 128)))))
def xk_wl : List (Nat × Nat × List Nat) := [(2, 3, [105, 102]), (4, 5, [101, 108, 115, 101]), (6, 7, [119, 104, 105, 108, 101]), (8, 9, [114, 101, 116, 114, 121]), (10, 11, [116, 104, 114, 111, 119]), (12, 13, [101, 105, 116, 104, 101, 114]), (14, 15, [111, 114]), (16, 17, [116, 114, 121]), (18, 19, [99, 97, 116, 99, 104]), (20, 21, [97, 108, 119, 97, 121, 115])]
theorem K2_words (fz : Bool) : xk_wl.all (fun q => xk_wb (K2 fz) q.1 q.2.1 q.2.2) = true := by cases fz <;> decide +kernel
theorem pt_r (row : Nat → Int32) (sh : rf_S) (h : rf_H) (a k : Nat) : (pt_H row sh h).1.2.2 a k = h.1.2.2 a k := rfl
theorem HK_r (fz : Bool) (L : Nat) (xs : Nat → Int32) (a k : Nat) : (HK fz L xs).1.2.2 a k = (K2 fz).1.2.2 a k := by
  unfold HK
  generalize K2 fz = h
  exact pt_r xs (.inr (.int, L)) h a k
theorem xk_wbo (fz : Bool) (L : Nat) (xs : Nat → Int32) {a b : Nat} {w : List Nat} (ha : 1 < a ∧ a < 22) (hb : 1 < b ∧ b < 22) (hw : w.length ≤ 100) (h : xk_wb (K2 fz) a b w = true) : sc_w fz (HK fz L xs).2 (HK fz L xs).1 a b w := by
  unfold xk_wb at h
  simp only [Bool.and_eq_true, decide_eq_true_eq, List.all_eq_true, List.mem_range] at h
  obtain ⟨h1, h2, h3, h4, h5⟩ := h
  have eS : ∀ c, 1 < c → (HK fz L xs).2.1 c = (K2 fz).2.1 c := fun c hc => by
    show va_up (K2 fz).2.1 1 _ c = _
    unfold va_up
    rw [if_neg (by omega)]
  have eI : ∀ c k, 1 < c → (HK fz L xs).1.1 c k = (K2 fz).1.1 c k := fun c k hc => by
    show va_up (K2 fz).1.1 1 xs c k = _
    unfold va_up
    rw [if_neg (by omega)]
  have hn : (HK fz L xs).2.2.1 = 406 := HK_n fz L xs
  refine ⟨⟨⟨by omega, ha.2, by rw [hn]; omega, by rw [eS a ha.1]; exact h1⟩, ⟨by omega, by rw [hn]; omega, by rw [eS b hb.1]; exact h2⟩, (HK_r fz L xs a 0).trans h3, by rw [eI a 1 ha.1]; exact h4, hw, fun k hk => ?_⟩, fun t ht => by rw [eI b t hb.1]; exact (h5 t ht).1⟩
  exact ⟨w.getD k 0, (h5 k hk).2, by rw [eI b k hb.1]; exact (h5 k hk).1⟩
theorem xk_oldHK (fz : Bool) (L : Nat) (xs : Nat → Int32) : xk_old fz (HK fz L xs).2 (HK fz L xs).1 := by
  have h := List.all_eq_true.mp (K2_words fz)
  exact ⟨xk_wbo fz L xs (by decide) (by decide) (by decide) (h (2, 3, [105, 102]) (by decide)), xk_wbo fz L xs (by decide) (by decide) (by decide) (h (4, 5, [101, 108, 115, 101]) (by decide)), xk_wbo fz L xs (by decide) (by decide) (by decide) (h (6, 7, [119, 104, 105, 108, 101]) (by decide)), xk_wbo fz L xs (by decide) (by decide) (by decide) (h (8, 9, [114, 101, 116, 114, 121]) (by decide)), xk_wbo fz L xs (by decide) (by decide) (by decide) (h (10, 11, [116, 104, 114, 111, 119]) (by decide)), xk_wbo fz L xs (by decide) (by decide) (by decide) (h (12, 13, [101, 105, 116, 104, 101, 114]) (by decide)), xk_wbo fz L xs (by decide) (by decide) (by decide) (h (14, 15, [111, 114]) (by decide)), xk_wbo fz L xs (by decide) (by decide) (by decide) (h (16, 17, [116, 114, 121]) (by decide)), xk_wbo fz L xs (by decide) (by decide) (by decide) (h (18, 19, [99, 97, 116, 99, 104]) (by decide)), xk_wbo fz L xs (by decide) (by decide) (by decide) (h (20, 21, [97, 108, 119, 97, 121, 115]) (by decide))⟩
theorem xk_all (fz : Bool) (L : Nat) (xs : Nat → Int32) : ∀ c ∈ xk_T.2.1, ∀ args, sx_cok xk_T (xk_W fz L xs) c args := by
  refine sx_main (fun c hc args => ?_) (xk_Wck fz L xs)
  have hc : c ∈ [xk_c_0] := hc
  have e : c = xk_c_0 := by simpa using hc
  subst e
  exact xk_scan_ok (hp := (xk_W fz L xs).2.1) (hs := (xk_W fz L xs).2.2) (HK_n fz L xs) (xk_oldHK fz L xs) args
