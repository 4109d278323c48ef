theorem sp_end_all {p : Int32 → Bool} {b : Nat → Int32} {n : Nat} : ∀ (f i t : Nat), i ≤ t → t < sp_end p b n f i → p (b t) = true
  | 0, i, t, h1, h2 => by
    have h2 : t < i := h2
    omega
  | f + 1, i, t, h1, h2 => by
    have h2 : t < (if i < n ∧ p (b i) = true then sp_end p b n f (i + 1) else i) := h2
    split at h2
    · rename_i hc
      by_cases e : t = i
      · rw [e]; exact hc.2
      · exact sp_end_all f (i + 1) t (by omega) h2
    · omega
theorem sp_word_b (b : Nat → Int32) (i j : Nat) : 0 ≤ (sp_word b i j).toInt ∧ (sp_word b i j).toInt ≤ 125 := by
  unfold sp_word
  repeat' split
  all_goals exact ⟨by decide, by decide⟩
theorem sp_val_b {b : Nat → Int32} {i : Nat} : ∀ (k : Nat), k ≤ 9 → (∀ t, t < k → sp_d (b (i + t)) = true) → 0 ≤ (sp_val b i k).toInt ∧ (sp_val b i k).toInt < (10 : Int) ^ k
  | 0, _, _ => ⟨by show (0 : Int) ≤ (0 : Int32).toInt; decide, by show (0 : Int32).toInt < (10 : Int) ^ 0; decide⟩
  | k + 1, h, hd => by
    obtain ⟨h1, h2⟩ := sp_val_b (b := b) (i := i) k (by omega) (fun t ht => hd t (by omega))
    have hk := hd k (by omega)
    unfold sp_d at hk
    simp only [Bool.and_eq_true, decide_eq_true_eq] at hk
    have hp : (10 : Int) ^ k ≤ 100000000 := by
      have hk9 : k = 0 ∨ k = 1 ∨ k = 2 ∨ k = 3 ∨ k = 4 ∨ k = 5 ∨ k = 6 ∨ k = 7 ∨ k = 8 := by omega
      rcases hk9 with rfl | rfl | rfl | rfl | rfl | rfl | rfl | rfl | rfl <;> decide
    show 0 ≤ (sp_val b i k * 10 + (b (i + k) - 48)).toInt ∧ (sp_val b i k * 10 + (b (i + k) - 48)).toInt < (10 : Int) ^ (k + 1)
    have e10 : (10 : Int32).toInt = 10 := by decide
    have e48 : (48 : Int32).toInt = 48 := by decide
    have m1 : (sp_val b i k * 10).toInt = (sp_val b i k).toInt * 10 := by
      rw [Int32.toInt_mul, e10]
      exact Int.bmod_eq_of_le (by omega) (by omega)
    have m2 : (b (i + k) - 48).toInt = (b (i + k)).toInt - 48 := by
      rw [Int32.toInt_sub, e48]
      exact Int.bmod_eq_of_le (by omega) (by omega)
    have m3 : (sp_val b i k * 10 + (b (i + k) - 48)).toInt = (sp_val b i k).toInt * 10 + ((b (i + k)).toInt - 48) := by
      rw [Int32.toInt_add, m1, m2]
      exact Int.bmod_eq_of_le (by omega) (by omega)
    rw [m3, Int.pow_succ]
    omega
theorem sp_tok_b {b : Nat → Int32} {n i : Nat} (h : i < n) : 0 ≤ (sp_tok b n i).1.toInt ∧ (sp_tok b n i).1.toInt ≤ 125 ∧ 0 ≤ (sp_tok b n i).2.1.toInt ∧ (sp_tok b n i).2.1.toInt ≤ 999999999 := by
  unfold sp_tok
  by_cases h1 : sp_l (b i) = true
  · rw [if_pos h1]
    split
    · unfold sp_l at h1
      simp only [Bool.and_eq_true, decide_eq_true_eq] at h1
      have m2 : (b i - 97).toInt = (b i).toInt - 97 := by
        rw [Int32.toInt_sub, show (97 : Int32).toInt = 97 by decide]
        exact Int.bmod_eq_of_le (by omega) (by omega)
      dsimp only
      rw [m2, show (1 : Int32).toInt = 1 by decide]
      omega
    · dsimp only
      have := sp_word_b b i (sp_e sp_l b n i)
      rw [Int32.toInt_zero]
      omega
  · rw [if_neg h1]
    by_cases h2 : sp_d (b i) = true
    · rw [if_pos h2]
      dsimp only
      have hv := sp_val_b (b := b) (i := i) (min (sp_e sp_d b n i - i) 9) (by omega) (fun t ht => sp_end_all (n - i) i (i + t) (by omega) (by
        have : i + t < sp_e sp_d b n i := by omega
        exact this))
      have hp : (10 : Int) ^ (min (sp_e sp_d b n i - i) 9) ≤ 1000000000 := by
        generalize hk : min (sp_e sp_d b n i - i) 9 = k
        have hk9 : k = 0 ∨ k = 1 ∨ k = 2 ∨ k = 3 ∨ k = 4 ∨ k = 5 ∨ k = 6 ∨ k = 7 ∨ k = 8 ∨ k = 9 := by omega
        rcases hk9 with rfl | rfl | rfl | rfl | rfl | rfl | rfl | rfl | rfl | rfl <;> decide
      refine ⟨?_, ?_, by omega, by omega⟩
      · split <;> decide
      · split <;> decide
    · rw [if_neg h2]
      dsimp only
      refine ⟨?_, ?_, by decide, by decide⟩
      · split
        · rename_i h3
          have := List.elem_iff.mp h3
          simp only [List.mem_cons, List.not_mem_nil, or_false] at this
          omega
        · decide
      · split
        · rename_i h3
          have := List.elem_iff.mp h3
          simp only [List.mem_cons, List.not_mem_nil, or_false] at this
          omega
        · decide
theorem sp_scan_b {b : Nat → Int32} {n : Nat} : ∀ (f i : Nat) (e : Int32 × Nat × Int32), e ∈ sp_scan b n f i → (0 ≤ e.1.toInt ∧ e.1.toInt ≤ 125) ∧ e.2.1 < n ∧ (0 ≤ e.2.2.toInt ∧ e.2.2.toInt ≤ 999999999)
  | 0, _, _, h => by cases h
  | f + 1, i, e, h => by
    have h : e ∈ (if i < n then (if sp_bl (b i) = true then sp_scan b n f (i + 1) else ((sp_tok b n i).1, i, (sp_tok b n i).2.1) :: sp_scan b n f (sp_tok b n i).2.2) else []) := h
    split at h
    · rename_i hi
      split at h
      · exact sp_scan_b f (i + 1) e h
      · rcases List.mem_cons.mp h with rfl | h
        · obtain ⟨t1, t2, t3, t4⟩ := sp_tok_b (b := b) hi
          exact ⟨⟨t1, t2⟩, hi, t3, t4⟩
        · exact sp_scan_b f _ e h
    · cases h
/-! THE SCANNER'S CONTRACT, as the checker wants it -/
def rg_is (g a : Nat) : Bool := (List.range 384).all (fun k => !(xk_rg (k + 22) == g) || decide (k + 22 = a))
theorem rg_iso {g a b : Nat} (h : rg_is g a = true) (h1 : 22 ≤ b) (h2 : b < 406) (h3 : xk_rg b = g) : b = a := by
  have h := List.all_eq_true.mp h (b - 22) (List.mem_range.mpr (by omega))
  rw [show b - 22 + 22 = b by omega, h3] at h
  simpa using h
theorem rg_17 : rg_is 17 170 = true := by decide +kernel
theorem rg_18 : rg_is 18 171 = true := by decide +kernel
theorem rg_19 : rg_is 19 172 = true := by decide +kernel
theorem rg_20 : rg_is 20 173 = true := by decide +kernel
theorem rg_1 : rg_is 1 23 = true := by decide +kernel
/-- the words lie in the memory of old -/
def xk_old (fz : Bool) (S : gS) (m0 : rf_M) : Prop := sc_w fz S m0 2 3 [105, 102] ∧ sc_w fz S m0 4 5 [101, 108, 115, 101] ∧ sc_w fz S m0 6 7 [119, 104, 105, 108, 101] ∧ sc_w fz S m0 8 9 [114, 101, 116, 114, 121] ∧ sc_w fz S m0 10 11 [116, 104, 114, 111, 119] ∧ sc_w fz S m0 12 13 [101, 105, 116, 104, 101, 114] ∧ sc_w fz S m0 14 15 [111, 114] ∧ sc_w fz S m0 16 17 [116, 114, 121] ∧ sc_w fz S m0 18 19 [99, 97, 116, 99, 104] ∧ sc_w fz S m0 20 21 [97, 108, 119, 97, 121, 115]
section EXT
variable {fz : Bool} {S : gS} {m0 : rf_M} {hp : 0 < (cx0 fz).2.2.2.2} {hs : ∀ a, (cx0 fz).2.2.2.2 ≤ a → a < S.2.1 → sx_sh xk_G (xk_rg a) (S.1 a)} {M : rf_M}
theorem xk_go {a ci g : Nat} {fs : List sxF} (hs : ∀ a, (cx0 fz).2.2.2.2 ≤ a → a < S.2.1 → sx_sh xk_G (xk_rg a) (S.1 a)) (h1 : 22 ≤ a) (h2 : a < S.2.1) (hg : xk_rg a = g) (hG : xk_G[g]? = some (.inl (ci, fs))) : go (cx0 fz) S a ci := by
  have h := hs a h1 h2
  unfold sx_sh at h
  rw [hg, hG] at h
  exact ⟨h1, by omega, h2, h⟩
theorem xk_ga {a len g : Nat} {ty : FieldType} {e : sxF} (hs : ∀ a, (cx0 fz).2.2.2.2 ≤ a → a < S.2.1 → sx_sh xk_G (xk_rg a) (S.1 a)) (h1 : 22 ≤ a) (h2 : a < S.2.1) (hg : xk_rg a = g) (hG : xk_G[g]? = some (.inr (ty, len, e))) : ga (cx0 fz) S a ty len := by
  have h := hs a h1 h2
  unfold sx_sh at h
  rw [hg, hG] at h
  exact ⟨h1, by omega, h2, h⟩
theorem xk_scS (hn : S.2.1 = 406) (hs : ∀ a, (cx0 fz).2.2.2.2 ≤ a → a < S.2.1 → sx_sh xk_G (xk_rg a) (S.1 a)) : sc_S fz S :=
  ⟨xk_go hs (by omega) (by omega) (g := 17) rfl rfl, xk_ga hs (by omega) (by omega) (g := 18) rfl rfl, xk_ga hs (by omega) (by omega) (g := 19) rfl rfl, xk_ga hs (by omega) (by omega) (g := 20) rfl rfl, xk_ga hs (by omega) (by omega) (g := 1) rfl rfl⟩
/-- a reference of a region of one cell -/
theorem xk_ref {a k g c : Nat} (hn : S.2.1 = 406) (hin : sx_in ⟨(cx0 fz, xk_G, xk_rg, S, m0), hp, hs⟩ M) (h1 : 22 ≤ a) (h2 : a < 406) (hf : sx_fa xk_G (xk_rg a) k = some (.inr (some (g, false)))) (hg : rg_is g c = true) : M.2.2 a k = some c := by
  have h : sx_f ⟨(cx0 fz, xk_G, xk_rg, S, m0), hp, hs⟩ M a k (.inr (some (g, false))) := hin.1 a k _ h1 (by show a < S.2.1; omega) hf
  unfold sx_f at h
  dsimp only at h
  cases hR : M.2.2 a k with
  | none => rw [hR] at h; cases h
  | some b =>
    rw [hR] at h
    have h : sx_rc ⟨(cx0 fz, xk_G, xk_rg, S, m0), hp, hs⟩ g b := h
    have hb : b < S.2.1 := h.2.1
    rw [rg_iso hg h.1 (by omega) h.2.2]
theorem rf_wq_at (M : rf_M) (a k : Nat) (x : Option Nat) : (rf_wq M a k x).2.2 a k = x := rf_up2s _ _ _ _
theorem rf_wq_of (M : rf_M) {a k a' k' : Nat} (x : Option Nat) (h : a' ≠ a ∨ k' ≠ k) : (rf_wq M a k x).2.2 a' k' = M.2.2 a' k' := rf_up2 _ _ h
theorem xk_scM (hn : S.2.1 = 406) (hw : xk_old fz S m0) (hin : sx_in ⟨(cx0 fz, xk_G, xk_rg, S, m0), hp, hs⟩ M) : sc_M fz S (rf_wq M 170 4 (some 23)) := by
  have o1 : ∀ c k, c < 22 → (rf_wq M 170 4 (some 23)).1 c k = m0.1 c k := fun c k hc => (hin.2 c k hc).1
  have o2 : ∀ c k, c < 22 → (rf_wq M 170 4 (some 23)).2.2 c k = m0.2.2 c k := fun c k hc => (rf_wq_of M (some 23) (Or.inl (by omega))).trans (hin.2 c k hc).2.2
  obtain ⟨w1, w2, w3, w4, w5, w6, w7, w8, w9, w10⟩ := hw
  refine ⟨⟨?_, ?_, ?_, rf_wq_at _ _ _ _⟩, sc_w_of o1 (o2 _ _ (by omega)) ⟨by omega, by omega⟩ w1, sc_w_of o1 (o2 _ _ (by omega)) ⟨by omega, by omega⟩ w2, sc_w_of o1 (o2 _ _ (by omega)) ⟨by omega, by omega⟩ w3, sc_w_of o1 (o2 _ _ (by omega)) ⟨by omega, by omega⟩ w4, sc_w_of o1 (o2 _ _ (by omega)) ⟨by omega, by omega⟩ w5, sc_w_of o1 (o2 _ _ (by omega)) ⟨by omega, by omega⟩ w6, sc_w_of o1 (o2 _ _ (by omega)) ⟨by omega, by omega⟩ w7, sc_w_of o1 (o2 _ _ (by omega)) ⟨by omega, by omega⟩ w8, sc_w_of o1 (o2 _ _ (by omega)) ⟨by omega, by omega⟩ w9, sc_w_of o1 (o2 _ _ (by omega)) ⟨by omega, by omega⟩ w10⟩
  · exact (rf_wq_of M (some 23) (Or.inr (by decide))).trans (xk_ref (hp := hp) (hs := hs) hn hin (by decide) (by decide) rfl rg_18)
  · exact (rf_wq_of M (some 23) (Or.inr (by decide))).trans (xk_ref (hp := hp) (hs := hs) hn hin (by decide) (by decide) rfl rg_19)
  · exact (rf_wq_of M (some 23) (Or.inr (by decide))).trans (xk_ref (hp := hp) (hs := hs) hn hin (by decide) (by decide) rfl rg_20)
/-- behind the scanner all is as the regions say -/
theorem sc_in {n : Nat} {M' : rf_M} (hn8 : n ≤ 800) (hn : S.2.1 = 406) (hin : sx_in ⟨(cx0 fz, xk_G, xk_rg, S, m0), hp, hs⟩ M) (hd : sc_done fz S M n (sp_scan (M.1 23) n 800 0) M') : sx_in ⟨(cx0 fz, xk_G, xk_rg, S, m0), hp, hs⟩ M' ∧ sx_fr ⟨(cx0 fz, xk_G, xk_rg, S, m0), hp, hs⟩ xk_c_0.2.2.2.1 M M' := by
  obtain ⟨d1, d2, d3, d4, d5, d6, d7, ⟨d8, d9, d10⟩, ⟨p, d11, d12⟩, d13⟩ := hd
  generalize hT : sp_scan (M.1 23) n 800 0 = T at d1 d2 d3 d4 d5 d6 d7 d8
  have hb : ∀ e ∈ T, (0 ≤ e.1.toInt ∧ e.1.toInt ≤ 125) ∧ e.2.1 < n ∧ (0 ≤ e.2.2.toInt ∧ e.2.2.toInt ≤ 999999999) := fun e he => sp_scan_b 800 0 e (by rw [hT]; exact he)
  have dR : ∀ a k, ¬ (a = 170 ∧ k = 4) → M'.2.2 a k = M.2.2 a k := fun a k h => by
    rw [d10]
    exact rf_up2 M.2.2 (some 23) (by omega)
  -- what lies in the rows
  have rows : ∀ k, (0 ≤ (M'.1 171 k).toInt ∧ (M'.1 171 k).toInt ≤ 125 ∧ 0 ≤ (M'.1 172 k).toInt ∧ (M'.1 172 k).toInt ≤ 800 ∧ 0 ≤ (M'.1 173 k).toInt ∧ (M'.1 173 k).toInt ≤ 999999999) ∨ (M'.1 171 k = M.1 171 k ∧ M'.1 172 k = M.1 172 k ∧ M'.1 173 k = M.1 173 k) := by
    intro k
    by_cases h1 : k < T.length
    · left
      have he := List.getElem?_eq_getElem h1
      obtain ⟨e1, e2, e3⟩ := d4 k _ he
      obtain ⟨⟨b1, b2⟩, b3, b4, b5⟩ := hb _ (List.getElem_mem h1)
      rw [e1, e2, e3, nI_int (by omega)]
      omega
    · by_cases h2 : k = T.length
      · left
        subst h2
        rw [d5, d6, d7, nI_int (by omega), Int32.toInt_zero]
        omega
      · right
        exact ⟨d8 171 k (by omega) (by omega), d8 172 k (by omega) (by omega), d8 173 k (by omega) (by omega)⟩
  refine ⟨⟨fun a k f h1 h2 h3 => ?_, fun a k h => ?_⟩, fun a k h => ?_⟩
  · have h1 : 22 ≤ a := h1
    have h2' : a < S.2.1 := h2
    have h3 : sx_fa xk_G (xk_rg a) k = some f := h3
    have hold := hin.1 a k f h1 h2 h3
    by_cases ha : a = 170
    · subst ha
      have e : sx_fa xk_G (xk_rg 170) k = ([.inr (some (18, false)), .inr (some (19, false)), .inr (some (20, false)), .inl (0, 800), .inr none, .inl (0, 800), .inl (0, 800)] : List sxF)[k]? := rfl
      rw [e] at h3
      have hk : k < 7 := (List.getElem?_eq_some_iff.mp h3).1
      have hk7 : k = 0 ∨ k = 1 ∨ k = 2 ∨ k = 3 ∨ k = 4 ∨ k = 5 ∨ k = 6 := by omega
      rcases hk7 with rfl | rfl | rfl | rfl | rfl | rfl | rfl
      · exact sx_f_same ⟨d8 170 0 (by omega) (by omega), by rw [d9], dR 170 0 (by omega)⟩ hold
      · exact sx_f_same ⟨d8 170 1 (by omega) (by omega), by rw [d9], dR 170 1 (by omega)⟩ hold
      · exact sx_f_same ⟨d8 170 2 (by omega) (by omega), by rw [d9], dR 170 2 (by omega)⟩ hold
      · cases h3
        show (0 : Int) ≤ (M'.1 170 3).toInt ∧ (M'.1 170 3).toInt ≤ 800
        rw [d2, nI_int (by omega)]; omega
      · cases h3; trivial
      · cases h3
        show (0 : Int) ≤ (M'.1 170 5).toInt ∧ (M'.1 170 5).toInt ≤ 800
        rw [d13, nI_int (by omega)]; omega
      · cases h3
        show (0 : Int) ≤ (M'.1 170 6).toInt ∧ (M'.1 170 6).toInt ≤ 800
        rw [d12, nI_int (by omega)]; omega
    · by_cases ha1 : a = 171 ∨ a = 172 ∨ a = 173
      · have hk8 : k < 801 ∧ ((a = 171 ∧ f = .inl (0, 125)) ∨ (a = 172 ∧ f = .inl (0, 800)) ∨ (a = 173 ∧ f = .inl (0, 999999999))) := by
          rcases ha1 with rfl | rfl | rfl
          · have e : sx_fa xk_G (xk_rg 171) k = if k < 801 then some (.inl (0, 125)) else none := rfl
            rw [e] at h3
            split at h3
            · cases h3; exact ⟨by assumption, Or.inl ⟨rfl, rfl⟩⟩
            · cases h3
          · have e : sx_fa xk_G (xk_rg 172) k = if k < 801 then some (.inl (0, 800)) else none := rfl
            rw [e] at h3
            split at h3
            · cases h3; exact ⟨by assumption, Or.inr (Or.inl ⟨rfl, rfl⟩)⟩
            · cases h3
          · have e : sx_fa xk_G (xk_rg 173) k = if k < 801 then some (.inl (0, 999999999)) else none := rfl
            rw [e] at h3
            split at h3
            · cases h3; exact ⟨by assumption, Or.inr (Or.inr ⟨rfl, rfl⟩)⟩
            · cases h3
        rcases rows k with r | r
        · rcases hk8.2 with ⟨rfl, rfl⟩ | ⟨rfl, rfl⟩ | ⟨rfl, rfl⟩
          · exact ⟨r.1, r.2.1⟩
          · exact ⟨r.2.2.1, r.2.2.2.1⟩
          · exact ⟨r.2.2.2.2.1, r.2.2.2.2.2⟩
        · rcases hk8.2 with ⟨rfl, rfl⟩ | ⟨rfl, rfl⟩ | ⟨rfl, rfl⟩
          · exact sx_f_same ⟨r.1, by rw [d9], dR _ _ (by omega)⟩ hold
          · exact sx_f_same ⟨r.2.1, by rw [d9], dR _ _ (by omega)⟩ hold
          · exact sx_f_same ⟨r.2.2, by rw [d9], dR _ _ (by omega)⟩ hold
      · exact sx_f_same ⟨d8 a k (by omega) (by omega), by rw [d9], dR a k (by omega)⟩ hold
  · have h : a < 22 := h
    have h0 := hin.2 a k h
    exact ⟨(d8 a k (by omega) (by omega)).trans h0.1, by rw [d9]; exact h0.2.1, (dR a k (by omega)).trans h0.2.2⟩
  · have key : (a < 22 ∨ ((xk_rg a, 0) ∉ xk_c_0.2.2.2.1 ∧ (xk_rg a, k + 1) ∉ xk_c_0.2.2.2.1)) → ¬ (a = 170 ∧ (k = 3 ∨ k = 4 ∨ k = 5 ∨ k = 6)) ∧ ¬ (a = 171 ∨ a = 172 ∨ a = 173) := by
      intro h
      constructor
      · rintro ⟨rfl, hk⟩
        rcases h with h | h
        · omega
        · rcases hk with rfl | rfl | rfl | rfl
          · exact h.2 (by decide)
          · exact h.2 (by decide)
          · exact h.2 (by decide)
          · exact h.2 (by decide)
      · rintro (rfl | rfl | rfl)
        · rcases h with h | h
          · omega
          · exact h.1 (by decide)
        · rcases h with h | h
          · omega
          · exact h.1 (by decide)
        · rcases h with h | h
          · omega
          · exact h.1 (by decide)
    obtain ⟨k1, k2⟩ := key h
    exact ⟨d8 a k (by omega) (by omega), by rw [d9], dR a k (by omega)⟩
theorem xk_scan_ok (hn : S.2.1 = 406) (hw : xk_old fz S m0) (args : List Value) : sx_cok xk_T ⟨(cx0 fz, xk_G, xk_rg, S, m0), hp, hs⟩ xk_c_0 args := by
  intro M d hrm hin hfit
  match args, hfit with
  | [v0, v1, v2], hfit =>
    obtain ⟨⟨o0, rfl, f0⟩, ⟨o1, rfl, f1⟩, ⟨z, rfl, z1, z2⟩, -⟩ := hfit
    cases o0 with
    | none => cases f0
    | some b0 =>
      cases o1 with
      | none => cases f1
      | some b1 =>
        have f0 : sx_rc ⟨(cx0 fz, xk_G, xk_rg, S, m0), hp, hs⟩ 17 b0 := f0
        have f1 : sx_rc ⟨(cx0 fz, xk_G, xk_rg, S, m0), hp, hs⟩ 1 b1 := f1
        have e0 : b0 = 170 := rg_iso rg_17 f0.1 (by have : b0 < S.2.1 := f0.2.1; omega) f0.2.2
        have e1 : b1 = 23 := rg_iso rg_1 f1.1 (by have : b1 < S.2.1 := f1.2.1; omega) f1.2.2
        subst e0 e1
        have ez : z = nI z.toInt.toNat := by
          refine Int32.toInt_inj.mp ?_
          rw [nI_int (by omega)]
          omega
        have hmv : sx_mv xk_c_0 [va_rf (some 170), va_rf (some 23), .int z] = 8 := rfl
        rw [hmv] at hrm
        have hr1 : 8 ≤ d.1 := hrm.1
        have hr2 : 8 * 29 + 30 ≤ d.2 := hrm.2
        obtain ⟨m, hm8, rfl⟩ : ∃ m, m ≤ 800 ∧ z = nI m := ⟨z.toInt.toNat, by omega, ez⟩
        refine gx_room (d := (8, 260)) (gx_mono (sc_scan (n := m) (xk_scS hn hs) (xk_scM (hp := hp) (hs := hs) hn hw hin) hm8) ?_) hr1 (by show 260 ≤ d.2; omega)
        rintro r h' ⟨rfl, M', rfl, hd⟩
        obtain ⟨i1, i2⟩ := sc_in (hp := hp) (hs := hs) hm8 hn hin hd
        exact ⟨M', rfl, i1, i2, trivial⟩
  | [], h => exact h.elim
  | [_], h => exact h.2.elim
  | [_, _], h => exact h.2.2.elim
  | _ :: _ :: _ :: _ :: _, h => exact h.2.2.2.elim
end EXT
/-! ALL CONTRACTS HOLD in the world behind the constructors -/
