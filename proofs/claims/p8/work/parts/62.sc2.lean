/-! the scanner's methods -/
theorem rf_wi_wi (M : rf_M) (a k : Nat) (x y : Int32) : rf_wi (rf_wi M a k x) a k y = rf_wi M a k y := by
  unfold rf_wi
  refine Prod.ext ?_ rfl
  funext a' k'
  dsimp only
  unfold va_up
  by_cases h : a' = a
  · by_cases h2 : k' = k
    · simp [h, h2]
    · simp [h, h2]
  · simp [h]
theorem rf_wi_id {M : rf_M} {a k : Nat} {x : Int32} (h : M.1 a k = x) : rf_wi M a k x = M := by
  unfold rf_wi
  refine Prod.ext ?_ rfl
  funext a' k'
  dsimp only
  unfold va_up
  by_cases h1 : a' = a
  · by_cases h2 : k' = k
    · subst h1 h2; simp [h]
    · simp [h1, h2]
  · simp [h1]
section M2
variable {cx : rf_C} {d : Nat × Nat} {i pc : Nat} {ls : rf_L} {st : List Value} {Q : Option Value → rf_H → Prop} {M : rf_M} {S : gS} {aux : List (Int × Nat)}
theorem m_iv {idx a ci j n : Nat} {kd : Int} {tg : List (Int × Nat)} {as rest : List Value} (hf : cx.1 i pc = some (.invokevirtual idx, (kd, n) :: tg)) (hk : ¬ 10 ≤ kd) (hs : go cx S a ci) (hl : rf_lk tg (ci : Int) = some j) (hn : as.length = n) (hc : (rest.map fun v => v.category).sum ≤ 8) (hroom : 1 ≤ d.1 ∧ (cx.2.1 j).2.2.1 + 19 ≤ d.2 ∧ (lg_sl (.ref a :: as)).length ≤ (cx.2.1 j).2.2.1) (k : gx cx (d.1 - 1, d.2 - ((cx.2.1 j).2.2.1 + 19)) j 0 (lv_args 0 (.ref a :: as)) [] (M, S) (fun r h' => gx cx d i (pc + 3) ls (r.toList ++ rest) h' Q)) : gx cx d i pc ls (as.reverse ++ .ref a :: rest) (M, S) Q := by
  refine gx_call hf (j := j) (as := .ref a :: as) (rest := rest) ?_ hroom k
  subst hn
  have h1 : (as.reverse ++ .ref a :: rest).drop as.length = .ref a :: rest := by
    rw [← List.length_reverse]; exact List.drop_left
  have h2 : (as.reverse ++ .ref a :: rest).take as.length = as.reverse := by
    rw [← List.length_reverse]; exact List.take_left
  unfold rf_ex
  show (if 10 ≤ kd then _ else _) = _
  rw [if_neg hk]
  unfold rf_ca
  dsimp only
  rw [h1]
  dsimp only
  rw [hs.ob]
  dsimp only
  rw [hs.ky, hl]
  dsimp only
  rw [if_pos ⟨by simp, hc⟩, h2, List.reverse_reverse]
  rfl
end M2
section SC2
variable {fz : Bool} {S : gS} {M : rf_M}
theorem sc_w_of {M M' : rf_M} {a b : Nat} {w : List Nat} (h1 : ∀ c k, c < 22 → M'.1 c k = M.1 c k) (h2 : M'.2.2 a 0 = M.2.2 a 0) (hab : a < 22 ∧ b < 22) (h : sc_w fz S M a b w) : sc_w fz S M' a b w := by
  obtain ⟨⟨t1, t2, t3, t4, t5, t6⟩, t7⟩ := h
  refine ⟨⟨t1, t2, h2.trans t3, (h1 a 1 hab.1).trans t4, t5, fun k hk => ?_⟩, fun t ht => (h1 b t hab.2).trans (t7 t ht)⟩
  obtain ⟨c, c1, c2⟩ := t6 k hk
  exact ⟨c, c1, (h1 b k hab.2).trans c2⟩
theorem sc_M_of {M M' : rf_M} (h1 : ∀ c k, c < 22 → M'.1 c k = M.1 c k) (h2 : ∀ c k, M'.2.2 c k = M.2.2 c k) (h : sc_M fz S M) : sc_M fz S M' := by
  obtain ⟨⟨r1, r2, r3, r4⟩, w1, w2, w3, w4, w5, w6, w7, w8, w9, w10⟩ := h
  exact ⟨⟨(h2 _ _).trans r1, (h2 _ _).trans r2, (h2 _ _).trans r3, (h2 _ _).trans r4⟩, sc_w_of h1 (h2 _ _) ⟨by omega, by omega⟩ w1, sc_w_of h1 (h2 _ _) ⟨by omega, by omega⟩ w2, sc_w_of h1 (h2 _ _) ⟨by omega, by omega⟩ w3, sc_w_of h1 (h2 _ _) ⟨by omega, by omega⟩ w4, sc_w_of h1 (h2 _ _) ⟨by omega, by omega⟩ w5, sc_w_of h1 (h2 _ _) ⟨by omega, by omega⟩ w6, sc_w_of h1 (h2 _ _) ⟨by omega, by omega⟩ w7, sc_w_of h1 (h2 _ _) ⟨by omega, by omega⟩ w8, sc_w_of h1 (h2 _ _) ⟨by omega, by omega⟩ w9, sc_w_of h1 (h2 _ _) ⟨by omega, by omega⟩ w10⟩
theorem sc_M_wi {a k : Nat} {x : Int32} (ha : 22 ≤ a) (h : sc_M fz S M) : sc_M fz S (rf_wi M a k x) := by
  refine sc_M_of (M := M) (M' := rf_wi M a k x) (fun c k' hc => ?_) (fun _ _ => rfl) h
  show va_up M.1 a (va_up (M.1 a) k x) c k' = M.1 c k'
  exact rf_up2 M.1 x (Or.inl (by omega))
theorem bI_no {c : Bool} (h : rf_cc (bI c) 0 .eq = true) : c = false := by
  cases c
  · rfl
  · exact absurd h (by decide)
theorem bI_yes {c : Bool} (h : ¬ rf_cc (bI c) 0 .eq = true) : c = true := by
  cases c
  · exact absurd (by decide) h
  · rfl
theorem sc_word {i j : Nat} (hS : sc_S fz S) (hM : sc_M fz S M) (hj : M.1 170 6 = nI j) (hij : i ≤ j) (hj8 : j ≤ 800) : gx (cx0 fz) (5, 160) 23 0 [(0, .ref 170), (1, .int (nI i))] [] (M, S) (fun r h' => r = some (.int (sp_word (M.1 23) i j)) ∧ h' = (M, S)) := by
  obtain ⟨⟨r1, r2, r3, r4⟩, w1, w2, w3, w4, w5, w6, w7, w8, w9, w10⟩ := hM
  unfold sp_word
  refine g1 (n := 1) rfl rfl rfl rfl ?_
  refine g1 (n := 1) rfl rfl rfl rfl ?_
  refine g7 (n := 2) rfl rfl rfl rfl ?_
  refine m_iv (a := 170) (as := [.int (nI i), .ref 2]) (rest := []) rfl (by decide) hS.1 rfl rfl (Nat.le_of_ble_eq_true rfl) ⟨Nat.le_of_ble_eq_true rfl, Nat.le_of_ble_eq_true rfl, Nat.le_of_ble_eq_true rfl⟩ ?_
  refine gx_room (gx_mono (sc_reads hS r4 w1 hj hij hj8) ?_) (Nat.le_of_ble_eq_true rfl) (Nat.le_of_ble_eq_true rfl)
  rintro r h' ⟨rfl, rfl⟩
  refine g_if rfl (fun c => ?_) (fun c => ?_)
  rotate_left
  · rw [bI_yes c]
    refine g1 (n := 2) rfl rfl rfl rfl ?_
    exact gx_ret rfl rfl ⟨rfl, rfl⟩
  rw [bI_no c]
  clear c
  refine g1 (n := 1) rfl rfl rfl rfl ?_
  refine g1 (n := 1) rfl rfl rfl rfl ?_
  refine g7 (n := 2) rfl rfl rfl rfl ?_
  refine m_iv (a := 170) (as := [.int (nI i), .ref 4]) (rest := []) rfl (by decide) hS.1 rfl rfl (Nat.le_of_ble_eq_true rfl) ⟨Nat.le_of_ble_eq_true rfl, Nat.le_of_ble_eq_true rfl, Nat.le_of_ble_eq_true rfl⟩ ?_
  refine gx_room (gx_mono (sc_reads hS r4 w2 hj hij hj8) ?_) (Nat.le_of_ble_eq_true rfl) (Nat.le_of_ble_eq_true rfl)
  rintro r h' ⟨rfl, rfl⟩
  refine g_if rfl (fun c => ?_) (fun c => ?_)
  rotate_left
  · rw [bI_yes c]
    refine g1 (n := 2) rfl rfl rfl rfl ?_
    exact gx_ret rfl rfl ⟨rfl, rfl⟩
  rw [bI_no c]
  clear c
  refine g1 (n := 1) rfl rfl rfl rfl ?_
  refine g1 (n := 1) rfl rfl rfl rfl ?_
  refine g7 (n := 2) rfl rfl rfl rfl ?_
  refine m_iv (a := 170) (as := [.int (nI i), .ref 6]) (rest := []) rfl (by decide) hS.1 rfl rfl (Nat.le_of_ble_eq_true rfl) ⟨Nat.le_of_ble_eq_true rfl, Nat.le_of_ble_eq_true rfl, Nat.le_of_ble_eq_true rfl⟩ ?_
  refine gx_room (gx_mono (sc_reads hS r4 w3 hj hij hj8) ?_) (Nat.le_of_ble_eq_true rfl) (Nat.le_of_ble_eq_true rfl)
  rintro r h' ⟨rfl, rfl⟩
  refine g_if rfl (fun c => ?_) (fun c => ?_)
  rotate_left
  · rw [bI_yes c]
    refine g1 (n := 2) rfl rfl rfl rfl ?_
    exact gx_ret rfl rfl ⟨rfl, rfl⟩
  rw [bI_no c]
  clear c
  refine g1 (n := 1) rfl rfl rfl rfl ?_
  refine g1 (n := 1) rfl rfl rfl rfl ?_
  refine g7 (n := 2) rfl rfl rfl rfl ?_
  refine m_iv (a := 170) (as := [.int (nI i), .ref 8]) (rest := []) rfl (by decide) hS.1 rfl rfl (Nat.le_of_ble_eq_true rfl) ⟨Nat.le_of_ble_eq_true rfl, Nat.le_of_ble_eq_true rfl, Nat.le_of_ble_eq_true rfl⟩ ?_
  refine gx_room (gx_mono (sc_reads hS r4 w4 hj hij hj8) ?_) (Nat.le_of_ble_eq_true rfl) (Nat.le_of_ble_eq_true rfl)
  rintro r h' ⟨rfl, rfl⟩
  refine g_if rfl (fun c => ?_) (fun c => ?_)
  rotate_left
  · rw [bI_yes c]
    refine g1 (n := 2) rfl rfl rfl rfl ?_
    exact gx_ret rfl rfl ⟨rfl, rfl⟩
  rw [bI_no c]
  clear c
  refine g1 (n := 1) rfl rfl rfl rfl ?_
  refine g1 (n := 1) rfl rfl rfl rfl ?_
  refine g7 (n := 2) rfl rfl rfl rfl ?_
  refine m_iv (a := 170) (as := [.int (nI i), .ref 10]) (rest := []) rfl (by decide) hS.1 rfl rfl (Nat.le_of_ble_eq_true rfl) ⟨Nat.le_of_ble_eq_true rfl, Nat.le_of_ble_eq_true rfl, Nat.le_of_ble_eq_true rfl⟩ ?_
  refine gx_room (gx_mono (sc_reads hS r4 w5 hj hij hj8) ?_) (Nat.le_of_ble_eq_true rfl) (Nat.le_of_ble_eq_true rfl)
  rintro r h' ⟨rfl, rfl⟩
  refine g_if rfl (fun c => ?_) (fun c => ?_)
  rotate_left
  · rw [bI_yes c]
    refine g1 (n := 2) rfl rfl rfl rfl ?_
    exact gx_ret rfl rfl ⟨rfl, rfl⟩
  rw [bI_no c]
  clear c
  refine g1 (n := 1) rfl rfl rfl rfl ?_
  refine g1 (n := 1) rfl rfl rfl rfl ?_
  refine g7 (n := 2) rfl rfl rfl rfl ?_
  refine m_iv (a := 170) (as := [.int (nI i), .ref 12]) (rest := []) rfl (by decide) hS.1 rfl rfl (Nat.le_of_ble_eq_true rfl) ⟨Nat.le_of_ble_eq_true rfl, Nat.le_of_ble_eq_true rfl, Nat.le_of_ble_eq_true rfl⟩ ?_
  refine gx_room (gx_mono (sc_reads hS r4 w6 hj hij hj8) ?_) (Nat.le_of_ble_eq_true rfl) (Nat.le_of_ble_eq_true rfl)
  rintro r h' ⟨rfl, rfl⟩
  refine g_if rfl (fun c => ?_) (fun c => ?_)
  rotate_left
  · rw [bI_yes c]
    refine g1 (n := 2) rfl rfl rfl rfl ?_
    exact gx_ret rfl rfl ⟨rfl, rfl⟩
  rw [bI_no c]
  clear c
  refine g1 (n := 1) rfl rfl rfl rfl ?_
  refine g1 (n := 1) rfl rfl rfl rfl ?_
  refine g7 (n := 2) rfl rfl rfl rfl ?_
  refine m_iv (a := 170) (as := [.int (nI i), .ref 14]) (rest := []) rfl (by decide) hS.1 rfl rfl (Nat.le_of_ble_eq_true rfl) ⟨Nat.le_of_ble_eq_true rfl, Nat.le_of_ble_eq_true rfl, Nat.le_of_ble_eq_true rfl⟩ ?_
  refine gx_room (gx_mono (sc_reads hS r4 w7 hj hij hj8) ?_) (Nat.le_of_ble_eq_true rfl) (Nat.le_of_ble_eq_true rfl)
  rintro r h' ⟨rfl, rfl⟩
  refine g_if rfl (fun c => ?_) (fun c => ?_)
  rotate_left
  · rw [bI_yes c]
    refine g1 (n := 2) rfl rfl rfl rfl ?_
    exact gx_ret rfl rfl ⟨rfl, rfl⟩
  rw [bI_no c]
  clear c
  refine g1 (n := 1) rfl rfl rfl rfl ?_
  refine g1 (n := 1) rfl rfl rfl rfl ?_
  refine g7 (n := 2) rfl rfl rfl rfl ?_
  refine m_iv (a := 170) (as := [.int (nI i), .ref 16]) (rest := []) rfl (by decide) hS.1 rfl rfl (Nat.le_of_ble_eq_true rfl) ⟨Nat.le_of_ble_eq_true rfl, Nat.le_of_ble_eq_true rfl, Nat.le_of_ble_eq_true rfl⟩ ?_
  refine gx_room (gx_mono (sc_reads hS r4 w8 hj hij hj8) ?_) (Nat.le_of_ble_eq_true rfl) (Nat.le_of_ble_eq_true rfl)
  rintro r h' ⟨rfl, rfl⟩
  refine g_if rfl (fun c => ?_) (fun c => ?_)
  rotate_left
  · rw [bI_yes c]
    refine g1 (n := 2) rfl rfl rfl rfl ?_
    exact gx_ret rfl rfl ⟨rfl, rfl⟩
  rw [bI_no c]
  clear c
  refine g1 (n := 1) rfl rfl rfl rfl ?_
  refine g1 (n := 1) rfl rfl rfl rfl ?_
  refine g7 (n := 2) rfl rfl rfl rfl ?_
  refine m_iv (a := 170) (as := [.int (nI i), .ref 18]) (rest := []) rfl (by decide) hS.1 rfl rfl (Nat.le_of_ble_eq_true rfl) ⟨Nat.le_of_ble_eq_true rfl, Nat.le_of_ble_eq_true rfl, Nat.le_of_ble_eq_true rfl⟩ ?_
  refine gx_room (gx_mono (sc_reads hS r4 w9 hj hij hj8) ?_) (Nat.le_of_ble_eq_true rfl) (Nat.le_of_ble_eq_true rfl)
  rintro r h' ⟨rfl, rfl⟩
  refine g_if rfl (fun c => ?_) (fun c => ?_)
  rotate_left
  · rw [bI_yes c]
    refine g1 (n := 2) rfl rfl rfl rfl ?_
    exact gx_ret rfl rfl ⟨rfl, rfl⟩
  rw [bI_no c]
  clear c
  refine g1 (n := 1) rfl rfl rfl rfl ?_
  refine g1 (n := 1) rfl rfl rfl rfl ?_
  refine g7 (n := 2) rfl rfl rfl rfl ?_
  refine m_iv (a := 170) (as := [.int (nI i), .ref 20]) (rest := []) rfl (by decide) hS.1 rfl rfl (Nat.le_of_ble_eq_true rfl) ⟨Nat.le_of_ble_eq_true rfl, Nat.le_of_ble_eq_true rfl, Nat.le_of_ble_eq_true rfl⟩ ?_
  refine gx_room (gx_mono (sc_reads hS r4 w10 hj hij hj8) ?_) (Nat.le_of_ble_eq_true rfl) (Nat.le_of_ble_eq_true rfl)
  rintro r h' ⟨rfl, rfl⟩
  refine g_if rfl (fun c => ?_) (fun c => ?_)
  rotate_left
  · rw [bI_yes c]
    refine g1 (n := 2) rfl rfl rfl rfl ?_
    refine g3 rfl rfl rfl ?_
    exact gx_ret rfl rfl ⟨rfl, rfl⟩
  rw [bI_no c]
  clear c
  refine g1 (n := 1) rfl rfl rfl rfl ?_
  exact gx_ret rfl rfl ⟨rfl, rfl⟩
theorem sc_sym {x : Int32} : gx (cx0 fz) (0, 0) 34 0 [(0, .int x)] [] (M, S) (fun r h' => r = some (.int (bI (sp_s x))) ∧ h' = (M, S)) := by
  refine g1 (n := 1) rfl rfl rfl rfl ?_
  refine g3 (pc' := if sp_s x then 116 else 118) (st' := []) rfl rfl ?_ ?_
  · show some (rf_sw [(35, 116), (37, 116), (40, 116), (41, 116), (42, 116), (43, 116), (45, 116), (47, 116), (59, 116), (60, 116), (61, 116), (123, 116), (125, 116)] 118 x.toInt, ([] : List Value)) = _
    unfold sp_s
    simp only [rf_sw]
    by_cases h35 : (35 : Int) = x.toInt
    · rw [if_pos h35, ← h35]; rfl
    rw [if_neg h35]
    by_cases h37 : (37 : Int) = x.toInt
    · rw [if_pos h37, ← h37]; rfl
    rw [if_neg h37]
    by_cases h40 : (40 : Int) = x.toInt
    · rw [if_pos h40, ← h40]; rfl
    rw [if_neg h40]
    by_cases h41 : (41 : Int) = x.toInt
    · rw [if_pos h41, ← h41]; rfl
    rw [if_neg h41]
    by_cases h42 : (42 : Int) = x.toInt
    · rw [if_pos h42, ← h42]; rfl
    rw [if_neg h42]
    by_cases h43 : (43 : Int) = x.toInt
    · rw [if_pos h43, ← h43]; rfl
    rw [if_neg h43]
    by_cases h45 : (45 : Int) = x.toInt
    · rw [if_pos h45, ← h45]; rfl
    rw [if_neg h45]
    by_cases h47 : (47 : Int) = x.toInt
    · rw [if_pos h47, ← h47]; rfl
    rw [if_neg h47]
    by_cases h59 : (59 : Int) = x.toInt
    · rw [if_pos h59, ← h59]; rfl
    rw [if_neg h59]
    by_cases h60 : (60 : Int) = x.toInt
    · rw [if_pos h60, ← h60]; rfl
    rw [if_neg h60]
    by_cases h61 : (61 : Int) = x.toInt
    · rw [if_pos h61, ← h61]; rfl
    rw [if_neg h61]
    by_cases h123 : (123 : Int) = x.toInt
    · rw [if_pos h123, ← h123]; rfl
    rw [if_neg h123]
    by_cases h125 : (125 : Int) = x.toInt
    · rw [if_pos h125, ← h125]; rfl
    rw [if_neg h125]
    have e : [61, 59, 40, 41, 123, 125, 60, 35, 43, 45, 42, 47, 37].elem x.toInt = false := by
      rw [Bool.eq_false_iff]
      intro hh
      have := List.elem_iff.mp hh
      simp only [List.mem_cons, List.not_mem_nil, or_false] at this
      omega
    rw [e]
    rfl
  · cases hc : sp_s x
    · refine g1 (n := 1) rfl rfl rfl rfl ?_
      exact gx_ret rfl rfl ⟨rfl, rfl⟩
    · refine g1 (n := 1) rfl rfl rfl rfl ?_
      exact gx_ret rfl rfl ⟨rfl, rfl⟩
end SC2
