/-! THE PROGRAM'S HALF of a pair: feed, end, text -/
section LOUD
variable {fz : Bool} {L : Nat} {xs : Nat → Int32} {M : rf_M} {n c : Nat}
theorem cJ_tq (h : cJ fz L xs M n c) : tq fz (HK fz L xs).2 M := cl_tq (hp := (xk_W fz L xs).2.1) (hs := (xk_W fz L xs).2.2) (HK_n fz L xs) (xk_oldHK fz L xs) h.1 h.2.1
theorem cl_ref_of {M M' : rf_M} (h : ∀ a k, ¬ (a = 169 ∧ k = 1) → ¬ (a = 170 ∧ k = 4) → M'.2.2 a k = M.2.2 a k) (hr : cl_ref M) : cl_ref M' := by
  obtain ⟨⟨q0, q2, q5⟩, q24, qp, q169⟩ := hr
  exact ⟨⟨(h _ _ (by omega) (by omega)).trans q0, (h _ _ (by omega) (by omega)).trans q2, (h _ _ (by omega) (by omega)).trans q5⟩, fun c hc => (h _ _ (by omega) (by omega)).trans (q24 c hc), fun c hc k k1 k2 => (h _ _ (by omega) (by omega)).trans (qp c hc k k1 k2), (h _ _ (by omega) (by omega)).trans q169⟩
theorem cf_feed (h : cJ fz L xs M n c) (a b e d g : Int32) : gx (cx0 fz) (2000, 80000) 13 0 (lv_args 0 [.ref 22, .int a, .int b, .int e, .int d, .int g]) [] (M, (HK fz L xs).2) (fun r h' => ∃ (z : Int32) (M' : rf_M), r = some (.int z) ∧ h' = (M', (HK fz L xs).2) ∧ ((n ≤ 780 ∧ z = nI (n + 20) ∧ cJ fz L xs M' (n + 20) c ∧ (∀ t, t < 20 → M'.1 23 (n + t) = fb5 a b e d g t) ∧ ∀ k, k < n → M'.1 23 k = M.1 23 k) ∨ (780 < n ∧ z = Int32.ofInt (-1) ∧ cJ fz L xs M' n c ∧ ∀ k, M'.1 23 k = M.1 23 k)) ∧ (∀ i k, i < 12 → M'.1 (25 + 12 * i) k = M.1 (25 + 12 * i) k) ∧ ∀ a k, 353 ≤ a → sx_same M M' a k) := by
  have htq := cJ_tq h
  refine gx_mono (gx_and (gx_room (tp_feed (a := a) (b := b) (c := e) (d := d) (e := g) htq.1.1 htq.1.2.1 htq.2.1.1 h.2.2.1.1 h.2.2.1.2) (Nat.le_of_ble_eq_true rfl) (Nat.le_of_ble_eq_true rfl)) (cl_feed fz L xs h.1 a b e d g)) ?_
  rintro r h' ⟨h1, z, M', rfl, rfl, h2, h3⟩
  have hpro : ∀ i k, i < 12 → M'.1 (25 + 12 * i) k = M.1 (25 + 12 * i) k := fun i k hi => cl_pro fz L xs (by decide) h3 hi k
  have hfar : ∀ a k, 353 ≤ a → sx_same M M' a k := fun a k ha => cl_far fz L xs (by decide) h3 ha k
  rcases h1 with ⟨q1, q2, M1, q3, q4, q5, q6⟩ | ⟨q1, q2, q3⟩
  · cases q3
    cases q2
    refine ⟨_, M', rfl, rfl, Or.inl ⟨q1, rfl, ⟨h2, ?_, ⟨q4, by omega⟩, ⟨?_, h.2.2.2.2⟩⟩, q5, fun k hk => q6.1 23 k (by omega) (by omega)⟩, hpro, hfar⟩
    · exact cl_ref_of (fun a k _ _ => by rw [q6.2]) h.2.1
    · rw [q6.1 22 3 (by omega) (by omega)]; exact h.2.2.2.1
  · cases q2
    have q4 : M' = M := (Prod.mk.inj q3).1
    subst q4
    exact ⟨_, M', rfl, rfl, Or.inr ⟨q1, rfl, h, fun _ => rfl⟩, hpro, hfar⟩
theorem cf_end (h : cJ fz L xs M n c) (x : Int32) : gx (cx0 fz) (2000, 80000) 15 0 (lv_args 0 [.ref 22, .int x]) [] (M, (HK fz L xs).2) (fun r h' => ∃ (z : Int32) (M' : rf_M), r = some (.int z) ∧ h' = (M', (HK fz L xs).2) ∧ (((0 ≤ x.toInt ∧ x.toInt ≤ 20 ∧ 20 ≤ n) ∧ z = nI (n - 20 + x.toInt.toNat) ∧ cJ fz L xs M' (n - 20 + x.toInt.toNat) c) ∨ (¬ (0 ≤ x.toInt ∧ x.toInt ≤ 20 ∧ 20 ≤ n) ∧ z = Int32.ofInt (-1) ∧ cJ fz L xs M' n c)) ∧ (∀ k, M'.1 23 k = M.1 23 k) ∧ (∀ i k, i < 12 → M'.1 (25 + 12 * i) k = M.1 (25 + 12 * i) k) ∧ ∀ a k, 353 ≤ a → sx_same M M' a k) := by
  have htq := cJ_tq h
  refine gx_mono (gx_and (gx_room (tp_end (x := x) htq.1.1 h.2.2.1.1 h.2.2.1.2) (Nat.zero_le _) (Nat.zero_le _)) (cl_end fz L xs h.1 x)) ?_
  rintro r h' ⟨h1, z, M', rfl, rfl, h2, h3⟩
  have hpro : ∀ i k, i < 12 → M'.1 (25 + 12 * i) k = M.1 (25 + 12 * i) k := fun i k hi => cl_pro fz L xs (by decide) h3 hi k
  have hfar : ∀ a k, 353 ≤ a → sx_same M M' a k := fun a k ha => cl_far fz L xs (by decide) h3 ha k
  have h8 := h.2.2.1.2
  rcases h1 with ⟨q1, q2, q3⟩ | ⟨q1, q2, q3⟩
  · cases q2
    have q4 : M' = rf_wi M 22 1 (nI (n - 20 + x.toInt.toNat)) := (Prod.mk.inj q3).1
    refine ⟨_, M', rfl, rfl, Or.inl ⟨q1, rfl, ⟨h2, ?_, ⟨?_, by omega⟩, ⟨?_, h.2.2.2.2⟩⟩⟩, fun k => ?_, hpro, hfar⟩
    · exact cl_ref_of (fun a k _ _ => by rw [q4]; rfl) h.2.1
    · rw [q4, rf_wi_at]
    · rw [q4, rf_wi_of _ _ (by omega)]; exact h.2.2.2.1
    · rw [q4, rf_wi_of _ _ (by omega)]
  · cases q2
    have q4 : M' = M := (Prod.mk.inj q3).1
    subst q4
    exact ⟨_, M', rfl, rfl, Or.inr ⟨q1, rfl, h⟩, fun _ => rfl, hpro, hfar⟩
/-- text: the text is taken just where p_all says so -/
theorem cf_text (h : cJ fz L xs M n c) : gx (cx0 fz) (2000, 80000) 16 0 (lv_args 0 [.ref 22]) [] (M, (HK fz L xs).2) (fun r h' => ∃ (z : Int32) (M' : rf_M), r = some (.int z) ∧ h' = (M', (HK fz L xs).2) ∧ ((c = 12 ∧ z = Int32.ofInt (-1) ∧ cJ fz L xs M' n c ∧ ∀ k, M'.1 23 k = M.1 23 k) ∨ (c < 12 ∧ (p_all (p_T (M.1 23) n)).2.2.2.2.2 = true ∧ z = nI c ∧ cJ fz L xs M' 0 (c + 1) ∧ (M'.1 (25 + 12 * c) 0 = nI (p_all (p_T (M.1 23) n)).2.2.1 ∧ M'.1 (25 + 12 * c) 1 = nI (p_all (p_T (M.1 23) n)).2.2.2.1 ∧ M'.1 (25 + 12 * c) 2 = nI (p_all (p_T (M.1 23) n)).2.2.2.2.1)) ∨ (c < 12 ∧ (p_all (p_T (M.1 23) n)).2.2.2.2.2 = false ∧ z = Int32.ofInt (-2) ∧ cJ fz L xs M' 0 c)) ∧ (∀ i k, i < c → M'.1 (25 + 12 * i) k = M.1 (25 + 12 * i) k) ∧ ∀ a k, 353 ≤ a → sx_same M M' a k) := by
  have htq := cJ_tq h
  refine gx_mono (gx_and (gx_room (t_text htq h.2.2.1.1 h.2.2.1.2 h.2.2.2.1 h.2.2.2.2) (Nat.le_of_ble_eq_true rfl) (Nat.le_of_ble_eq_true rfl)) (cl_text fz L xs h.1)) ?_
  rintro r h' ⟨h1, z, M', rfl, rfl, h2, h3⟩
  have hfar : ∀ a k, 353 ≤ a → sx_same M M' a k := fun a k ha => cl_far fz L xs (by decide) h3 ha k
  rcases h1 with ⟨q1, q2, q3⟩ | ⟨q1, M1, q3, q4, q5, u0, u1, u2, q6⟩
  · cases q2
    have q4 : M' = M := (Prod.mk.inj q3).1
    subst q4
    exact ⟨_, M', rfl, rfl, Or.inl ⟨q1, rfl, h, fun _ => rfl⟩, fun _ _ _ => rfl, hfar⟩
  · have q7 : M' = M1 := (Prod.mk.inj q3).1
    subst q7
    have hr := cl_ref_of q6.2.2 h.2.1
    have hold : ∀ i k, i < c → M'.1 (25 + 12 * i) k = M.1 (25 + 12 * i) k := fun i k hi => q6.1 _ k (by omega) (by omega) (by omega)
    rcases q5 with ⟨e1, e2, e3⟩ | ⟨e1, e2, e3⟩
    · cases e2
      exact ⟨_, M', rfl, rfl, Or.inr (Or.inl ⟨q1, e1, rfl, ⟨h2, hr, ⟨q4, by omega⟩, ⟨e3, by omega⟩⟩, u0, u1, u2⟩), hold, hfar⟩
    · cases e2
      exact ⟨_, M', rfl, rfl, Or.inr (Or.inr ⟨q1, e1, rfl, h2, hr, ⟨q4, by omega⟩, ⟨e3, by omega⟩⟩), hold, hfar⟩
end LOUD
theorem HK_i (fz : Bool) (L : Nat) (xs : Nat → Int32) (a k : Nat) (ha : 1 < a) : (HK fz L xs).1.1 a k = (K2 fz).1.1 a k := by
  unfold HK
  generalize K2 fz = h
  show va_up h.1.1 1 xs a k = _
  unfold va_up
  rw [if_neg (by omega)]
/-- at the beginning -/
theorem cJ_0 (fz : Bool) (L : Nat) (xs : Nat → Int32) : cJ fz L xs (HK fz L xs).1 0 0 := by
  have hr := List.all_eq_true.mp (K2_rf fz)
  have rf : ∀ a k b, (a, k, b) ∈ rfK → (HK fz L xs).1.2.2 a k = some b := fun a k b hm => by
    have := hr (a, k, b) hm
    simp only [decide_eq_true_eq] at this
    rw [show (HK fz L xs).1.2 = (K2 fz).1.2 from pt_M2 xs (K2 fz).1]
    exact this
  have ib : (List.range 2).all (fun t => decide ((K2 fz).1.1 22 (2 * t + 1) = 0)) = true := by cases fz <;> decide +kernel
  have iz : ∀ t, t < 2 → (HK fz L xs).1.1 22 (2 * t + 1) = nI 0 := fun t ht => by
    have := List.all_eq_true.mp ib t (List.mem_range.mpr ht)
    simp only [decide_eq_true_eq] at this
    rw [HK_i fz L xs 22 (2 * t + 1) (by omega), this]
    rfl
  have e1 : ∀ c, c < 12 → (24, c, 25 + 12 * c) ∈ rfK := by decide
  have e2 : ∀ c, c < 12 → ∀ k, k < 11 → (25 + 12 * c, k + 5, 25 + 12 * c + (k + 1)) ∈ rfK := by decide
  refine ⟨xk_in fz L xs, ⟨⟨rf 22 0 23 (by decide), rf 22 2 24 (by decide), rf 22 5 169 (by decide)⟩, fun c hc => rf _ _ _ (e1 c hc), fun c hc k k1 k2 => ?_, rf 169 0 170 (by decide)⟩, ⟨iz 0 (by omega), by omega⟩, ⟨iz 1 (by omega), by omega⟩⟩
  obtain ⟨j, rfl⟩ : ∃ j, k = j + 5 := ⟨k - 5, by omega⟩
  have := rf _ _ _ (e2 c hc j (by omega))
  rw [show j + 5 - 4 = j + 1 by omega]
  exact this
