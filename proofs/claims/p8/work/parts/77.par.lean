/-! THE PARSER: a text; what a call of text() does -/
/-- the tokens of n bytes -/
def p_T (b : Nat → Int32) (n : Nat) : tK := sp_scan b n 800 0
/-- the state with which a text is over -/
def p_all (T : tK) : pS := p_ex T 0 (p_sts T (p_body T 8) (0, false, 0, 0, 0, true))
/-- what the parser wants to find: shapes, references, words -/
def pq (fz : Bool) (S : gS) (p : Nat) (M : rf_M) : Prop := (go (cx0 fz) S 169 2 ∧ sc_S fz S ∧ go (cx0 fz) S p 1 ∧ 25 ≤ p ∧ p + 11 ≤ 168 ∧ (∀ k, 1 ≤ k → k ≤ 9 → ga (cx0 fz) S (p + k) .int 40) ∧ (∀ k, 10 ≤ k → k ≤ 11 → ga (cx0 fz) S (p + k) .int 160)) ∧ (M.2.2 169 0 = some 170 ∧ ∀ k, 5 ≤ k → k ≤ 15 → M.2.2 p k = some (p + (k - 4))) ∧ sc_M fz S (rf_wq M 170 4 (some 23))
/-- nothing else is changed: the program p, the parser, the scanner with its rows -/
def pq_fr (p : Nat) (M M' : rf_M) : Prop := (∀ a k, ¬ (p ≤ a ∧ a ≤ p + 11) → ¬ (169 ≤ a ∧ a ≤ 173) → M'.1 a k = M.1 a k) ∧ M'.2.1 = M.2.1 ∧ ∀ a k, ¬ (a = 169 ∧ k = 1) → ¬ (a = 170 ∧ k = 4) → M'.2.2 a k = M.2.2 a k
theorem kd_of {T : tK} {i : Nat} {e : Int32 × Nat × Int32} (h : T[i]? = some e) : kd T i = e.1 ∧ nb T i = e.2.2 := by
  unfold kd nb
  rw [h]
  exact ⟨rfl, rfl⟩
theorem kd_end (T : tK) : kd T T.length = 0 ∧ nb T T.length = 0 := by
  unfold kd nb
  rw [List.getElem?_eq_none (Nat.le_refl _)]
  exact ⟨rfl, rfl⟩
section PJ
variable {fz : Bool} {S : gS} {p : Nat} {M M' : rf_M}
theorem pz.en {T : tK} {s : pS} {x : Int32} (h : pz fz S p T M s) : pz fz S p T (rf_wi M p 4 x) s := by
  obtain ⟨h0, h1, h2, h3, h4, h5, ⟨cc, h6, h7⟩, h8⟩ := h
  have hp : p + 11 ≤ 168 := h0.1.2.2.2.2.1
  have hf : pz_fr p M (rf_wi M p 4 x) := (pz_fr.rfl' p M).wi (by omega)
  refine ⟨h0.fr hf, ⟨?_, h1.2⟩, ?_, ⟨?_, h3.2⟩, ⟨?_, h4.2⟩, ⟨?_, h5.2⟩, ⟨cc, h6, ?_⟩, ?_⟩
  · rw [rf_wi_of _ _ (by omega)]; exact h1.1
  · rw [rf_wi_of _ _ (by omega)]; exact h2
  · rw [rf_wi_of _ _ (by omega)]; exact h3.1
  · rw [rf_wi_of _ _ (by omega)]; exact h4.1
  · rw [rf_wi_of _ _ (by omega)]; exact h5.1
  · rw [rf_wi_of _ _ (by omega)]; exact h7
  · rw [rf_wi_of _ _ (by omega)]; exact h8
theorem p_reset (hg : go (cx0 fz) S p 1) : gx (cx0 fz) (0, 0) 18 0 [(0, .ref p)] [] (M, S) (fun r h' => r = none ∧ h' = (rf_wi (rf_wi (rf_wi (rf_wi (rf_wi M p 0 (nI 0)) p 1 (nI 0)) p 2 (nI 0)) p 3 (nI 0)) p 4 (Int32.ofInt (-1)), S)) := by
  refine g1 (n := 1) rfl rfl rfl rfl ?_
  refine g1 (n := 1) rfl rfl rfl rfl ?_
  refine m_pf rfl hg rfl (M' := (rf_wi M p 0 (nI 0))) rfl ?_
  refine g1 (n := 1) rfl rfl rfl rfl ?_
  refine g1 (n := 1) rfl rfl rfl rfl ?_
  refine m_pf rfl hg rfl (M' := (rf_wi (rf_wi M p 0 (nI 0)) p 1 (nI 0))) rfl ?_
  refine g1 (n := 1) rfl rfl rfl rfl ?_
  refine g1 (n := 1) rfl rfl rfl rfl ?_
  refine m_pf rfl hg rfl (M' := (rf_wi (rf_wi (rf_wi M p 0 (nI 0)) p 1 (nI 0)) p 2 (nI 0))) rfl ?_
  refine g1 (n := 1) rfl rfl rfl rfl ?_
  refine g1 (n := 1) rfl rfl rfl rfl ?_
  refine m_pf rfl hg rfl (M' := (rf_wi (rf_wi (rf_wi (rf_wi M p 0 (nI 0)) p 1 (nI 0)) p 2 (nI 0)) p 3 (nI 0))) rfl ?_
  refine g1 (n := 1) rfl rfl rfl rfl ?_
  refine g1 (n := 1) rfl rfl rfl rfl ?_
  refine m_pf rfl hg rfl (M' := (rf_wi (rf_wi (rf_wi (rf_wi (rf_wi M p 0 (nI 0)) p 1 (nI 0)) p 2 (nI 0)) p 3 (nI 0)) p 4 (Int32.ofInt (-1)))) rfl ?_
  exact gx_ret rfl rfl ⟨rfl, rfl⟩
theorem p_parse {n : Nat} (h : pq fz S p M) (hn : n ≤ 800) : gx (cx0 fz) (80, 1980) 17 0 [(0, .ref 169), (1, .ref 23), (2, .int (nI n)), (3, .ref p)] [] (M, S) (fun r h' => ∃ z M', r = some (.int z) ∧ h' = (M', S) ∧ decide (z = -1) = (p_all (p_T (M.1 23) n)).2.2.2.2.2 ∧ M'.1 p 0 = nI (p_all (p_T (M.1 23) n)).2.2.1 ∧ M'.1 p 1 = nI (p_all (p_T (M.1 23) n)).2.2.2.1 ∧ M'.1 p 2 = nI (p_all (p_T (M.1 23) n)).2.2.2.2.1 ∧ pq_fr p M M') := by
  obtain ⟨hh, ⟨r0, r5⟩, hM⟩ := h
  have hpb : 25 ≤ p ∧ p + 11 ≤ 168 := ⟨hh.2.2.2.1, hh.2.2.2.2.1⟩
  refine g1 (n := 1) rfl rfl rfl rfl ?_
  refine g1 (n := 1) rfl rfl rfl rfl ?_
  refine m_pf rfl hh.1 rfl (M' := rf_wq M 169 1 (some p)) rfl ?_
  refine g1 (n := 1) rfl rfl rfl rfl ?_
  refine m_gf rfl hh.1 rfl (v := .ref p) (by show va_rf ((rf_wq M 169 1 (some p)).2.2 169 1) = _; rw [rf_wq_at]; rfl) ?_
  refine m_iv (a := p) (as := []) (rest := []) rfl (by decide) hh.2.2.1 rfl rfl (Nat.le_of_ble_eq_true rfl) ⟨by show 1 ≤ 80; omega, by show 1 + 19 ≤ 1980; omega, Nat.le_of_ble_eq_true rfl⟩ ?_
  refine gx_room (gx_mono (p_reset (M := rf_wq M 169 1 (some p)) hh.2.2.1) ?_) (Nat.zero_le _) (Nat.zero_le _)
  rintro r h' ⟨rfl, rfl⟩
  generalize hMa : rf_wi (rf_wi (rf_wi (rf_wi (rf_wi (rf_wq M 169 1 (some p)) p 0 (nI 0)) p 1 (nI 0)) p 2 (nI 0)) p 3 (nI 0)) p 4 (Int32.ofInt (-1)) = Ma
  have a0 : Ma.1 p 0 = nI 0 := by rw [← hMa, rf_wi_of _ _ (by omega), rf_wi_of _ _ (by omega), rf_wi_of _ _ (by omega), rf_wi_of _ _ (by omega), rf_wi_at]
  have a1 : Ma.1 p 1 = nI 0 := by rw [← hMa, rf_wi_of _ _ (by omega), rf_wi_of _ _ (by omega), rf_wi_of _ _ (by omega), rf_wi_at]
  have a2 : Ma.1 p 2 = nI 0 := by rw [← hMa, rf_wi_of _ _ (by omega), rf_wi_of _ _ (by omega), rf_wi_at]
  have a3 : Ma.1 p 3 = nI 0 := by rw [← hMa, rf_wi_of _ _ (by omega), rf_wi_at]
  have aI : ∀ a k, a ≠ p → Ma.1 a k = M.1 a k := fun a k hak => by
    rw [← hMa, rf_wi_of _ _ (by omega), rf_wi_of _ _ (by omega), rf_wi_of _ _ (by omega), rf_wi_of _ _ (by omega), rf_wi_of _ _ (by omega)]
    rfl
  have aR : Ma.2 = (rf_wq M 169 1 (some p)).2 := by rw [← hMa]; rfl
  clear hMa
  refine g1 (n := 1) rfl rfl rfl rfl ?_
  refine g1 (n := 1) rfl rfl rfl rfl ?_
  refine m_pf rfl hh.1 rfl (M' := rf_wi Ma 169 2 (nI 0)) rfl ?_
  refine g1 (n := 1) rfl rfl rfl rfl ?_
  refine g1 (n := 1) rfl rfl rfl rfl ?_
  refine m_pf rfl hh.1 rfl (M' := rf_wi (rf_wi Ma 169 2 (nI 0)) 169 3 (Int32.ofInt (-1))) rfl ?_
  refine g1 (n := 1) rfl rfl rfl rfl ?_
  refine g1 (n := 1) rfl rfl rfl rfl ?_
  refine m_pf rfl hh.1 rfl (M' := rf_wi (rf_wi (rf_wi Ma 169 2 (nI 0)) 169 3 (Int32.ofInt (-1))) 169 4 (bI false)) rfl ?_
  generalize hMb : rf_wi (rf_wi (rf_wi Ma 169 2 (nI 0)) 169 3 (Int32.ofInt (-1))) 169 4 (bI false) = Mb
  have b2 : Mb.1 169 2 = nI 0 := by rw [← hMb, rf_wi_of _ _ (by omega), rf_wi_of _ _ (by omega), rf_wi_at]
  have b3 : Mb.1 169 3 = Int32.ofInt (-1) := by rw [← hMb, rf_wi_of _ _ (by omega), rf_wi_at]
  have b4 : Mb.1 169 4 = bI false := by rw [← hMb, rf_wi_at]
  have bI2 : ∀ a k, a ≠ 169 → Mb.1 a k = Ma.1 a k := fun a k hak => by rw [← hMb, rf_wi_of _ _ (by omega), rf_wi_of _ _ (by omega), rf_wi_of _ _ (by omega)]
  have bR : Mb.2 = (rf_wq M 169 1 (some p)).2 := by rw [← hMb]; exact aR
  clear hMb
  have bR2 : ∀ a k, ¬ (a = 169 ∧ k = 1) → Mb.2.2 a k = M.2.2 a k := fun a k hak => by rw [bR]; exact rf_wq_of M (some p) (by omega)
  refine g1 (n := 1) rfl rfl rfl rfl ?_
  refine m_gf rfl hh.1 rfl (v := .ref 170) (by show va_rf (Mb.2.2 169 0) = _; rw [bR2 169 0 (by omega), r0]; rfl) ?_
  refine g1 (n := 1) rfl rfl rfl rfl ?_
  refine g1 (n := 1) rfl rfl rfl rfl ?_
  refine m_iv (a := 170) (as := [.ref 23, .int (nI n)]) (rest := []) rfl (by decide) hh.2.1.1 rfl rfl (Nat.le_of_ble_eq_true rfl) ⟨by show 1 ≤ 80; omega, by show 4 + 19 ≤ 1980; omega, Nat.le_of_ble_eq_true rfl⟩ ?_
  have hMb2 : sc_M fz S (rf_wq Mb 170 4 (some 23)) := by
    have e1 : ∀ c k, c < 22 → (rf_wq Mb 170 4 (some 23)).1 c k = (rf_wq M 170 4 (some 23)).1 c k := fun c k hc => (bI2 c k (by omega)).trans (aI c k (by omega))
    have e2 : ∀ c k, ¬ (c = 169 ∧ k = 1) → (rf_wq Mb 170 4 (some 23)).2.2 c k = (rf_wq M 170 4 (some 23)).2.2 c k := fun c k hck => by
      by_cases h4 : c = 170 ∧ k = 4
      · obtain ⟨rfl, rfl⟩ := h4
        rw [rf_wq_at, rf_wq_at]
      · rw [rf_wq_of _ _ (by omega), rf_wq_of _ _ (by omega)]
        exact bR2 c k hck
    obtain ⟨⟨m1, m2, m3, m4⟩, w1, w2, w3, w4, w5, w6, w7, w8, w9, w10⟩ := hM
    exact ⟨⟨(e2 _ _ (by omega)).trans m1, (e2 _ _ (by omega)).trans m2, (e2 _ _ (by omega)).trans m3, (e2 _ _ (by omega)).trans m4⟩, sc_w_of e1 (e2 _ _ (by omega)) ⟨by omega, by omega⟩ w1, sc_w_of e1 (e2 _ _ (by omega)) ⟨by omega, by omega⟩ w2, sc_w_of e1 (e2 _ _ (by omega)) ⟨by omega, by omega⟩ w3, sc_w_of e1 (e2 _ _ (by omega)) ⟨by omega, by omega⟩ w4, sc_w_of e1 (e2 _ _ (by omega)) ⟨by omega, by omega⟩ w5, sc_w_of e1 (e2 _ _ (by omega)) ⟨by omega, by omega⟩ w6, sc_w_of e1 (e2 _ _ (by omega)) ⟨by omega, by omega⟩ w7, sc_w_of e1 (e2 _ _ (by omega)) ⟨by omega, by omega⟩ w8, sc_w_of e1 (e2 _ _ (by omega)) ⟨by omega, by omega⟩ w9, sc_w_of e1 (e2 _ _ (by omega)) ⟨by omega, by omega⟩ w10⟩
  refine gx_room (gx_mono (sc_scan (M := Mb) hh.2.1 hMb2 hn) ?_) (by show 8 ≤ 80 - 1; omega) (by show 260 ≤ 1980 - (4 + 19); omega)
  rintro r h' ⟨rfl, Mc, rfl, hd⟩
  have etape : Mb.1 23 = M.1 23 := by funext k; exact (bI2 23 k (by omega)).trans (aI 23 k (by omega))
  rw [etape] at hd
  show gx (cx0 fz) (80, 1980) 17 36 _ _ _ _
  change sc_done fz S Mb n (p_T (M.1 23) n) Mc at hd
  have hst0 : ∀ e ∈ p_T (M.1 23) n, e.2.1 < n := fun e he => (sp_scan_b 800 0 e he).2.1
  generalize p_T (M.1 23) n = T at hd hst0 ⊢
  have hst : ∀ (i : Nat) (hi : i < T.length), T[i].2.1 ≤ 800 := fun i hi => by have := hst0 _ (List.getElem_mem hi); omega
  obtain ⟨d1, d2, d3, d4, d5, d6, d7, ⟨d8, d9, d10⟩, -, -⟩ := hd
  have cR : ∀ a k, ¬ (a = 169 ∧ k = 1) → ¬ (a = 170 ∧ k = 4) → Mc.2.2 a k = M.2.2 a k := fun a k k1 k2 => by rw [d10]; exact (rf_wq_of Mb (some 23) (by omega)).trans (bR2 a k k1)
  have cP : Mc.2.2 169 1 = some p := by rw [d10, rf_wq_of _ _ (by omega), bR, rf_wq_at]
  have cI : ∀ a k, a ≠ p → ¬ (169 ≤ a ∧ a ≤ 173) → Mc.1 a k = M.1 a k := fun a k k1 k2 => ((d8 a k (by omega) (by omega)).trans (bI2 a k (by omega))).trans (aI a k k1)
  have cp : ∀ k, Mc.1 p k = Ma.1 p k := fun k => (d8 p k (by omega) (by omega)).trans (bI2 p k (by omega))
  have c9 : ∀ k, Mc.1 169 k = Mb.1 169 k := fun k => d8 169 k (by omega) (by omega)
  have q0 : pz fz S p T Mc (0, false, 0, 0, 0, true) := by
    refine ⟨⟨hh, ⟨(cR 169 0 (by omega) (by omega)).trans r0, cP, d1.1.1, d1.1.2.1, d1.1.2.2.1, fun k k1 k2 => (cR p k (by omega) (by omega)).trans (r5 k k1 k2)⟩, d3, d2, fun i hi => ?_⟩, ⟨(c9 2).trans b2, Nat.zero_le _⟩, (c9 4).trans b4, ⟨(cp 0).trans a0, by decide⟩, ⟨(cp 1).trans a1, by decide⟩, ⟨(cp 2).trans a2, by decide⟩, ⟨0, by decide, (cp 3).trans a3⟩, ?_⟩
    · by_cases hi2 : i = T.length
      · subst hi2
        obtain ⟨k1, k2⟩ := kd_end T
        rw [k1, k2]
        exact ⟨d5, ⟨n, hn, d6⟩, d7⟩
      · have hi3 : i < T.length := by omega
        have he := List.getElem?_eq_getElem hi3
        obtain ⟨e1, e2, e3⟩ := d4 i _ he
        obtain ⟨k1, k2⟩ := kd_of he
        rw [k1, k2]
        exact ⟨e1, ⟨T[i].2.1, hst i hi3, e2⟩, e3⟩
    · rw [c9 3, b3]; rfl
  refine g1 (n := 1) rfl rfl rfl rfl ?_
  refine m_gf rfl q0.1.1.1 rfl (pz_prog q0) ?_
  refine g1 (n := 1) rfl rfl rfl rfl ?_
  refine g1 (n := 1) rfl rfl rfl rfl ?_
  refine g1 (n := 1) rfl rfl rfl rfl ?_
  refine g1 (n := 1) rfl rfl rfl rfl ?_
  refine m_iv (a := 169) (as := [.int _, .int _, .int (nI 0)]) (rest := [.ref p]) rfl (by decide) q0.1.1.1 rfl rfl (Nat.le_of_ble_eq_true rfl) ⟨by show 1 ≤ 80; omega, by show 8 + 19 ≤ 1980; omega, Nat.le_of_ble_eq_true rfl⟩ ?_
  refine gx_room (gx_mono (p_top Mc _ q0) ?_) (by show 75 ≤ 80 - 1; omega) (by show 1894 ≤ 1980 - (8 + 19); omega)
  rintro r h' ⟨z, Md, rfl, -, rfl, q1, q2⟩
  refine m_pf rfl q1.1.1.2.2.1 rfl (M' := rf_wi Md p 4 z) rfl ?_
  have q3 : pz fz S p T (rf_wi Md p 4 z) (p_sts T (p_body T 8) (0, false, 0, 0, 0, true)) := q1.en
  have q4 : pz_fr p Mc (rf_wi Md p 4 z) := q2.wi (by omega)
  generalize rf_wi Md p 4 z = Me at q3 q4 ⊢
  refine g1 (n := 1) rfl rfl rfl rfl ?_
  refine g1 (n := 1) rfl rfl rfl rfl ?_
  refine m_iv (a := 169) (as := [.int 0]) (rest := []) rfl (by decide) q3.1.1.1 rfl rfl (Nat.le_of_ble_eq_true rfl) ⟨by show 1 ≤ 80; omega, by show 2 + 19 ≤ 1980; omega, Nat.le_of_ble_eq_true rfl⟩ ?_
  refine gx_room (gx_mono (p_expect Me _ q3) ?_) (by show 1 ≤ 80 - 1; omega) (by show 40 ≤ 1980 - (2 + 19); omega)
  rintro r h' ⟨rfl, Mf, rfl, q5, q6⟩
  refine g1 (n := 1) rfl rfl rfl rfl ?_
  refine m_gf rfl q5.1.1.1 rfl (v := .int (Mf.1 169 3)) rfl ?_
  have q7 := q4.trans q6
  refine gx_ret rfl rfl ⟨_, Mf, rfl, rfl, q5.2.2.2.2.2.2.2, q5.2.2.2.1.1, q5.2.2.2.2.1.1, q5.2.2.2.2.2.1.1, fun a k k1 k2 => ?_, ?_, fun a k k1 k2 => ?_⟩
  · exact (q7.1 a k k1 (by omega)).trans (cI a k (by omega) k2)
  · rw [show Mf.2.1 = Mc.2.1 by rw [q7.2], d9, show Mb.2.1 = M.2.1 by rw [bR]; rfl]
  · rw [show Mf.2.2 = Mc.2.2 by rw [q7.2]]; exact cR a k k1 k2
end PJ
