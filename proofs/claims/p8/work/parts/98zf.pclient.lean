/-! THE PROGRAM'S CLIENTS AND ROWS -/
section PC1
variable {M M' : rf_M} {p a A n cc c0 c hw k : Nat} {X : txT} {en : Int} {K : Int → rf_M → Prop} {Ts : tsT} {w : wdT} {r : rdT} {g : sgT} {cl : clT} {S : syT}
theorem rnR.eq3 (hpa : p + 11 < a) (R : rnR M a p X n cc en g r k) (e : ∀ b k, (a ≤ b ∧ b ≤ a + 12) ∨ b ≤ p + 11 → M'.1 b k = M.1 b k ∧ M'.2.1 b k = M.2.1 b k ∧ M'.2.2 b k = M.2.2 b k) : rnR M' a p X n cc en g r k := by
  obtain ⟨hk, hw, hh, R0⟩ := R
  have y : eqy (fun b _ => ¬ ((a ≤ b ∧ b ≤ a + 12) ∨ b ≤ p + 11)) M (M'.1, M'.2.1, M.2.2) := ⟨fun b k q => ⟨(e b k (Classical.not_not.mp q)).1, (e b k (Classical.not_not.mp q)).2.1⟩, rfl⟩
  have R1 := rn0.eqR (r' := r) hpa R0 y (fun b k h => fun q => q (by omega)) (R0.2.2.2.2.2.eqP y (fun b k h => fun q => q (by omega)))
  exact ⟨(congrArg Int32.toInt (e a 1 (by omega)).1).trans hk, hw, hh, (e a 0 (by omega)).2.2.trans R0.1, R1.2⟩
/-- a client's cells but for its state and run -/
def pcb (M : rf_M) (A : Nat) (cl : clT) : Prop := (gi M A 5 = (cl.1.length : Int) ∧ ∀ j, j < cl.1.length → gi M (A + 1) j = ((cl.1.getD j 0 : Nat) : Int)) ∧ gi M A 1 = cl.2.1 ∧ gi M A 2 = (if cl.2.2.1 = true then 1 else 0)
def pcw (M : rf_M) (A : Nat) (cl : clT) : Prop := cl.2.2.2.1 = 2 → M.1 A 6 = cl.2.2.2.2.2.2.1 ∧ ∀ l, l < 16 → bt cl.2.2.2.2.2.2.1 l = true → M.1 (A + 2) l = cl.2.2.2.2.2.2.2.2 l
def pcr (M : rf_M) (Ts : tsT) (A : Nat) (cl : clT) : Prop := cl.2.2.2.1 = 1 → rnR M (A + 3) (25 + 12 * cl.1.headD 0) (Ts (cl.1.headD 0)).1 (Ts (cl.1.headD 0)).2.1 (Ts (cl.1.headD 0)).2.2.1 (Ts (cl.1.headD 0)).2.2.2 cl.2.2.2.2.2.1 cl.2.2.2.2.2.2 cl.2.2.2.2.1
def pcl (M : rf_M) (Ts : tsT) (A : Nat) (cl : clT) : Prop := pcb M A cl ∧ gi M A 0 = (if cl.1.length = 0 then 0 else (cl.2.2.2.1 : Int) + 1) ∧ pcr M Ts A cl ∧ pcw M A cl
theorem pcb.eq (h : pcb M A cl) (e : ∀ b k, (b = A ∧ (k = 1 ∨ k = 2 ∨ k = 5)) ∨ b = A + 1 → M'.1 b k = M.1 b k) : pcb M' A cl := ⟨⟨(congrArg Int32.toInt (e _ _ (by omega))).trans h.1.1, fun j hj => (congrArg Int32.toInt (e _ _ (by omega))).trans (h.1.2 j hj)⟩, (congrArg Int32.toInt (e _ _ (by omega))).trans h.2.1, (congrArg Int32.toInt (e _ _ (by omega))).trans h.2.2⟩
theorem pcw.eq (h : pcw M A cl) (e : ∀ b k, (b = A ∧ k = 6) ∨ b = A + 2 → M'.1 b k = M.1 b k) : pcw M' A cl := fun q => ⟨(e _ _ (by omega)).trans (h q).1, fun l hl b => (e _ _ (by omega)).trans ((h q).2 l hl b)⟩
theorem pcl.eq (hA : 196 ≤ A) (hh : cl.2.2.2.1 = 1 → cl.1.headD 0 < 12) (h : pcl M Ts A cl) (e : ∀ b k, (A ≤ b ∧ b ≤ A + 15) ∨ b ≤ 168 → M'.1 b k = M.1 b k ∧ M'.2.1 b k = M.2.1 b k ∧ M'.2.2 b k = M.2.2 b k) : pcl M' Ts A cl := by
  obtain ⟨h1, h2, h3, h4⟩ := h
  refine ⟨h1.eq (fun b k h => (e b k (by omega)).1), (congrArg Int32.toInt (e A 0 (by omega)).1).trans h2, fun q => ?_, h4.eq (fun b k h => (e b k (by omega)).1)⟩
  have := hh q
  exact (h3 q).eq3 (by omega) (fun b k h => e b k (by omega))
/-- the rows -/
def prw (M : rf_M) (rows : List rwT) : Prop := gi M 324 0 = (rows.length : Int) ∧ ∀ i, i < rows.length → gi M 325 i = (rows.getD i ((0, 0, 0, 0, 0), 0)).1.1 ∧ gi M 326 i = (rows.getD i ((0, 0, 0, 0, 0), 0)).1.2.1 ∧ gi M 327 i = (rows.getD i ((0, 0, 0, 0, 0), 0)).1.2.2.1 ∧ gi M 328 i = (rows.getD i ((0, 0, 0, 0, 0), 0)).1.2.2.2.1 ∧ gi M 329 i = (rows.getD i ((0, 0, 0, 0, 0), 0)).1.2.2.2.2 ∧ gl M 330 i = (rows.getD i ((0, 0, 0, 0, 0), 0)).2
theorem prw.eq {rows : List rwT} (h : prw M rows) (e : ∀ b k, 324 ≤ b → b ≤ 330 → M'.1 b k = M.1 b k ∧ M'.2.1 b k = M.2.1 b k) : prw M' rows := by
  have q : ∀ b k, 324 ≤ b → b ≤ 330 → gi M' b k = gi M b k := fun b k h1 h2 => congrArg Int32.toInt (e b k h1 h2).1
  refine ⟨(q _ _ (by omega) (by omega)).trans h.1, fun i hi => ?_⟩
  obtain ⟨a1, a2, a3, a4, a5, a6⟩ := h.2 i hi
  exact ⟨(q _ _ (by omega) (by omega)).trans a1, (q _ _ (by omega) (by omega)).trans a2, (q _ _ (by omega) (by omega)).trans a3, (q _ _ (by omega) (by omega)).trans a4, (q _ _ (by omega) (by omega)).trans a5, (e _ _ (by omega) (by omega)).2.trans a6⟩
theorem x_note {rows : List rwT} {row : rwT} {K : rf_M → Prop} (h : prw M rows) (hR : rows.length < 300) (hi : inr row.1.1 ∧ inr row.1.2.1 ∧ inr row.1.2.2.1 ∧ inr row.1.2.2.2.1 ∧ inr row.1.2.2.2.2) (kk : ∀ M', eqy (fun b _ => 324 ≤ b ∧ b ≤ 330) M M' → prw M' (rows ++ [row]) → K M') : em_J_note row.1.1 row.1.2.1 row.1.2.2.1 row.1.2.2.2.1 row.1.2.2.2.2 row.2 M K := by
  refine ⟨fun _ => ⟨Or.inl rfl, fun _ _ M2 e2 _ M3 e3 _ M4 e4 _ M5 e5 _ M6 e6 _ M7 e7 M8 e8 => ?_, fun q => absurd rfl q⟩, fun q => absurd (by rw [h.1]; omega) q⟩
  have g2 : gi M2 324 0 = (rows.length : Int) := by rw [e2, gi_of (Or.inl (by omega))]; exact h.1
  have g3 : gi M3 324 0 = (rows.length : Int) := by rw [e3, gi_of (Or.inl (by omega))]; exact g2
  have g4 : gi M4 324 0 = (rows.length : Int) := by rw [e4, gi_of (Or.inl (by omega))]; exact g3
  have g5 : gi M5 324 0 = (rows.length : Int) := by rw [e5, gi_of (Or.inl (by omega))]; exact g4
  have g6 : gi M6 324 0 = (rows.length : Int) := by rw [e6, gi_of (Or.inl (by omega))]; exact g5
  have g7 : gi M7 324 0 = (rows.length : Int) := by rw [e7]; exact g6
  rw [h.1, tn_] at e2
  rw [g2, tn_] at e3
  rw [g3, tn_] at e4
  rw [g4, tn_] at e5
  rw [g5, tn_] at e6
  rw [g6, tn_] at e7
  rw [g7] at e8
  have y : eqy (fun b _ => 324 ≤ b ∧ b ≤ 330) M M8 := by
    rw [e8, e7, e6, e5, e4, e3, e2]
    exact (((((((eqy.rfl' M).wi ⟨by omega, by omega⟩).wi ⟨by omega, by omega⟩).wi ⟨by omega, by omega⟩).wi ⟨by omega, by omega⟩).wi ⟨by omega, by omega⟩).wl ⟨by omega, by omega⟩).wi ⟨by omega, by omega⟩
  obtain ⟨i1, i2, i3, i4, i5⟩ := hi
  refine kk M8 y ⟨?_, fun i hi => ?_⟩
  · rw [e8, gi_at (inr_z (by omega) (by omega))]
    simp
  · by_cases e : i = rows.length
    · have er : (rows ++ [row]).getD i ((0, 0, 0, 0, 0), 0) = row := by
        have := app_getD2 (l := rows) (m := [row]) (j := 0) (d := ((0, 0, 0, 0, 0), 0)) (by simp)
        rw [Nat.add_zero, ← e] at this
        exact this
      rw [er, e]
      refine ⟨?_, ?_, ?_, ?_, ?_, ?_⟩
      · rw [e8, gi_of (Or.inl (by omega)), e7, gi_wl, e6, gi_of (Or.inl (by omega)), e5, gi_of (Or.inl (by omega)), e4, gi_of (Or.inl (by omega)), e3, gi_of (Or.inl (by omega)), e2, gi_at i1]
      · rw [e8, gi_of (Or.inl (by omega)), e7, gi_wl, e6, gi_of (Or.inl (by omega)), e5, gi_of (Or.inl (by omega)), e4, gi_of (Or.inl (by omega)), e3, gi_at i2]
      · rw [e8, gi_of (Or.inl (by omega)), e7, gi_wl, e6, gi_of (Or.inl (by omega)), e5, gi_of (Or.inl (by omega)), e4, gi_at i3]
      · rw [e8, gi_of (Or.inl (by omega)), e7, gi_wl, e6, gi_of (Or.inl (by omega)), e5, gi_at i4]
      · rw [e8, gi_of (Or.inl (by omega)), e7, gi_wl, e6, gi_at i5]
      · rw [e8, gl_wi, e7, gl_at]
    · have hi' : i < rows.length := by simp at hi; omega
      rw [app_getD1 hi']
      obtain ⟨a1, a2, a3, a4, a5, a6⟩ := h.2 i hi'
      refine ⟨?_, ?_, ?_, ?_, ?_, ?_⟩
      · rw [e8, gi_of (Or.inl (by omega)), e7, gi_wl, e6, gi_of (Or.inl (by omega)), e5, gi_of (Or.inl (by omega)), e4, gi_of (Or.inl (by omega)), e3, gi_of (Or.inl (by omega)), e2, gi_of (Or.inr e)]; exact a1
      · rw [e8, gi_of (Or.inl (by omega)), e7, gi_wl, e6, gi_of (Or.inl (by omega)), e5, gi_of (Or.inl (by omega)), e4, gi_of (Or.inl (by omega)), e3, gi_of (Or.inr e), e2, gi_of (Or.inl (by omega))]; exact a2
      · rw [e8, gi_of (Or.inl (by omega)), e7, gi_wl, e6, gi_of (Or.inl (by omega)), e5, gi_of (Or.inl (by omega)), e4, gi_of (Or.inr e), e3, gi_of (Or.inl (by omega)), e2, gi_of (Or.inl (by omega))]; exact a3
      · rw [e8, gi_of (Or.inl (by omega)), e7, gi_wl, e6, gi_of (Or.inl (by omega)), e5, gi_of (Or.inr e), e4, gi_of (Or.inl (by omega)), e3, gi_of (Or.inl (by omega)), e2, gi_of (Or.inl (by omega))]; exact a4
      · rw [e8, gi_of (Or.inl (by omega)), e7, gi_wl, e6, gi_of (Or.inr e), e5, gi_of (Or.inl (by omega)), e4, gi_of (Or.inl (by omega)), e3, gi_of (Or.inl (by omega)), e2, gi_of (Or.inl (by omega))]; exact a5
      · rw [e8, gl_wi, e7, gl_of (Or.inr e), e6, e5, e4, e3, e2]; exact a6
theorem x_begin {K : rf_M → Prop} (ha : 199 ≤ a) (hp : p ∈ k1) (hX : wfx X n cc en) (ht : ptx M p X n cc en) (kk : ∀ M', (∀ b k, ¬ (a ≤ b ∧ b ≤ a + 4) → M'.1 b k = M.1 b k ∧ M'.2.1 b k = M.2.1 b k ∧ M'.2.2 b k = M.2.2 b k) → rnR M' a p X n cc en (run0 en) rd0 0 → K M') : em_R_begin a p M K := by
  have hk1 := k1_or hp
  intro M1 e1 M2 e2 M3 e3 M4 e4 M5 e5 M6 e6 M7 e7
  have g4 : gi M1 p 4 = en := by rw [e1]; exact ht.1.2.2
  rw [g4] at e2
  refine ⟨fun v0 v1 v3 v4 M' => v0 = a + 2 + 2 ∧ v1 = Int64.ofNat 0 ∧ v4 = 10 ∧ ∃ j : Nat, v3 = (j : Int) ∧ j ≤ 10 ∧ eqy (fun b _ => b = a + 4) M7 M' ∧ ∀ l, l < j → gl M' (a + 4) l = 0, ⟨rfl, rfl, rfl, 0, rfl, by omega, eqy.rfl' _, fun l h => absurd h (by omega)⟩, ?_⟩
  rintro v0 v1 v3 v4 M8 - - ⟨rfl, rfl, rfl, j, rfl, hj, y8, h8⟩
  refine ⟨fun hq => ?_, fun hq _ M9 e9 => ⟨inr_z (by omega) (by omega), rfl, rfl, rfl, j + 1, by omega, by omega, by rw [e9]; exact y8.wl rfl, fun l hl => ?_⟩⟩
  · have e7 : M7 = wi M6 (a + 2) 3 0 := e7
    have y17 : eqy (fun b k => (b = a ∧ (k = 1 ∨ k = 2 ∨ k = 3 ∨ k = 6)) ∨ (b = a + 2 ∧ (k = 0 ∨ k = 3))) M1 M7 := by
      rw [e7, e6, e5, e4, e3, e2]
      exact ((((((eqy.rfl' M1).wi (Or.inl ⟨rfl, by omega⟩)).wi (Or.inl ⟨rfl, by omega⟩)).wi (Or.inl ⟨rfl, by omega⟩)).wl (Or.inl ⟨rfl, by omega⟩)).wi (Or.inr ⟨rfl, by omega⟩)).wi (Or.inr ⟨rfl, by omega⟩)
    have y18 : eqy (fun b k => (b = a ∧ (k = 1 ∨ k = 2 ∨ k = 3 ∨ k = 6)) ∨ (b = a + 2 ∧ (k = 0 ∨ k = 3)) ∨ b = a + 4) M1 M8 := (y17.mono (fun b k h => by omega)).trans (y8.mono (fun b k h => by omega))
    have ref0 : M8.2.2 a 0 = some p := by
      rw [y18.2, e1]
      exact rf_wq_at _ _ _ _
    have fr : ∀ b k, ¬ (a ≤ b ∧ b ≤ a + 4) → M8.1 b k = M.1 b k ∧ M8.2.1 b k = M.2.1 b k ∧ M8.2.2 b k = M.2.2 b k := fun b k h => by
      have q := y18.1 b k (by omega)
      refine ⟨?_, ?_, ?_⟩
      · rw [q.1, e1]; rfl
      · rw [q.2, e1]; rfl
      · rw [y18.2, e1]
        exact rf_wq_of _ _ (Or.inl (by omega))
    have ien : inr en := by
      rcases hX.2.2.2.2.1 with q | ⟨x, q1, q2, -⟩
      · exact inr_z (by omega) (by omega)
      · have := hX.1
        exact inr_z (by omega) (by omega)
    have gr0 := grl_0 (f := fun z => z) (v := vP M8 a X) hX (by
      refine ⟨?_, fun l _ b => ?_, fun l hl => h8 l (by omega), ?_⟩
      · show M8.1 (a + 2) 0 = 0
        rw [(y8.1 (a + 2) 0 (by omega)).1, e7]
        show (rf_wi M6 (a + 2) 3 _).1 (a + 2) 0 = _
        rw [rf_wi_of _ _ (Or.inr (by omega)), e6]
        show (rf_wi M5 (a + 2) 0 _).1 (a + 2) 0 = _
        rw [rf_wi_at]
        rfl
      · rw [show bt mk0.1 l = false from bt_0 l] at b; cases b
      · show gi M8 (a + 2) 3 = 0
        rw [y8.i (by omega), e7, gi_at (inr_z (by omega) (by omega))])
    refine kk M8 fr ⟨?_, 0, Nat.le_refl _, ref0, ?_, ?_, gr0.2, gr0.1, ?_, fun l _ b => ?_⟩
    · rw [y8.i (by omega), e7, gi_of (Or.inl (by omega)), e6, gi_of (Or.inl (by omega)), e5, gi_wl, e4, gi_of (Or.inr (by omega)), e3, gi_at (inr_z (by omega) (by omega))]
      rfl
    · have t1 : ptx M1 p X n cc en := by rw [e1]; exact ht
      exact t1.eq y18 (fun b k _ _ => by omega)
    · show gi M8 a 6 = en
      rw [y8.i (by omega), e7, gi_of (Or.inl (by omega)), e6, gi_of (Or.inl (by omega)), e5, gi_wl, e4, gi_of (Or.inr (by omega)), e3, gi_of (Or.inr (by omega)), e2, gi_at ien]
    · show M8.1 a 2 = 0
      rw [(y8.1 a 2 (by omega)).1, e7]
      show (rf_wi M6 (a + 2) 3 _).1 a 2 = _
      rw [rf_wi_of _ _ (Or.inl (by omega)), e6]
      show (rf_wi M5 (a + 2) 0 _).1 a 2 = _
      rw [rf_wi_of _ _ (Or.inl (by omega)), e5]
      show M4.1 a 2 = _
      rw [e4]
      show (rf_wi M3 a 2 _).1 a 2 = _
      rw [rf_wi_at]
      rfl
    · rw [show bt rd0.1 l = false from bt_0 l] at b; cases b
  · have e9 : M9 = wl M8 (a + 4) j (Int64.ofNat 0) := by rw [tn_] at e9; exact e9
    by_cases e : l = j
    · rw [e, e9, gl_at]; rfl
    · rw [e9, gl_of (Or.inr e)]
      exact h8 l (by omega)
theorem x_cut {K : rf_M → Prop} (hi : inr (gi M A 1 + 1)) (kk : ∀ M', eqy (fun b k => b = A ∧ (k = 0 ∨ k = 1 ∨ k = 2)) M M' → gi M' A 0 = 1 → gi M' A 1 = gi M A 1 + 1 → gi M' A 2 = (if decide (4 ≤ gi M A 1 + 1) = true then 1 else 0) → K M') : em_C_cut A M K := by
  intro M1 e1 M2 e2
  have g1 : gi M1 A 1 = gi M A 1 := by rw [e1, gi_of (Or.inr (by omega))]
  rw [g1] at e2
  have g2 : gi M2 A 1 = gi M A 1 + 1 := by rw [e2, gi_at hi]
  have fin : ∀ (z : Int) M3, inr z → z = (if decide (4 ≤ gi M A 1 + 1) = true then 1 else 0) → M3 = wi M2 A 2 z → K M3 := fun z M3 iz hz e3 => by
    refine kk M3 ?_ ?_ ?_ ?_
    · rw [e3, e2, e1]
      exact (((eqy.rfl' M).wi ⟨rfl, by omega⟩).wi ⟨rfl, by omega⟩).wi ⟨rfl, by omega⟩
    · rw [e3, gi_of (Or.inr (by omega)), e2, gi_of (Or.inr (by omega)), e1, gi_at (inr_z (by omega) (by omega))]
    · rw [e3, gi_of (Or.inr (by omega)), g2]
    · rw [e3, gi_at iz, hz]
  refine ⟨fun h => ⟨Or.inl rfl, fun M3 e3 => fin 0 M3 (inr_z (by omega) (by omega)) ?_ e3⟩, fun h => ⟨Or.inr rfl, fun M3 e3 => fin 1 M3 (inr_z (by omega) (by omega)) ?_ e3⟩⟩
  · rw [g2] at h
    rw [if_neg (by simp; omega)]
  · rw [g2] at h
    rw [if_pos (by simp; omega)]
theorem x_rest {K : rf_M → Prop} (kk : ∀ M', eqy (fun b k => (b = A ∧ (k = 0 ∨ k = 2 ∨ k = 6)) ∨ b = A + 2) M M' → gi M' A 0 = 3 → gi M' A 2 = 0 → M'.1 A 6 = M.1 (A + 3) 2 → (∀ l, l < 16 → M'.1 (A + 2) l = M.1 (A + 4) l) → K M') : em_C_rest A M K := by
  intro M1 e1 M2 e2 M3 e3 _ M4 e4
  have g2 : gi M2 (A + 3) 2 = gi M (A + 3) 2 := by rw [e2, gi_of (Or.inl (by omega)), e1, gi_of (Or.inl (by omega))]
  rw [g2] at e3
  have y3 : eqy (fun b k => b = A ∧ (k = 0 ∨ k = 2 ∨ k = 6)) M M3 := by
    rw [e3, e2, e1]
    exact (((eqy.rfl' M).wi ⟨rfl, by omega⟩).wi ⟨rfl, by omega⟩).wi ⟨rfl, by omega⟩
  have i4 : ∀ b k, b ≠ A + 2 → M4.1 b k = M3.1 b k := fun b k h => by
    rw [e4]
    show va_up M3.1 (A + 2) _ b k = _
    rw [va_up_of h]
  refine kk M4 ?_ ?_ ?_ ?_ (fun l hl => ?_)
  · rw [e4]
    exact (y3.mono (fun b k h => Or.inl h)).cpi (fun _ => Or.inr rfl)
  · rw [show gi M4 A 0 = gi M3 A 0 from congrArg Int32.toInt (i4 A 0 (by omega)), e3, gi_of (Or.inr (by omega)), e2, gi_of (Or.inr (by omega)), e1, gi_at (inr_z (by omega) (by omega))]
  · rw [show gi M4 A 2 = gi M3 A 2 from congrArg Int32.toInt (i4 A 2 (by omega)), e3, gi_of (Or.inr (by omega)), e2, gi_at (inr_z (by omega) (by omega))]
  · rw [i4 A 6 (by omega), e3]
    show (rf_wi M2 A 6 _).1 A 6 = _
    rw [rf_wi_at, gi_ofi]
  · rw [e4]
    show va_up M3.1 (A + 2) _ (A + 2) l = _
    rw [va_up_at]
    have := pk_cpy_in (f := M3.1 (A + 4)) (g := M3.1 (A + 2)) (sp := 0) (dp := 0) (n := 16) (j := l) (by omega) (by omega)
    rw [this]
    show M3.1 (A + 4) (0 + (l - 0)) = _
    rw [show 0 + (l - 0) = l by omega]
    exact (y3.1 (A + 4) l (by omega)).1
theorem x_finish {K : rf_M → Prop} (hb : pcb M A cl) (hq : cl.1.length ≠ 0) (h16 : cl.1.length ≤ 16) (kk : ∀ M', eqy (fun b k => (b = A ∧ (k = 0 ∨ k = 1 ∨ k = 2 ∨ k = 5)) ∨ b = A + 1) M M' → pcl M' Ts A (ovr cl) → K M') : em_C_finish A M K := by
  refine ⟨fun h => absurd h (by rw [hb.1.1]; omega), fun _ M1 e1 => ?_⟩
  rw [hb.1.1] at e1
  have g1 : gi M1 A 5 = ((cl.1.length - 1 : Nat) : Int) := by rw [e1, gi_at (inr_z (by omega) (by omega))]; omega
  rw [g1, tn_]
  refine fun _ M2 e2 => ?_
  have y2 : eqy (fun b k => (b = A ∧ k = 5) ∨ b = A + 1) M M2 := by
    rw [e2, e1]
    exact ((eqy.rfl' M).wi (Or.inl ⟨rfl, rfl⟩)).cpi (fun _ => Or.inr rfl)
  have g2 : gi M2 A 5 = ((cl.1.length - 1 : Nat) : Int) := by
    rw [e2]
    show (va_up M1.1 (A + 1) _ A 5).toInt = _
    rw [va_up_of (by omega)]
    exact g1
  have tl : (ovr cl).1.length = cl.1.length - 1 := by show cl.1.tail.length = _; simp
  have t2 : ∀ j, j < cl.1.length - 1 → gi M2 (A + 1) j = ((cl.1.tail.getD j 0 : Nat) : Int) := fun j hj => by
    have := gi_cpi (M := M1) (a := A + 1) (a2 := A + 1) (sp := 1) (dp := 0) (n := cl.1.length - 1) hj
    rw [Nat.zero_add] at this
    rw [e2, this, e1, gi_of (Or.inl (by omega)), hb.1.2 (1 + j) (by omega)]
    cases h : cl.1 with
    | nil => rw [h] at hq; exact absurd rfl hq
    | cons x q => rw [Nat.add_comm]; rfl
  have fin : ∀ (z : Int) (M3 : rf_M), inr z → z = (if (ovr cl).1.length = 0 then 0 else ((ovr cl).2.2.2.1 : Int) + 1) → M3 = wi M2 A 0 z → ∀ M4, M4 = wi M3 A 1 0 → ∀ M5, M5 = wi M4 A 2 0 → K M5 := fun z M3 iz hz e3 M4 e4 M5 e5 => by
    have y5 : eqy (fun b k => b = A ∧ (k = 0 ∨ k = 1 ∨ k = 2)) M2 M5 := by
      rw [e5, e4, e3]
      exact (((eqy.rfl' M2).wi ⟨rfl, by omega⟩).wi ⟨rfl, by omega⟩).wi ⟨rfl, by omega⟩
    refine kk M5 ((y2.mono (fun b k h => by omega)).trans (y5.mono (fun b k h => by omega))) ⟨⟨⟨?_, fun j hj => ?_⟩, ?_, ?_⟩, ?_, fun (q : (0 : Nat) = 1) => absurd q (by decide), fun (q : (0 : Nat) = 2) => absurd q (by decide)⟩
    · rw [y5.i (by omega), g2, tl]
    · rw [y5.i (by omega), t2 j (by omega)]
      rfl
    · rw [e5, gi_of (Or.inr (by omega)), e4, gi_at (inr_z (by omega) (by omega))]
      rfl
    · rw [e5, gi_at (inr_z (by omega) (by omega))]
      rfl
    · rw [e5, gi_of (Or.inr (by omega)), e4, gi_of (Or.inr (by omega)), e3, gi_at iz, hz]
  refine ⟨fun h M3 e3 M4 e4 M5 e5 => fin 0 M3 (inr_z (by omega) (by omega)) ?_ e3 M4 e4 M5 e5, fun h M3 e3 M4 e4 M5 e5 => fin 1 M3 (inr_z (by omega) (by omega)) ?_ e3 M4 e4 M5 e5⟩
  · rw [if_pos (by omega)]
  · rw [if_neg (by omega)]
    rfl
end PC1
