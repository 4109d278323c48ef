/-! THE REFERENCE'S CLIENTS AND ROWS -/
theorem stale_up {w w' : wdT} {r : rdT} (h1 : ∀ l, l < 16 → bt r.1 l = true → (r.2.2 l).toInt ≤ (w.2 l).toInt) (h2 : ∀ l, l < 16 → (w.2 l).toInt ≤ (w'.2 l).toInt) (h : stale w r = true) : stale w' r = true := by
  unfold stale at h ⊢
  rw [List.any_eq_true] at h ⊢
  obtain ⟨l, hl, q⟩ := h
  rw [Bool.and_eq_true] at q
  have hl' := List.mem_range.mp hl
  refine ⟨l, hl, ?_⟩
  rw [q.1]
  have q2 := q.2
  simp at q2 ⊢
  intro e
  apply q2
  have a1 := h1 l hl' q.1
  have a2 := h2 l hl'
  rw [← e] at a2
  exact Int32.toInt_inj.mp (by omega)
def rcb (M : rf_M) (c : Nat) (cl : clT) : Prop := (gi M 381 c = (cl.1.length : Int) ∧ ∀ j, j < cl.1.length → gi M 380 (16 * c + j) = ((cl.1.getD j 0 : Nat) : Int)) ∧ gi M 384 c = cl.2.1 ∧ gi M 385 c = (if cl.2.2.1 = true then 1 else 0)
def rcs (M : rf_M) (w : wdT) (c : Nat) (cl : clT) : Prop := (cl.2.2.2.1 = 1 → gi M 382 c = 1 ∧ gi M 383 c = (cl.2.2.2.2.1 : Int) ∧ req cl.2.2.2.2.2.2 (rC M c)) ∧ (cl.2.2.2.1 = 0 → gi M 382 c = 0 ∨ (gi M 382 c = 1 ∧ gi M 383 c = 0 ∧ gi M 386 c = 0)) ∧ (cl.2.2.2.1 = 2 → (gi M 382 c = 2 ∧ req cl.2.2.2.2.2.2 (rC M c)) ∨ (gi M 382 c = 1 ∧ gi M 383 c = 0 ∧ gi M 386 c = 0 ∧ stale w cl.2.2.2.2.2.2 = true))
def rcl (M : rf_M) (w : wdT) (c : Nat) (cl : clT) : Prop := rcb M c cl ∧ rcs M w c cl
def rrw (M : rf_M) (rows : List rwT) : Prop := gi M 353 69 = (rows.length : Int) ∧ ∀ i, i < rows.length → gi M 400 i = (rows.getD i ((0, 0, 0, 0, 0), 0)).1.1 ∧ gi M 401 i = (rows.getD i ((0, 0, 0, 0, 0), 0)).1.2.1 ∧ gi M 402 i = (rows.getD i ((0, 0, 0, 0, 0), 0)).1.2.2.1 ∧ gi M 403 i = (rows.getD i ((0, 0, 0, 0, 0), 0)).1.2.2.2.1 ∧ gi M 404 i = (rows.getD i ((0, 0, 0, 0, 0), 0)).1.2.2.2.2 ∧ gl M 405 i = (rows.getD i ((0, 0, 0, 0, 0), 0)).2
/-- a client's cells -/
def ccR (c b k : Nat) : Prop := (b = 380 ∧ 16 * c ≤ k ∧ k < 16 * c + 16) ∨ ((b = 381 ∨ b = 382 ∨ b = 383 ∨ b = 384 ∨ b = 385 ∨ b = 386) ∧ k = c) ∨ ((b = 387 ∨ b = 388) ∧ 16 * c ≤ k ∧ k < 16 * c + 16)
/-- what lasts -/
def pvR (b k : Nat) : Prop := (358 ≤ b ∧ b ≤ 370) ∨ ((b = 376 ∨ b = 377) ∧ k < 16) ∨ (b = 378 ∧ k = 0) ∨ (b = 379 ∧ k < 32) ∨ (380 ≤ b ∧ b ≤ 388) ∨ (b = 353 ∧ k = 69) ∨ (400 ≤ b ∧ b ≤ 405)
section WC1
variable {M M' : rf_M} {c0 c : Nat} {K : Int → rf_M → Prop} {Ts : tsT} {S : syT} {g : sgT} {w w' : wdT} {cl : clT} {rows : List rwT} {r : rdT} {P : Nat → Nat → Prop}
theorem rcb.eq (h16 : cl.1.length ≤ 16) (h : rcb M c cl) (e : eqy P M M') (q : ∀ b k, (b = 380 ∧ 16 * c ≤ k ∧ k < 16 * c + 16) ∨ ((b = 381 ∨ b = 384 ∨ b = 385) ∧ k = c) → ¬ P b k) : rcb M' c cl := ⟨⟨(e.i (q _ _ (by omega))).trans h.1.1, fun j hj => (e.i (q _ _ (by omega))).trans (h.1.2 j hj)⟩, (e.i (q _ _ (by omega))).trans h.2.1, (e.i (q _ _ (by omega))).trans h.2.2⟩
theorem rC.eq (h : req r (rC M c)) (e : eqy P M M') (q : ∀ b k, (b = 386 ∧ k = c) ∨ ((b = 387 ∨ b = 388) ∧ 16 * c ≤ k ∧ k < 16 * c + 16) → ¬ P b k) : req r (rC M' c) := ⟨(e.1 _ _ (q _ _ (by omega))).1.trans h.1, fun l hl b => ⟨(e.l (q _ _ (by omega))).trans (h.2 l hl b).1, (e.1 _ _ (q _ _ (by omega))).1.trans (h.2 l hl b).2⟩⟩
theorem rcs.eq (h : rcs M w c cl) (e : eqy P M M') (q : ∀ b k, ((b = 382 ∨ b = 383 ∨ b = 386) ∧ k = c) ∨ ((b = 387 ∨ b = 388) ∧ 16 * c ≤ k ∧ k < 16 * c + 16) → ¬ P b k) (hs : cl.2.2.2.1 = 2 → stale w cl.2.2.2.2.2.2 = true → stale w' cl.2.2.2.2.2.2 = true) : rcs M' w' c cl := by
  have e2 : gi M' 382 c = gi M 382 c := e.i (q _ _ (by omega))
  have e3 : gi M' 383 c = gi M 383 c := e.i (q _ _ (by omega))
  have e6 : gi M' 386 c = gi M 386 c := e.i (q _ _ (by omega))
  refine ⟨fun t => ?_, fun t => ?_, fun t => ?_⟩
  · obtain ⟨a1, a2, a3⟩ := h.1 t
    exact ⟨e2.trans a1, e3.trans a2, rC.eq a3 e (fun b k h => q b k (by omega))⟩
  · rw [e2, e3, e6]; exact h.2.1 t
  · rcases h.2.2 t with ⟨a1, a2⟩ | ⟨a1, a2, a3, a4⟩
    · exact Or.inl ⟨e2.trans a1, rC.eq a2 e (fun b k h => q b k (by omega))⟩
    · exact Or.inr ⟨e2.trans a1, e3.trans a2, e6.trans a3, hs t a4⟩
theorem rrw.eq (h : rrw M rows) (e : eqy P M M') (q : ∀ b k, (b = 353 ∧ k = 69) ∨ (400 ≤ b ∧ b ≤ 405) → ¬ P b k) : rrw M' rows := by
  refine ⟨(e.i (q _ _ (by omega))).trans h.1, fun i hi => ?_⟩
  obtain ⟨a1, a2, a3, a4, a5, a6⟩ := h.2 i hi
  exact ⟨(e.i (q _ _ (by omega))).trans a1, (e.i (q _ _ (by omega))).trans a2, (e.i (q _ _ (by omega))).trans a3, (e.i (q _ _ (by omega))).trans a4, (e.i (q _ _ (by omega))).trans a5, (e.l (q _ _ (by omega))).trans a6⟩
/-- the reference is S -/
def RRS (M : rf_M) (Ts : tsT) (c0 : Nat) (S : syT) : Prop := rtxs M Ts c0 ∧ weq S.1 (wR M 0) ∧ rrs M Ts 0 S.2.1 ∧ (∀ c, c < 8 → rcl M S.1 c (S.2.2.1 c)) ∧ rrw M S.2.2.2
def RRX (M : rf_M) (Ts : tsT) (c0 : Nat) (S : syT) (c : Nat) : Prop := rtxs M Ts c0 ∧ weq S.1 (wR M 0) ∧ rrs M Ts 0 S.2.1 ∧ (∀ k, k < 8 → k ≠ c → rcl M S.1 k (S.2.2.1 k)) ∧ rrw M S.2.2.2
theorem RRX.eq (hS : SI Ts c0 S) (h : RRX M Ts c0 S c) (e : eqy P M M') (q : ∀ b k, pvR b k → ¬ ccR c b k → ¬ P b k) : RRX M' Ts c0 S c := by
  obtain ⟨h1, h2, h3, h4, h5⟩ := h
  have n : ∀ b k, ¬ (380 ≤ b ∧ b ≤ 388) → pvR b k → ¬ P b k := fun b k hb hp => q b k hp (by unfold ccR; omega)
  have h32 := hS.2.1.1
  refine ⟨h1.eq e (fun b k a1 a2 => n b k (by omega) (by unfold pvR; omega)), fun l hl => ?_, h3.eq e (fun b k a => n b k (by omega) (by unfold pvR; omega)), fun j hj hne => ?_, h5.eq e (fun b k a => n b k (by omega) (by unfold pvR; omega))⟩
  · exact ⟨(e.l (n 376 _ (by omega) (by unfold pvR; omega))).trans (h2 l hl).1, ((e.1 377 _ (n 377 _ (by omega) (by unfold pvR; omega))).1).trans (h2 l hl).2⟩
  · have hl := (hS.2.2.2.2 j hj).1.1
    obtain ⟨b1, b2⟩ := h4 j hj hne
    exact ⟨b1.eq hl e (fun b k a => q b k (by unfold pvR; omega) (by unfold ccR; omega)), b2.eq e (fun b k a => q b k (by unfold pvR; omega) (by unfold ccR; omega)) (fun _ z => z)⟩
theorem RRX.all (h : RRX M Ts c0 S c) {x : clT} (hx : rcl M S.1 c x) : RRS M Ts c0 (setc S c x) := by
  obtain ⟨h1, h2, h3, h4, h5⟩ := h
  refine ⟨h1, h2, h3, fun k hk => ?_, h5⟩
  show rcl M S.1 k (va_up S.2.2.1 c x k)
  by_cases e : k = c
  · rw [e, va_up_at]; exact hx
  · rw [va_up_of e]; exact h4 k hk e
theorem RRX.self (h : RRX M Ts c0 S c) (hx : rcl M S.1 c (S.2.2.1 c)) : RRS M Ts c0 S := by
  obtain ⟨h1, h2, h3, h4, h5⟩ := h
  refine ⟨h1, h2, h3, fun k hk => ?_, h5⟩
  by_cases e : k = c
  · rw [e]; exact hx
  · exact h4 k hk e
theorem RRS.x (h : RRS M Ts c0 S) : RRX M Ts c0 S c := ⟨h.1, h.2.1, h.2.2.1, fun k hk _ => h.2.2.2.1 k hk, h.2.2.2.2⟩
theorem RRS.eq (hS : SI Ts c0 S) (h : RRS M Ts c0 S) (e : eqy P M M') (q : ∀ b k, pvR b k → ¬ P b k) : RRS M' Ts c0 S := by
  refine (RRX.eq (c := 0) hS h.x e (fun b k a _ => q b k a)).self ?_
  have hl := (hS.2.2.2.2 0 (by omega)).1.1
  obtain ⟨b1, b2⟩ := h.2.2.2.1 0 (by omega)
  exact ⟨b1.eq hl e (fun b k a => q b k (by unfold pvR; omega)), b2.eq e (fun b k a => q b k (by unfold pvR; omega)) (fun _ z => z)⟩
theorem y_addRow {row : rwT} {K : rf_M → Prop} (h : rrw M rows) (hR : rows.length < 300) (hi : inr row.1.1 ∧ inr row.1.2.1 ∧ inr row.1.2.2.1 ∧ inr row.1.2.2.2.1 ∧ inr row.1.2.2.2.2) (kk : ∀ M', eqy (fun b k => (b = 353 ∧ k = 69) ∨ (400 ≤ b ∧ b ≤ 405)) M M' → rrw M' (rows ++ [row]) → K M') : em_W_addRow row.1.1 row.1.2.1 row.1.2.2.1 row.1.2.2.2.1 row.1.2.2.2.2 row.2 M K := by
  intro _ M2 e2 _ M3 e3 _ M4 e4 _ M5 e5 _ M6 e6 _ M7 e7 M8 e8
  have g2 : gi M2 353 69 = (rows.length : Int) := by rw [e2, gi_of (Or.inl (by omega))]; exact h.1
  have g3 : gi M3 353 69 = (rows.length : Int) := by rw [e3, gi_of (Or.inl (by omega))]; exact g2
  have g4 : gi M4 353 69 = (rows.length : Int) := by rw [e4, gi_of (Or.inl (by omega))]; exact g3
  have g5 : gi M5 353 69 = (rows.length : Int) := by rw [e5, gi_of (Or.inl (by omega))]; exact g4
  have g6 : gi M6 353 69 = (rows.length : Int) := by rw [e6, gi_of (Or.inl (by omega))]; exact g5
  have g7 : gi M7 353 69 = (rows.length : Int) := by rw [e7]; exact g6
  rw [h.1, tn_] at e2
  rw [g2, tn_] at e3
  rw [g3, tn_] at e4
  rw [g4, tn_] at e5
  rw [g5, tn_] at e6
  rw [g6, tn_] at e7
  rw [g7] at e8
  have y : eqy (fun b k => (b = 353 ∧ k = 69) ∨ (400 ≤ b ∧ b ≤ 405)) M M8 := by
    rw [e8, e7, e6, e5, e4, e3, e2]
    exact (((((((eqy.rfl' M).wi (by omega)).wi (by omega)).wi (by omega)).wi (by omega)).wi (by omega)).wl (by omega)).wi (by omega)
  obtain ⟨i1, i2, i3, i4, i5⟩ := hi
  refine kk M8 y ⟨?_, fun i hi => ?_⟩
  · rw [e8, gi_at (inr_z (by omega) (by omega))]
    simp
  · by_cases e : i = rows.length
    · have er : (rows ++ [row]).getD i ((0, 0, 0, 0, 0), 0) = row := by
        have := app_getD2 (l := rows) (m := [row]) (j := 0) (d := ((0, 0, 0, 0, 0), 0)) (by simp)
        rw [Nat.add_zero, ← e] at this
        exact this
      rw [er, e]
      refine ⟨?_, ?_, ?_, ?_, ?_, ?_⟩
      · rw [e8, gi_of (Or.inl (by omega)), e7, gi_wl, e6, gi_of (Or.inl (by omega)), e5, gi_of (Or.inl (by omega)), e4, gi_of (Or.inl (by omega)), e3, gi_of (Or.inl (by omega)), e2, gi_at i1]
      · rw [e8, gi_of (Or.inl (by omega)), e7, gi_wl, e6, gi_of (Or.inl (by omega)), e5, gi_of (Or.inl (by omega)), e4, gi_of (Or.inl (by omega)), e3, gi_at i2]
      · rw [e8, gi_of (Or.inl (by omega)), e7, gi_wl, e6, gi_of (Or.inl (by omega)), e5, gi_of (Or.inl (by omega)), e4, gi_at i3]
      · rw [e8, gi_of (Or.inl (by omega)), e7, gi_wl, e6, gi_of (Or.inl (by omega)), e5, gi_at i4]
      · rw [e8, gi_of (Or.inl (by omega)), e7, gi_wl, e6, gi_at i5]
      · rw [e8, gl_wi, e7, gl_at]
    · have hi' : i < rows.length := by simp at hi; omega
      rw [app_getD1 hi']
      obtain ⟨a1, a2, a3, a4, a5, a6⟩ := h.2 i hi'
      refine ⟨?_, ?_, ?_, ?_, ?_, ?_⟩
      · rw [e8, gi_of (Or.inl (by omega)), e7, gi_wl, e6, gi_of (Or.inl (by omega)), e5, gi_of (Or.inl (by omega)), e4, gi_of (Or.inl (by omega)), e3, gi_of (Or.inl (by omega)), e2, gi_of (Or.inr e)]; exact a1
      · rw [e8, gi_of (Or.inl (by omega)), e7, gi_wl, e6, gi_of (Or.inl (by omega)), e5, gi_of (Or.inl (by omega)), e4, gi_of (Or.inl (by omega)), e3, gi_of (Or.inr e), e2, gi_of (Or.inl (by omega))]; exact a2
      · rw [e8, gi_of (Or.inl (by omega)), e7, gi_wl, e6, gi_of (Or.inl (by omega)), e5, gi_of (Or.inl (by omega)), e4, gi_of (Or.inr e), e3, gi_of (Or.inl (by omega)), e2, gi_of (Or.inl (by omega))]; exact a3
      · rw [e8, gi_of (Or.inl (by omega)), e7, gi_wl, e6, gi_of (Or.inl (by omega)), e5, gi_of (Or.inr e), e4, gi_of (Or.inl (by omega)), e3, gi_of (Or.inl (by omega)), e2, gi_of (Or.inl (by omega))]; exact a4
      · rw [e8, gi_of (Or.inl (by omega)), e7, gi_wl, e6, gi_of (Or.inr e), e5, gi_of (Or.inl (by omega)), e4, gi_of (Or.inl (by omega)), e3, gi_of (Or.inl (by omega)), e2, gi_of (Or.inl (by omega))]; exact a5
      · rw [e8, gl_wi, e7, gl_of (Or.inr e), e6, e5, e4, e3, e2]; exact a6
theorem y_over {K : rf_M → Prop} (hc : c < 8) (hb : rcb M c cl) (hq : cl.1.length ≠ 0) (h16 : cl.1.length ≤ 16) (kk : ∀ M', eqy (ccR c) M M' → rcl M' w c (ovr cl) → K M') : em_W_over (c : Int) M K := by
  intro _ M1 e1 _ M2 e2 _ M3 e3 _ M4 e4 _ M5 e5 _ _ M6 e6
  rw [tn_] at e1 e2 e3 e4 e5 e6
  have z0 : (Int32.ofInt 0 &&& 1).toInt = 0 := by decide
  rw [z0] at e5
  have g5 : gi M5 381 c = (cl.1.length : Int) := by rw [e5, gi_of (Or.inl (by omega)), e4, gi_of (Or.inl (by omega)), e3, gi_of (Or.inl (by omega)), e2, gi_of (Or.inl (by omega)), e1, gi_of (Or.inl (by omega))]; exact hb.1.1
  rw [g5] at e6
  have y6 : eqy (fun b k => (b = 381 ∨ b = 382 ∨ b = 383 ∨ b = 384 ∨ b = 385 ∨ b = 386) ∧ k = c) M M6 := by
    rw [e6, e5, e4, e3, e2, e1]
    exact ((((((eqy.rfl' M).wi ⟨by omega, rfl⟩).wi ⟨by omega, rfl⟩).wi ⟨by omega, rfl⟩).wi ⟨by omega, rfl⟩).wi ⟨by omega, rfl⟩).wi ⟨by omega, rfl⟩
  have n6 : gi M6 381 c = ((cl.1.length - 1 : Nat) : Int) := by rw [e6, gi_at (inr_z (by omega) (by omega))]; omega
  have q6 : ∀ j, j < cl.1.length → gi M6 380 (16 * c + j) = ((cl.1.getD j 0 : Nat) : Int) := fun j hj => (y6.i (by omega)).trans (hb.1.2 j hj)
  have tg : ∀ j, j + 1 < cl.1.length → cl.1.getD (j + 1) 0 = cl.1.tail.getD j 0 := fun j hj => by
    cases h : cl.1 with
    | nil => rfl
    | cons x q => rfl
  refine ⟨fun v1 v2 M' => v1 = (c : Int) ∧ ∃ j : Nat, v2 = (j : Int) ∧ j ≤ cl.1.length - 1 ∧ eqy (fun b k => b = 380 ∧ 16 * c ≤ k ∧ k < 16 * c + 16) M6 M' ∧ (∀ i, i < j → gi M' 380 (16 * c + i) = ((cl.1.tail.getD i 0 : Nat) : Int)) ∧ ∀ i, j ≤ i → i < cl.1.length → gi M' 380 (16 * c + i) = ((cl.1.getD i 0 : Nat) : Int), ⟨rfl, 0, rfl, Nat.zero_le _, eqy.rfl' M6, fun i h => absurd h (by omega), fun i _ h => q6 i h⟩, ?_⟩
  rintro v1 v2 M7 - - ⟨rfl, j, rfl, hj, y7, h7, h7'⟩
  have n7 : gi M7 381 c = ((cl.1.length - 1 : Nat) : Int) := (y7.i (by omega)).trans n6
  refine fun _ => ?_
  rw [tn_, n7]
  refine ⟨fun hq7 => ?_, fun hq7 => ⟨inr_z (by omega) (by omega), fun _ => ⟨inr_z (by omega) (by omega), fun _ M8 e8 => ?_⟩⟩⟩
  · have hj' : j = cl.1.length - 1 := by omega
    have tl : (ovr cl).1.length = cl.1.length - 1 := by show cl.1.tail.length = _; simp
    have s7 : ∀ b, b = 382 ∨ b = 383 ∨ b = 384 ∨ b = 385 ∨ b = 386 → gi M7 b c = 0 := fun b hb => by
      rw [y7.i (by omega), e6, gi_of (Or.inl (by omega)), e5]
      by_cases h5 : b = 385
      · rw [h5, gi_at (inr_z (by omega) (by omega))]
      rw [gi_of (Or.inl h5), e4]
      by_cases h4 : b = 384
      · rw [h4, gi_at (inr_z (by omega) (by omega))]
      rw [gi_of (Or.inl h4), e3]
      by_cases h3 : b = 386
      · rw [h3, gi_at (inr_z (by omega) (by omega))]
      rw [gi_of (Or.inl h3), e2]
      by_cases h2 : b = 383
      · rw [h2, gi_at (inr_z (by omega) (by omega))]
      rw [gi_of (Or.inl h2), e1]
      have h1 : b = 382 := by omega
      rw [h1, gi_at (inr_z (by omega) (by omega))]
    refine kk M7 ((y6.mono (fun b k h => by unfold ccR; omega)).trans (y7.mono (fun b k h => by unfold ccR; omega))) ⟨⟨⟨?_, fun i hi => ?_⟩, ?_, ?_⟩, fun (q : (0 : Nat) = 1) => absurd q (by decide), fun _ => Or.inl (s7 382 (by omega)), fun (q : (0 : Nat) = 2) => absurd q (by decide)⟩
    · rw [n7, tl]
    · rw [tl] at hi
      exact h7 i (by omega)
    · exact s7 384 (by omega)
    · exact s7 385 (by omega)
  · have ex : (16 * (c : Int) + (j : Int)).toNat = 16 * c + j := by omega
    have ex1 : (16 * (c : Int) + (j : Int) + 1).toNat = 16 * c + (j + 1) := by omega
    rw [ex, ex1, h7' (j + 1) (by omega) (by omega), tg j (by omega)] at e8
    have hin : inr ((cl.1.tail.getD j 0 : Nat) : Int) := by
      have := h7' (j + 1) (by omega) (by omega)
      rw [tg j (by omega)] at this
      rw [← this]
      exact inr_gi _ _ _
    refine ⟨inr_z (by omega) (by omega), rfl, j + 1, by omega, by omega, by rw [e8]; exact y7.wi ⟨rfl, by omega, by omega⟩, fun i hi => ?_, fun i hi hl => ?_⟩
    · by_cases e : i = j
      · rw [e, e8, gi_at hin]
      · rw [e8, gi_of (Or.inr (by omega))]
        exact h7 i (by omega)
    · rw [e8, gi_of (Or.inr (by omega))]
      exact h7' i (by omega) hl
theorem y_cutRun (hc : c < 8) (hb : rcb M c cl) (hu : cl.2.2.1 = true → 4 ≤ cl.2.1) (hin : 0 ≤ cl.2.1 ∧ cl.2.1 ≤ 300) (kk : ∀ M', eqy (fun b k => (b = 382 ∨ b = 383 ∨ b = 384 ∨ b = 385 ∨ b = 386) ∧ k = c) M M' → rcl M' w c (cl.1, cl.2.1 + 1, decide (4 ≤ cl.2.1 + 1), 0, 0, run0 (-1), rd0) → K 3 M') : em_W_cutRun (c : Int) M K := by
  intro _ M1 e1 _ M2 e2 _ M3 e3 _ _ M4 e4 _
  rw [tn_] at e1 e2 e3 e4
  have g3 : gi M3 384 c = cl.2.1 := by rw [e3, gi_of (Or.inl (by omega)), e2, gi_of (Or.inl (by omega)), e1, gi_of (Or.inl (by omega))]; exact hb.2.1
  rw [g3] at e4
  have y4 : eqy (fun b k => (b = 382 ∨ b = 383 ∨ b = 384 ∨ b = 385 ∨ b = 386) ∧ k = c) M M4 := by
    rw [e4, e3, e2, e1]
    exact ((((eqy.rfl' M).wi ⟨by omega, rfl⟩).wi ⟨by omega, rfl⟩).wi ⟨by omega, rfl⟩).wi ⟨by omega, rfl⟩
  have g4 : gi M4 384 c = cl.2.1 + 1 := by rw [e4, gi_at (inr_z (by omega) (by omega))]
  have g5 : gi M4 385 c = (if cl.2.2.1 = true then 1 else 0) := by rw [e4, gi_of (Or.inl (by omega)), e3, gi_of (Or.inl (by omega)), e2, gi_of (Or.inl (by omega)), e1, gi_of (Or.inl (by omega))]; exact hb.2.2
  have fin : ∀ (z : Int) (M5 : rf_M), (z = 0 ∨ z = 1) → z = (if decide (4 ≤ cl.2.1 + 1) = true then 1 else 0) → M5 = wi M4 385 c (Int32.ofInt z &&& 1).toInt → K 3 M5 := fun z M5 hz hzz e5 => by
    have ez : (Int32.ofInt z &&& 1).toInt = z := by rcases hz with rfl | rfl <;> decide
    rw [ez] at e5
    have iz : inr z := by rcases hz with rfl | rfl <;> exact inr_z (by omega) (by omega)
    refine kk M5 (by rw [e5]; exact y4.wi ⟨by omega, rfl⟩) ⟨⟨⟨?_, fun j hj => ?_⟩, ?_, ?_⟩, fun (q : (0 : Nat) = 1) => absurd q (by decide), fun _ => Or.inl ?_, fun (q : (0 : Nat) = 2) => absurd q (by decide)⟩
    · rw [e5, gi_of (Or.inl (by omega))]
      exact (y4.i (by omega)).trans hb.1.1
    · rw [e5, gi_of (Or.inl (by omega))]
      exact (y4.i (by omega)).trans (hb.1.2 j hj)
    · rw [e5, gi_of (Or.inl (by omega)), g4]
    · rw [e5, gi_at iz, hzz]
    · rw [e5, gi_of (Or.inl (by omega)), e4, gi_of (Or.inl (by omega)), e3, gi_of (Or.inl (by omega)), e2, gi_of (Or.inl (by omega)), e1, gi_at (inr_z (by omega) (by omega))]
  rw [tn_, g4, g5]
  have f1 : 4 ≤ cl.2.1 + 1 → e_W_cutRun_55 (c : Int) M4 K := fun h => by
    intro _ M5 e5
    rw [tn_] at e5
    exact fin 1 M5 (Or.inr rfl) (by rw [if_pos (by simp; omega)]) e5
  refine ⟨fun h _ => ⟨fun h4 => ?_, fun h4 => f1 (by omega)⟩, fun h => f1 ?_⟩
  · intro _ M5 e5
    rw [tn_] at e5
    exact fin 0 M5 (Or.inl rfl) (by rw [if_neg (by simp; omega)]) e5
  · have : cl.2.2.1 = true := by
      by_cases q : cl.2.2.1 = true
      · exact q
      · rw [if_neg q] at h; exact absurd rfl h
    have := hu this
    omega
theorem y_isHeld (hc : c < 8) (hu : ∀ k, k < 8 → gi M 385 k = (if (S.2.2.1 k).2.2.1 = true then 1 else 0)) (kk : K (if hel S c = true then 1 else 0) M) : em_W_isHeld (c : Int) M K := by
  unfold hel at kk
  refine ⟨fun v1 v2 v3 M' => v1 = (c : Int) ∧ M' = M ∧ ∃ j : Nat, v3 = (j : Int) ∧ j ≤ 8 ∧ ((v2 = 0 ∧ ∀ i, i < j → i ≠ c → (S.2.2.1 i).2.2.1 = false) ∨ (v2 = 1 ∧ ∃ i, i < 8 ∧ i ≠ c ∧ (S.2.2.1 i).2.2.1 = true)), ⟨rfl, rfl, 0, rfl, by omega, Or.inl ⟨rfl, fun i h => absurd h (by omega)⟩⟩, ?_⟩
  rintro v1 v2 v3 M' - - - ⟨rfl, rfl, j, rfl, hj, h⟩
  have uc := hu c hc
  refine ⟨fun h8 => ⟨fun h0 => ⟨Or.inl rfl, ?_⟩, fun h0 _ => ?_⟩, fun h8 => ⟨fun h0 => ⟨fun hjc => ?_, fun hjc _ => ?_⟩, fun h0 => ?_⟩⟩
  · rcases h with ⟨_, hf⟩ | ⟨e, _⟩
    · rw [if_neg (by
        simp
        intro hcf i hi
        by_cases e : i = c
        · rw [e]; exact hcf
        · exact hf i (by omega) e)] at kk
      exact kk
    · omega
  · rcases h with ⟨e, _⟩ | ⟨_, i, hi, hne, ht⟩
    · omega
    · rw [tn_, uc]
      refine ⟨fun hz => ⟨Or.inr rfl, ?_⟩, fun hz => ⟨Or.inl rfl, ?_⟩⟩
      · have hf : (S.2.2.1 c).2.2.1 = false := by
          cases q : (S.2.2.1 c).2.2.1 with
          | false => rfl
          | true => rw [if_pos q] at hz; exact absurd hz (by decide)
        rw [if_pos (by
          rw [hf]
          simp
          exact ⟨i, hi, ht⟩)] at kk
        exact kk
      · have hf : (S.2.2.1 c).2.2.1 = true := by
          by_cases q : (S.2.2.1 c).2.2.1 = true
          · exact q
          · rw [if_neg q] at hz; exact absurd rfl hz
        rw [if_neg (by rw [hf]; simp)] at kk
        exact kk
  · rcases h with ⟨_, hf⟩ | ⟨e, _⟩
    · refine ⟨inr_z (by omega) (by omega), rfl, rfl, j + 1, by omega, by omega, Or.inl ⟨rfl, fun i hi hne => hf i (by omega) hne⟩⟩
    · omega
  · rw [tn_, hu j (by omega)]
    rcases h with ⟨_, hf⟩ | ⟨e, _⟩
    · refine ⟨fun hz => ⟨inr_z (by omega) (by omega), rfl, rfl, j + 1, by omega, by omega, Or.inl ⟨rfl, fun i hi hne => ?_⟩⟩, fun hz => ⟨inr_z (by omega) (by omega), rfl, rfl, j + 1, by omega, by omega, Or.inr ⟨rfl, j, by omega, by omega, ?_⟩⟩⟩
      · by_cases e : i = j
        · rw [e]
          cases q : (S.2.2.1 j).2.2.1 with
          | false => rfl
          | true => rw [if_pos q] at hz; exact absurd hz (by decide)
        · exact hf i (by omega) hne
      · by_cases q : (S.2.2.1 j).2.2.1 = true
        · exact q
        · rw [if_neg q] at hz; exact absurd rfl hz
    · omega
  · rcases h with ⟨e, _⟩ | ⟨_, hx⟩
    · omega
    · exact ⟨inr_z (by omega) (by omega), rfl, rfl, j + 1, by omega, by omega, Or.inr ⟨rfl, hx⟩⟩
end WC1
