/-! THE REFERENCE'S WALK ANEW; a run begins -/
theorem bt_0 (l : Nat) : bt 0 l = false := by
  show (0#32).getLsbD l = false
  simp
section WA1
variable {M M' : rf_M} {t n cc x c : Nat} {X : txT} {en : Int} {w : wdT} {m : mkT} {r : rdT} {g : sgT} {f : Int → Int} {v : vwT}
theorem grl_0 (hX : wfx X n cc en) (h : meq mk0 v.1) : grl X f 0 (run0 en) v ∧ plz n en := by
  refine ⟨⟨h, ⟨by show (0 : Int) ≤ 0; omega, by show (0 : Int) ≤ 0; omega⟩, fun j hj => absurd hj (by omega), ?_⟩, ?_⟩
  · show pok X _ en
    rcases hX.2.2.2.2.1 with q | ⟨x, q1, q2, q3⟩
    · exact pok_neg (by omega)
    · rw [q1]
      exact pok_of (fun p hp => by omega)
  · rcases hX.2.2.2.2.1 with q | ⟨x, q1, q2, q3⟩
    · exact Or.inl q
    · exact Or.inr ⟨x, q1, q2⟩
theorem y_beginWalk {K : rf_M → Prop} (ht12 : t < 12) (hX : wfx X n cc en) (ht : rtx M t X n cc en) (hr : req r (rR M)) (kk : ∀ M', eqy (fun b k => (b = 353 ∧ (k = 55 ∨ k = 58 ∨ k = 60)) ∨ b = 392) M M' → rnW M' t X n cc en (run0 en) r → K M') : em_W_beginWalk (t : Int) M K := by
  intro M1 e1 M2 e2
  refine ⟨fun v1 v2 M' => v1 = (t : Int) ∧ ∃ j : Nat, v2 = (j : Int) ∧ j ≤ 10 ∧ eqy (fun b _ => b = 392) M2 M' ∧ ∀ l, l < j → gl M' 392 l = 0, ⟨rfl, 0, rfl, by omega, eqy.rfl' _, fun l h => absurd h (by omega)⟩, ?_⟩
  rintro v1 v2 M3 - - ⟨rfl, j, rfl, hj, y3, h3⟩
  refine ⟨fun h _ M4 e4 => ?_, fun h _ M4 e4 => ⟨inr_z (by omega) (by omega), rfl, j + 1, by omega, by omega, ?_, fun l hl => ?_⟩⟩
  · have y2 : eqy (fun b k => b = 353 ∧ (k = 55 ∨ k = 58)) M M2 := by rw [e2, e1]; exact ((eqy.rfl' M).wi ⟨rfl, Or.inl rfl⟩).wi ⟨rfl, Or.inr rfl⟩
    have yM3 : eqy (fun b k => (b = 353 ∧ (k = 55 ∨ k = 58 ∨ k = 60)) ∨ b = 392) M M3 := (y2.mono (fun b k h => by omega)).trans (y3.mono (fun b k h => Or.inr h))
    have t3 := ht.eq yM3 (fun b k _ _ => by omega)
    rw [tn_, t3.1] at e4
    have g := grl_0 (f := fR t X) (v := vR M3 t) hX (by
      refine ⟨?_, fun l _ b => ?_, fun l hl => h3 l (by omega), ?_⟩
      · show M3.1 353 55 = 0
        rw [(y3.1 353 55 (by omega)).1, e2]
        show (rf_wi M1 353 58 _).1 353 55 = _
        rw [rf_wi_of _ _ (Or.inr (by omega)), e1]
        show (rf_wi M 353 55 _).1 353 55 = _
        rw [rf_wi_at]
        rfl
      · rw [show bt mk0.1 l = false from bt_0 l] at b; cases b
      · show gi M3 353 58 = 0
        rw [y3.i (by omega), e2, gi_at (inr_z (by omega) (by omega))])
    refine kk M4 ?_ (rnW_at ht12 hX.1 t3 g.2 ⟨0, g.1⟩ (hr.eqR yM3 (fun b k h => by omega)) e4)
    rw [e4]
    exact yM3.wi (Or.inl ⟨rfl, by omega⟩)
  · rw [e4]
    exact y3.wl rfl
  · rw [tn_] at e4
    by_cases e : l = j
    · rw [e, e4, gl_at]; rfl
    · rw [e4, gl_of (Or.inr e)]
      exact h3 l (by omega)
/-- what is kept of what client c has read -/
def rC (M : rf_M) (c : Nat) : rdT := (M.1 386 c, fun l => gl M 387 (16 * c + l), fun l => M.1 388 (16 * c + l))
theorem y_bringRead {K : rf_M → Prop} (hc : c < 8) (hr : req r (rC M c)) (kk : ∀ M', eqy vwR M M' → req r (rR M') → K M') : em_W_bringRead (c : Int) M K := by
  intro _ M1 e1
  rw [tn_] at e1
  have y1 : eqy vwR M M1 := by rw [e1]; exact (eqy.rfl' M).wi (Or.inl ⟨rfl, rfl⟩)
  refine ⟨fun v1 v2 M' => v1 = (c : Int) ∧ ∃ j : Nat, v2 = (j : Int) ∧ j ≤ 16 ∧ eqy (fun b _ => b = 389 ∨ b = 390) M1 M' ∧ ∀ l, l < j → gl M' 389 l = gl M 387 (16 * c + l) ∧ M'.1 390 l = M.1 388 (16 * c + l), ⟨rfl, 0, rfl, by omega, eqy.rfl' _, fun l h => absurd h (by omega)⟩, ?_⟩
  rintro v1 v2 M3 - - ⟨rfl, j, rfl, hj, y3, h3⟩
  have ex : (16 * (c : Int) + (j : Int)).toNat = 16 * c + j := by omega
  refine ⟨fun h => ?_, fun h => ⟨inr_z (by omega) (by omega), fun _ _ M4 e4 => ⟨inr_z (by omega) (by omega), fun _ _ M5 e5 => ⟨inr_z (by omega) (by omega), rfl, j + 1, by omega, by omega, ?_, fun l hl => ?_⟩⟩⟩⟩
  · have y : eqy vwR M M3 := y1.trans (y3.mono (fun b k h => Or.inr h))
    refine kk M3 y ⟨?_, fun l hl b => ?_⟩
    · refine ((y3.1 353 52 (by omega)).1.trans ?_).trans hr.1
      rw [e1]
      show (rf_wi M 353 52 _).1 353 52 = _
      rw [rf_wi_at, gi_ofi]
      rfl
    · have q := h3 l (by omega)
      have q2 := hr.2 l hl b
      exact ⟨q.1.trans q2.1, q.2.trans q2.2⟩
  · rw [e5, e4]
    exact (y3.wl (Or.inl rfl)).wi (Or.inr rfl)
  · rw [ex, tn_] at e4 e5
    by_cases e : l = j
    · subst e
      constructor
      · rw [e5]
        show gl M4 389 l = _
        rw [e4, gl_at]
        refine (y3.l (by omega)).trans ?_
        rw [e1]; rfl
      · rw [e5]
        show (rf_wi M4 390 l (Int32.ofInt (gi M4 388 (16 * c + l)))).1 390 l = _
        rw [rf_wi_at, gi_ofi, e4]
        show M3.1 388 (16 * c + l) = _
        rw [(y3.1 388 _ (by omega)).1, e1]
        show (rf_wi M 353 52 _).1 388 (16 * c + l) = _
        rw [rf_wi_of _ _ (Or.inl (by omega))]
    · have q := h3 l (by omega)
      constructor
      · rw [e5]
        show gl M4 389 l = _
        rw [e4, gl_of (Or.inr e)]
        exact q.1
      · rw [e5]
        show (rf_wi M4 390 j _).1 390 l = _
        rw [rf_wi_of _ _ (Or.inr e), e4]
        exact q.2
theorem y_keepRead {K : rf_M → Prop} (hc : c < 8) (hr : req r (rR M)) (kk : ∀ M', eqy (fun b k => (b = 386 ∧ k = c) ∨ ((b = 387 ∨ b = 388) ∧ 16 * c ≤ k ∧ k < 16 * c + 16)) M M' → req r (rC M' c) → K M') : em_W_keepRead (c : Int) M K := by
  intro _ M1 e1
  rw [tn_] at e1
  refine ⟨fun v1 v2 M' => v1 = (c : Int) ∧ ∃ j : Nat, v2 = (j : Int) ∧ j ≤ 16 ∧ eqy (fun b k => (b = 387 ∨ b = 388) ∧ 16 * c ≤ k ∧ k < 16 * c + 16) M1 M' ∧ ∀ l, l < j → gl M' 387 (16 * c + l) = gl M 389 l ∧ M'.1 388 (16 * c + l) = M.1 390 l, ⟨rfl, 0, rfl, by omega, eqy.rfl' _, fun l h => absurd h (by omega)⟩, ?_⟩
  rintro v1 v2 M3 - - ⟨rfl, j, rfl, hj, y3, h3⟩
  have ex : (16 * (c : Int) + (j : Int)).toNat = 16 * c + j := by omega
  refine ⟨fun h => ?_, fun h _ => ⟨inr_z (by omega) (by omega), fun _ M4 e4 _ => ⟨inr_z (by omega) (by omega), fun _ M5 e5 => ⟨inr_z (by omega) (by omega), rfl, j + 1, by omega, by omega, ?_, fun l hl => ?_⟩⟩⟩⟩
  · have y1 : eqy (fun b k => b = 386 ∧ k = c) M M1 := by rw [e1]; exact (eqy.rfl' M).wi ⟨rfl, rfl⟩
    refine kk M3 ((y1.mono (fun b k h => Or.inl h)).trans (y3.mono (fun b k h => Or.inr h))) ⟨?_, fun l hl b => ?_⟩
    · refine ((y3.1 386 c (by omega)).1.trans ?_).trans hr.1
      rw [e1]
      show (rf_wi M 386 c _).1 386 c = _
      rw [rf_wi_at, gi_ofi]
      rfl
    · have q := h3 l (by omega)
      have q2 := hr.2 l hl b
      exact ⟨q.1.trans q2.1, q.2.trans q2.2⟩
  · rw [ex] at e4 e5
    rw [e5, e4]
    exact (y3.wl ⟨Or.inl rfl, by omega, by omega⟩).wi ⟨Or.inr rfl, by omega, by omega⟩
  · rw [ex, tn_] at e4 e5
    by_cases e : l = j
    · subst e
      constructor
      · rw [e5]
        show gl M4 387 (16 * c + l) = _
        rw [e4, gl_at]
        refine (y3.l (by omega)).trans ?_
        rw [e1]; rfl
      · rw [e5]
        show (rf_wi M4 388 (16 * c + l) (Int32.ofInt (gi M4 390 l))).1 388 (16 * c + l) = _
        rw [rf_wi_at, gi_ofi, e4]
        show M3.1 390 l = _
        rw [(y3.1 390 _ (by omega)).1, e1]
        show (rf_wi M 386 c _).1 390 l = _
        rw [rf_wi_of _ _ (Or.inl (by omega))]
    · have q := h3 l (by omega)
      constructor
      · rw [e5]
        show gl M4 387 (16 * c + l) = _
        rw [e4, gl_of (Or.inr (by omega))]
        exact q.1
      · rw [e5]
        show (rf_wi M4 388 (16 * c + j) _).1 388 (16 * c + l) = _
        rw [rf_wi_of _ _ (Or.inr (by omega)), e4]
        exact q.2
theorem wit_le {g0 : sgT} {r0 : rdT} : ∀ (k : Nat) (q : sgT × rdT), wit X w g0 r0 k = some q → ∀ j, j < k → ∃ q', wit X w g0 r0 j = some q' ∧ (stepp X w q'.1 q'.2).1.1 = 0 ∧ wit X w g0 r0 (j + 1) = some (stepp X w q'.1 q'.2).2
  | 0, _, _, j, hj => absurd hj (by omega)
  | k + 1, q, h, j, hj => by
    have h : (wit X w g0 r0 k).bind (fun q => if (stepp X w q.1 q.2).1.1 = 0 then some (stepp X w q.1 q.2).2 else none) = some q := h
    cases hk : wit X w g0 r0 k with
    | none => rw [hk] at h; cases h
    | some q' =>
      by_cases e : j = k
      · subst e
        rw [hk] at h
        have h : (if (stepp X w q'.1 q'.2).1.1 = 0 then some (stepp X w q'.1 q'.2).2 else none) = some q := h
        split at h
        · rename_i hz
          refine ⟨q', hk, hz, ?_⟩
          show (wit X w g0 r0 j).bind _ = _
          rw [hk]
          exact if_pos hz
        · cases h
      · exact wit_le k q' hk j (by omega)
def waW (b k : Nat) : Prop := stW b k ∨ (b = 353 ∧ k = 42)
theorem y_walkAnew {k : Nat} {K : rf_M → Prop} (hc : c < 8) (ht12 : t < 12) (hX : wfx X n cc en) (ht : rtx M t X n cc en) (hq : gi M 380 (16 * c) = (t : Int)) (hk : gi M 383 c = (k : Int)) (hr : req r (rC M c)) (hW : weq w (wR M 0)) (hg : wit X w (run0 en) r k = some (g, r)) (hk3 : k ≤ 300) (kk : ∀ M', eqy waW M M' → gi M' 353 42 = 0 → rnW M' t X n cc en g r → K M') : em_W_walkAnew (c : Int) M K := by
  intro M1 e1
  have y1 : eqy (fun b k => b = 353 ∧ k = 42) M M1 := by rw [e1]; exact (eqy.rfl' M).wi ⟨rfl, rfl⟩
  have w1 : gi M1 353 42 = 0 := by rw [e1, gi_at (inr_z (by omega) (by omega))]
  have r1 : req r (rC M1 c) := ⟨(y1.1 _ _ (by omega)).1.trans hr.1, fun l hl b => ⟨(y1.l (by omega)).trans (hr.2 l hl b).1, (y1.1 _ _ (by omega)).1.trans (hr.2 l hl b).2⟩⟩
  refine y_bringRead hc r1 (fun M2 y2 r2 => ?_)
  have y12 : eqy waW M M2 := (y1.mono (fun b k h => Or.inr h)).trans (y2.mono (fun b k h => by unfold vwR at h; show stW b k ∨ _; unfold stW; omega))
  refine ⟨inr_z (by omega) (by omega), fun _ => ?_⟩
  have e16 : (16 * (c : Int)).toNat = 16 * c := by omega
  rw [e16, y12.i (by unfold waW stW; omega), hq]
  have t2 := ht.eq y12 (fun b k _ _ => by unfold waW stW; omega)
  refine y_beginWalk ht12 hX t2 r2 (fun M3 y3 R3 => ?_)
  have y13 : eqy waW M M3 := y12.trans (y3.mono (fun b k h => by unfold waW stW; omega))
  have w3 : gi M3 353 42 = 0 := by
    rw [y3.i (by omega), y2.i (by unfold vwR; omega)]; exact w1
  refine ⟨fun v1 v2 M' => v1 = (c : Int) ∧ ∃ (j : Nat) (q : sgT × rdT), v2 = (j : Int) ∧ j ≤ k ∧ wit X w (run0 en) r j = some q ∧ eqy waW M M' ∧ gi M' 353 42 = 0 ∧ rnW M' t X n cc en q.1 q.2, ⟨rfl, 0, (run0 en, r), rfl, Nat.zero_le _, rfl, y13, w3, R3⟩, ?_⟩
  rintro v1 v2 M4 - - ⟨rfl, j, q, rfl, hj, hq4, y4, w4, R4⟩
  refine fun _ => ?_
  rw [tn_, y4.i (by unfold waW stW; omega), hk]
  refine ⟨fun h => ?_, fun h => ?_⟩
  · have e : j = k := by omega
    subst e
    rw [hg] at hq4
    injection hq4 with hq4
    rw [← hq4] at R4
    exact kk M4 y4 w4 R4
  · obtain ⟨q', a1, a2, a3⟩ := wit_le k _ hg j (by omega)
    rw [hq4] at a1
    injection a1 with a1
    subst a1
    refine y_rstep (d := 0) ht12 hX R4 (by rw [w4]; rfl) (by omega) (hW.eqR y4 (fun b k h => by unfold waW stW; omega)) (fun M5 y5 R5 _ => ⟨inr_z (by omega) (by omega), rfl, j + 1, _, by omega, by omega, a3, y4.trans (y5.mono (fun b k h => Or.inl h)), (y5.i (by unfold stW; omega)).trans w4, R5⟩)
end WA1
