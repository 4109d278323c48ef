/-! THE REFERENCE'S RUN: a step -/
def fR (t : Nat) (X : txT) (z : Int) : Int := 200 * (t : Int) + X.1 2 z.toNat
/-- the reference's walk of text t is g with what is read r -/
def rnW (M : rf_M) (t : Nat) (X : txT) (n cc : Nat) (en : Int) (g : sgT) (r : rdT) : Prop := rtx M t X n cc en ∧ gi M 353 60 = lf t g.1 ∧ plz n g.1 ∧ (∃ hw, grl X (fR t X) hw g (vR M t)) ∧ req r (rR M)
def stW (b k : Nat) : Prop := (b = 353 ∧ (k = 52 ∨ k = 55 ∨ k = 58 ∨ k = 60 ∨ k = 65 ∨ k = 66)) ∨ (389 ≤ b ∧ b ≤ 398)
def ocW (o : Nat) : Int := if o = 0 then 0 else if o = 1 then 4 else if o = 2 then 2 else if o = 3 then 1 else 3
section WR3
variable {M M' : rf_M} {t n cc x : Nat} {X : txT} {en : Int} {w : wdT} {m : mkT} {r : rdT} {g : sgT} {K : Int → rf_M → Prop}
theorem vR_eq {P : Nat → Nat → Prop} (e : eqy P M M') (q : ∀ b k, (b = 353 ∧ (k = 55 ∨ k = 58)) ∨ (391 ≤ b ∧ b ≤ 397) → ¬ P b k) : vR M' t = vR M t := by
  have e1 : ∀ b k, 391 ≤ b → b ≤ 397 → M'.1 b k = M.1 b k := fun b k h1 h2 => (e.1 b k (q b k (by omega))).1
  have e2 : ∀ b k, 391 ≤ b → b ≤ 397 → gl M' b k = gl M b k := fun b k h1 h2 => (e.1 b k (q b k (by omega))).2
  have e3 : ∀ b k, 391 ≤ b → b ≤ 397 → gi M' b k = gi M b k := fun b k h1 h2 => e.i (q b k (by omega))
  unfold vR mR kR
  rw [(e.1 353 55 (q _ _ (by omega))).1, e.i (q 353 58 (by omega))]
  have f3 : (fun l => gl M' 391 l) = fun l => gl M 391 l := funext (fun l => e2 _ _ (by omega) (by omega))
  have f4 : (fun l => gl M' 392 l) = fun l => gl M 392 l := funext (fun l => e2 _ _ (by omega) (by omega))
  have f5 : (fun l => gi M' 393 l) = fun l => gi M 393 l := funext (fun l => e3 _ _ (by omega) (by omega))
  have f6 : ∀ h : Nat, ((M'.1 394 (40 * t + h), fun l => gl M' 395 (16 * (40 * t + h) + l), fun l => gl M' 396 (10 * (40 * t + h) + l), gi M' 397 (40 * t + h)) : mkT) = (M.1 394 (40 * t + h), fun l => gl M 395 (16 * (40 * t + h) + l), fun l => gl M 396 (10 * (40 * t + h) + l), gi M 397 (40 * t + h)) := fun h => by
    rw [e1 _ _ (by omega) (by omega), e3 _ _ (by omega) (by omega), show (fun l => gl M' 395 (16 * (40 * t + h) + l)) = fun l => gl M 395 (16 * (40 * t + h) + l) from funext (fun l => e2 _ _ (by omega) (by omega)), show (fun l => gl M' 396 (10 * (40 * t + h) + l)) = fun l => gl M 396 (10 * (40 * t + h) + l) from funext (fun l => e2 _ _ (by omega) (by omega))]
  rw [f3, f4, f5]
  exact congrArg (fun z => (_, _, z)) (funext f6)
theorem y_keep {K : rf_M → Prop} (hx : x < 480) (kk : ∀ M', eqy (fun b _ => 394 ≤ b ∧ b ≤ 397) M M' → meq (mR M) (kR M' x) → (∀ y, y ≠ x → meq (kR M y) (kR M' y)) → K M') : em_W_keep (x : Int) M K := by
  intro _ M1 e1 _ M2 e2
  rw [tn_] at e1 e2
  have g1 : gi M1 353 58 = gi M 353 58 := by rw [e1, gi_of (Or.inl (by omega))]
  rw [g1] at e2
  refine ⟨fun v1 v2 M' => v1 = (x : Int) ∧ ∃ j : Nat, v2 = (j : Int) ∧ j ≤ 16 ∧ eqy (fun b k => b = 395 ∧ 16 * x ≤ k ∧ k < 16 * x + 16) M2 M' ∧ ∀ l, l < j → gl M' 395 (16 * x + l) = gl M 391 l, ⟨rfl, 0, rfl, by omega, eqy.rfl' _, fun l h => absurd h (by omega)⟩, ?_⟩
  rintro v1 v2 M3 - - ⟨rfl, j, rfl, hj, y3, h3⟩
  refine ⟨fun h => ?_, fun h _ => ⟨inr_z (by omega) (by omega), fun _ M4 e4 => ⟨inr_z (by omega) (by omega), rfl, j + 1, by omega, by omega, ?_, fun l hl => ?_⟩⟩⟩
  · refine ⟨fun v1 v2 M' => v1 = (x : Int) ∧ ∃ i : Nat, v2 = (i : Int) ∧ i ≤ 10 ∧ eqy (fun b k => b = 396 ∧ 10 * x ≤ k ∧ k < 10 * x + 10) M3 M' ∧ ∀ l, l < i → gl M' 396 (10 * x + l) = gl M 392 l, ⟨rfl, 0, rfl, by omega, eqy.rfl' _, fun l h => absurd h (by omega)⟩, ?_⟩
    rintro v1 v2 M5 - - ⟨rfl, i, rfl, hi, y5, h5⟩
    have l2 : ∀ b k, gl M2 b k = gl M b k := fun b k => by rw [e2, e1]; rfl
    refine ⟨fun h' => ?_, fun h' _ => ⟨inr_z (by omega) (by omega), fun _ M6 e6 => ⟨inr_z (by omega) (by omega), rfl, i + 1, by omega, by omega, ?_, fun l hl => ?_⟩⟩⟩
    · have y2 : eqy (fun b k => (b = 394 ∨ b = 397) ∧ k = x) M M2 := by rw [e2, e1]; exact ((eqy.rfl' M).wi ⟨Or.inl rfl, rfl⟩).wi ⟨Or.inr rfl, rfl⟩
      have yy : ∀ b k, ¬ (b = 395 ∧ 16 * x ≤ k ∧ k < 16 * x + 16) → ¬ (b = 396 ∧ 10 * x ≤ k ∧ k < 10 * x + 10) → M5.1 b k = M2.1 b k ∧ gl M5 b k = gl M2 b k := fun b k q1 q2 => ⟨(y5.1 b k q2).1.trans (y3.1 b k q1).1, (y5.1 b k q2).2.trans (y3.1 b k q1).2⟩
      have hj16 : j = 16 := by omega
      have hi10 : i = 10 := by omega
      refine kk M5 (((y2.mono (fun b k h => by omega)).trans (y3.mono (fun b k h => by omega))).trans (y5.mono (fun b k h => by omega))) ⟨?_, fun l hl _ => ?_, fun l hl => ?_, ?_⟩ (fun y hy => ⟨?_, fun l hl _ => ?_, fun l hl => ?_, ?_⟩)
      · refine (yy 394 x (by omega) (by omega)).1.trans ?_
        rw [e2]
        show (rf_wi M1 397 x _).1 394 x = _
        rw [rf_wi_of _ _ (Or.inl (by omega)), e1]
        show (rf_wi M 394 x _).1 394 x = _
        rw [rf_wi_at, gi_ofi]
        rfl
      · exact (y5.l (by omega)).trans (h3 l (by omega))
      · exact h5 l (by omega)
      · show gi M5 397 x = gi M 353 58
        rw [show gi M5 397 x = gi M2 397 x from congrArg Int32.toInt (yy 397 x (by omega) (by omega)).1, e2, gi_at (inr_gi _ _ _)]
      · exact (yy 394 y (by omega) (by omega)).1.trans (y2.1 394 y (by omega)).1
      · exact (yy 395 _ (by omega) (by omega)).2.trans (y2.1 395 _ (by omega)).2
      · exact (yy 396 _ (by omega) (by omega)).2.trans (y2.1 396 _ (by omega)).2
      · exact (congrArg Int32.toInt (yy 397 y (by omega) (by omega)).1).trans (y2.i (by omega))
    · rw [e6]
      have ex : (10 * (x : Int) + (i : Int)).toNat = 10 * x + i := by omega
      rw [ex]
      exact y5.wl ⟨rfl, by omega, by omega⟩
    · have ex : (10 * (x : Int) + (i : Int)).toNat = 10 * x + i := by omega
      rw [ex, tn_] at e6
      by_cases e : l = i
      · rw [e, e6, gl_at]
        exact (y5.l (by omega)).trans ((y3.l (by omega)).trans (l2 _ _))
      · rw [e6, gl_of (Or.inr (by omega))]
        exact h5 l (by omega)
  · have ex : (16 * (x : Int) + (j : Int)).toNat = 16 * x + j := by omega
    rw [ex] at e4
    rw [e4]
    exact y3.wl ⟨rfl, by omega, by omega⟩
  · have ex : (16 * (x : Int) + (j : Int)).toNat = 16 * x + j := by omega
    rw [ex, tn_] at e4
    by_cases e : l = j
    · rw [e, e4, gl_at]
      refine (y3.l (by omega)).trans ?_
      rw [e2, e1]; rfl
    · rw [e4, gl_of (Or.inr (by omega))]
      exact h3 l (by omega)
theorem y_bringBack {K : rf_M → Prop} (hx : x < 480) (kk : ∀ M', eqy (fun b k => (b = 353 ∧ (k = 55 ∨ k = 58)) ∨ b = 391 ∨ b = 392) M M' → meq (kR M x) (mR M') → K M') : em_W_bringBack (x : Int) M K := by
  intro _ M1 e1 _ M2 e2
  rw [tn_] at e1 e2
  have g1 : gi M1 397 x = gi M 397 x := by rw [e1, gi_of (Or.inl (by omega))]
  rw [g1] at e2
  have l2 : ∀ b k, gl M2 b k = gl M b k := fun b k => by rw [e2, e1]; rfl
  refine ⟨fun v1 v2 M' => v1 = (x : Int) ∧ ∃ j : Nat, v2 = (j : Int) ∧ j ≤ 16 ∧ eqy (fun b _ => b = 391) M2 M' ∧ ∀ l, l < j → gl M' 391 l = gl M 395 (16 * x + l), ⟨rfl, 0, rfl, by omega, eqy.rfl' _, fun l h => absurd h (by omega)⟩, ?_⟩
  rintro v1 v2 M3 - - ⟨rfl, j, rfl, hj, y3, h3⟩
  have ex : (16 * (x : Int) + (j : Int)).toNat = 16 * x + j := by omega
  refine ⟨fun h => ?_, fun h => ⟨inr_z (by omega) (by omega), fun _ _ M4 e4 => ⟨inr_z (by omega) (by omega), rfl, j + 1, by omega, by omega, ?_, fun l hl => ?_⟩⟩⟩
  · refine ⟨fun v1 v2 M' => v1 = (x : Int) ∧ ∃ i : Nat, v2 = (i : Int) ∧ i ≤ 10 ∧ eqy (fun b _ => b = 392) M3 M' ∧ ∀ l, l < i → gl M' 392 l = gl M 396 (10 * x + l), ⟨rfl, 0, rfl, by omega, eqy.rfl' _, fun l h => absurd h (by omega)⟩, ?_⟩
    rintro v1 v2 M5 - - ⟨rfl, i, rfl, hi, y5, h5⟩
    have ex5 : (10 * (x : Int) + (i : Int)).toNat = 10 * x + i := by omega
    refine ⟨fun h' => ?_, fun h' => ⟨inr_z (by omega) (by omega), fun _ _ M6 e6 => ⟨inr_z (by omega) (by omega), rfl, i + 1, by omega, by omega, ?_, fun l hl => ?_⟩⟩⟩
    · have y2 : eqy (fun b k => b = 353 ∧ (k = 55 ∨ k = 58)) M M2 := by rw [e2, e1]; exact ((eqy.rfl' M).wi ⟨rfl, Or.inl rfl⟩).wi ⟨rfl, Or.inr rfl⟩
      refine kk M5 (((y2.mono (fun b k h => Or.inl h)).trans (y3.mono (fun b k h => Or.inr (Or.inl h)))).trans (y5.mono (fun b k h => Or.inr (Or.inr h)))) ⟨?_, fun l hl _ => ?_, fun l hl => ?_, ?_⟩
      · refine ((y5.1 353 55 (by omega)).1.trans (y3.1 353 55 (by omega)).1).trans ?_
        rw [e2]
        show (rf_wi M1 353 58 _).1 353 55 = _
        rw [rf_wi_of _ _ (Or.inr (by omega)), e1]
        show (rf_wi M 353 55 _).1 353 55 = _
        rw [rf_wi_at, gi_ofi]
        rfl
      · exact (y5.l (by omega)).trans (h3 l (by omega))
      · exact h5 l (by omega)
      · refine ((y5.i (by omega)).trans (y3.i (by omega))).trans ?_
        rw [e2, gi_at (inr_gi _ _ _)]
        rfl
    · rw [e6]
      exact y5.wl rfl
    · rw [ex5, tn_] at e6
      by_cases e : l = i
      · rw [e, e6, gl_at]
        exact (y5.l (by omega)).trans ((y3.l (by omega)).trans (l2 _ _))
      · rw [e6, gl_of (Or.inr e)]
        exact h5 l (by omega)
  · rw [e4]
    exact y3.wl rfl
  · rw [ex, tn_] at e4
    by_cases e : l = j
    · rw [e, e4, gl_at]
      exact (y3.l (by omega)).trans (l2 _ _)
    · rw [e4, gl_of (Or.inr e)]
      exact h3 l (by omega)
theorem rnW_at {z : Int} {g' : mkT × (Nat → Int) × (Nat → mkT)} (ht12 : t < 12) (hn : n ≤ 40) (ht : rtx M t X n cc en) (hz : plz n z) (hg : ∃ hw, grl X (fR t X) hw (z, g') (vR M t)) (hr : req r (rR M)) (e : M' = wi M 353 60 (lf t z)) : rnW M' t X n cc en (z, g') r := by
  have y : eqy (fun b k => b = 353 ∧ k = 60) M M' := by rw [e]; exact (eqy.rfl' M).wi ⟨rfl, rfl⟩
  refine ⟨ht.eq y (fun b k h1 h2 => by omega), ?_, hz, ?_, hr.eqR y (fun b k h => by omega)⟩
  · rw [e]
    refine gi_at ?_
    rcases hz with q | ⟨x, q1, q2⟩
    · rw [q, lf_neg (by omega)]; exact inr_z (by omega) (by omega)
    · rw [q1, lf_nat]; exact inr_z (by omega) (by omega)
  · rw [vR_eq y (fun b k h => by omega)]
    exact hg
theorem y_retry (ht12 : t < 12) (hX : wfx X n cc en) (R : rnW M t X n cc en g r) (h3 : ard X 15 9 g.1 < 0 → K 3 M) (h0 : ∀ x : Nat, ard X 15 9 g.1 = (x : Int) → ∀ M', eqy stW M M' → rnW M' t X n cc en (gin X (x : Int) (X.1 8 x), g.2.2.2 x, g.2.2) r → K 0 M') : em_W_retryFrom (lf t g.1) M K := by
  obtain ⟨r1, r2, r3, ⟨hw, r5⟩, r6⟩ := R
  refine y_around hX r1 ht12 (k := 15) (fun p hp => (kf_iff (hX.2.2.2.2.2 p hp).2.2.2.2.2.2.1).2.2.2.2.1) r3 ?_
  rcases pok_ard hX (k := 15) 9 g.1 r3 r5.2.2.2 with q | ⟨x, q1, q2, q3, q4, q5⟩
  · rw [q, lf_neg (by omega)]
    exact ⟨fun h => absurd h (by omega), fun _ => h3 (by omega)⟩
  have hn := hX.1
  have wx := hX.2.2.2.2.2 x q2
  have l8 := wx.2.2.2.2.2.1
  have hgin := fun (P : Nat → Prop) (hP : pok X P g.1) => pok_gin hX (P := P) (z := X.1 8 x) q2 (by
    rcases pok_ard hX (k := 15) 9 g.1 r3 hP with q | ⟨x', q1', q2', q3', q4', q5'⟩
    · omega
    · have : x' = x := by omega
      subst this; exact q4') (l8.imp id (fun ⟨y, y1, y2, y3, y4⟩ => ⟨y, y1, y2, y3, fun z => by omega⟩))
  rw [q1, lf_nat]
  refine ⟨fun _ => y_bringBack (by omega) (fun M2 y2 m2 _ => ?_), fun h => absurd (by omega) h⟩
  have t2 := r1.eq y2 (fun b k _ _ => by omega)
  rw [tn_, (t2.2.1 x q2).2.2.2.2.2.2.2.1]
  refine y_goIn hX t2 ht12 q2 (l8.imp id (fun ⟨y, y1, y2, _⟩ => ⟨y, y1, y2, trivial⟩)) (fun M4 e4 => h0 x q1 M4 ?_ ?_)
  · rw [e4]
    exact (y2.mono (fun b k h => by unfold stW; omega)).wi (by unfold stW; omega)
  · have b := grl_back (z := gin X (x : Int) (X.1 8 x)) r5 (q5 (Or.inl q3)) (fun P _ hP => (hgin P hP).2)
    refine rnW_at ht12 hn t2 (hgin _ r5.2.2.2).1 ⟨hw, grl_v b m2 (fun j _ => y2.i (by omega)) (fun h => ?_)⟩ (r6.eqR y2 (fun b k h => by omega)) e4
    exact ⟨(y2.1 _ _ (by omega)).1, fun l _ _ => y2.l (by omega), fun l _ => y2.l (by omega), y2.i (by omega)⟩
theorem y_throw {v : Int64} (ht12 : t < 12) (hX : wfx X n cc en) (R : rnW M t X n cc en g r) (hv : gl M 353 66 = v) (h2 : tss X g.1 v g = none → K 2 M) (h0 : ∀ g', tss X g.1 v g = some g' → ∀ M', eqy stW M M' → rnW M' t X n cc en g' r → K 0 M') : em_W_throwFrom (lf t g.1) M K := by
  obtain ⟨r1, r2, r3, ⟨hw, r5⟩, r6⟩ := R
  unfold tss at h2 h0
  refine y_around hX r1 ht12 (k := 17) (fun p hp => (kf_iff (hX.2.2.2.2.2 p hp).2.2.2.2.2.2.1).2.2.2.2.2.1) r3 ?_
  rcases pok_ard hX (k := 17) 9 g.1 r3 r5.2.2.2 with q | ⟨x, q1, q2, q3, q4, q5⟩
  · rw [q, lf_neg (by omega)]
    exact ⟨fun h => absurd h (by omega), fun _ => h2 (if_pos (by omega))⟩
  rw [q1, if_neg (by omega), tn_] at h0
  have hn := hX.1
  have wx := hX.2.2.2.2.2 x q2
  have l8 := wx.2.2.2.2.2.1
  have hlet := wx.2.2.2.2.2.2.2.2.1 q3
  have hgin := fun (P : Nat → Prop) (hP : pok X P g.1) => pok_gin hX (P := P) (z := X.1 8 x) q2 (by
    rcases pok_ard hX (k := 17) 9 g.1 r3 hP with q | ⟨x', q1', q2', q3', q4', q5'⟩
    · omega
    · have : x' = x := by omega
      subst this; exact q4') (l8.imp id (fun ⟨y, y1, y2, y3, y4⟩ => ⟨y, y1, y2, y3, fun z => by omega⟩))
  rw [q1, lf_nat]
  refine ⟨fun _ => y_bringBack (by omega) (fun M2 y2 m2 _ => ?_), fun h => absurd (by omega) h⟩
  have t2 := r1.eq y2 (fun b k _ _ => by omega)
  rw [tn_, (t2.2.1 x q2).2.2.2.2.2.2.2.2 (Or.inr q3), show gl M2 353 66 = v from (y2.l (by omega)).trans hv]
  refine ⟨inr_z (by omega) (by omega), fun _ M3 e3 _ => ?_⟩
  have ex : (X.1 1 x - 16).toNat = (X.1 1 x).toNat - 16 := by omega
  rw [ex] at e3
  have y3 : eqy (fun b k => b = 392 ∧ k = (X.1 1 x).toNat - 16) M2 M3 := by rw [e3]; exact (eqy.rfl' _).wl ⟨rfl, rfl⟩
  have t3 := t2.eq y3 (fun b k _ _ => by omega)
  have y23 := y2.trans (y3.mono (fun b k h => Or.inr (Or.inr h.1)))
  rw [(t3.2.1 x q2).2.2.2.2.2.2.2.1]
  refine y_goIn hX t3 ht12 q2 (l8.imp id (fun ⟨y, y1, y2, _⟩ => ⟨y, y1, y2, trivial⟩)) (fun M4 e4 => h0 _ rfl M4 ?_ ?_)
  · rw [e4]
    exact (y23.mono (fun b k h => by unfold stW; omega)).wi (by unfold stW; omega)
  · have b := grl_back (z := gin X (x : Int) (X.1 8 x)) r5 (q5 (Or.inr q3)) (fun P _ hP => (hgin P hP).2)
    have b2 := grl_asg (z := gin X (x : Int) (X.1 8 x)) (l := X.1 1 x) (x := v) b (fun P _ hP => hP)
    refine rnW_at ht12 hn t3 (hgin _ r5.2.2.2).1 ⟨hw, grl_v b2 ?_ (fun j _ => y23.i (by omega)) (fun h => ?_)⟩ (r6.eqR y23 (fun b k h => by omega)) e4
    · refine (meq_asg m2 (X.1 1 x) v).trans ?_
      unfold asg
      rw [if_neg (by omega), if_pos ⟨by omega, by omega⟩]
      refine ⟨(y3.1 _ _ (by omega)).1, fun l _ _ => y3.l (by omega), fun l _ => ?_, y3.i (by omega)⟩
      show gl M3 392 l = va_up (fun l => gl M2 392 l) ((X.1 1 x).toNat - 16) v l
      by_cases e : l = (X.1 1 x).toNat - 16
      · rw [e, va_up_at, e3, gl_at]
      · rw [va_up_of e, e3, gl_of (Or.inr e)]
    · exact ⟨(y23.1 _ _ (by omega)).1, fun l _ _ => y23.l (by omega), fun l _ => y23.l (by omega), y23.i (by omega)⟩
theorem rnW.eqR {P : Nat → Nat → Prop} {r' : rdT} (R : rnW M t X n cc en g r) (e : eqy P M M') (q : ∀ b k, (358 ≤ b ∧ b ≤ 370) ∨ (b = 353 ∧ (k = 55 ∨ k = 58 ∨ k = 60)) ∨ (391 ≤ b ∧ b ≤ 397) → ¬ P b k) (hr : req r' (rR M')) : rnW M' t X n cc en g r' := by
  obtain ⟨r1, r2, r3, ⟨hw, r5⟩, r6⟩ := R
  exact ⟨r1.eq e (fun b k h1 h2 => q b k (by omega)), (e.i (q _ _ (by omega))).trans r2, r3, ⟨hw, by rw [vR_eq e (fun b k h => q b k (by omega))]; exact r5⟩, hr⟩
theorem y_rstep {d : Nat} (ht12 : t < 12) (hX : wfx X n cc en) (R : rnW M t X n cc en g r) (hd : gi M 353 42 = (d : Int)) (hd2 : d < 2) (hW : weq w (wR M d)) (kk : ∀ M', eqy stW M M' → rnW M' t X n cc en (stepp X w g r).2.1 (stepp X w g r).2.2 → ((stepp X w g r).1.1 = 2 → gl M' 353 66 = (stepp X w g r).1.2) → K (ocW (stepp X w g r).1.1) M') : em_W_step M K := by
  have R' := R
  obtain ⟨r1, r2, r3, ⟨hw, r5⟩, r6⟩ := R
  have hn := hX.1
  refine ⟨fun hpos M1 e1 => ?_, fun hneg => ?_⟩
  · rcases r3 with q | ⟨s, hs, hsn⟩
    · rw [r2, q, lf_neg (by omega)] at hpos; omega
    have r3 : plz n g.1 := Or.inr ⟨s, hs, hsn⟩
    have es : g.1.toNat = s := by omega
    have wx := hX.2.2.2.2.2 s hsn
    have hknd := wx.2.2.2.2.2.2.1
    have kfi := fun (_ : Unit) => kf_iff hknd
    rw [r2, hs, lf_nat]
    have y1 : eqy (fun b k => b = 353 ∧ k = 65) M M1 := by rw [e1]; exact (eqy.rfl' M).wi ⟨rfl, rfl⟩
    have g65 : gi M1 353 65 = 0 := by rw [e1, gi_at (inr_z (by omega) (by omega))]
    have R1 : rnW M1 t X n cc en g r := R'.eqR y1 (fun b k h => by omega) (r6.eqR y1 (fun b k h => by omega))
    have y1' : eqy stW M M1 := y1.mono (fun b k h => by unfold stW; omega)
    obtain ⟨u0, u1, u2, u3, u4, u5, u6, u7, u8⟩ := R1.1.2.1 s hsn
    rw [tn_, u0]
    have bh := fun (P : Nat → Prop) (hP : pok X P g.1) => pok_bhd hX (P := P) 9 g.1 r3 hP
    -- the rest of a step
    have rest : ∀ (z : Int64) (N : rf_M) (E : (Nat × Int64) × rdT), eqy stW M N → rnW N t X n cc en g E.2 → (E.1.1 = 1 → gi N 353 65 = 2) → (E.1.1 = 2 → gi N 353 65 = 1 ∧ gl N 353 66 = -1) → (E.1.1 ≠ 1 → E.1.1 ≠ 2 → gi N 353 65 = 0 ∧ z = E.1.2) → (X.1 0 s = 13 ∨ X.1 0 s = 15 ∨ X.1 0 s = 17 ∨ X.1 0 s = 19 → E = ((0, 0), r)) → (¬ (X.1 0 s = 13 ∨ X.1 0 s = 15 ∨ X.1 0 s = 17 ∨ X.1 0 s = 19) → stepp X w g r = stpx X g s E) → e_W_step_51 ((40 * t + s : Nat) : Int) z N K := by
      intro z N E yN RN hE1 hE2 hE0 hEk hEs
      have RN' := RN
      obtain ⟨n1, n2, n3, ⟨hwN, n5⟩, n6⟩ := RN
      obtain ⟨v0, v1, v2, v3, v4, v5, v6, v7, v8⟩ := n1.2.1 s hsn
      have thr : ∀ (v : Int64) (N2 : rf_M), eqy stW M N2 → rnW N2 t X n cc en g E.2 → gl N2 353 66 = v → stepp X w g r = (match tss X g.1 v g with | none => ((2, v), g, E.2) | some g' => ((0, 0), g', E.2)) → em_W_throwFrom ((40 * t + s : Nat) : Int) N2 (fun z8 M8 => K z8 M8) := fun v N2 yN2 RN2 hv ho => by
        rw [ho] at kk
        rw [← lf_nat, ← hs]
        refine y_throw ht12 hX RN2 hv (fun hn => ?_) (fun g' hg M' y R2 => ?_)
        · rw [hn] at kk
          exact kk N2 yN2 RN2 (fun _ => hv)
        · rw [hg] at kk
          exact kk M' (yN2.trans y) R2 (fun (q : (0 : Nat) = 2) => absurd q (by decide))
      refine ⟨fun q2 => ?_, fun q2 => ⟨fun q1 => ?_, fun q1 _ => ?_⟩⟩
      · have hE : E.1.1 = 1 := by
          by_cases a1 : E.1.1 = 1
          · exact a1
          · by_cases a2 : E.1.1 = 2
            · rw [(hE2 a2).1] at q2; omega
            · rw [(hE0 a1 a2).1] at q2; omega
        have nk : ¬ (X.1 0 s = 13 ∨ X.1 0 s = 15 ∨ X.1 0 s = 17 ∨ X.1 0 s = 19) := fun q => by rw [hEk q] at hE; exact absurd (show (0 : Nat) = 1 from hE) (by decide)
        have ho := hEs nk
        unfold stpx at ho
        rw [if_pos hE] at ho
        rw [ho] at kk
        exact kk N yN RN' (fun (q : (3 : Nat) = 2) => absurd q (by decide))
      · have hE : E.1.1 = 2 := by
          by_cases a2 : E.1.1 = 2
          · exact a2
          · by_cases a1 : E.1.1 = 1
            · rw [hE1 a1] at q1; omega
            · rw [(hE0 a1 a2).1] at q1; omega
        have nk : ¬ (X.1 0 s = 13 ∨ X.1 0 s = 15 ∨ X.1 0 s = 17 ∨ X.1 0 s = 19) := fun q => by rw [hEk q] at hE; exact absurd (show (0 : Nat) = 2 from hE) (by decide)
        have ho := hEs nk
        unfold stpx at ho
        rw [if_neg (by omega), if_pos hE] at ho
        exact thr (-1) N yN RN' (hE2 hE).2 ho
      have a1 : E.1.1 ≠ 1 := fun q => q2 (hE1 q)
      have a2 : E.1.1 ≠ 2 := fun q => q1 (hE2 q).1
      have hz := (hE0 a1 a2).2
      have fin : ∀ (p : Int) (g' : mkT × (Nat → Int) × (Nat → mkT)) (r' : rdT) (N2 : rf_M), stepp X w g r = ((0, 0), (p, g'), r') → eqy stW M N2 → rtx N2 t X n cc en → plz n p → (∃ hw, grl X (fR t X) hw (p, g') (vR N2 t)) → req r' (rR N2) → ∀ M4, M4 = wi N2 353 60 (lf t p) → K 0 M4 := fun p g' r' N2 ho yN2 t2 hp hg hr' M4 e4 => by
        rw [ho] at kk
        refine kk M4 ?_ (rnW_at ht12 hn t2 hp hg hr' e4) (fun (q : (0 : Nat) = 2) => absurd q (by decide))
        rw [e4]
        exact yN2.wi (by unfold stW; omega)
      have gf := fun (hns : ¬ kmk X s) (P : Nat → Prop) (hk : ∀ h, ¬ kmk X h → P h) (hP : pok X P g.1) => pok_gin hX (P := P) (z := X.1 7 s) hsn (by rw [← hs]; exact hP) (wx.2.2.2.2.1.imp id (fun ⟨y, y1, y2, y3, y4⟩ => ⟨y, y1, y2, y3, fun _ => hk s hns⟩))
      have gs := fun (P : Nat → Prop) (hP : pok X P g.1) => pok_gin hX (P := P) (z := X.1 8 s) hsn (by rw [← hs]; exact hP) (wx.2.2.2.2.2.1.imp id (fun ⟨y, y1, y2, y3, y4⟩ => ⟨y, y1, y2, y3, fun z => by omega⟩))
      have l7 : lnk n (X.1 7 s) (fun _ => True) := wx.2.2.2.2.1.imp id (fun ⟨y, y1, y2, _⟩ => ⟨y, y1, y2, trivial⟩)
      have l8 : lnk n (X.1 8 s) (fun _ => True) := wx.2.2.2.2.2.1.imp id (fun ⟨y, y1, y2, _⟩ => ⟨y, y1, y2, trivial⟩)
      rw [tn_, v0, v6, v7]
      refine ⟨fun k0 => ⟨fun c _ => ?_, fun c _ => ?_⟩, fun k2 => ⟨fun c => ?_, fun c _ => ?_⟩, fun k3 => ?_, fun k4 M7 e7 => ?_, fun k9 _ h400 M9 e9 M10 e10 => ?_, fun k20 _ => ?_, fun ko => ?_⟩
      · have k10 := (kfi ()).1.mp k0
        have nk : ¬ (X.1 0 s = 13 ∨ X.1 0 s = 15 ∨ X.1 0 s = 17 ∨ X.1 0 s = 19) := by omega
        have ho := hEs nk
        unfold stpx at ho
        rw [if_neg a1, if_neg a2, if_neg (by omega), if_pos k10, if_pos (by rw [← hz]; exact (lgz _).mp c), hs] at ho
        exact y_goIn hX n1 ht12 hsn l8 (fun M4 e4 => fin _ g.2 _ N ho yN n1 (gs _ n5.2.2.2).1 ⟨hwN, grl_move n5 (fun P _ hP => (gs P hP).2)⟩ n6 M4 e4)
      · have k10 := (kfi ()).1.mp k0
        have nm : ¬ kmk X s := by unfold kmk; omega
        have nk : ¬ (X.1 0 s = 13 ∨ X.1 0 s = 15 ∨ X.1 0 s = 17 ∨ X.1 0 s = 19) := by omega
        have ho := hEs nk
        unfold stpx at ho
        rw [if_neg a1, if_neg a2, if_neg (by omega), if_pos k10, if_neg (by rw [← hz]; exact fun q => c ((lgz _).mpr q)), hs] at ho
        exact y_goIn hX n1 ht12 hsn l7 (fun M4 e4 => fin _ g.2 _ N ho yN n1 (gf nm _ (fun h q k => absurd k q) n5.2.2.2).1 ⟨hwN, grl_move n5 (fun P hk hP => (gf nm P hk hP).2)⟩ n6 M4 e4)
      · have k12 := (kfi ()).2.1.mp k2
        have nk : ¬ (X.1 0 s = 13 ∨ X.1 0 s = 15 ∨ X.1 0 s = 17 ∨ X.1 0 s = 19) := by omega
        have ho := hEs nk
        unfold stpx at ho
        rw [if_neg a1, if_neg a2, if_neg (by omega), if_neg (by omega), if_pos k12, if_pos (by rw [← hz]; exact (lgz _).mp c)] at ho
        rw [← lf_nat, ← hs]
        exact y_behind hX n1 ht12 r3 (fun M4 e4 => fin _ g.2 _ N ho yN n1 (bh _ n5.2.2.2).1 ⟨hwN, grl_move n5 (fun P _ hP => (bh P hP).2)⟩ n6 M4 e4)
      · have k12 := (kfi ()).2.1.mp k2
        have nm : ¬ kmk X s := by unfold kmk; omega
        have nk : ¬ (X.1 0 s = 13 ∨ X.1 0 s = 15 ∨ X.1 0 s = 17 ∨ X.1 0 s = 19) := by omega
        have ho := hEs nk
        unfold stpx at ho
        rw [if_neg a1, if_neg a2, if_neg (by omega), if_neg (by omega), if_pos k12, if_neg (by rw [← hz]; exact fun q => c ((lgz _).mpr q)), hs] at ho
        exact y_goIn hX n1 ht12 hsn l7 (fun M4 e4 => fin _ g.2 _ N ho yN n1 (gf nm _ (fun h q k => absurd k q) n5.2.2.2).1 ⟨hwN, grl_move n5 (fun P hk hP => (gf nm P hk hP).2)⟩ n6 M4 e4)
      · have k13 := (kfi ()).2.2.1.mp k3
        have eE := hEk (Or.inl k13)
        have ho : stepp X w g r = (if ard X 15 9 g.1 < 0 then ((4, 0), g, r) else ((0, 0), (gin X (ard X 15 9 g.1) (X.1 8 (ard X 15 9 g.1).toNat), g.2.2.2 (ard X 15 9 g.1).toNat, g.2.2.1, g.2.2.2), r)) := by
          unfold stepp
          rw [if_neg (by omega), es, if_neg (by omega), if_neg (by omega), if_pos k13]
        rw [eE] at RN'
        rw [← lf_nat, ← hs]
        refine y_retry ht12 hX RN' (fun q => ?_) (fun x q M2 y2 R2 => ?_)
        · rw [if_pos q] at ho
          rw [ho] at kk
          exact kk N yN RN' (fun (q : (4 : Nat) = 2) => absurd q (by decide))
        · rw [if_neg (by omega), q, tn_] at ho
          rw [ho] at kk
          exact kk M2 (yN.trans y2) R2 (fun (q : (0 : Nat) = 2) => absurd q (by decide))
      · have k14 := (kfi ()).2.2.2.1.mp k4
        have nk : ¬ (X.1 0 s = 13 ∨ X.1 0 s = 15 ∨ X.1 0 s = 17 ∨ X.1 0 s = 19) := by omega
        have ho := hEs nk
        unfold stpx at ho
        rw [if_neg a1, if_neg a2, if_pos k14] at ho
        have y7 : eqy (fun b k => b = 353 ∧ k = 66) N M7 := by rw [e7]; exact (eqy.rfl' N).wl ⟨rfl, rfl⟩
        exact thr E.1.2 M7 (yN.trans (y7.mono (fun b k h => by unfold stW; omega))) (RN'.eqR y7 (fun b k h => by omega) (n6.eqR y7 (fun b k h => by omega))) (by rw [e7, gl_at]; exact hz) ho
      · have k19 := (kfi ()).2.2.2.2.2.2.1.mp k9
        have eE := hEk (Or.inr (Or.inr (Or.inr k19)))
        have ho : stepp X w g r = ((0, 0), (bhd X 9 g.1, (g.2.1.1, g.2.1.2.1, g.2.1.2.2.1, g.2.1.2.2.2 + 1), va_up g.2.2.1 g.2.1.2.2.2.toNat g.1, g.2.2.2), r) := by
          unfold stepp
          rw [if_neg (by omega), es, if_neg (by omega), if_pos k19]
        obtain ⟨c, hc⟩ : ∃ c : Nat, g.2.1.2.2.2 = (c : Int) := ⟨g.2.1.2.2.2.toNat, by have := n5.2.1; omega⟩
        have hcm : gi N 353 58 = (c : Int) := n5.1.2.2.2.trans hc
        rw [hcm, tn_, v4 (by unfold kxp; omega)] at e9
        have hce : cdo X cc (X.1 2 s) := wx.2.2.2.2.2.2.2.2.2.2 (by unfold kxp; omega)
        have hin : inr (200 * (t : Int) + X.1 2 s) := by
          obtain ⟨c0, c1, k, ck, c2, c3⟩ := hce
          have := hX.2.1
          exact inr_z (by omega) (by omega)
        have g9 : gi M9 353 58 = (c : Int) := by rw [e9, gi_of (Or.inl (by omega))]; exact hcm
        rw [g9] at e10
        have y10 : eqy (fun b k => (b = 353 ∧ k = 58) ∨ (b = 393 ∧ k = c)) N M10 := by rw [e10, e9]; exact ((eqy.rfl' N).wi (Or.inr ⟨rfl, rfl⟩)).wi (Or.inl ⟨rfl, rfl⟩)
        have t10 := n1.eq y10 (fun b k _ _ => by omega)
        rw [← lf_nat, ← hs]
        refine y_behind hX t10 ht12 r3 (fun M4 e4 => fin _ _ _ M10 ho (yN.trans (y10.mono (fun b k h => by unfold stW; omega))) t10 (bh _ n5.2.2.2).1 ⟨_, grl_rule (v' := vR M10 t) hc n5 ?_ ?_ (fun j _ hj => y10.i (by omega)) (fun x => ?_) (fun P _ hP => (bh P hP).2)⟩ ?_ M4 e4)
        · refine ⟨(y10.1 _ _ (by omega)).1, fun l _ _ => y10.l (by omega), fun l _ => y10.l (by omega), ?_⟩
          show gi M10 353 58 = gi N 353 58 + 1
          rw [e10, gi_at (inr_z (by omega) (by omega)), hcm]
        · show gi M10 393 c = 200 * (t : Int) + X.1 2 g.1.toNat
          rw [es, e10, gi_of (Or.inl (by omega)), e9, gi_at hin]
        · exact ⟨(y10.1 _ _ (by omega)).1, fun l _ _ => y10.l (by omega), fun l _ => y10.l (by omega), y10.i (by omega)⟩
        · rw [eE] at n6
          exact n6.eqR y10 (fun b k h => by omega)
      · have k1 := (kfi ()).2.2.2.2.2.2.2.mp k20
        have nk : ¬ (X.1 0 s = 13 ∨ X.1 0 s = 15 ∨ X.1 0 s = 17 ∨ X.1 0 s = 19) := by omega
        have ho := hEs nk
        unfold stpx at ho
        rw [if_neg a1, if_neg a2, if_neg (by omega), if_neg (by omega), if_neg (by omega), ← hz] at ho
        have hlet := wx.2.2.2.2.2.2.2.2.2.1 k1
        have G := fun z => grl_asg (z := bhd X 9 g.1) (l := X.1 1 s) (x := z) n5 (fun P _ hP => (bh P hP).2)
        have w198 : ∀ N2, eqy (fun b k => (b = 353 ∧ k = 55) ∨ b = 391 ∨ b = 392) N N2 → meq (asg (mR N) (X.1 1 s) z) (mR N2) → e_W_step_198 ((40 * t + s : Nat) : Int) N2 K := fun N2 y2 m2 => by
          have t2 := n1.eq y2 (fun b k _ _ => by omega)
          show em_W_behind _ N2 _
          rw [← lf_nat, ← hs]
          refine y_behind hX t2 ht12 r3 (fun M4 e4 => fin _ _ _ N2 ho (yN.trans (y2.mono (fun b k h => by unfold stW; omega))) t2 (bh _ n5.2.2.2).1 ⟨hwN, grl_v (G z) m2 (fun j _ => y2.i (by omega)) (fun h => ⟨(y2.1 _ _ (by omega)).1, fun l _ _ => y2.l (by omega), fun l _ => y2.l (by omega), y2.i (by omega)⟩)⟩ (n6.eqR y2 (fun b k h => by omega)) M4 e4)
        rw [v8 (Or.inl k1)]
        refine ⟨fun hl _ _ M13 e13 _ M14 e14 => ?_, fun hl _ => ⟨inr_z (by omega) (by omega), fun _ M15 e15 => ?_⟩⟩
        · obtain ⟨l, hl'⟩ : ∃ l : Nat, X.1 1 s = (l : Int) := ⟨(X.1 1 s).toNat, by omega⟩
          have y13 : eqy (fun b _ => b = 391) N M13 := by rw [e13]; exact (eqy.rfl' N).wl rfl
          rw [y13.i (by omega), y13.i (by omega), v8 (Or.inl k1), hl'] at e14
          rw [hl', tn_] at e13
          refine w198 M14 ?_ ?_
          · rw [e14, e13]
            exact ((eqy.rfl' N).wl (Or.inr (Or.inl rfl))).wi (Or.inl ⟨rfl, rfl⟩)
          · unfold asg
            rw [hl', if_pos ⟨by omega, by omega⟩, tn_]
            refine ⟨?_, fun j hj b => ?_, fun j hj => ?_, ?_⟩
            · show M14.1 353 55 = bs (N.1 353 55) l
              rw [e14]
              show (rf_wi M13 353 55 _).1 353 55 = _
              rw [rf_wi_at, bs_lit _ (by omega), gi_ofi]
            · show gl M14 391 j = va_up (fun l => gl N 391 l) l z j
              rw [e14, gl_wi, e13]
              by_cases e : j = l
              · rw [e, gl_at, va_up_at]
              · rw [gl_of (Or.inr e), va_up_of e]
            · show gl M14 392 j = gl N 392 j
              rw [e14, gl_wi, e13, gl_of (Or.inl (by omega))]
            · show gi M14 353 58 = gi N 353 58
              rw [e14, gi_of (Or.inr (by omega)), e13]
              rfl
        · have ex : (X.1 1 s - 16).toNat = (X.1 1 s).toNat - 16 := by omega
          rw [ex] at e15
          refine w198 M15 ?_ ?_
          · rw [e15]
            exact (eqy.rfl' N).wl (Or.inr (Or.inr rfl))
          · unfold asg
            rw [if_neg (by omega), if_pos ⟨by omega, by omega⟩]
            refine ⟨by rw [e15]; rfl, fun j hj b => ?_, fun j hj => ?_, by rw [e15]; rfl⟩
            · show gl M15 391 j = gl N 391 j
              rw [e15, gl_of (Or.inl (by omega))]
            · show gl M15 392 j = va_up (fun l => gl N 392 l) ((X.1 1 s).toNat - 16) z j
              rw [e15]
              by_cases e : j = (X.1 1 s).toNat - 16
              · rw [e, gl_at, va_up_at]
              · rw [gl_of (Or.inr e), va_up_of e]
      · have hm : kmk X s := by
          unfold kmk
          unfold knd at hknd
          rw [(kfi ()).1, (kfi ()).2.1, (kfi ()).2.2.1, (kfi ()).2.2.2.1, (kfi ()).2.2.2.2.2.2.1, (kfi ()).2.2.2.2.2.2.2] at ko
          omega
        have eE := hEk (by unfold kmk at hm; omega)
        have ho : stepp X w g r = ((0, 0), (gin X g.1 (X.1 7 s), g.2.1, g.2.2.1, va_up g.2.2.2 s g.2.1), r) := by
          unfold stepp
          rw [if_neg (by omega), es, if_pos (show X.1 0 s = 15 ∨ X.1 0 s = 17 from hm)]
        refine y_keep (by omega) (fun M3 y3 m3 o3 _ => ?_)
        have t3 := n1.eq y3 (fun b k _ _ => by omega)
        rw [(t3.2.1 s hsn).2.2.2.2.2.2.1]
        have G := grl_mark (v' := vR M3 t) hX hsn hs n5 ⟨(y3.1 _ _ (by omega)).1, fun l _ _ => y3.l (by omega), fun l _ => y3.l (by omega), y3.i (by omega)⟩ (fun j _ => y3.i (by omega)) m3 (fun x hx hd => o3 _ (fun q => by
          have : x = s := by omega
          rw [this] at hd; omega)) (wx.2.2.2.2.1.imp id (fun ⟨y, y1, y2, y3, _⟩ => ⟨y, y1, y2, y3⟩))
        rw [hs] at G ho
        rw [eE] at n6
        exact y_goIn hX t3 ht12 hsn l7 (fun M4 e4 => fin _ _ _ M3 ho (yN.trans (y3.mono (fun b k h => by unfold stW; omega))) t3 G.2 ⟨hwN, G.1⟩ (n6.eqR y3 (fun b k h => by omega)) M4 e4)
    have noexp : (X.1 0 s = 13 ∨ X.1 0 s = 15 ∨ X.1 0 s = 17 ∨ X.1 0 s = 19) → e_W_step_50 ((40 * t + s : Nat) : Int) M1 K := fun q => rest 0 M1 ((0, 0), r) y1' R1 (fun (q : (0 : Nat) = 1) => absurd q (by decide)) (fun (q : (0 : Nat) = 2) => absurd q (by decide)) (fun _ _ => ⟨g65, rfl⟩) (fun _ => rfl) (fun nq => absurd q nq)
    refine fun _ => ⟨fun hx => noexp ?_, fun hx _ => ⟨fun h9 => noexp (Or.inr (Or.inr (Or.inr ((kfi ()).2.2.2.2.2.2.1.mp h9)))), fun h9 _ => ?_⟩⟩
    · by_cases hq : kxp (X.1 0 s)
      · rw [u4 hq] at hx
        have := (wx.2.2.2.2.2.2.2.2.2.2 hq).1
        omega
      · unfold kxp at hq; unfold knd at hknd; omega
    · have hq : kxp (X.1 0 s) := by
        by_cases hq : kxp (X.1 0 s)
        · exact hq
        · rw [u5 hq] at hx; omega
      have n19 : ¬ X.1 0 s = 19 := fun q => h9 ((kfi ()).2.2.2.2.2.2.1.mpr q)
      have nk : ¬ (X.1 0 s = 13 ∨ X.1 0 s = 15 ∨ X.1 0 s = 17 ∨ X.1 0 s = 19) := by unfold kxp at hq; omega
      rw [u4 hq]
      have hw1 : weq w (wR M1 d) := hW.eqR y1 (fun b k h => by omega)
      obtain ⟨hwn, n5⟩ := R1.2.2.2.1
      refine y_work hX R1.1 ht12 (wx.2.2.2.2.2.2.2.2.2.2 hq) (Or.inl ⟨rfl, (y1.i (by omega)).trans hd, hd2, hw1, n5.1⟩) R1.2.2.2.2 g65 (fun z N yN q1 q2 q3 q4 => ?_)
      refine rest z N _ (y1'.trans (yN.mono (fun b k h => by unfold wkW at h; unfold stW; omega))) (R1.eqR yN (fun b k h => by unfold wkW; omega) q1) q2 q3 q4 (fun q => absurd q nk) (fun _ => ?_)
      unfold stepp
      rw [if_neg (by omega), es, if_neg (by omega), if_neg (by omega), if_neg (by omega)]
  · have hg : g.1 < 0 := by
      rcases r3 with q | ⟨s, hs, hsn⟩
      · omega
      · rw [r2, hs, lf_nat] at hneg; omega
    have ho : stepp X w g r = ((1, 0), g, r) := by
      unfold stepp
      rw [if_pos hg]
    rw [ho] at kk
    exact kk M (eqy.rfl' M) R' (fun (q : (1 : Nat) = 2) => absurd q (by decide))
end WR3
/-! THE REFERENCE'S WALK ANEW; a run begins -/
theorem bt_0 (l : Nat) : bt 0 l = false := by
  show (0#32).getLsbD l = false
  simp
section WA1
variable {M M' : rf_M} {t n cc x c : Nat} {X : txT} {en : Int} {w : wdT} {m : mkT} {r : rdT} {g : sgT} {f : Int → Int} {v : vwT}
theorem grl_0 (hX : wfx X n cc en) (h : meq mk0 v.1) : grl X f 0 (run0 en) v ∧ plz n en := by
  refine ⟨⟨h, ⟨by show (0 : Int) ≤ 0; omega, by show (0 : Int) ≤ 0; omega⟩, fun j hj => absurd hj (by omega), ?_⟩, ?_⟩
  · show pok X _ en
    rcases hX.2.2.2.2.1 with q | ⟨x, q1, q2, q3⟩
    · exact pok_neg (by omega)
    · rw [q1]
      exact pok_of (fun p hp => by omega)
  · rcases hX.2.2.2.2.1 with q | ⟨x, q1, q2, q3⟩
    · exact Or.inl q
    · exact Or.inr ⟨x, q1, q2⟩
theorem y_beginWalk {K : rf_M → Prop} (ht12 : t < 12) (hX : wfx X n cc en) (ht : rtx M t X n cc en) (hr : req r (rR M)) (kk : ∀ M', eqy (fun b k => (b = 353 ∧ (k = 55 ∨ k = 58 ∨ k = 60)) ∨ b = 392) M M' → rnW M' t X n cc en (run0 en) r → K M') : em_W_beginWalk (t : Int) M K := by
  intro M1 e1 M2 e2
  refine ⟨fun v1 v2 M' => v1 = (t : Int) ∧ ∃ j : Nat, v2 = (j : Int) ∧ j ≤ 10 ∧ eqy (fun b _ => b = 392) M2 M' ∧ ∀ l, l < j → gl M' 392 l = 0, ⟨rfl, 0, rfl, by omega, eqy.rfl' _, fun l h => absurd h (by omega)⟩, ?_⟩
  rintro v1 v2 M3 - - ⟨rfl, j, rfl, hj, y3, h3⟩
  refine ⟨fun h _ M4 e4 => ?_, fun h _ M4 e4 => ⟨inr_z (by omega) (by omega), rfl, j + 1, by omega, by omega, ?_, fun l hl => ?_⟩⟩
  · have y2 : eqy (fun b k => b = 353 ∧ (k = 55 ∨ k = 58)) M M2 := by rw [e2, e1]; exact ((eqy.rfl' M).wi ⟨rfl, Or.inl rfl⟩).wi ⟨rfl, Or.inr rfl⟩
    have yM3 : eqy (fun b k => (b = 353 ∧ (k = 55 ∨ k = 58 ∨ k = 60)) ∨ b = 392) M M3 := (y2.mono (fun b k h => by omega)).trans (y3.mono (fun b k h => Or.inr h))
    have t3 := ht.eq yM3 (fun b k _ _ => by omega)
    rw [tn_, t3.1] at e4
    have g := grl_0 (f := fR t X) (v := vR M3 t) hX (by
      refine ⟨?_, fun l _ b => ?_, fun l hl => h3 l (by omega), ?_⟩
      · show M3.1 353 55 = 0
        rw [(y3.1 353 55 (by omega)).1, e2]
        show (rf_wi M1 353 58 _).1 353 55 = _
        rw [rf_wi_of _ _ (Or.inr (by omega)), e1]
        show (rf_wi M 353 55 _).1 353 55 = _
        rw [rf_wi_at]
        rfl
      · rw [show bt mk0.1 l = false from bt_0 l] at b; cases b
      · show gi M3 353 58 = 0
        rw [y3.i (by omega), e2, gi_at (inr_z (by omega) (by omega))])
    refine kk M4 ?_ (rnW_at ht12 hX.1 t3 g.2 ⟨0, g.1⟩ (hr.eqR yM3 (fun b k h => by omega)) e4)
    rw [e4]
    exact yM3.wi (Or.inl ⟨rfl, by omega⟩)
  · rw [e4]
    exact y3.wl rfl
  · rw [tn_] at e4
    by_cases e : l = j
    · rw [e, e4, gl_at]; rfl
    · rw [e4, gl_of (Or.inr e)]
      exact h3 l (by omega)
/-- what is kept of what client c has read -/
def rC (M : rf_M) (c : Nat) : rdT := (M.1 386 c, fun l => gl M 387 (16 * c + l), fun l => M.1 388 (16 * c + l))
theorem y_bringRead {K : rf_M → Prop} (hc : c < 8) (hr : req r (rC M c)) (kk : ∀ M', eqy vwR M M' → req r (rR M') → K M') : em_W_bringRead (c : Int) M K := by
  intro _ M1 e1
  rw [tn_] at e1
  have y1 : eqy vwR M M1 := by rw [e1]; exact (eqy.rfl' M).wi (Or.inl ⟨rfl, rfl⟩)
  refine ⟨fun v1 v2 M' => v1 = (c : Int) ∧ ∃ j : Nat, v2 = (j : Int) ∧ j ≤ 16 ∧ eqy (fun b _ => b = 389 ∨ b = 390) M1 M' ∧ ∀ l, l < j → gl M' 389 l = gl M 387 (16 * c + l) ∧ M'.1 390 l = M.1 388 (16 * c + l), ⟨rfl, 0, rfl, by omega, eqy.rfl' _, fun l h => absurd h (by omega)⟩, ?_⟩
  rintro v1 v2 M3 - - ⟨rfl, j, rfl, hj, y3, h3⟩
  have ex : (16 * (c : Int) + (j : Int)).toNat = 16 * c + j := by omega
  refine ⟨fun h => ?_, fun h => ⟨inr_z (by omega) (by omega), fun _ _ M4 e4 => ⟨inr_z (by omega) (by omega), fun _ _ M5 e5 => ⟨inr_z (by omega) (by omega), rfl, j + 1, by omega, by omega, ?_, fun l hl => ?_⟩⟩⟩⟩
  · have y : eqy vwR M M3 := y1.trans (y3.mono (fun b k h => Or.inr h))
    refine kk M3 y ⟨?_, fun l hl b => ?_⟩
    · refine ((y3.1 353 52 (by omega)).1.trans ?_).trans hr.1
      rw [e1]
      show (rf_wi M 353 52 _).1 353 52 = _
      rw [rf_wi_at, gi_ofi]
      rfl
    · have q := h3 l (by omega)
      have q2 := hr.2 l hl b
      exact ⟨q.1.trans q2.1, q.2.trans q2.2⟩
  · rw [e5, e4]
    exact (y3.wl (Or.inl rfl)).wi (Or.inr rfl)
  · rw [ex, tn_] at e4 e5
    by_cases e : l = j
    · subst e
      constructor
      · rw [e5]
        show gl M4 389 l = _
        rw [e4, gl_at]
        refine (y3.l (by omega)).trans ?_
        rw [e1]; rfl
      · rw [e5]
        show (rf_wi M4 390 l (Int32.ofInt (gi M4 388 (16 * c + l)))).1 390 l = _
        rw [rf_wi_at, gi_ofi, e4]
        show M3.1 388 (16 * c + l) = _
        rw [(y3.1 388 _ (by omega)).1, e1]
        show (rf_wi M 353 52 _).1 388 (16 * c + l) = _
        rw [rf_wi_of _ _ (Or.inl (by omega))]
    · have q := h3 l (by omega)
      constructor
      · rw [e5]
        show gl M4 389 l = _
        rw [e4, gl_of (Or.inr e)]
        exact q.1
      · rw [e5]
        show (rf_wi M4 390 j _).1 390 l = _
        rw [rf_wi_of _ _ (Or.inr e), e4]
        exact q.2
theorem y_keepRead {K : rf_M → Prop} (hc : c < 8) (hr : req r (rR M)) (kk : ∀ M', eqy (fun b k => (b = 386 ∧ k = c) ∨ ((b = 387 ∨ b = 388) ∧ 16 * c ≤ k ∧ k < 16 * c + 16)) M M' → req r (rC M' c) → K M') : em_W_keepRead (c : Int) M K := by
  intro _ M1 e1
  rw [tn_] at e1
  refine ⟨fun v1 v2 M' => v1 = (c : Int) ∧ ∃ j : Nat, v2 = (j : Int) ∧ j ≤ 16 ∧ eqy (fun b k => (b = 387 ∨ b = 388) ∧ 16 * c ≤ k ∧ k < 16 * c + 16) M1 M' ∧ ∀ l, l < j → gl M' 387 (16 * c + l) = gl M 389 l ∧ M'.1 388 (16 * c + l) = M.1 390 l, ⟨rfl, 0, rfl, by omega, eqy.rfl' _, fun l h => absurd h (by omega)⟩, ?_⟩
  rintro v1 v2 M3 - - ⟨rfl, j, rfl, hj, y3, h3⟩
  have ex : (16 * (c : Int) + (j : Int)).toNat = 16 * c + j := by omega
  refine ⟨fun h => ?_, fun h _ => ⟨inr_z (by omega) (by omega), fun _ M4 e4 _ => ⟨inr_z (by omega) (by omega), fun _ M5 e5 => ⟨inr_z (by omega) (by omega), rfl, j + 1, by omega, by omega, ?_, fun l hl => ?_⟩⟩⟩⟩
  · have y1 : eqy (fun b k => b = 386 ∧ k = c) M M1 := by rw [e1]; exact (eqy.rfl' M).wi ⟨rfl, rfl⟩
    refine kk M3 ((y1.mono (fun b k h => Or.inl h)).trans (y3.mono (fun b k h => Or.inr h))) ⟨?_, fun l hl b => ?_⟩
    · refine ((y3.1 386 c (by omega)).1.trans ?_).trans hr.1
      rw [e1]
      show (rf_wi M 386 c _).1 386 c = _
      rw [rf_wi_at, gi_ofi]
      rfl
    · have q := h3 l (by omega)
      have q2 := hr.2 l hl b
      exact ⟨q.1.trans q2.1, q.2.trans q2.2⟩
  · rw [ex] at e4 e5
    rw [e5, e4]
    exact (y3.wl ⟨Or.inl rfl, by omega, by omega⟩).wi ⟨Or.inr rfl, by omega, by omega⟩
  · rw [ex, tn_] at e4 e5
    by_cases e : l = j
    · subst e
      constructor
      · rw [e5]
        show gl M4 387 (16 * c + l) = _
        rw [e4, gl_at]
        refine (y3.l (by omega)).trans ?_
        rw [e1]; rfl
      · rw [e5]
        show (rf_wi M4 388 (16 * c + l) (Int32.ofInt (gi M4 390 l))).1 388 (16 * c + l) = _
        rw [rf_wi_at, gi_ofi, e4]
        show M3.1 390 l = _
        rw [(y3.1 390 _ (by omega)).1, e1]
        show (rf_wi M 386 c _).1 390 l = _
        rw [rf_wi_of _ _ (Or.inl (by omega))]
    · have q := h3 l (by omega)
      constructor
      · rw [e5]
        show gl M4 387 (16 * c + l) = _
        rw [e4, gl_of (Or.inr (by omega))]
        exact q.1
      · rw [e5]
        show (rf_wi M4 388 (16 * c + j) _).1 388 (16 * c + l) = _
        rw [rf_wi_of _ _ (Or.inr (by omega)), e4]
        exact q.2
theorem wit_le {g0 : sgT} {r0 : rdT} : ∀ (k : Nat) (q : sgT × rdT), wit X w g0 r0 k = some q → ∀ j, j < k → ∃ q', wit X w g0 r0 j = some q' ∧ (stepp X w q'.1 q'.2).1.1 = 0 ∧ wit X w g0 r0 (j + 1) = some (stepp X w q'.1 q'.2).2
  | 0, _, _, j, hj => absurd hj (by omega)
  | k + 1, q, h, j, hj => by
    have h : (wit X w g0 r0 k).bind (fun q => if (stepp X w q.1 q.2).1.1 = 0 then some (stepp X w q.1 q.2).2 else none) = some q := h
    cases hk : wit X w g0 r0 k with
    | none => rw [hk] at h; cases h
    | some q' =>
      by_cases e : j = k
      · subst e
        rw [hk] at h
        have h : (if (stepp X w q'.1 q'.2).1.1 = 0 then some (stepp X w q'.1 q'.2).2 else none) = some q := h
        split at h
        · rename_i hz
          refine ⟨q', hk, hz, ?_⟩
          show (wit X w g0 r0 j).bind _ = _
          rw [hk]
          exact if_pos hz
        · cases h
      · exact wit_le k q' hk j (by omega)
def waW (b k : Nat) : Prop := stW b k ∨ (b = 353 ∧ k = 42)
theorem y_walkAnew {k : Nat} {K : rf_M → Prop} (hc : c < 8) (ht12 : t < 12) (hX : wfx X n cc en) (ht : rtx M t X n cc en) (hq : gi M 380 (16 * c) = (t : Int)) (hk : gi M 383 c = (k : Int)) (hr : req r (rC M c)) (hW : weq w (wR M 0)) (hg : wit X w (run0 en) r k = some (g, r)) (hk3 : k ≤ 300) (kk : ∀ M', eqy waW M M' → gi M' 353 42 = 0 → rnW M' t X n cc en g r → K M') : em_W_walkAnew (c : Int) M K := by
  intro M1 e1
  have y1 : eqy (fun b k => b = 353 ∧ k = 42) M M1 := by rw [e1]; exact (eqy.rfl' M).wi ⟨rfl, rfl⟩
  have w1 : gi M1 353 42 = 0 := by rw [e1, gi_at (inr_z (by omega) (by omega))]
  have r1 : req r (rC M1 c) := ⟨(y1.1 _ _ (by omega)).1.trans hr.1, fun l hl b => ⟨(y1.l (by omega)).trans (hr.2 l hl b).1, (y1.1 _ _ (by omega)).1.trans (hr.2 l hl b).2⟩⟩
  refine y_bringRead hc r1 (fun M2 y2 r2 => ?_)
  have y12 : eqy waW M M2 := (y1.mono (fun b k h => Or.inr h)).trans (y2.mono (fun b k h => by unfold vwR at h; show stW b k ∨ _; unfold stW; omega))
  refine ⟨inr_z (by omega) (by omega), fun _ => ?_⟩
  have e16 : (16 * (c : Int)).toNat = 16 * c := by omega
  rw [e16, y12.i (by unfold waW stW; omega), hq]
  have t2 := ht.eq y12 (fun b k _ _ => by unfold waW stW; omega)
  refine y_beginWalk ht12 hX t2 r2 (fun M3 y3 R3 => ?_)
  have y13 : eqy waW M M3 := y12.trans (y3.mono (fun b k h => by unfold waW stW; omega))
  have w3 : gi M3 353 42 = 0 := by
    rw [y3.i (by omega), y2.i (by unfold vwR; omega)]; exact w1
  refine ⟨fun v1 v2 M' => v1 = (c : Int) ∧ ∃ (j : Nat) (q : sgT × rdT), v2 = (j : Int) ∧ j ≤ k ∧ wit X w (run0 en) r j = some q ∧ eqy waW M M' ∧ gi M' 353 42 = 0 ∧ rnW M' t X n cc en q.1 q.2, ⟨rfl, 0, (run0 en, r), rfl, Nat.zero_le _, rfl, y13, w3, R3⟩, ?_⟩
  rintro v1 v2 M4 - - ⟨rfl, j, q, rfl, hj, hq4, y4, w4, R4⟩
  refine fun _ => ?_
  rw [tn_, y4.i (by unfold waW stW; omega), hk]
  refine ⟨fun h => ?_, fun h => ?_⟩
  · have e : j = k := by omega
    subst e
    rw [hg] at hq4
    injection hq4 with hq4
    rw [← hq4] at R4
    exact kk M4 y4 w4 R4
  · obtain ⟨q', a1, a2, a3⟩ := wit_le k _ hg j (by omega)
    rw [hq4] at a1
    injection a1 with a1
    subst a1
    refine y_rstep (d := 0) ht12 hX R4 (by rw [w4]; rfl) (by omega) (hW.eqR y4 (fun b k h => by unfold waW stW; omega)) (fun M5 y5 R5 _ => ⟨inr_z (by omega) (by omega), rfl, j + 1, _, by omega, by omega, a3, y4.trans (y5.mono (fun b k h => Or.inl h)), (y5.i (by unfold stW; omega)).trans w4, R5⟩)
end WA1
/-! THE PURE PICTURE OF ALL: cells, rules, clients, rows -/
def vld (X : txT) (n : Nat) (z : Int) : Prop := ∃ s : Nat, z = (s : Int) ∧ s < n ∧ X.1 0 s = 19
/-- the rules that a run has made are rules -/
def gvl (X : txT) (n k : Nat) (g : sgT) : Prop := plz n g.1 ∧ ∃ hw : Nat, hw ≤ k ∧ (0 ≤ g.2.1.2.2.2 ∧ g.2.1.2.2.2 ≤ (hw : Int)) ∧ (∀ j, j < hw → vld X n (g.2.2.1 j)) ∧ pok X (fun h => kmk X h → 0 ≤ (g.2.2.2 h).2.2.2 ∧ (g.2.2.2 h).2.2.2 ≤ (hw : Int)) g.1
theorem asg_cnt (m : mkT) (l : Int) (v : Int64) : (asg m l v).2.2.2 = m.2.2.2 := by
  unfold asg
  split
  · rfl
  · split <;> rfl
section GV
variable {X : txT} {n cc k : Nat} {en : Int} {w : wdT} {g : sgT} {r : rdT}
theorem gvl_up {k' : Nat} (h : gvl X n k g) (hk : k ≤ k') : gvl X n k' g := by
  obtain ⟨h1, hw, h0, h⟩ := h
  exact ⟨h1, hw, Nat.le_trans h0 hk, h⟩
theorem gvl_0 (hX : wfx X n cc en) : gvl X n 0 (run0 en) := by
  refine ⟨?_, 0, Nat.le_refl _, ⟨by show (0 : Int) ≤ 0; omega, by show (0 : Int) ≤ 0; omega⟩, fun j hj => absurd hj (by omega), ?_⟩
  · rcases hX.2.2.2.2.1 with q | ⟨x, q1, q2, q3⟩
    · exact Or.inl q
    · exact Or.inr ⟨x, q1, q2⟩
  · show pok X _ en
    rcases hX.2.2.2.2.1 with q | ⟨x, q1, q2, q3⟩
    · exact pok_neg (by omega)
    · rw [q1]
      exact pok_of (fun p hp => by omega)
theorem gvl_tss {v : Int64} {g' : sgT} (hX : wfx X n cc en) (h : gvl X n k g) (ht : tss X g.1 v g = some g') : gvl X n k g' := by
  obtain ⟨h1, hw, hwk, h2, h3, h4⟩ := h
  unfold tss at ht
  rcases pok_ard hX (k := 17) 9 g.1 h1 h4 with q | ⟨x, q1, q2, q3, q4, q5⟩
  · rw [q, if_pos (by omega)] at ht; cases ht
  · rw [q1, if_neg (by omega), tn_] at ht
    injection ht with ht
    rw [← ht]
    have wx := hX.2.2.2.2.2 x q2
    have gg := pok_gin hX (z := X.1 8 x) q2 q4 (wx.2.2.2.2.2.1.imp id (fun ⟨y, y1, y2, y3, y4⟩ => ⟨y, y1, y2, y3, fun z => by omega⟩))
    refine ⟨gg.1, hw, hwk, ?_, h3, gg.2⟩
    show 0 ≤ (asg (g.2.2.2 x) _ v).2.2.2 ∧ (asg (g.2.2.2 x) _ v).2.2.2 ≤ (hw : Int)
    rw [asg_cnt]
    exact q5 (Or.inr q3)
theorem gvl_step (hX : wfx X n cc en) (h : gvl X n k g) : gvl X n (k + 1) (stepp X w g r).2.1 := by
  have h' := gvl_up h (Nat.le_succ k)
  obtain ⟨h1, hw, hwk, h2, h3, h4⟩ := h
  unfold stepp
  split
  · exact h'
  rename_i c0
  rcases h1 with q | ⟨s, hs, hsn⟩
  · omega
  have h1 : plz n g.1 := Or.inr ⟨s, hs, hsn⟩
  have es : g.1.toNat = s := by omega
  have wx := hX.2.2.2.2.2 s hsn
  have bh := fun (P : Nat → Prop) (hP : pok X P g.1) => pok_bhd hX (P := P) 9 g.1 h1 hP
  rw [es]
  split
  · rename_i c1
    have b := pok_dep hX hsn (by rw [← hs]; exact h4)
    have b' : pok X (fun h => kmk X h → 0 ≤ (va_up g.2.2.2 s g.2.1 h).2.2.2 ∧ (va_up g.2.2.2 s g.2.1 h).2.2.2 ≤ (hw : Int)) (s : Int) := pok_mono b (fun x hx hk => by
      have ne : x ≠ s := fun q => by have := hx.2.2; rw [q] at this; omega
      rw [va_up_of ne]
      exact hx.1 hk)
    have q := pok_gin hX (z := X.1 7 s) hsn b' (wx.2.2.2.2.1.imp id (fun ⟨x, x1, x2, x3, _⟩ => ⟨x, x1, x2, x3, fun _ _ => by rw [va_up_at]; exact h2⟩))
    rw [← hs] at q
    exact ⟨q.1, hw, by omega, h2, h3, q.2⟩
  · split
    · rename_i c2
      obtain ⟨c, hc⟩ : ∃ c : Nat, g.2.1.2.2.2 = (c : Int) := ⟨g.2.1.2.2.2.toNat, by omega⟩
      refine ⟨(bh _ h4).1, max hw (c + 1), by omega, ⟨?_, ?_⟩, fun j hj => ?_, (bh _ (pok_mono h4 (fun x hx hk => ⟨(hx hk).1, ?_⟩))).2⟩
      · show (0 : Int) ≤ g.2.1.2.2.2 + 1
        omega
      · show g.2.1.2.2.2 + 1 ≤ ((max hw (c + 1) : Nat) : Int)
        omega
      · show vld X n (va_up g.2.2.1 g.2.1.2.2.2.toNat g.1 j)
        rw [show g.2.1.2.2.2.toNat = c by omega]
        by_cases e : j = c
        · rw [e, va_up_at]; exact ⟨s, hs, hsn, c2⟩
        · rw [va_up_of e]; exact h3 j (by omega)
      · have := (hx hk).2
        show (g.2.2.2 x).2.2.2 ≤ ((max hw (c + 1) : Nat) : Int)
        omega
    · split
      · rename_i c3
        rcases pok_ard hX (k := 15) 9 g.1 h1 h4 with q | ⟨x, q1, q2, q3, q4, q5⟩
        · rw [q, if_pos (by omega)]; exact h'
        · rw [q1, if_neg (by omega), tn_]
          have wy := hX.2.2.2.2.2 x q2
          have gg := pok_gin hX (z := X.1 8 x) q2 q4 (wy.2.2.2.2.2.1.imp id (fun ⟨y, y1, y2, y3, y4⟩ => ⟨y, y1, y2, y3, fun z => by omega⟩))
          exact ⟨gg.1, hw, by omega, q5 (Or.inl q3), h3, gg.2⟩
      · rename_i c1 c2 c3
        unfold stpx
        generalize evc X.2.1 X.2.2 w g.2.1 161 (X.1 2 s).toNat [] r = E
        have tos : ∀ v : Int64, gvl X n (k + 1) (match tss X g.1 v g with | none => (((2, v), g, E.2) : (Nat × Int64) × sgT × rdT) | some g' => ((0, 0), g', E.2)).2.1 := fun v => by
          cases ht : tss X g.1 v g with
          | none => exact h'
          | some g' => exact gvl_tss hX h' ht
        have nk : ¬ kmk X s := c1
        have gf := pok_gin hX (z := X.1 7 s) hsn (by rw [← hs]; exact h4) (wx.2.2.2.2.1.imp id (fun ⟨y, y1, y2, y3, y4⟩ => ⟨y, y1, y2, y3, fun _ k => absurd k nk⟩))
        have gs := pok_gin hX (z := X.1 8 s) hsn (by rw [← hs]; exact h4) (wx.2.2.2.2.2.1.imp id (fun ⟨y, y1, y2, y3, y4⟩ => ⟨y, y1, y2, y3, fun z => by omega⟩))
        rw [← hs] at gf gs
        split
        · exact h'
        · split
          · exact tos (-1)
          · split
            · exact tos E.1.2
            · split
              · split
                · exact ⟨gs.1, hw, by omega, h2, h3, gs.2⟩
                · exact ⟨gf.1, hw, by omega, h2, h3, gf.2⟩
              · split
                · split
                  · exact ⟨(bh _ h4).1, hw, by omega, h2, h3, (bh _ h4).2⟩
                  · exact ⟨gf.1, hw, by omega, h2, h3, gf.2⟩
                · refine ⟨(bh _ h4).1, hw, by omega, ?_, h3, (bh _ h4).2⟩
                  show 0 ≤ (asg g.2.1 _ _).2.2.2 ∧ (asg g.2.1 _ _).2.2.2 ≤ (hw : Int)
                  rw [asg_cnt]
                  exact h2
end GV
/-! what is read in a step is as the world is -/
def rnq (w : wdT) (r r' : rdT) : Prop := ∀ l, l < 16 → bt r'.1 l = true → (bt r.1 l = true ∧ r'.2.1 l = r.2.1 l ∧ r'.2.2 l = r.2.2 l) ∨ (r'.2.1 l = w.1 l ∧ r'.2.2 l = w.2 l)
theorem rnq.rfl' (w : wdT) (r : rdT) : rnq w r r := fun _ _ b => Or.inl ⟨b, rfl, rfl⟩
theorem rnq.trans {w : wdT} {r r' r'' : rdT} (h : rnq w r r') (h' : rnq w r' r'') : rnq w r r'' := fun l hl b => by
  rcases h' l hl b with ⟨a1, a2, a3⟩ | q
  · rcases h l hl a1 with ⟨b1, b2, b3⟩ | ⟨b2, b3⟩
    · exact Or.inl ⟨b1, a2.trans b2, a3.trans b3⟩
    · exact Or.inr ⟨a2.trans b2, a3.trans b3⟩
  · exact Or.inr q
theorem stale_rnq {w : wdT} {r r' : rdT} (h : rnq w r r') (h' : rsub r r') : stale w r' = stale w r := by
  cases hs : stale w r with
  | true =>
    unfold stale at hs ⊢
    rw [List.any_eq_true] at hs ⊢
    obtain ⟨l, hl, q⟩ := hs
    rw [Bool.and_eq_true] at q
    obtain ⟨a1, a2, a3⟩ := h' l (List.mem_range.mp hl) q.1
    exact ⟨l, hl, by rw [a1, a3]; exact q.2⟩
  | false =>
    cases hs' : stale w r' with
    | false => rfl
    | true =>
      unfold stale at hs hs'
      rw [List.any_eq_true] at hs'
      rw [List.any_eq_false] at hs
      obtain ⟨l, hl, q⟩ := hs'
      rw [Bool.and_eq_true] at q
      rcases h l (List.mem_range.mp hl) q.1 with ⟨a1, a2, a3⟩ | ⟨a2, a3⟩
      · exact absurd (by rw [a1, ← a3]; exact q.2) (hs l hl)
      · have q2 := q.2
        rw [a3] at q2
        simp at q2
section RN
variable {O A : Nat → Int} {w : wdT} {m : mkT}
theorem lval_rnq {r : rdT} {l : Int} {q : Int64 × rdT} (h : lval w m r l = some q) : rnq w r q.2 := by
  unfold lval at h
  by_cases c1 : 0 ≤ l ∧ l < 16
  · rw [if_pos c1] at h
    split at h
    · injection h with h; rw [← h]; exact rnq.rfl' w r
    · split at h
      · injection h with h; rw [← h]; exact rnq.rfl' w r
      · split at h
        · cases h
        · injection h with h
          rw [← h]
          intro j hj b
          by_cases e : j = l.toNat
          · subst e
            exact Or.inr ⟨va_up_at _ _ _, va_up_at _ _ _⟩
          · have b : bt (bs r.1 l.toNat) j = true := b
            rw [bt_bs (by omega) hj] at b
            have b : bt r.1 j = true := by simpa [e] using b
            exact Or.inl ⟨b, va_up_of e, va_up_of e⟩
  · rw [if_neg c1] at h
    split at h
    · injection h with h; rw [← h]; exact rnq.rfl' w r
    · injection h with h; rw [← h]; exact rnq.rfl' w r
theorem evc_rnq : ∀ (f i : Nat) (st : List Int64) (r : rdT), rnq w r (evc O A w m f i st r).2 ∧ ((evc O A w m f i st r).1.1 = 1 → stale w (evc O A w m f i st r).2 = true)
  | 0, _, _, r => ⟨rnq.rfl' w r, fun (q : (0 : Nat) = 1) => absurd q (by decide)⟩
  | f + 1, i, st, r => by
    unfold evc
    split
    · exact ⟨rnq.rfl' w r, fun (q : (0 : Nat) = 1) => absurd q (by decide)⟩
    · split
      · exact evc_rnq f _ _ r
      · split
        · split
          · rename_i hq
            refine ⟨rnq.rfl' w r, fun _ => ?_⟩
            unfold lval at hq
            split at hq
            · split at hq
              · cases hq
              · split at hq
                · cases hq
                · split at hq
                  · rename_i hs; exact hs
                  · cases hq
            · split at hq <;> cases hq
          · rename_i q hq
            have := evc_rnq f (i + 1) (q.1 :: st) q.2
            exact ⟨(lval_rnq hq).trans this.1, this.2⟩
        · split
          · exact evc_rnq f _ _ r
          · split
            · exact ⟨rnq.rfl' w r, fun (q : (2 : Nat) = 1) => absurd q (by decide)⟩
            · exact evc_rnq f _ _ r
theorem stepp_rnq (X : txT) (w : wdT) (g : sgT) (r : rdT) : rnq w r (stepp X w g r).2.2 ∧ ((stepp X w g r).1.1 = 3 → stale w (stepp X w g r).2.2 = true) := by
  unfold stepp
  split
  · exact ⟨rnq.rfl' w r, fun (q : (1 : Nat) = 3) => absurd q (by decide)⟩
  · split
    · exact ⟨rnq.rfl' w r, fun (q : (0 : Nat) = 3) => absurd q (by decide)⟩
    · split
      · exact ⟨rnq.rfl' w r, fun (q : (0 : Nat) = 3) => absurd q (by decide)⟩
      · split
        · split
          · exact ⟨rnq.rfl' w r, fun (q : (4 : Nat) = 3) => absurd q (by decide)⟩
          · exact ⟨rnq.rfl' w r, fun (q : (0 : Nat) = 3) => absurd q (by decide)⟩
        · have e := evc_rnq (O := X.2.1) (A := X.2.2) (w := w) (m := g.2.1) 161 (X.1 2 g.1.toNat).toNat [] r
          generalize evc X.2.1 X.2.2 w g.2.1 161 (X.1 2 g.1.toNat).toNat [] r = E at e
          unfold stpx
          split
          · rename_i c; exact ⟨e.1, fun _ => e.2 c⟩
          · split
            · split
              · exact ⟨e.1, fun (q : (2 : Nat) = 3) => absurd q (by decide)⟩
              · exact ⟨e.1, fun (q : (0 : Nat) = 3) => absurd q (by decide)⟩
            · split
              · split
                · exact ⟨e.1, fun (q : (2 : Nat) = 3) => absurd q (by decide)⟩
                · exact ⟨e.1, fun (q : (0 : Nat) = 3) => absurd q (by decide)⟩
              · split
                · exact ⟨e.1, fun (q : (0 : Nat) = 3) => absurd q (by decide)⟩
                · split
                  · exact ⟨e.1, fun (q : (0 : Nat) = 3) => absurd q (by decide)⟩
                  · exact ⟨e.1, fun (q : (0 : Nat) = 3) => absurd q (by decide)⟩
end RN
/-- texts: text, statements, code, entry -/
abbrev tsT : Type := Nat → txT × Nat × Nat × Int
/-- a client: what it has to do, cuts, urgent, 0 none 1 running 2 waiting, steps, run, what is read -/
abbrev clT : Type := List Nat × Int × Bool × Nat × Nat × sgT × rdT
/-- a row: kind, client, what, steps, cuts, value -/
abbrev rwT : Type := (Int × Int × Int × Int × Int) × Int64
/-- all: world, rules (text, statement), clients, rows -/
abbrev syT : Type := wdT × List (Nat × Int) × (Nat → clT) × List rwT
def mkV (V : Nat → Int64) : mkT := (65535, V, fun _ => 0, 0)
def wd0 : wdT := (fun _ => 0, fun _ => 0)
def hld (Ts : tsT) (V : Nat → Int64) (q : Nat × Int) : Bool := (!(decide ((evc (Ts q.1).1.2.1 (Ts q.1).1.2.2 wd0 (mkV V) 161 ((Ts q.1).1.1 2 q.2.toNat).toNat [] rd0).1.1 = 1)) && !(decide ((evc (Ts q.1).1.2.1 (Ts q.1).1.2.2 wd0 (mkV V) 161 ((Ts q.1).1.1 2 q.2.toNat).toNat [] rd0).1.1 = 2))) && !(decide ((evc (Ts q.1).1.2.1 (Ts q.1).1.2.2 wd0 (mkV V) 161 ((Ts q.1).1.1 2 q.2.toNat).toNat [] rd0).1.2 = 0))
def wld (w : wdT) (m : mkT) (l : Nat) : Int64 := if bt m.1 l then m.2.1 l else w.1 l
def nru (t : Nat) (g : sgT) : List (Nat × Int) := (List.range g.2.1.2.2.2.toNat).map (fun j => (t, g.2.2.1 j))
def wel (Ts : tsT) (S : syT) (t : Nat) (g : sgT) : Bool := (S.2.1.all (hld Ts (wld S.1 g.2.1)) && (nru t g).all (hld Ts (wld S.1 g.2.1))) && decide (S.2.1.length + g.2.1.2.2.2.toNat ≤ 32)
def brg (w : wdT) (m : mkT) : wdT := (wld w m, fun l => if bt m.1 l then Int32.ofInt ((w.2 l).toInt + 1) else w.2 l)
def hel (S : syT) (c : Nat) : Bool := !(S.2.2.1 c).2.2.1 && (List.range 8).any (fun k => (S.2.2.1 k).2.2.1)
def setc (S : syT) (c : Nat) (x : clT) : syT := (S.1, S.2.1, va_up S.2.2.1 c x, S.2.2.2)
def ovr (cl : clT) : clT := (cl.1.tail, 0, false, 0, 0, run0 (-1), rd0)
def beg (Ts : tsT) (cl : clT) : Nat × sgT × rdT := if cl.2.2.2.1 = 1 then cl.2.2.2.2 else (0, run0 (Ts (cl.1.headD 0)).2.2.2, rd0)
def out (Ts : tsT) (S : syT) (cl : clT) : (Nat × Int64) × sgT × rdT := if 300 ≤ (beg Ts cl).1 then ((2, -3), (beg Ts cl).2) else stepp (Ts (cl.1.headD 0)).1 S.1 (beg Ts cl).2.1 (beg Ts cl).2.2
/-- a turn behind its step -/
def trn2 (Ts : tsT) (S : syT) (c : Nat) (cl : clT) (o : (Nat × Int64) × sgT × rdT) : Int × syT :=
  if o.1.1 = 0 then (0, setc S c (cl.1, cl.2.1, cl.2.2.1, 1, (beg Ts cl).1 + 1, o.2))
  else if stale S.1 o.2.2 = true then (3, setc S c (cl.1, cl.2.1 + 1, decide (4 ≤ cl.2.1 + 1), 0, 0, run0 (-1), rd0))
  else if o.1.1 = 4 then (4, setc S c (cl.1, cl.2.1, false, 2, 0, run0 (-1), o.2.2))
  else if hel S c = true then (6, S)
  else if 300 ≤ S.2.2.2.length then (-1, S)
  else if o.1.1 = 1 ∧ wel Ts S (cl.1.headD 0) o.2.1 = true then (1, (brg S.1 o.2.1.2.1, S.2.1 ++ nru (cl.1.headD 0) o.2.1, va_up S.2.2.1 c (ovr cl), S.2.2.2 ++ [((1, (c : Int), (cl.1.headD 0 : Int), ((beg Ts cl).1 : Int) + 1, cl.2.1), 0)]))
  else (2, (S.1, S.2.1, va_up S.2.2.1 c (ovr cl), S.2.2.2 ++ [((2, (c : Int), (cl.1.headD 0 : Int), ((beg Ts cl).1 : Int) + 1, cl.2.1), if o.1.1 = 1 then -2 else o.1.2)]))
/-- a turn of client c -/
def trn (Ts : tsT) (S : syT) (c : Nat) : Int × syT :=
  if (S.2.2.1 c).1.length = 0 then (5, S)
  else if (S.2.2.1 c).2.2.2.1 = 2 ∧ stale S.1 (S.2.2.1 c).2.2.2.2.2.2 = false then (4, S)
  else trn2 Ts S c (S.2.2.1 c) (out Ts S (S.2.2.1 c))
/-! what always holds of the pure picture -/
def cli (Ts : tsT) (c0 : Nat) (w : wdT) (R : Nat) (cl : clT) : Prop :=
  (cl.1.length ≤ 16 ∧ ∀ t ∈ cl.1, t < c0) ∧ (0 ≤ cl.2.1 ∧ cl.2.1 ≤ (R : Int)) ∧ (cl.2.2.1 = true → 4 ≤ cl.2.1) ∧ (cl.1.length = 0 → cl.2.2.2.1 = 0) ∧ cl.2.2.2.1 ≤ 2 ∧
  (cl.2.2.2.1 = 1 → (1 ≤ cl.2.2.2.2.1 ∧ cl.2.2.2.2.1 ≤ 300) ∧ wkd (Ts (cl.1.headD 0)).1 (run0 (Ts (cl.1.headD 0)).2.2.2) cl.2.2.2.2.1 cl.2.2.2.2.2.1 cl.2.2.2.2.2.2 ∧ gvl (Ts (cl.1.headD 0)).1 (Ts (cl.1.headD 0)).2.1 cl.2.2.2.2.1 cl.2.2.2.2.2.1 ∧ (stale w cl.2.2.2.2.2.2 = true → cl.2.1 < (R : Int))) ∧
  (cl.2.2.2.1 ≠ 0 → ∀ l, l < 16 → bt cl.2.2.2.2.2.2.1 l = true → (cl.2.2.2.2.2.2.2.2 l).toInt ≤ (w.2 l).toInt)
def SI (Ts : tsT) (c0 : Nat) (S : syT) : Prop := (c0 ≤ 12 ∧ ∀ t, t < c0 → wfx (Ts t).1 (Ts t).2.1 (Ts t).2.2.1 (Ts t).2.2.2) ∧ (S.2.1.length ≤ 32 ∧ ∀ q ∈ S.2.1, q.1 < c0 ∧ vld (Ts q.1).1 (Ts q.1).2.1 q.2) ∧ S.2.2.2.length ≤ 300 ∧ (∀ l, l < 16 → 0 ≤ (S.1.2 l).toInt ∧ (S.1.2 l).toInt ≤ (S.2.2.2.length : Int)) ∧ ∀ c, c < 8 → cli Ts c0 S.1 S.2.2.2.length (S.2.2.1 c)
theorem stale_rd0 (w : wdT) : stale w rd0 = false := by
  unfold stale
  rw [List.any_eq_false]
  intro l _
  rw [show bt rd0.1 l = false from bt_0 l]
  simp
section SIv
variable {Ts : tsT} {c0 c R : Nat} {S : syT} {w w' : wdT} {cl : clT}
theorem cli_up {R' : Nat} (h : cli Ts c0 w R cl) (hw : ∀ l, l < 16 → (w.2 l).toInt ≤ (w'.2 l).toInt) (hR : R < R') : cli Ts c0 w' R' cl := by
  obtain ⟨h1, h2, h3, h4, h5, h6, h7⟩ := h
  exact ⟨h1, ⟨h2.1, by omega⟩, h3, h4, h5, fun q => ⟨(h6 q).1, (h6 q).2.1, (h6 q).2.2.1, fun _ => by omega⟩, fun q l hl b => Int.le_trans (h7 q l hl b) (hw l hl)⟩
theorem cli_ovr (h : cli Ts c0 w R cl) : cli Ts c0 w' R (ovr cl) := by
  obtain ⟨h1, h2, h3, h4, h5, h6, h7⟩ := h
  refine ⟨⟨?_, fun t ht => h1.2 t (List.mem_of_mem_tail ht)⟩, ⟨by show (0 : Int) ≤ 0; omega, by show (0 : Int) ≤ (R : Int); omega⟩, fun (q : false = true) => absurd q (by decide), fun _ => rfl, by show 0 ≤ 2; omega, fun (q : (0 : Nat) = 1) => absurd q (by decide), fun (q : (0 : Nat) ≠ 0) => absurd rfl q⟩
  show cl.1.tail.length ≤ 16
  have := h1.1
  simp
  omega
theorem SI_setc {x : clT} (h : SI Ts c0 S) (hx : cli Ts c0 S.1 S.2.2.2.length x) : SI Ts c0 (setc S c x) := by
  obtain ⟨h1, h2, h3, h4, h5⟩ := h
  refine ⟨h1, h2, h3, h4, fun k hk => ?_⟩
  show cli Ts c0 S.1 S.2.2.2.length (va_up S.2.2.1 c x k)
  by_cases e : k = c
  · rw [e, va_up_at]; exact hx
  · rw [va_up_of e]; exact h5 k hk
/-- where a turn begins -/
theorem beg_ok (h : SI Ts c0 S) (hc : c < 8) (hq : (S.2.2.1 c).1.length ≠ 0) : (S.2.2.1 c).1.headD 0 < c0 ∧ (beg Ts (S.2.2.1 c)).1 ≤ 300 ∧ wkd (Ts ((S.2.2.1 c).1.headD 0)).1 (run0 (Ts ((S.2.2.1 c).1.headD 0)).2.2.2) (beg Ts (S.2.2.1 c)).1 (beg Ts (S.2.2.1 c)).2.1 (beg Ts (S.2.2.1 c)).2.2 ∧ gvl (Ts ((S.2.2.1 c).1.headD 0)).1 (Ts ((S.2.2.1 c).1.headD 0)).2.1 (beg Ts (S.2.2.1 c)).1 (beg Ts (S.2.2.1 c)).2.1 ∧ (stale S.1 (beg Ts (S.2.2.1 c)).2.2 = true → (S.2.2.1 c).2.1 < (S.2.2.2.length : Int)) ∧ ∀ l, l < 16 → bt (beg Ts (S.2.2.1 c)).2.2.1 l = true → ((beg Ts (S.2.2.1 c)).2.2.2.2 l).toInt ≤ (S.1.2 l).toInt := by
  obtain ⟨h1, h2, h3, h4, h5⟩ := h
  obtain ⟨g1, g2, g3, g4, g5, g6, g7⟩ := h5 c hc
  have ht : (S.2.2.1 c).1.headD 0 < c0 := by
    cases hl : (S.2.2.1 c).1 with
    | nil => rw [hl] at hq; exact absurd rfl hq
    | cons t q => exact g1.2 t (by rw [hl]; simp)
  refine ⟨ht, ?_⟩
  unfold beg
  split
  · rename_i q
    exact ⟨(g6 q).1.2, (g6 q).2.1, (g6 q).2.2.1, (g6 q).2.2.2, g7 (by rw [q]; decide)⟩
  · refine ⟨by show 0 ≤ 300; omega, wkd_0 _ _ _, gvl_0 (h1.2 _ ht), fun q => ?_, fun l hl b => ?_⟩
    · rw [show stale S.1 rd0 = false from stale_rd0 _] at q; cases q
    · rw [show bt rd0.1 l = false from bt_0 l] at b; cases b
theorem out_ok (h : SI Ts c0 S) (hc : c < 8) (hq : (S.2.2.1 c).1.length ≠ 0) : gvl (Ts ((S.2.2.1 c).1.headD 0)).1 (Ts ((S.2.2.1 c).1.headD 0)).2.1 ((beg Ts (S.2.2.1 c)).1 + 1) (out Ts S (S.2.2.1 c)).2.1 ∧ stale S.1 (out Ts S (S.2.2.1 c)).2.2 = stale S.1 (beg Ts (S.2.2.1 c)).2.2 ∧ ((out Ts S (S.2.2.1 c)).1.1 = 3 → stale S.1 (out Ts S (S.2.2.1 c)).2.2 = true) ∧ (∀ l, l < 16 → bt (out Ts S (S.2.2.1 c)).2.2.1 l = true → ((out Ts S (S.2.2.1 c)).2.2.2.2 l).toInt ≤ (S.1.2 l).toInt) ∧ ((out Ts S (S.2.2.1 c)).1.1 = 0 → (beg Ts (S.2.2.1 c)).1 < 300 ∧ wkd (Ts ((S.2.2.1 c).1.headD 0)).1 (run0 (Ts ((S.2.2.1 c).1.headD 0)).2.2.2) ((beg Ts (S.2.2.1 c)).1 + 1) (out Ts S (S.2.2.1 c)).2.1 (out Ts S (S.2.2.1 c)).2.2) := by
  obtain ⟨b1, b2, b3, b4, b5, b6⟩ := beg_ok h hc hq
  have hX := h.1.2 _ b1
  unfold out
  generalize beg Ts (S.2.2.1 c) = B at b2 b3 b4 b5 b6
  split
  · exact ⟨gvl_up b4 (Nat.le_succ _), rfl, fun (q : (2 : Nat) = 3) => absurd q (by decide), b6, fun (q : (2 : Nat) = 0) => absurd q (by decide)⟩
  · rename_i hk
    have rn := stepp_rnq (Ts ((S.2.2.1 c).1.headD 0)).1 S.1 B.2.1 B.2.2
    have mo := stepp_mono (Ts ((S.2.2.1 c).1.headD 0)).1 S.1 B.2.1 B.2.2
    refine ⟨gvl_step hX b4, stale_rnq rn.1 mo, rn.2, fun l hl b => ?_, fun q => ⟨by omega, wkd_s b3 q⟩⟩
    rcases rn.1 l hl b with ⟨a1, a2, a3⟩ | ⟨a2, a3⟩
    · rw [a3]; exact b6 l hl a1
    · rw [a3]; exact Int.le_refl _
theorem brg_le {m : mkT} {R : Nat} (h4 : ∀ l, l < 16 → 0 ≤ (w.2 l).toInt ∧ (w.2 l).toInt ≤ (R : Int)) (hR : R ≤ 300) : ∀ l, l < 16 → (w.2 l).toInt ≤ ((brg w m).2 l).toInt ∧ 0 ≤ ((brg w m).2 l).toInt ∧ ((brg w m).2 l).toInt ≤ (R : Int) + 1 := fun l hl => by
  have := h4 l hl
  show _ ≤ (if bt m.1 l = true then Int32.ofInt ((w.2 l).toInt + 1) else w.2 l).toInt ∧ 0 ≤ (if bt m.1 l = true then Int32.ofInt ((w.2 l).toInt + 1) else w.2 l).toInt ∧ (if bt m.1 l = true then Int32.ofInt ((w.2 l).toInt + 1) else w.2 l).toInt ≤ _
  split
  · rw [ti_ofi (inr_z (by omega) (by omega))]
    omega
  · omega
/-- a turn keeps it -/
theorem SI_trn (h : SI Ts c0 S) (hc : c < 8) : SI Ts c0 (trn Ts S c).2 := by
  unfold trn
  split
  · exact h
  rename_i hq
  split
  · exact h
  obtain ⟨b1, b2, b3, b4, b5, b6⟩ := beg_ok h hc hq
  obtain ⟨o1, o2, o3, o4, o5⟩ := out_ok h hc hq
  have hcl := h.2.2.2.2 c hc
  have hX := h.1.2 _ b1
  generalize hcl' : S.2.2.1 c = cl at *
  generalize out Ts S cl = o at *
  obtain ⟨g1, g2, g3, g4, g5, g6, g7⟩ := hcl
  unfold trn2
  split
  · rename_i z
    exact SI_setc h ⟨g1, g2, g3, fun q => absurd q hq, by show 1 ≤ 2; omega, fun _ => ⟨⟨by show 1 ≤ (beg Ts cl).1 + 1; omega, by have := (o5 z).1; show (beg Ts cl).1 + 1 ≤ 300; omega⟩, (o5 z).2, o1, fun q => b5 (by rw [← o2]; exact q)⟩, fun _ => o4⟩
  split
  · rename_i z
    have hlt := b5 (by rw [← o2]; exact z)
    exact SI_setc h ⟨g1, ⟨by show 0 ≤ cl.2.1 + 1; omega, by show cl.2.1 + 1 ≤ _; omega⟩, fun q => by simpa using q, fun q => rfl, by show 0 ≤ 2; omega, fun (q : (0 : Nat) = 1) => absurd q (by decide), fun (q : (0 : Nat) ≠ 0) => absurd rfl q⟩
  split
  · exact SI_setc h ⟨g1, g2, fun (q : false = true) => absurd q (by decide), fun q => absurd q hq, by show 2 ≤ 2; omega, fun (q : (2 : Nat) = 1) => absurd q (by decide), fun _ => o4⟩
  split
  · exact h
  split
  · exact h
  rename_i hrows
  have hrl : S.2.2.2.length < 300 := by omega
  split
  · rename_i z
    have hwl := z.2
    unfold wel at hwl
    rw [Bool.and_eq_true, decide_eq_true_eq] at hwl
    have bl := brg_le (m := o.2.1.2.1) h.2.2.2.1 h.2.2.1
    have hlen : (nru (cl.1.headD 0) o.2.1).length = o.2.1.2.1.2.2.2.toNat := by unfold nru; simp
    refine ⟨h.1, ⟨by show (S.2.1 ++ nru (cl.1.headD 0) o.2.1).length ≤ 32; rw [List.length_append, hlen]; exact hwl.2, fun q hqm => ?_⟩, by show (S.2.2.2 ++ [_]).length ≤ 300; simp; omega, fun l hl => ?_, fun k hk => ?_⟩
    · rcases List.mem_append.mp hqm with hqm | hqm
      · exact h.2.1.2 q hqm
      · unfold nru at hqm
        rw [List.mem_map] at hqm
        obtain ⟨j, hj, e⟩ := hqm
        rw [List.mem_range] at hj
        rw [← e]
        obtain ⟨p1, hw, _, p2, p3, p4⟩ := o1
        exact ⟨b1, p3 j (by omega)⟩
    · have := bl l hl
      refine ⟨this.2.1, ?_⟩
      show _ ≤ ((S.2.2.2 ++ [_]).length : Int)
      simp
      exact this.2.2
    · show cli Ts c0 (brg S.1 o.2.1.2.1) (S.2.2.2 ++ [_]).length (va_up S.2.2.1 c (ovr cl) k)
      by_cases e : k = c
      · rw [e, va_up_at]
        exact cli_ovr (cli_up (R' := (S.2.2.2 ++ [_]).length) (w' := S.1) ⟨g1, g2, g3, g4, g5, g6, g7⟩ (fun l _ => Int.le_refl _) (by simp))
      · rw [va_up_of e]
        exact cli_up (h.2.2.2.2 k hk) (fun l hl => (bl l hl).1) (by simp)
  · refine ⟨h.1, h.2.1, by show (S.2.2.2 ++ [_]).length ≤ 300; simp; omega, fun l hl => ?_, fun k hk => ?_⟩
    · have := h.2.2.2.1 l hl
      refine ⟨this.1, ?_⟩
      show _ ≤ ((S.2.2.2 ++ [_]).length : Int)
      simp
      exact Int.le_trans this.2 (by omega)
    · show cli Ts c0 S.1 (S.2.2.2 ++ [_]).length (va_up S.2.2.1 c (ovr cl) k)
      by_cases e : k = c
      · rw [e, va_up_at]
        exact cli_ovr (cli_up (R' := (S.2.2.2 ++ [_]).length) (w' := S.1) ⟨g1, g2, g3, g4, g5, g6, g7⟩ (fun l _ => Int.le_refl _) (by simp))
      · rw [va_up_of e]
        exact cli_up (h.2.2.2.2 k hk) (fun l _ => Int.le_refl _) (by simp)
end SIv
/-! THE PROGRAM'S STORE: rules -/
def wsP (st b k : Nat) : Prop := (b = st ∧ k = 7) ∨ b = st + 6 ∨ b = st + 7
theorem bt_65535 : ∀ l, l < 16 → bt 65535 l = true := by decide
theorem lval_V {w : wdT} {V : Nat → Int64} {r : rdT} (z : Int) : lval w (mkV V) r z = some (if 0 ≤ z ∧ z < 16 then V z.toNat else 0, r) := by
  unfold lval
  by_cases c : 0 ≤ z ∧ z < 16
  · rw [if_pos c, if_pos c, if_pos (show bt (mkV V).1 z.toNat = true from bt_65535 z.toNat (by omega))]
    rfl
  · rw [if_neg c, if_neg c]
    split <;> rfl
theorem evc_le {O A : Nat → Int} {w : wdT} {m : mkT} : ∀ (f i : Nat) (st : List Int64) (r : rdT), (evc O A w m f i st r).1.1 ≤ 2
  | 0, _, _, r => by show 0 ≤ 2; omega
  | f + 1, i, st, r => by
    unfold evc
    split
    · show 0 ≤ 2; omega
    · split
      · exact evc_le f _ _ r
      · split
        · split
          · show 1 ≤ 2; omega
          · exact evc_le f _ _ _
        · split
          · exact evc_le f _ _ r
          · split
            · show 2 ≤ 2; omega
            · exact evc_le f _ _ r
section PS1
variable {M M' : rf_M} {p st n cc : Nat} {X : txT} {en : Int} {K : Int → rf_M → Prop} {V : Nat → Int64} {Ts : tsT}
theorem x_Sfind {z : Int} (hV : ∀ l, l < 16 → gl M (st + 5) l = V l) (kk : ∀ M', eqy (fun b k => b = st ∧ k = 7) M M' → gl M' st 7 = (if 0 ≤ z ∧ z < 16 then V z.toNat else 0) → K 1 M') : em_S_find st z M K := by
  have w0 : ¬ (0 ≤ z ∧ z < 16) → e_S_find_20 st M K := fun q M1 e1 => kk M1 (by rw [e1]; exact (eqy.rfl' M).wl ⟨rfl, rfl⟩) (by rw [e1, gl_at, if_neg q]; rfl)
  refine ⟨fun h => w0 (by omega), fun h => ⟨fun h' => w0 (by omega), fun h' _ M1 e1 => ?_⟩⟩
  refine kk M1 (by rw [e1]; exact (eqy.rfl' M).wl ⟨rfl, rfl⟩) ?_
  rw [e1, gl_at, if_pos ⟨by omega, by omega⟩]
  exact hV _ (by omega)
theorem x_workS {e : Int} (hpa : p + 11 < st) (hX : wfx X n cc en) (ht : ptx M p X n cc en) (hc : cdo X cc e) (hV : ∀ l, l < 16 → gl M (st + 5) l = V l) (kk : ∀ M', eqy (wsP st) M M' → ((evc X.2.1 X.2.2 wd0 (mkV V) 161 e.toNat [] rd0).1.1 ≠ 1 → (evc X.2.1 X.2.2 wd0 (mkV V) 161 e.toNat [] rd0).1.1 ≠ 2 → 0 < gi M' (st + 6) 1 ∧ gl M' (st + 7) 0 = (evc X.2.1 X.2.2 wd0 (mkV V) 161 e.toNat [] rd0).1.2) → K (evc X.2.1 X.2.2 wd0 (mkV V) 161 e.toNat [] rd0).1.1 M') : em_A_workS (st + 6) p e st M K := by
  obtain ⟨c0, c1, k, ck, c2, c3⟩ := hc
  obtain ⟨e, rfl⟩ : ∃ x : Nat, e = (x : Int) := ⟨e.toNat, by omega⟩
  rw [tn_] at c1 c2 c3 kk
  generalize hE : evc X.2.1 X.2.2 wd0 (mkV V) 161 e [] rd0 = E at kk
  intro M1 e1
  have y1 : eqy (wsP st) M M1 := by rw [e1]; exact (eqy.rfl' M).wi (Or.inr (Or.inl rfl))
  refine ⟨fun v0 v1 v3 v4 M' => v0 = st + 6 ∧ v1 = p ∧ v3 = st ∧ ∃ (i f : Nat) (sk : List Int64), v4 = (i : Int) ∧ eqy (wsP st) M M' ∧ stk2 M' (st + 6) sk ∧ evc X.2.1 X.2.2 wd0 (mkV V) f i sk rd0 = E ∧ (e ≤ i ∧ i ≤ e + k ∧ e + k < i + f) ∧ (sk ≠ [] ∨ i = e) ∧ sk.length ≤ psh X.2.1 i, ⟨rfl, rfl, rfl, e, 161, [], rfl, y1, ⟨by rw [e1, gi_at (inr_z (by omega) (by omega))]; rfl, trivial⟩, hE, ⟨by omega, by omega, by omega⟩, Or.inr rfl, Nat.zero_le _⟩, ?_⟩
  rintro v0 v1 v3 v4 M' - ⟨rfl, rfl, rfl, i, f, sk, rfl, y, hs, hev, ⟨hi0, hi1, hi2⟩, hne, hlen⟩
  have ht' := ht.eq y (fun b k h1 h2 => by unfold wsP; omega)
  have hV' : ∀ l, l < 16 → gl M' (v3 + 5) l = V l := fun l hl => (y.l (by unfold wsP; omega)).trans (hV l hl)
  have hicc : i < cc := by omega
  have hps : psh X.2.1 (i + 1) ≤ 60 := Nat.le_trans (psh_mono _ (by omega)) hX.2.2.1
  have hpi : psh X.2.1 i ≤ 60 := Nat.le_trans (psh_mono _ (by omega)) hX.2.2.1
  obtain ⟨f, rfl⟩ : ∃ g, f = g + 1 := ⟨f - 1, by omega⟩
  have cu : ∀ b k, cuP (v3 + 6) b k → wsP v3 b k := fun b k h => by unfold cuP at h; unfold wsP; omega
  refine ⟨fun h => absurd h (by omega), fun _ => ⟨fun h => absurd h (by rw [ht'.1.2.1]; omega), fun _ h160 => ?_⟩⟩
  rw [tn_, (ht'.2.2 i hicc).1, (ht'.2.2 i hicc).2]
  unfold evc at hev
  have nxt : ∀ (N : rf_M) (st2 : List Int64), eqy (wsP v3) M N → stk2 N (v3 + 6) st2 → evc X.2.1 X.2.2 wd0 (mkV V) f (i + 1) st2 rd0 = E → ¬ X.2.1 i = 0 → st2 ≠ [] → st2.length ≤ psh X.2.1 (i + 1) → e_A_workS_158 (v3 + 6) v1 v3 (i : Int) N (fun v0 v1' v3' v4 M' => v0 = v3 + 6 ∧ v1' = v1 ∧ v3' = v3 ∧ ∃ (i f : Nat) (sk : List Int64), v4 = (i : Int) ∧ eqy (wsP v3) M M' ∧ stk2 M' (v3 + 6) sk ∧ evc X.2.1 X.2.2 wd0 (mkV V) f i sk rd0 = E ∧ (e ≤ i ∧ i ≤ e + k ∧ e + k < i + f) ∧ (sk ≠ [] ∨ i = e) ∧ sk.length ≤ psh X.2.1 i) K := fun N st2 q1 q3 q4 q5 q6 q7 => by
    refine ⟨inr_z (by omega) (by omega), rfl, rfl, rfl, i + 1, f, st2, by omega, q1, q3, q4, ⟨by omega, ?_, by omega⟩, Or.inl q6, q7⟩
    by_cases e3 : i = e + k
    · rw [e3] at q5; exact absurd c2 q5
    · omega
  refine ⟨fun z0 => ?_, fun z0 => ⟨fun z1 _ => ?_, fun z1 => ⟨fun z2 _ => ?_, fun z2 => ⟨fun z3 => ?_, fun z3 => ?_⟩⟩⟩⟩
  · rw [if_pos z0] at hev
    have hst2 : sk ≠ [] := by
      rcases hne with q | q
      · exact q
      · rw [q] at z0; omega
    have := kk M' y (fun _ _ => by
      rw [← hev]
      refine ⟨?_, hs.2.last hst2⟩
      rw [hs.1]
      have : 0 < sk.length := List.length_pos_iff.mpr hst2
      omega)
    rw [← hev] at this
    exact this
  · rw [if_neg z0, if_pos z1] at hev
    have e4 : psh X.2.1 (i + 1) = psh X.2.1 i + 1 := by show psh X.2.1 i + (if _ then 1 else 0) = _; rw [if_pos (Or.inl z1)]
    exact x_push hs (by omega) (fun N q1 q2 => nxt N _ (y.trans (q1.mono cu)) q2 hev z0 (by simp) (by simp; omega))
  · rw [if_neg z0, if_neg z1, if_pos z2, lval_V] at hev
    have e4 : psh X.2.1 (i + 1) = psh X.2.1 i + 1 := by show psh X.2.1 i + (if _ then 1 else 0) = _; rw [if_pos (Or.inr z2)]
    refine x_Sfind hV' (fun N q1 q3 => ⟨fun q => absurd q (by decide), fun _ => ?_⟩)
    rw [q3]
    have hs' : stk2 N (v3 + 6) sk := ⟨(q1.i (by omega)).trans hs.1, hs.2.eq (fun k hk => q1.l (by omega))⟩
    exact x_push hs' (by omega) (fun N' q4 q5 => nxt N' _ ((y.trans (q1.mono (fun b k h => Or.inl h))).trans (q4.mono cu)) q5 hev z0 (by simp) (by simp; omega))
  · rw [if_neg z0, if_neg z1, if_neg z2, if_pos z3] at hev
    have hne' : sk ≠ [] := by
      rcases hne with q | q
      · exact q
      · rw [q] at z1 z2; omega
    have e4 : psh X.2.1 i ≤ psh X.2.1 (i + 1) := psh_mono _ (by omega)
    have hl1 : 0 < sk.length := List.length_pos_iff.mpr hne'
    exact x_pop hs (by omega) (fun N q1 q2 => x_push q2 (by simp; omega) (fun N' q4 q5 => nxt N' _ ((y.trans (q1.mono cu)).trans (q4.mono cu)) q5 hev z0 (by simp) (by simp; omega)))
  · rw [if_neg z0, if_neg z1, if_neg z2, if_neg z3] at hev
    have hne' : sk ≠ [] := by
      rcases hne with q | q
      · exact q
      · rw [q] at z1 z2; omega
    have e4 : psh X.2.1 i ≤ psh X.2.1 (i + 1) := psh_mono _ (by omega)
    have hl1 : 0 < sk.length := List.length_pos_iff.mpr hne'
    refine x_pop hs (by omega) (fun N q1 q2 => x_pop q2 (by simp; omega) (fun N2 q3 q4 => ?_))
    have yN2 : eqy (wsP v3) M N2 := (y.trans (q1.mono cu)).trans (q3.mono cu)
    have go : ¬ (sk.headD 0 = 0 ∧ (X.2.1 i = 47 ∨ X.2.1 i = 37)) → e_A_workS_145 (v3 + 6) v1 v3 (i : Int) (X.2.1 i) (sk.headD 0) (sk.tail.headD 0) N2 (fun v0 v1' v3' v4 M' => v0 = v3 + 6 ∧ v1' = v1 ∧ v3' = v3 ∧ ∃ (i f : Nat) (sk : List Int64), v4 = (i : Int) ∧ eqy (wsP v3) M M' ∧ stk2 M' (v3 + 6) sk ∧ evc X.2.1 X.2.2 wd0 (mkV V) f i sk rd0 = E ∧ (e ≤ i ∧ i ≤ e + k ∧ e + k < i + f) ∧ (sk ≠ [] ∨ i = e) ∧ sk.length ≤ psh X.2.1 i) K := fun hz => by
      refine x_join hz (fun v hv => ?_)
      rw [hv] at hev
      exact x_push q4 (by simp; omega) (fun N' q5 q6 => nxt N' _ (yN2.trans (q5.mono cu)) q6 hev z0 (by simp) (by simp; omega))
    have bz : sk.headD 0 = 0 → (X.2.1 i = 47 ∨ X.2.1 i = 37) → K 2 N2 := fun h1 h2 => by
      have hj : jn (X.2.1 i) (sk.tail.headD 0) (sk.headD 0) = none := by
        unfold jn
        rcases h2 with h2 | h2
        · rw [h2, if_neg (by decide), if_neg (by decide), if_neg (by decide), if_neg (by decide), if_neg (by decide), if_pos rfl, if_pos h1]
        · rw [h2, if_neg (by decide), if_neg (by decide), if_neg (by decide), if_neg (by decide), if_neg (by decide), if_neg (by decide), if_pos rfl, if_pos h1]
      rw [hj] at hev
      have := kk N2 yN2 (fun _ q => by rw [← hev] at q; exact absurd rfl q)
      rw [← hev] at this
      exact this
    exact ⟨fun h => ⟨fun h47 => bz ((lgz _).mp h) (Or.inl h47), fun h47 => ⟨fun h37 => bz ((lgz _).mp h) (Or.inr h37), fun h37 => go (fun q => q.2.elim h47 h37)⟩⟩, fun h => go (fun q => h ((lgz _).mpr q.1))⟩
theorem x_holdsAhead {t s : Nat} (hpa : 25 + 12 * t + 11 < st) (hX : wfx (Ts t).1 (Ts t).2.1 (Ts t).2.2.1 (Ts t).2.2.2) (ht : ptx M (25 + 12 * t) (Ts t).1 (Ts t).2.1 (Ts t).2.2.1 (Ts t).2.2.2) (hv : vld (Ts t).1 (Ts t).2.1 (s : Int)) (hV : ∀ l, l < 16 → gl M (st + 5) l = V l) (kk : ∀ M', eqy (wsP st) M M' → K (if hld Ts V (t, (s : Int)) = true then 1 else 0) M') : em_S_holdsAhead st (25 + 12 * t) (s : Int) M K := by
  obtain ⟨s', e, hs, hk⟩ := hv
  obtain rfl : s = s' := by omega
  unfold hld at kk
  dsimp only at kk
  rw [tn_] at kk
  refine x_has ht.1.1 (fun _ => ⟨fun w => absurd w (by decide), fun _ _ => ?_⟩) (fun hr => absurd ⟨by omega, by omega⟩ hr)
  rw [tn_, (ht.2.1 s hs).2.2.1]
  refine x_workS hpa hX ht ((hX.2.2.2.2.2 s hs).2.2.2.2.2.2.2.2.2.2 (by unfold kxp; omega)) hV (fun M2 y2 q2 => ?_)
  have hle := evc_le (O := (Ts t).1.2.1) (A := (Ts t).1.2.2) (w := wd0) (m := mkV V) 161 ((Ts t).1.1 2 s).toNat [] rd0
  generalize evc (Ts t).1.2.1 (Ts t).1.2.2 wd0 (mkV V) 161 ((Ts t).1.1 2 s).toNat [] rd0 = E at kk q2 hle
  have K0 : ¬ (E.1.1 ≠ 1 ∧ E.1.1 ≠ 2 ∧ E.1.2 ≠ 0) → ∀ M3, eqy (wsP st) M M3 → e_S_holdsAhead_48 M3 K := fun hn M3 y3 => by
    refine ⟨Or.inl rfl, ?_⟩
    have := kk M3 y3
    rw [if_neg (fun q => by
      simp at q
      exact hn ⟨q.1.1, q.1.2, q.2⟩)] at this
    exact this
  refine ⟨fun z => ?_, fun z => K0 (fun q => ?_) M2 y2⟩
  · have z0 : E.1.1 = 0 := by omega
    have q3 := q2 (by omega) (by omega)
    refine ⟨fun q => absurd q3.1 (by omega), fun _ _ => ?_⟩
    show ((lg_cmp (gl M2 (st + 7) 0) _).toInt = 0 → _) ∧ _
    rw [q3.2]
    refine ⟨fun c => K0 (fun q => q.2.2 ((lgz _).mp c)) M2 y2, fun c => ⟨Or.inr rfl, ?_⟩⟩
    have := kk M2 y2
    rw [if_pos (by simp; exact ⟨⟨by omega, by omega⟩, fun q => c ((lgz _).mpr q)⟩)] at this
    exact this
  · exact z (by omega)
theorem isPk {a k : Nat} (h : M.2.2 a k = some p) (hp : p ∈ k1) : isP M a k ∧ gr M a k = p := by
  have e : gr M a k = p := by unfold gr; rw [h]; rfl
  exact ⟨⟨by rw [e]; exact h, by rw [e]; exact hp⟩, e⟩
/-- the rules of the store at st -/
def prs (M : rf_M) (st : Nat) (rs : List (Nat × Int)) : Prop := gi M st 2 = (rs.length : Int) ∧ ∀ j, j < rs.length → M.2.2 (st + 3) j = some (25 + 12 * (rs.getD j (0, 0)).1) ∧ gi M (st + 4) j = (rs.getD j (0, 0)).2
theorem k1_mem : ∀ t, t < 12 → 25 + 12 * t ∈ k1 := by decide
theorem gD_ {α : Type} {l : List α} {i : Nat} {d : α} (h : i < l.length) : l.getD i d = l[i] := by
  rw [List.getD_eq_getElem?_getD, List.getElem?_eq_getElem h]
  rfl
theorem all_getD {α : Type} {f : α → Bool} {d : α} {l : List α} : l.all f = true ↔ ∀ i, i < l.length → f (l.getD i d) = true := by
  rw [List.all_eq_true]
  constructor
  · intro h i hi
    rw [gD_ hi]
    exact h _ (List.getElem_mem hi)
  · intro h x hx
    obtain ⟨i, hi, e⟩ := List.mem_iff_getElem.mp hx
    have := h i hi
    rw [gD_ hi, e] at this
    exact this
/-- the texts lie there -/
def ptxs (M : rf_M) (Ts : tsT) (c0 : Nat) : Prop := ∀ t, t < c0 → ptx M (25 + 12 * t) (Ts t).1 (Ts t).2.1 (Ts t).2.2.1 (Ts t).2.2.2
def twf (Ts : tsT) (c0 : Nat) : Prop := c0 ≤ 12 ∧ ∀ t, t < c0 → wfx (Ts t).1 (Ts t).2.1 (Ts t).2.2.1 (Ts t).2.2.2
def rok (Ts : tsT) (c0 : Nat) (rs : List (Nat × Int)) : Prop := ∀ j, j < rs.length → (rs.getD j (0, 0)).1 < c0 ∧ vld (Ts (rs.getD j (0, 0)).1).1 (Ts (rs.getD j (0, 0)).1).2.1 (rs.getD j (0, 0)).2
theorem ptxs.eq {P : Nat → Nat → Prop} {c0 : Nat} (h : ptxs M Ts c0) (h12 : c0 ≤ 12) (e : eqy P M M') (q : ∀ b k, b ≤ 168 → ¬ P b k) : ptxs M' Ts c0 := fun t ht => (h t ht).eq e (fun b k _ h2 => q b k (by omega))
theorem x_holdAhead {c0 : Nat} {rs : List (Nat × Int)} (hst : 180 ≤ st) (hT : twf Ts c0) (ht : ptxs M Ts c0) (hr : prs M st rs) (hro : rok Ts c0 rs) (h32 : rs.length ≤ 32) (hV : ∀ l, l < 16 → gl M (st + 5) l = V l) (kk : ∀ M', eqy (wsP st) M M' → K (if rs.all (hld Ts V) = true then 1 else 0) M') : em_S_holdAhead st M K := by
  refine ⟨fun v0 v1 M' => v0 = st ∧ ∃ j : Nat, v1 = (j : Int) ∧ j ≤ rs.length ∧ eqy (wsP st) M M' ∧ ∀ i, i < j → hld Ts V (rs.getD i (0, 0)) = true, ⟨rfl, 0, rfl, Nat.zero_le _, eqy.rfl' M, fun i h => absurd h (by omega)⟩, ?_⟩
  rintro v0 v1 M' - ⟨rfl, j, rfl, hj, y, h⟩
  have g2 : gi M' v0 2 = (rs.length : Int) := (y.i (by unfold wsP; omega)).trans hr.1
  rw [show e_S_holdAhead_2b v0 (j : Int) M' = e_S_holdAhead_2b v0 (j : Int) M' from rfl]
  refine ⟨fun hq => ?_, fun hq _ => ?_⟩
  · rw [g2] at hq
    have := kk M' y
    rw [if_pos (all_getD (d := (0, 0)).mpr (fun i hi => h i (by omega)))] at this
    exact this
  · rw [g2] at hq
    have hjl : j < rs.length := by omega
    obtain ⟨r1, r2⟩ := hr.2 j hjl
    obtain ⟨o1, o2⟩ := hro j hjl
    have e3 : M'.2.2 (v0 + 3) j = some (25 + 12 * (rs.getD j (0, 0)).1) := by rw [y.2]; exact r1
    have ip := isPk e3 (k1_mem _ (by have := hT.1; omega))
    have o2' := o2
    obtain ⟨s, hs, -⟩ := o2'
    rw [tn_]
    refine ⟨ip.1, fun _ => ?_⟩
    rw [ip.2, show gi M' (v0 + 4) j = (s : Int) from ((y.i (by unfold wsP; omega)).trans r2).trans hs]
    have hb := hT.1
    refine x_holdsAhead (by omega) (hT.2 _ o1) (ht.eq hT.1 y (fun b k h => by unfold wsP; omega) _ o1) (by rw [← hs]; exact o2) (fun l hl => (y.l (by unfold wsP; omega)).trans (hV l hl)) (fun M2 y2 => ?_)
    have eq2 : ((rs.getD j (0, 0)).1, (s : Int)) = rs.getD j (0, 0) := by rw [← hs]
    rw [eq2]
    by_cases hh : hld Ts V (rs.getD j (0, 0)) = true
    · rw [if_pos hh]
      refine ⟨fun q => absurd q (by decide), fun _ => ⟨inr_z (by omega) (by omega), rfl, j + 1, by omega, by omega, y.trans y2, fun i hi => ?_⟩⟩
      by_cases e : i = j
      · rw [e]; exact hh
      · exact h i (by omega)
    · rw [if_neg hh]
      refine ⟨fun _ => ?_, fun q => absurd rfl q⟩
      have := kk M2 (y.trans y2)
      rw [if_neg (fun q => hh (all_getD (d := (0, 0)).mp q j hjl))] at this
      exact this
end PS1
/-! THE PROGRAM'S STORE: put, takes -/
section PS2
variable {M M' : rf_M} {p st a n cc c0 : Nat} {X : txT} {en : Int} {K : Int → rf_M → Prop} {V : Nat → Int64} {Ts : tsT} {w : wdT} {rs : List (Nat × Int)}
theorem prs.eq {P : Nat → Nat → Prop} (h : prs M st rs) (e : eqy P M M') (q : ∀ b k, (b = st ∧ k = 2) ∨ b = st + 4 → ¬ P b k) : prs M' st rs := ⟨(e.i (q _ _ (by omega))).trans h.1, fun j hj => ⟨by rw [e.2]; exact (h.2 j hj).1, (e.i (q _ _ (by omega))).trans (h.2 j hj).2⟩⟩
def alP (st b k : Nat) : Prop := b = st + 5 ∨ wsP st b k
theorem x_allows {l : Nat} {v : Int64} (hst : 180 ≤ st) (hl : l < 16) (hT : twf Ts c0) (ht : ptxs M Ts c0) (hw : weq w (wS M st)) (hr : prs M st rs) (hro : rok Ts c0 rs) (h32 : rs.length ≤ 32) (kk : ∀ M', eqy (alP st) M M' → K (if rs.all (hld Ts (va_up w.1 l v)) = true then 1 else 0) M') : em_S_allows st (l : Int) v M K := by
  intro _ M1 e1
  refine x_isCell (fun _ => ⟨fun q => absurd q (by decide), fun _ _ M3 e3 => ?_⟩) (fun q => absurd ⟨by omega, by omega⟩ q)
  rw [tn_] at e3
  have y3 : eqy (fun b _ => b = st + 5) M M3 := by rw [e3, e1]; exact ((eqy.rfl' M).cpl (fun _ => rfl)).wl rfl
  have hV : ∀ j, j < 16 → gl M3 (st + 5) j = va_up w.1 l v j := fun j hj => by
    by_cases e : j = l
    · rw [e, e3, gl_at, va_up_at]
    · rw [e3, gl_of (Or.inr e), va_up_of e, e1]
      have := gl_cpl (M := M) (a := st + 5) (a2 := st + 1) (sp := 0) (dp := 0) hj
      rw [Nat.zero_add] at this
      rw [this]
      exact (hw j hj).1
  refine x_holdAhead hst hT (ht.eq hT.1 y3 (fun b k h => by omega)) (hr.eq y3 (fun b k h => by omega)) hro h32 hV (fun M4 y4 => ?_)
  have := kk M4 ((y3.mono (fun b k h => Or.inl h)).trans (y4.mono (fun b k h => Or.inr h)))
  refine ⟨?_, this⟩
  split
  · exact Or.inr rfl
  · exact Or.inl rfl
theorem x_write {l : Nat} {v : Int64} {K : rf_M → Prop} (hl : l < 16) (kk : ∀ M', eqy (fun b k => (b = st + 1 ∨ b = st + 2) ∧ k = l) M M' → gl M' (st + 1) l = v → M'.1 (st + 2) l = Int32.ofInt ((M.1 (st + 2) l).toInt + 1) → K M') : em_S_write st (l : Int) v M K := by
  refine x_isCell (fun _ => ⟨fun q => absurd q (by decide), fun _ _ M2 e2 _ _ M3 e3 => ?_⟩) (fun q => absurd ⟨by omega, by omega⟩ q)
  rw [tn_] at e2 e3
  refine kk M3 ?_ ?_ ?_
  · rw [e3, e2]
    exact ((eqy.rfl' M).wl ⟨Or.inl rfl, rfl⟩).wi ⟨Or.inr rfl, rfl⟩
  · rw [e3, gl_wi, e2, gl_at]
  · rw [e3]
    show (rf_wi M2 (st + 2) l _).1 (st + 2) l = _
    rw [rf_wi_at, e2]
    rfl
theorem nru_len (t : Nat) (g : sgT) : (nru t g).length = g.2.1.2.2.2.toNat := by unfold nru; simp
theorem nru_get {t j : Nat} {g : sgT} (h : j < g.2.1.2.2.2.toNat) : (nru t g).getD j (0, 0) = (t, g.2.2.1 j) := by
  rw [gD_ (by rw [nru_len]; exact h)]
  unfold nru
  simp
theorem app_getD1 {α : Type} {l m : List α} {j : Nat} {d : α} (h : j < l.length) : (l ++ m).getD j d = l.getD j d := by
  rw [gD_ (by simp; omega), gD_ h, List.getElem_append_left h]
theorem app_getD2 {α : Type} {l m : List α} {j : Nat} {d : α} (h : j < m.length) : (l ++ m).getD (l.length + j) d = m.getD j d := by
  rw [gD_ (by simp; omega), gD_ h, List.getElem_append_right (by omega)]
  simp
/-- what a run has made goes into the store, or not -/
theorem x_takes {t c : Nat} {S : syT} {g : sgT} (hst : 180 ≤ st) (hsa : st + 7 < a) (hT : twf Ts c0) (htc : t < c0) (ht : ptxs M Ts c0) (hw : weq S.1 (wS M st)) (hr : prs M st S.2.1) (hro : rok Ts c0 S.2.1) (h32 : S.2.1.length ≤ 32) (hm : meq g.2.1 (mP M a)) (hc : g.2.1.2.2.2 = (c : Int)) (hc3 : c ≤ 300) (hrl : ∀ j, j < c → gi M (a + 5) j = g.2.2.1 j) (hv : ∀ j, j < c → vld (Ts t).1 (Ts t).2.1 (g.2.2.1 j)) (h0 : ¬ wel Ts S t g = true → ∀ M', eqy (alP st) M M' → K 0 M') (h1 : wel Ts S t g = true → ∀ M', (∀ b k, ¬ (st ≤ b ∧ b ≤ st + 7) → M'.1 b k = M.1 b k ∧ M'.2.1 b k = M.2.1 b k ∧ M'.2.2 b k = M.2.2 b k) → weq (brg S.1 g.2.1) (wS M' st) → prs M' st (S.2.1 ++ nru t g) → K 1 M') : em_S_takes st (25 + 12 * t) (a + 2) M K := by
  have hT1 := hT.1
  intro _ M1 e1
  have y1 : eqy (fun b _ => b = st + 5) M M1 := by rw [e1]; exact (eqy.rfl' M).cpl (fun _ => rfl)
  refine ⟨fun v0 v1 v2 v3 M' => v0 = st ∧ v1 = 25 + 12 * t ∧ v2 = a + 2 ∧ ∃ i : Nat, v3 = (i : Int) ∧ i ≤ 16 ∧ eqy (fun b _ => b = st + 5) M M' ∧ ∀ l, l < 16 → gl M' (st + 5) l = if l < i then wld S.1 g.2.1 l else S.1.1 l, ⟨rfl, rfl, rfl, 0, rfl, by omega, y1, fun l hl => ?_⟩, ?_⟩
  · rw [if_neg (by omega), e1]
    have := gl_cpl (M := M) (a := st + 5) (a2 := st + 1) (sp := 0) (dp := 0) hl
    rw [Nat.zero_add] at this
    rw [this]
    exact (hw l hl).1
  rintro v0 v1 v2 v3 M2 - ⟨rfl, rfl, rfl, i, rfl, hi, y2, hV2⟩
  have m2 : meq g.2.1 (mP M2 a) := hm.eqP y2 (fun b k _ _ => by omega)
  refine ⟨fun hq => ?_, fun hq => ?_⟩
  · -- all cells are there
    have hV : ∀ l, l < 16 → gl M2 (v0 + 5) l = wld S.1 g.2.1 l := fun l hl => by rw [hV2 l hl, if_pos (by omega)]
    have hr2 := hr.eq y2 (fun b k h => by omega)
    have c2 : gi M2 (a + 2) 3 = (c : Int) := m2.2.2.2.trans hc
    rw [hr2.1, c2]
    refine ⟨inr_z (by omega) (by omega), fun hl => h0 (fun q => ?_) M2 (y2.mono (fun b k h => Or.inl h)), fun hl => ?_⟩
    · unfold wel at q
      rw [Bool.and_eq_true, decide_eq_true_eq] at q
      have := q.2
      omega
    refine x_holdAhead hst hT (ht.eq hT.1 y2 (fun b k h => by omega)) hr2 hro h32 hV (fun M3 y3 => ?_)
    have y23 : eqy (alP v0) M M3 := (y2.mono (fun b k h => Or.inl h)).trans (y3.mono (fun b k h => Or.inr h))
    by_cases ha : S.2.1.all (hld Ts (wld S.1 g.2.1)) = true
    · rw [if_pos ha]
      refine ⟨fun q => absurd q (by decide), fun _ => ?_⟩
      -- the run's own rules
      refine ⟨fun v0' v1 v2 v3 M' => v0' = v0 ∧ v1 = 25 + 12 * t ∧ v2 = a + 2 ∧ ∃ i : Nat, v3 = (i : Int) ∧ i ≤ c ∧ eqy (alP v0) M M' ∧ (∀ l, l < 16 → gl M' (v0 + 5) l = wld S.1 g.2.1 l) ∧ ∀ j, j < i → hld Ts (wld S.1 g.2.1) (t, g.2.2.1 j) = true, ⟨rfl, rfl, rfl, 0, rfl, by omega, y23, fun l hl => (y3.l (by unfold wsP; omega)).trans (hV l hl), fun j hj => absurd hj (by omega)⟩, ?_⟩
      rintro v0' v1 v2 v3 M4 - ⟨rfl, rfl, rfl, i4, rfl, hi4, y4, hV4, h4⟩
      have nal : ∀ b k, b = v0' + 1 ∨ b = v0' + 2 ∨ (b = v0' ∧ k = 2) ∨ b = v0' + 4 ∨ v0' + 7 < b ∨ b < v0' → ¬ alP v0' b k := fun b k h => by unfold alP wsP; omega
      have m4 : meq g.2.1 (mP M4 a) := hm.eqP y4 (fun b k _ _ => nal b k (by omega))
      have c4 : gi M4 (a + 2) 3 = (c : Int) := m4.2.2.2.trans hc
      refine ⟨fun hq4 => ?_, fun hq4 _ => ?_⟩
      · rw [c4] at hq4
        have hi4c : i4 = c := by omega
        have hnall : (nru t g).all (hld Ts (wld S.1 g.2.1)) = true := all_getD (d := (0, 0)).mpr (fun j hj => by
          rw [nru_len] at hj
          rw [nru_get hj]
          exact h4 j (by omega))
        have hwel : wel Ts S t g = true := by
          unfold wel
          rw [ha, hnall]
          simp
          omega
        -- the cells are written
        have w4 : weq S.1 (wS M4 v0') := hw.eqP y4 (fun b k h => nal b k (by omega))
        refine ⟨fun v0 v1 v2 v3 M' => v0 = v0' ∧ v1 = 25 + 12 * t ∧ v2 = a + 2 ∧ ∃ i : Nat, v3 = (i : Int) ∧ i ≤ 16 ∧ eqy (fun b _ => b = v0' + 1 ∨ b = v0' + 2) M4 M' ∧ ∀ l, l < 16 → gl M' (v0' + 1) l = (if l < i then wld S.1 g.2.1 l else S.1.1 l) ∧ M'.1 (v0' + 2) l = if l < i then (brg S.1 g.2.1).2 l else S.1.2 l, ⟨rfl, rfl, rfl, 0, rfl, by omega, eqy.rfl' M4, fun l hl => by rw [if_neg (by omega), if_neg (by omega)]; exact w4 l hl⟩, ?_⟩
        rintro v0 v1 v2 v3 M5 - ⟨rfl, rfl, rfl, i5, rfl, hi5, y5, h5⟩
        have m5 : meq g.2.1 (mP M5 a) := m4.eqP y5 (fun b k _ _ => by omega)
        refine ⟨fun hq5 => ?_, fun hq5 => ?_⟩
        · -- the rules are added
          have c5 : gi M5 (a + 2) 3 = (c : Int) := m5.2.2.2.trans hc
          have r5 : prs M5 v0 S.2.1 := (hr.eq y4 (fun b k h => nal b k (by omega))).eq y5 (fun b k h => by omega)
          have hw5 : weq (brg S.1 g.2.1) (wS M5 v0) := fun l hl => by
            have := h5 l hl
            rw [if_pos (by omega), if_pos (by omega)] at this
            exact this
          have g5 : ∀ j, j < c → gi M5 (a + 5) j = g.2.2.1 j := fun j hj => ((y5.i (by omega)).trans (y4.i (nal _ _ (by omega)))).trans (hrl j hj)
          have wl := hwel
          unfold wel at wl
          rw [Bool.and_eq_true, decide_eq_true_eq] at wl
          have hlen : S.2.1.length + c ≤ 32 := by have := wl.2; omega
          have ys : ∀ b k, ¬ (v0 ≤ b ∧ b ≤ v0 + 7) → M5.1 b k = M.1 b k ∧ M5.2.1 b k = M.2.1 b k ∧ M5.2.2 b k = M.2.2 b k := fun b k h => by
            have q1 := y5.1 b k (by omega)
            have q2 := y4.1 b k (nal b k (by omega))
            exact ⟨q1.1.trans q2.1, q1.2.trans q2.2, by rw [y5.2, y4.2]⟩
          refine ⟨fun v0' v1 v2 v3 M' => v0' = v0 ∧ v1 = 25 + 12 * t ∧ v2 = a + 2 ∧ ∃ i : Nat, v3 = (i : Int) ∧ i ≤ c ∧ (∀ b k, ¬ (b = v0 ∧ k = 2) → b ≠ v0 + 3 → b ≠ v0 + 4 → M'.1 b k = M5.1 b k ∧ M'.2.2 b k = M5.2.2 b k) ∧ M'.2.1 = M5.2.1 ∧ gi M' v0 2 = ((S.2.1.length + i : Nat) : Int) ∧ (∀ k, M'.2.2 (v0 + 4) k = M5.2.2 (v0 + 4) k ∧ M'.1 (v0 + 3) k = M5.1 (v0 + 3) k ∧ M'.2.2 v0 k = M5.2.2 v0 k) ∧ ∀ j, j < S.2.1.length + i → M'.2.2 (v0 + 3) j = some (25 + 12 * ((S.2.1 ++ nru t g).getD j (0, 0)).1) ∧ gi M' (v0 + 4) j = ((S.2.1 ++ nru t g).getD j (0, 0)).2, ⟨rfl, rfl, rfl, 0, rfl, by omega, fun _ _ _ _ _ => ⟨rfl, rfl⟩, rfl, by rw [r5.1]; rfl, fun _ => ⟨rfl, rfl, rfl⟩, fun j hj => by rw [app_getD1 (by omega)]; exact r5.2 j (by omega)⟩, ?_⟩
          rintro v0' v1 v2 v3 M6 - ⟨rfl, rfl, rfl, i6, rfl, hi6, y6, l6, n6, x6, h6⟩
          have c6 : gi M6 (a + 2) 3 = (c : Int) := (congrArg Int32.toInt (y6 (a + 2) 3 (by omega) (by omega) (by omega)).1).trans c5
          have fin : i6 = c → K 1 M6 := fun e => by
            refine h1 hwel M6 (fun b k h => ?_) (fun l hl => ?_) ⟨?_, fun j hj => ?_⟩
            · have q1 := y6 b k (by omega) (by omega) (by omega)
              have q2 := ys b k h
              exact ⟨q1.1.trans q2.1, by rw [l6]; exact q2.2.1, q1.2.trans q2.2.2⟩
            · have q := hw5 l hl
              refine ⟨?_, (y6 (v0' + 2) l (by omega) (by omega) (by omega)).1.trans q.2⟩
              show M6.2.1 (v0' + 1) l = _
              rw [l6]
              exact q.1
            · rw [n6, List.length_append, nru_len]
              have : g.2.1.2.2.2.toNat = c := by omega
              rw [this, e]
            · rw [List.length_append, nru_len] at hj
              exact h6 j (by omega)
          refine ⟨fun hq6 => fin (by rw [c6] at hq6; omega), fun hq6 => ⟨fun hq32 => absurd hq32 (by rw [n6, c6] at *; omega), fun hq32 _ M7 e7 _ _ M8 e8 M9 e9 => ?_⟩⟩
          rw [c6] at hq6
          rw [n6, tn_] at e7
          have g7 : gi M7 v0' 2 = ((S.2.1.length + i6 : Nat) : Int) := by rw [e7]; exact n6
          have v7 : gi M7 (a + 2 + 3) i6 = g.2.2.1 i6 := by
            rw [e7]
            show gi M6 (a + 5) i6 = _
            exact (congrArg Int32.toInt (y6 (a + 5) i6 (by omega) (by omega) (by omega)).1).trans (g5 i6 (by omega))
          rw [g7, tn_, tn_, v7] at e8
          have g8 : gi M8 v0' 2 = ((S.2.1.length + i6 : Nat) : Int) := by rw [e8, gi_of (Or.inl (by omega)), g7]
          rw [g8] at e9
          have hvv := hv i6 (by omega)
          obtain ⟨s6, hs6, hs6n, -⟩ := hvv
          have hn40 := (hT.2 t htc).1
          have ef : ((S.2.1 ++ nru t g).getD (S.2.1.length + i6) (0, 0)) = (t, g.2.2.1 i6) := by
            rw [app_getD2 (by rw [nru_len]; omega), nru_get (by omega)]
          refine ⟨inr_z (by omega) (by omega), rfl, rfl, rfl, i6 + 1, by omega, by omega, fun b k q1 q2 q3 => ?_, ?_, ?_, fun k => ?_, fun j hj => ?_⟩
          · rw [e9]
            refine ⟨?_, ?_⟩
            · show (rf_wi M8 v0' 2 _).1 b k = _
              rw [rf_wi_of _ _ (by omega), e8]
              show (rf_wi M7 (v0' + 4) _ _).1 b k = _
              rw [rf_wi_of _ _ (Or.inl q3), e7]
              exact (y6 b k q1 q2 q3).1
            · show M8.2.2 b k = _
              rw [e8]
              show M7.2.2 b k = _
              rw [e7]
              show (rf_wq M6 (v0' + 3) _ _).2.2 b k = _
              rw [rf_wq_of _ _ (Or.inl q2)]
              exact (y6 b k q1 q2 q3).2
          · rw [e9, e8, e7]
            exact l6
          · rw [e9, gi_at (inr_z (by omega) (by omega))]
            omega
          · rw [e9]
            refine ⟨?_, ?_, ?_⟩
            · show M8.2.2 (v0' + 4) k = _
              rw [e8]
              show M7.2.2 (v0' + 4) k = _
              rw [e7]
              show (rf_wq M6 (v0' + 3) _ _).2.2 (v0' + 4) k = _
              rw [rf_wq_of _ _ (Or.inl (by omega))]
              exact (x6 k).1
            · show (rf_wi M8 v0' 2 _).1 (v0' + 3) k = _
              rw [rf_wi_of _ _ (Or.inl (by omega)), e8]
              show (rf_wi M7 (v0' + 4) _ _).1 (v0' + 3) k = _
              rw [rf_wi_of _ _ (Or.inl (by omega)), e7]
              exact (x6 k).2.1
            · show M8.2.2 v0' k = _
              rw [e8]
              show M7.2.2 v0' k = _
              rw [e7]
              show (rf_wq M6 (v0' + 3) _ _).2.2 v0' k = _
              rw [rf_wq_of _ _ (Or.inl (by omega))]
              exact (x6 k).2.2
          · by_cases ej : j = S.2.1.length + i6
            · rw [ej, ef]
              constructor
              · rw [e9]
                show M8.2.2 (v0' + 3) _ = _
                rw [e8]
                show M7.2.2 (v0' + 3) _ = _
                rw [e7]
                exact rf_wq_at _ _ _ _
              · rw [e9, gi_of (Or.inl (by omega)), e8]
                refine gi_at ?_
                rw [hs6]
                exact inr_z (by omega) (by omega)
            · have := h6 j (by omega)
              constructor
              · rw [e9]
                show M8.2.2 (v0' + 3) j = _
                rw [e8]
                show M7.2.2 (v0' + 3) j = _
                rw [e7]
                show (rf_wq M6 (v0' + 3) _ _).2.2 (v0' + 3) j = _
                rw [rf_wq_of _ _ (Or.inr ej)]
                exact this.1
              · rw [e9, gi_of (Or.inl (by omega)), e8, gi_of (Or.inr ej), e7]
                exact this.2
        · have hi5' : i5 < 16 := by omega
          have nb : ∀ (b : Bool), bt (M5.1 (a + 2) 0) i5 = b → bt g.2.1.1 i5 = b := fun b h => by rw [← m5.1]; exact h
          have stepW : ∀ M6, eqy (fun b k => (b = v0 + 1 ∨ b = v0 + 2) ∧ k = i5) M5 M6 → gl M6 (v0 + 1) i5 = wld S.1 g.2.1 i5 → M6.1 (v0 + 2) i5 = (brg S.1 g.2.1).2 i5 → e_S_takes_131 v0 (25 + 12 * t) (a + 2) (i5 : Int) M6 (fun v0_1 v1 v2 v3 M' => v0_1 = v0 ∧ v1 = 25 + 12 * t ∧ v2 = a + 2 ∧ ∃ i : Nat, v3 = (i : Int) ∧ i ≤ 16 ∧ eqy (fun b _ => b = v0 + 1 ∨ b = v0 + 2) M4 M' ∧ ∀ l, l < 16 → gl M' (v0 + 1) l = (if l < i then wld S.1 g.2.1 l else S.1.1 l) ∧ M'.1 (v0 + 2) l = if l < i then (brg S.1 g.2.1).2 l else S.1.2 l) K := fun M6 y6 q1 q2 => by
            refine ⟨inr_z (by omega) (by omega), rfl, rfl, rfl, i5 + 1, by omega, by omega, y5.trans (y6.mono (fun b k h => h.1)), fun l hl => ?_⟩
            by_cases e : l = i5
            · rw [e, if_pos (by omega), if_pos (by omega)]
              exact ⟨q1, q2⟩
            · have := h5 l hl
              by_cases e2 : l < i5
              · rw [if_pos e2, if_pos e2] at this
                rw [if_pos (by omega), if_pos (by omega)]
                exact ⟨(y6.l (by omega)).trans this.1, (y6.1 _ _ (by omega)).1.trans this.2⟩
              · rw [if_neg e2, if_neg e2] at this
                rw [if_neg (by omega), if_neg (by omega)]
                exact ⟨(y6.l (by omega)).trans this.1, (y6.1 _ _ (by omega)).1.trans this.2⟩
          have h5i := h5 i5 hi5'
          rw [if_neg (by omega), if_neg (by omega)] at h5i
          refine x_hasWritten hi5' (fun hb => ⟨fun q => absurd q (by decide), fun _ _ => ?_⟩) (fun hb => ⟨fun _ => ?_, fun q => absurd rfl q⟩)
          · have hb' := nb true hb
            rw [tn_]
            refine x_write hi5' (fun M6 y6 q1 q2 => stepW M6 y6 ?_ ?_)
            · rw [q1]
              unfold wld
              rw [if_pos hb']
              exact m5.2.1 i5 hi5' hb'
            · rw [q2, h5i.2]
              show _ = if bt g.2.1.1 i5 = true then _ else _
              rw [if_pos hb']
          · have hb' := nb false hb
            refine stepW M5 (eqy.rfl' M5) ?_ ?_
            · rw [h5i.1]
              unfold wld
              rw [if_neg (by rw [hb']; decide)]
            · rw [h5i.2]
              show _ = if bt g.2.1.1 i5 = true then _ else _
              rw [if_neg (by rw [hb']; decide)]
      · rw [c4] at hq4
        have hvi := hv i4 (by omega)
        have hvi' := hvi
        obtain ⟨s, hs, -⟩ := hvi'
        rw [tn_, show gi M4 (a + 2 + 3) i4 = (s : Int) from ((y4.i (nal _ _ (by omega))).trans (hrl i4 (by omega))).trans hs]
        refine x_holdsAhead (by omega) (hT.2 t htc) (ht.eq hT.1 y4 (fun b k h => nal b k (by omega)) t htc) (by rw [← hs]; exact hvi) hV4 (fun M5 y5 => ?_)
        rw [show ((t, (s : Int)) : Nat × Int) = (t, g.2.2.1 i4) by rw [hs]]
        by_cases hh : hld Ts (wld S.1 g.2.1) (t, g.2.2.1 i4) = true
        · rw [if_pos hh]
          refine ⟨fun q => absurd q (by decide), fun _ => ⟨inr_z (by omega) (by omega), rfl, rfl, rfl, i4 + 1, by omega, by omega, y4.trans (y5.mono (fun b k h => Or.inr h)), fun l hl => (y5.l (by unfold wsP; omega)).trans (hV4 l hl), fun j hj => ?_⟩⟩
          by_cases e : j = i4
          · rw [e]; exact hh
          · exact h4 j (by omega)
        · rw [if_neg hh]
          refine ⟨fun _ => h0 (fun q => hh ?_) M5 (y4.trans (y5.mono (fun b k h => Or.inr h))), fun q => absurd rfl q⟩
          unfold wel at q
          rw [Bool.and_eq_true, Bool.and_eq_true] at q
          have := all_getD (d := (0, 0)).mp q.1.2 i4 (by rw [nru_len]; omega)
          rw [nru_get (by omega)] at this
          exact this
    · rw [if_neg ha]
      refine ⟨fun _ => h0 (fun q => ha ?_) M3 y23, fun q => absurd rfl q⟩
      unfold wel at q
      rw [Bool.and_eq_true, Bool.and_eq_true] at q
      exact q.1.1
  · have hi' : i < 16 := by omega
    have nxt : ∀ M3, eqy (fun b _ => b = v0 + 5) M2 M3 → (∀ l, l < 16 → l ≠ i → gl M3 (v0 + 5) l = gl M2 (v0 + 5) l) → gl M3 (v0 + 5) i = wld S.1 g.2.1 i → e_S_takes_43 v0 (25 + 12 * t) (a + 2) (i : Int) M3 (fun v0' v1 v2 v3 M' => v0' = v0 ∧ v1 = 25 + 12 * t ∧ v2 = a + 2 ∧ ∃ i : Nat, v3 = (i : Int) ∧ i ≤ 16 ∧ eqy (fun b _ => b = v0 + 5) M M' ∧ ∀ l, l < 16 → gl M' (v0 + 5) l = if l < i then wld S.1 g.2.1 l else S.1.1 l) K := fun M3 y3 q1 q2 => by
      refine ⟨inr_z (by omega) (by omega), rfl, rfl, rfl, i + 1, by omega, by omega, y2.trans y3, fun l hl => ?_⟩
      by_cases e : l = i
      · rw [e, if_pos (by omega)]; exact q2
      · rw [q1 l hl e, hV2 l hl]
        by_cases e2 : l < i
        · rw [if_pos e2, if_pos (by omega)]
        · rw [if_neg e2, if_neg (by omega)]
    refine x_hasWritten hi' (fun hb => ⟨fun q => absurd q (by decide), fun _ _ _ M3 e3 => ?_⟩) (fun hb => ⟨fun _ => ?_, fun q => absurd rfl q⟩)
    · have hb' : bt g.2.1.1 i = true := by rw [← m2.1]; exact hb
      rw [tn_] at e3
      refine nxt M3 (by rw [e3]; exact (eqy.rfl' _).wl rfl) (fun l _ e => by rw [e3, gl_of (Or.inr e)]) ?_
      rw [e3, gl_at]
      unfold wld
      rw [if_pos hb']
      exact m2.2.1 i hi' hb'
    · have hb' : bt g.2.1.1 i = false := by rw [← m2.1]; exact hb
      refine nxt M2 (eqy.rfl' _) (fun _ _ _ => rfl) ?_
      rw [hV2 i hi', if_neg (by omega)]
      unfold wld
      rw [if_neg (by rw [hb']; decide)]
end PS2
/-! THE PROGRAM'S CLIENTS AND ROWS -/
section PC1
variable {M M' : rf_M} {p a A n cc c0 c hw k : Nat} {X : txT} {en : Int} {K : Int → rf_M → Prop} {Ts : tsT} {w : wdT} {r : rdT} {g : sgT} {cl : clT} {S : syT}
theorem rnR.eq3 (hpa : p + 11 < a) (R : rnR M a p X n cc en g r k) (e : ∀ b k, (a ≤ b ∧ b ≤ a + 12) ∨ b ≤ p + 11 → M'.1 b k = M.1 b k ∧ M'.2.1 b k = M.2.1 b k ∧ M'.2.2 b k = M.2.2 b k) : rnR M' a p X n cc en g r k := by
  obtain ⟨hk, hw, hh, R0⟩ := R
  have y : eqy (fun b _ => ¬ ((a ≤ b ∧ b ≤ a + 12) ∨ b ≤ p + 11)) M (M'.1, M'.2.1, M.2.2) := ⟨fun b k q => ⟨(e b k (Classical.not_not.mp q)).1, (e b k (Classical.not_not.mp q)).2.1⟩, rfl⟩
  have R1 := rn0.eqR (r' := r) hpa R0 y (fun b k h => fun q => q (by omega)) (R0.2.2.2.2.2.eqP y (fun b k h => fun q => q (by omega)))
  exact ⟨(congrArg Int32.toInt (e a 1 (by omega)).1).trans hk, hw, hh, (e a 0 (by omega)).2.2.trans R0.1, R1.2⟩
/-- a client's cells but for its state and run -/
def pcb (M : rf_M) (A : Nat) (cl : clT) : Prop := (gi M A 5 = (cl.1.length : Int) ∧ ∀ j, j < cl.1.length → gi M (A + 1) j = ((cl.1.getD j 0 : Nat) : Int)) ∧ gi M A 1 = cl.2.1 ∧ gi M A 2 = (if cl.2.2.1 = true then 1 else 0)
def pcw (M : rf_M) (A : Nat) (cl : clT) : Prop := cl.2.2.2.1 = 2 → M.1 A 6 = cl.2.2.2.2.2.2.1 ∧ ∀ l, l < 16 → bt cl.2.2.2.2.2.2.1 l = true → M.1 (A + 2) l = cl.2.2.2.2.2.2.2.2 l
def pcr (M : rf_M) (Ts : tsT) (A : Nat) (cl : clT) : Prop := cl.2.2.2.1 = 1 → rnR M (A + 3) (25 + 12 * cl.1.headD 0) (Ts (cl.1.headD 0)).1 (Ts (cl.1.headD 0)).2.1 (Ts (cl.1.headD 0)).2.2.1 (Ts (cl.1.headD 0)).2.2.2 cl.2.2.2.2.2.1 cl.2.2.2.2.2.2 cl.2.2.2.2.1
def pcl (M : rf_M) (Ts : tsT) (A : Nat) (cl : clT) : Prop := pcb M A cl ∧ gi M A 0 = (if cl.1.length = 0 then 0 else (cl.2.2.2.1 : Int) + 1) ∧ pcr M Ts A cl ∧ pcw M A cl
theorem pcb.eq (h : pcb M A cl) (e : ∀ b k, (b = A ∧ (k = 1 ∨ k = 2 ∨ k = 5)) ∨ b = A + 1 → M'.1 b k = M.1 b k) : pcb M' A cl := ⟨⟨(congrArg Int32.toInt (e _ _ (by omega))).trans h.1.1, fun j hj => (congrArg Int32.toInt (e _ _ (by omega))).trans (h.1.2 j hj)⟩, (congrArg Int32.toInt (e _ _ (by omega))).trans h.2.1, (congrArg Int32.toInt (e _ _ (by omega))).trans h.2.2⟩
theorem pcw.eq (h : pcw M A cl) (e : ∀ b k, (b = A ∧ k = 6) ∨ b = A + 2 → M'.1 b k = M.1 b k) : pcw M' A cl := fun q => ⟨(e _ _ (by omega)).trans (h q).1, fun l hl b => (e _ _ (by omega)).trans ((h q).2 l hl b)⟩
theorem pcl.eq (hA : 196 ≤ A) (hh : cl.2.2.2.1 = 1 → cl.1.headD 0 < 12) (h : pcl M Ts A cl) (e : ∀ b k, (A ≤ b ∧ b ≤ A + 15) ∨ b ≤ 168 → M'.1 b k = M.1 b k ∧ M'.2.1 b k = M.2.1 b k ∧ M'.2.2 b k = M.2.2 b k) : pcl M' Ts A cl := by
  obtain ⟨h1, h2, h3, h4⟩ := h
  refine ⟨h1.eq (fun b k h => (e b k (by omega)).1), (congrArg Int32.toInt (e A 0 (by omega)).1).trans h2, fun q => ?_, h4.eq (fun b k h => (e b k (by omega)).1)⟩
  have := hh q
  exact (h3 q).eq3 (by omega) (fun b k h => e b k (by omega))
/-- the rows -/
def prw (M : rf_M) (rows : List rwT) : Prop := gi M 324 0 = (rows.length : Int) ∧ ∀ i, i < rows.length → gi M 325 i = (rows.getD i ((0, 0, 0, 0, 0), 0)).1.1 ∧ gi M 326 i = (rows.getD i ((0, 0, 0, 0, 0), 0)).1.2.1 ∧ gi M 327 i = (rows.getD i ((0, 0, 0, 0, 0), 0)).1.2.2.1 ∧ gi M 328 i = (rows.getD i ((0, 0, 0, 0, 0), 0)).1.2.2.2.1 ∧ gi M 329 i = (rows.getD i ((0, 0, 0, 0, 0), 0)).1.2.2.2.2 ∧ gl M 330 i = (rows.getD i ((0, 0, 0, 0, 0), 0)).2
theorem prw.eq {rows : List rwT} (h : prw M rows) (e : ∀ b k, 324 ≤ b → b ≤ 330 → M'.1 b k = M.1 b k ∧ M'.2.1 b k = M.2.1 b k) : prw M' rows := by
  have q : ∀ b k, 324 ≤ b → b ≤ 330 → gi M' b k = gi M b k := fun b k h1 h2 => congrArg Int32.toInt (e b k h1 h2).1
  refine ⟨(q _ _ (by omega) (by omega)).trans h.1, fun i hi => ?_⟩
  obtain ⟨a1, a2, a3, a4, a5, a6⟩ := h.2 i hi
  exact ⟨(q _ _ (by omega) (by omega)).trans a1, (q _ _ (by omega) (by omega)).trans a2, (q _ _ (by omega) (by omega)).trans a3, (q _ _ (by omega) (by omega)).trans a4, (q _ _ (by omega) (by omega)).trans a5, (e _ _ (by omega) (by omega)).2.trans a6⟩
theorem x_note {rows : List rwT} {row : rwT} {K : rf_M → Prop} (h : prw M rows) (hR : rows.length < 300) (hi : inr row.1.1 ∧ inr row.1.2.1 ∧ inr row.1.2.2.1 ∧ inr row.1.2.2.2.1 ∧ inr row.1.2.2.2.2) (kk : ∀ M', eqy (fun b _ => 324 ≤ b ∧ b ≤ 330) M M' → prw M' (rows ++ [row]) → K M') : em_J_note row.1.1 row.1.2.1 row.1.2.2.1 row.1.2.2.2.1 row.1.2.2.2.2 row.2 M K := by
  refine ⟨fun _ => ⟨Or.inl rfl, fun _ _ M2 e2 _ M3 e3 _ M4 e4 _ M5 e5 _ M6 e6 _ M7 e7 M8 e8 => ?_, fun q => absurd rfl q⟩, fun q => absurd (by rw [h.1]; omega) q⟩
  have g2 : gi M2 324 0 = (rows.length : Int) := by rw [e2, gi_of (Or.inl (by omega))]; exact h.1
  have g3 : gi M3 324 0 = (rows.length : Int) := by rw [e3, gi_of (Or.inl (by omega))]; exact g2
  have g4 : gi M4 324 0 = (rows.length : Int) := by rw [e4, gi_of (Or.inl (by omega))]; exact g3
  have g5 : gi M5 324 0 = (rows.length : Int) := by rw [e5, gi_of (Or.inl (by omega))]; exact g4
  have g6 : gi M6 324 0 = (rows.length : Int) := by rw [e6, gi_of (Or.inl (by omega))]; exact g5
  have g7 : gi M7 324 0 = (rows.length : Int) := by rw [e7]; exact g6
  rw [h.1, tn_] at e2
  rw [g2, tn_] at e3
  rw [g3, tn_] at e4
  rw [g4, tn_] at e5
  rw [g5, tn_] at e6
  rw [g6, tn_] at e7
  rw [g7] at e8
  have y : eqy (fun b _ => 324 ≤ b ∧ b ≤ 330) M M8 := by
    rw [e8, e7, e6, e5, e4, e3, e2]
    exact (((((((eqy.rfl' M).wi ⟨by omega, by omega⟩).wi ⟨by omega, by omega⟩).wi ⟨by omega, by omega⟩).wi ⟨by omega, by omega⟩).wi ⟨by omega, by omega⟩).wl ⟨by omega, by omega⟩).wi ⟨by omega, by omega⟩
  obtain ⟨i1, i2, i3, i4, i5⟩ := hi
  refine kk M8 y ⟨?_, fun i hi => ?_⟩
  · rw [e8, gi_at (inr_z (by omega) (by omega))]
    simp
  · by_cases e : i = rows.length
    · have er : (rows ++ [row]).getD i ((0, 0, 0, 0, 0), 0) = row := by
        have := app_getD2 (l := rows) (m := [row]) (j := 0) (d := ((0, 0, 0, 0, 0), 0)) (by simp)
        rw [Nat.add_zero, ← e] at this
        exact this
      rw [er, e]
      refine ⟨?_, ?_, ?_, ?_, ?_, ?_⟩
      · rw [e8, gi_of (Or.inl (by omega)), e7, gi_wl, e6, gi_of (Or.inl (by omega)), e5, gi_of (Or.inl (by omega)), e4, gi_of (Or.inl (by omega)), e3, gi_of (Or.inl (by omega)), e2, gi_at i1]
      · rw [e8, gi_of (Or.inl (by omega)), e7, gi_wl, e6, gi_of (Or.inl (by omega)), e5, gi_of (Or.inl (by omega)), e4, gi_of (Or.inl (by omega)), e3, gi_at i2]
      · rw [e8, gi_of (Or.inl (by omega)), e7, gi_wl, e6, gi_of (Or.inl (by omega)), e5, gi_of (Or.inl (by omega)), e4, gi_at i3]
      · rw [e8, gi_of (Or.inl (by omega)), e7, gi_wl, e6, gi_of (Or.inl (by omega)), e5, gi_at i4]
      · rw [e8, gi_of (Or.inl (by omega)), e7, gi_wl, e6, gi_at i5]
      · rw [e8, gl_wi, e7, gl_at]
    · have hi' : i < rows.length := by simp at hi; omega
      rw [app_getD1 hi']
      obtain ⟨a1, a2, a3, a4, a5, a6⟩ := h.2 i hi'
      refine ⟨?_, ?_, ?_, ?_, ?_, ?_⟩
      · rw [e8, gi_of (Or.inl (by omega)), e7, gi_wl, e6, gi_of (Or.inl (by omega)), e5, gi_of (Or.inl (by omega)), e4, gi_of (Or.inl (by omega)), e3, gi_of (Or.inl (by omega)), e2, gi_of (Or.inr e)]; exact a1
      · rw [e8, gi_of (Or.inl (by omega)), e7, gi_wl, e6, gi_of (Or.inl (by omega)), e5, gi_of (Or.inl (by omega)), e4, gi_of (Or.inl (by omega)), e3, gi_of (Or.inr e), e2, gi_of (Or.inl (by omega))]; exact a2
      · rw [e8, gi_of (Or.inl (by omega)), e7, gi_wl, e6, gi_of (Or.inl (by omega)), e5, gi_of (Or.inl (by omega)), e4, gi_of (Or.inr e), e3, gi_of (Or.inl (by omega)), e2, gi_of (Or.inl (by omega))]; exact a3
      · rw [e8, gi_of (Or.inl (by omega)), e7, gi_wl, e6, gi_of (Or.inl (by omega)), e5, gi_of (Or.inr e), e4, gi_of (Or.inl (by omega)), e3, gi_of (Or.inl (by omega)), e2, gi_of (Or.inl (by omega))]; exact a4
      · rw [e8, gi_of (Or.inl (by omega)), e7, gi_wl, e6, gi_of (Or.inr e), e5, gi_of (Or.inl (by omega)), e4, gi_of (Or.inl (by omega)), e3, gi_of (Or.inl (by omega)), e2, gi_of (Or.inl (by omega))]; exact a5
      · rw [e8, gl_wi, e7, gl_of (Or.inr e), e6, e5, e4, e3, e2]; exact a6
theorem x_begin {K : rf_M → Prop} (ha : 199 ≤ a) (hp : p ∈ k1) (hX : wfx X n cc en) (ht : ptx M p X n cc en) (kk : ∀ M', (∀ b k, ¬ (a ≤ b ∧ b ≤ a + 4) → M'.1 b k = M.1 b k ∧ M'.2.1 b k = M.2.1 b k ∧ M'.2.2 b k = M.2.2 b k) → rnR M' a p X n cc en (run0 en) rd0 0 → K M') : em_R_begin a p M K := by
  have hk1 := k1_or hp
  intro M1 e1 M2 e2 M3 e3 M4 e4 M5 e5 M6 e6 M7 e7
  have g4 : gi M1 p 4 = en := by rw [e1]; exact ht.1.2.2
  rw [g4] at e2
  refine ⟨fun v0 v1 v3 v4 M' => v0 = a + 2 + 2 ∧ v1 = Int64.ofNat 0 ∧ v4 = 10 ∧ ∃ j : Nat, v3 = (j : Int) ∧ j ≤ 10 ∧ eqy (fun b _ => b = a + 4) M7 M' ∧ ∀ l, l < j → gl M' (a + 4) l = 0, ⟨rfl, rfl, rfl, 0, rfl, by omega, eqy.rfl' _, fun l h => absurd h (by omega)⟩, ?_⟩
  rintro v0 v1 v3 v4 M8 - - ⟨rfl, rfl, rfl, j, rfl, hj, y8, h8⟩
  refine ⟨fun hq => ?_, fun hq _ M9 e9 => ⟨inr_z (by omega) (by omega), rfl, rfl, rfl, j + 1, by omega, by omega, by rw [e9]; exact y8.wl rfl, fun l hl => ?_⟩⟩
  · have e7 : M7 = wi M6 (a + 2) 3 0 := e7
    have y17 : eqy (fun b k => (b = a ∧ (k = 1 ∨ k = 2 ∨ k = 3 ∨ k = 6)) ∨ (b = a + 2 ∧ (k = 0 ∨ k = 3))) M1 M7 := by
      rw [e7, e6, e5, e4, e3, e2]
      exact ((((((eqy.rfl' M1).wi (Or.inl ⟨rfl, by omega⟩)).wi (Or.inl ⟨rfl, by omega⟩)).wi (Or.inl ⟨rfl, by omega⟩)).wl (Or.inl ⟨rfl, by omega⟩)).wi (Or.inr ⟨rfl, by omega⟩)).wi (Or.inr ⟨rfl, by omega⟩)
    have y18 : eqy (fun b k => (b = a ∧ (k = 1 ∨ k = 2 ∨ k = 3 ∨ k = 6)) ∨ (b = a + 2 ∧ (k = 0 ∨ k = 3)) ∨ b = a + 4) M1 M8 := (y17.mono (fun b k h => by omega)).trans (y8.mono (fun b k h => by omega))
    have ref0 : M8.2.2 a 0 = some p := by
      rw [y18.2, e1]
      exact rf_wq_at _ _ _ _
    have fr : ∀ b k, ¬ (a ≤ b ∧ b ≤ a + 4) → M8.1 b k = M.1 b k ∧ M8.2.1 b k = M.2.1 b k ∧ M8.2.2 b k = M.2.2 b k := fun b k h => by
      have q := y18.1 b k (by omega)
      refine ⟨?_, ?_, ?_⟩
      · rw [q.1, e1]; rfl
      · rw [q.2, e1]; rfl
      · rw [y18.2, e1]
        exact rf_wq_of _ _ (Or.inl (by omega))
    have ien : inr en := by
      rcases hX.2.2.2.2.1 with q | ⟨x, q1, q2, -⟩
      · exact inr_z (by omega) (by omega)
      · have := hX.1
        exact inr_z (by omega) (by omega)
    have gr0 := grl_0 (f := fun z => z) (v := vP M8 a X) hX (by
      refine ⟨?_, fun l _ b => ?_, fun l hl => h8 l (by omega), ?_⟩
      · show M8.1 (a + 2) 0 = 0
        rw [(y8.1 (a + 2) 0 (by omega)).1, e7]
        show (rf_wi M6 (a + 2) 3 _).1 (a + 2) 0 = _
        rw [rf_wi_of _ _ (Or.inr (by omega)), e6]
        show (rf_wi M5 (a + 2) 0 _).1 (a + 2) 0 = _
        rw [rf_wi_at]
        rfl
      · rw [show bt mk0.1 l = false from bt_0 l] at b; cases b
      · show gi M8 (a + 2) 3 = 0
        rw [y8.i (by omega), e7, gi_at (inr_z (by omega) (by omega))])
    refine kk M8 fr ⟨?_, 0, Nat.le_refl _, ref0, ?_, ?_, gr0.2, gr0.1, ?_, fun l _ b => ?_⟩
    · rw [y8.i (by omega), e7, gi_of (Or.inl (by omega)), e6, gi_of (Or.inl (by omega)), e5, gi_wl, e4, gi_of (Or.inr (by omega)), e3, gi_at (inr_z (by omega) (by omega))]
      rfl
    · have t1 : ptx M1 p X n cc en := by rw [e1]; exact ht
      exact t1.eq y18 (fun b k _ _ => by omega)
    · show gi M8 a 6 = en
      rw [y8.i (by omega), e7, gi_of (Or.inl (by omega)), e6, gi_of (Or.inl (by omega)), e5, gi_wl, e4, gi_of (Or.inr (by omega)), e3, gi_of (Or.inr (by omega)), e2, gi_at ien]
    · show M8.1 a 2 = 0
      rw [(y8.1 a 2 (by omega)).1, e7]
      show (rf_wi M6 (a + 2) 3 _).1 a 2 = _
      rw [rf_wi_of _ _ (Or.inl (by omega)), e6]
      show (rf_wi M5 (a + 2) 0 _).1 a 2 = _
      rw [rf_wi_of _ _ (Or.inl (by omega)), e5]
      show M4.1 a 2 = _
      rw [e4]
      show (rf_wi M3 a 2 _).1 a 2 = _
      rw [rf_wi_at]
      rfl
    · rw [show bt rd0.1 l = false from bt_0 l] at b; cases b
  · have e9 : M9 = wl M8 (a + 4) j (Int64.ofNat 0) := by rw [tn_] at e9; exact e9
    by_cases e : l = j
    · rw [e, e9, gl_at]; rfl
    · rw [e9, gl_of (Or.inr e)]
      exact h8 l (by omega)
theorem x_cut {K : rf_M → Prop} (hi : inr (gi M A 1 + 1)) (kk : ∀ M', eqy (fun b k => b = A ∧ (k = 0 ∨ k = 1 ∨ k = 2)) M M' → gi M' A 0 = 1 → gi M' A 1 = gi M A 1 + 1 → gi M' A 2 = (if decide (4 ≤ gi M A 1 + 1) = true then 1 else 0) → K M') : em_C_cut A M K := by
  intro M1 e1 M2 e2
  have g1 : gi M1 A 1 = gi M A 1 := by rw [e1, gi_of (Or.inr (by omega))]
  rw [g1] at e2
  have g2 : gi M2 A 1 = gi M A 1 + 1 := by rw [e2, gi_at hi]
  have fin : ∀ (z : Int) M3, inr z → z = (if decide (4 ≤ gi M A 1 + 1) = true then 1 else 0) → M3 = wi M2 A 2 z → K M3 := fun z M3 iz hz e3 => by
    refine kk M3 ?_ ?_ ?_ ?_
    · rw [e3, e2, e1]
      exact (((eqy.rfl' M).wi ⟨rfl, by omega⟩).wi ⟨rfl, by omega⟩).wi ⟨rfl, by omega⟩
    · rw [e3, gi_of (Or.inr (by omega)), e2, gi_of (Or.inr (by omega)), e1, gi_at (inr_z (by omega) (by omega))]
    · rw [e3, gi_of (Or.inr (by omega)), g2]
    · rw [e3, gi_at iz, hz]
  refine ⟨fun h => ⟨Or.inl rfl, fun M3 e3 => fin 0 M3 (inr_z (by omega) (by omega)) ?_ e3⟩, fun h => ⟨Or.inr rfl, fun M3 e3 => fin 1 M3 (inr_z (by omega) (by omega)) ?_ e3⟩⟩
  · rw [g2] at h
    rw [if_neg (by simp; omega)]
  · rw [g2] at h
    rw [if_pos (by simp; omega)]
theorem x_rest {K : rf_M → Prop} (kk : ∀ M', eqy (fun b k => (b = A ∧ (k = 0 ∨ k = 2 ∨ k = 6)) ∨ b = A + 2) M M' → gi M' A 0 = 3 → gi M' A 2 = 0 → M'.1 A 6 = M.1 (A + 3) 2 → (∀ l, l < 16 → M'.1 (A + 2) l = M.1 (A + 4) l) → K M') : em_C_rest A M K := by
  intro M1 e1 M2 e2 M3 e3 _ M4 e4
  have g2 : gi M2 (A + 3) 2 = gi M (A + 3) 2 := by rw [e2, gi_of (Or.inl (by omega)), e1, gi_of (Or.inl (by omega))]
  rw [g2] at e3
  have y3 : eqy (fun b k => b = A ∧ (k = 0 ∨ k = 2 ∨ k = 6)) M M3 := by
    rw [e3, e2, e1]
    exact (((eqy.rfl' M).wi ⟨rfl, by omega⟩).wi ⟨rfl, by omega⟩).wi ⟨rfl, by omega⟩
  have i4 : ∀ b k, b ≠ A + 2 → M4.1 b k = M3.1 b k := fun b k h => by
    rw [e4]
    show va_up M3.1 (A + 2) _ b k = _
    rw [va_up_of h]
  refine kk M4 ?_ ?_ ?_ ?_ (fun l hl => ?_)
  · rw [e4]
    exact (y3.mono (fun b k h => Or.inl h)).cpi (fun _ => Or.inr rfl)
  · rw [show gi M4 A 0 = gi M3 A 0 from congrArg Int32.toInt (i4 A 0 (by omega)), e3, gi_of (Or.inr (by omega)), e2, gi_of (Or.inr (by omega)), e1, gi_at (inr_z (by omega) (by omega))]
  · rw [show gi M4 A 2 = gi M3 A 2 from congrArg Int32.toInt (i4 A 2 (by omega)), e3, gi_of (Or.inr (by omega)), e2, gi_at (inr_z (by omega) (by omega))]
  · rw [i4 A 6 (by omega), e3]
    show (rf_wi M2 A 6 _).1 A 6 = _
    rw [rf_wi_at, gi_ofi]
  · rw [e4]
    show va_up M3.1 (A + 2) _ (A + 2) l = _
    rw [va_up_at]
    have := pk_cpy_in (f := M3.1 (A + 4)) (g := M3.1 (A + 2)) (sp := 0) (dp := 0) (n := 16) (j := l) (by omega) (by omega)
    rw [this]
    show M3.1 (A + 4) (0 + (l - 0)) = _
    rw [show 0 + (l - 0) = l by omega]
    exact (y3.1 (A + 4) l (by omega)).1
theorem x_finish {K : rf_M → Prop} (hb : pcb M A cl) (hq : cl.1.length ≠ 0) (h16 : cl.1.length ≤ 16) (kk : ∀ M', eqy (fun b k => (b = A ∧ (k = 0 ∨ k = 1 ∨ k = 2 ∨ k = 5)) ∨ b = A + 1) M M' → pcl M' Ts A (ovr cl) → K M') : em_C_finish A M K := by
  refine ⟨fun h => absurd h (by rw [hb.1.1]; omega), fun _ M1 e1 => ?_⟩
  rw [hb.1.1] at e1
  have g1 : gi M1 A 5 = ((cl.1.length - 1 : Nat) : Int) := by rw [e1, gi_at (inr_z (by omega) (by omega))]; omega
  rw [g1, tn_]
  refine fun _ M2 e2 => ?_
  have y2 : eqy (fun b k => (b = A ∧ k = 5) ∨ b = A + 1) M M2 := by
    rw [e2, e1]
    exact ((eqy.rfl' M).wi (Or.inl ⟨rfl, rfl⟩)).cpi (fun _ => Or.inr rfl)
  have g2 : gi M2 A 5 = ((cl.1.length - 1 : Nat) : Int) := by
    rw [e2]
    show (va_up M1.1 (A + 1) _ A 5).toInt = _
    rw [va_up_of (by omega)]
    exact g1
  have tl : (ovr cl).1.length = cl.1.length - 1 := by show cl.1.tail.length = _; simp
  have t2 : ∀ j, j < cl.1.length - 1 → gi M2 (A + 1) j = ((cl.1.tail.getD j 0 : Nat) : Int) := fun j hj => by
    have := gi_cpi (M := M1) (a := A + 1) (a2 := A + 1) (sp := 1) (dp := 0) (n := cl.1.length - 1) hj
    rw [Nat.zero_add] at this
    rw [e2, this, e1, gi_of (Or.inl (by omega)), hb.1.2 (1 + j) (by omega)]
    cases h : cl.1 with
    | nil => rw [h] at hq; exact absurd rfl hq
    | cons x q => rw [Nat.add_comm]; rfl
  have fin : ∀ (z : Int) (M3 : rf_M), inr z → z = (if (ovr cl).1.length = 0 then 0 else ((ovr cl).2.2.2.1 : Int) + 1) → M3 = wi M2 A 0 z → ∀ M4, M4 = wi M3 A 1 0 → ∀ M5, M5 = wi M4 A 2 0 → K M5 := fun z M3 iz hz e3 M4 e4 M5 e5 => by
    have y5 : eqy (fun b k => b = A ∧ (k = 0 ∨ k = 1 ∨ k = 2)) M2 M5 := by
      rw [e5, e4, e3]
      exact (((eqy.rfl' M2).wi ⟨rfl, by omega⟩).wi ⟨rfl, by omega⟩).wi ⟨rfl, by omega⟩
    refine kk M5 ((y2.mono (fun b k h => by omega)).trans (y5.mono (fun b k h => by omega))) ⟨⟨⟨?_, fun j hj => ?_⟩, ?_, ?_⟩, ?_, fun (q : (0 : Nat) = 1) => absurd q (by decide), fun (q : (0 : Nat) = 2) => absurd q (by decide)⟩
    · rw [y5.i (by omega), g2, tl]
    · rw [y5.i (by omega), t2 j (by omega)]
      rfl
    · rw [e5, gi_of (Or.inr (by omega)), e4, gi_at (inr_z (by omega) (by omega))]
      rfl
    · rw [e5, gi_at (inr_z (by omega) (by omega))]
      rfl
    · rw [e5, gi_of (Or.inr (by omega)), e4, gi_of (Or.inr (by omega)), e3, gi_at iz, hz]
  refine ⟨fun h M3 e3 M4 e4 M5 e5 => fin 0 M3 (inr_z (by omega) (by omega)) ?_ e3 M4 e4 M5 e5, fun h M3 e3 M4 e4 M5 e5 => fin 1 M3 (inr_z (by omega) (by omega)) ?_ e3 M4 e4 M5 e5⟩
  · rw [if_pos (by omega)]
  · rw [if_neg (by omega)]
    rfl
end PC1
/-! THE PROGRAM'S TURN -/
/-- the program is S -/
def RPS (M : rf_M) (Ts : tsT) (c0 : Nat) (S : syT) : Prop := ptxs M Ts c0 ∧ weq S.1 (wS M 187) ∧ prs M 187 S.2.1 ∧ (∀ c, c < 8 → pcl M Ts (196 + 16 * c) (S.2.2.1 c)) ∧ prw M S.2.2.2
/-- but for client c -/
def RPX (M : rf_M) (Ts : tsT) (c0 : Nat) (S : syT) (c : Nat) : Prop := ptxs M Ts c0 ∧ weq S.1 (wS M 187) ∧ prs M 187 S.2.1 ∧ (∀ k, k < 8 → k ≠ c → pcl M Ts (196 + 16 * k) (S.2.2.1 k)) ∧ prw M S.2.2.2
theorem clA_ (c : Nat) : clA (c : Int) = 196 + 16 * c := by unfold clA; rw [tn_]
theorem stepp_g (X : txT) (w : wdT) (g : sgT) (r : rdT) (h : (stepp X w g r).1.1 ≠ 0) : (stepp X w g r).2.1 = g := by
  unfold stepp at h ⊢
  split
  · rfl
  rename_i c0
  rw [if_neg c0] at h
  split
  · rename_i c; rw [if_pos c] at h; exact absurd rfl h
  rename_i c1
  rw [if_neg c1] at h
  split
  · rename_i c; rw [if_pos c] at h; exact absurd rfl h
  rename_i c2
  rw [if_neg c2] at h
  split
  · rename_i c
    rw [if_pos c] at h
    split
    · rfl
    · rename_i d; rw [if_neg d] at h; exact absurd rfl h
  rename_i c3
  rw [if_neg c3] at h
  generalize evc X.2.1 X.2.2 w g.2.1 161 (X.1 2 g.1.toNat).toNat [] r = E at h ⊢
  unfold stpx at h ⊢
  split
  · rfl
  rename_i d1
  rw [if_neg d1] at h
  split
  · rename_i d
    rw [if_pos d] at h
    cases ht : tss X g.1 (-1) g with
    | none => rfl
    | some g' => rw [ht] at h; exact absurd rfl h
  rename_i d2
  rw [if_neg d2] at h
  split
  · rename_i d
    rw [if_pos d] at h
    cases ht : tss X g.1 E.1.2 g with
    | none => rfl
    | some g' => rw [ht] at h; exact absurd rfl h
  rename_i d3
  rw [if_neg d3] at h
  split
  · rename_i d; rw [if_pos d] at h; exact absurd rfl h
  rename_i d4
  rw [if_neg d4] at h
  split
  · rename_i d; rw [if_pos d] at h; exact absurd rfl h
  · rename_i d; rw [if_neg d] at h; exact absurd rfl h
section PT1
variable {M M' : rf_M} {A n cc c0 c : Nat} {X : txT} {en : Int} {K : Int → rf_M → Prop} {Ts : tsT} {w : wdT} {r : rdT} {g : sgT} {cl : clT} {S : syT}
theorem hd12 (hS : SI Ts c0 S) {k : Nat} (hk : k < 8) : (S.2.2.1 k).2.2.2.1 = 1 → (S.2.2.1 k).1.headD 0 < 12 := fun q => by
  have hq : (S.2.2.1 k).1.length ≠ 0 := fun z => by
    have := (hS.2.2.2.2 k hk).2.2.2.1 z
    omega
  have := (beg_ok hS hk hq).1
  have := hS.1.1
  omega
theorem RPX.eq (hS : SI Ts c0 S) (hc : c < 8) (h : RPX M Ts c0 S c) (e : ∀ b k, ¬ (196 + 16 * c ≤ b ∧ b ≤ 211 + 16 * c) → M'.1 b k = M.1 b k ∧ M'.2.1 b k = M.2.1 b k ∧ M'.2.2 b k = M.2.2 b k) : RPX M' Ts c0 S c := by
  obtain ⟨h1, h2, h3, h4, h5⟩ := h
  have hc0 := hS.1.1
  have y : eqy (fun b _ => 196 + 16 * c ≤ b ∧ b ≤ 211 + 16 * c) M (M'.1, M'.2.1, M.2.2) := ⟨fun b k q => ⟨(e b k q).1, (e b k q).2.1⟩, rfl⟩
  refine ⟨fun t ht => (by have q := (h1 t ht).eq y (fun b k _ _ => by omega); exact q), (by have q := h2.eqP y (fun b k h => by omega); exact q), ⟨(y.i (a := 187) (k := 2) (by omega)).trans h3.1, fun j hj => ⟨(e 190 j (by omega)).2.2.trans (h3.2 j hj).1, (y.i (a := 191) (k := j) (by omega)).trans (h3.2 j hj).2⟩⟩, fun k hk hne => (h4 k hk hne).eq (by omega) (hd12 hS hk) (fun b j h => e b j (by omega)), h5.eq (fun b k h1 h2 => ⟨(e b k (by omega)).1, (e b k (by omega)).2.1⟩)⟩
theorem RPX.all (h : RPX M Ts c0 S c) {x : clT} (hx : pcl M Ts (196 + 16 * c) x) : RPS M Ts c0 (setc S c x) := by
  obtain ⟨h1, h2, h3, h4, h5⟩ := h
  refine ⟨h1, h2, h3, fun k hk => ?_, h5⟩
  show pcl M Ts _ (va_up S.2.2.1 c x k)
  by_cases e : k = c
  · rw [e, va_up_at]; exact hx
  · rw [va_up_of e]; exact h4 k hk e
theorem RPX.self (h : RPX M Ts c0 S c) (hx : pcl M Ts (196 + 16 * c) (S.2.2.1 c)) : RPS M Ts c0 S := by
  obtain ⟨h1, h2, h3, h4, h5⟩ := h
  refine ⟨h1, h2, h3, fun k hk => ?_, h5⟩
  by_cases e : k = c
  · rw [e]; exact hx
  · exact h4 k hk e
theorem RPS.x (h : RPS M Ts c0 S) : RPX M Ts c0 S c := ⟨h.1, h.2.1, h.2.2.1, fun k hk _ => h.2.2.2.1 k hk, h.2.2.2.2⟩
theorem x_isHeld (hc : c < 8) (hb : pcb M (196 + 16 * c) (S.2.2.1 c)) (hX : ∀ k, k < 8 → k ≠ c → pcl M Ts (196 + 16 * k) (S.2.2.1 k)) (kk : K (if hel S c = true then 1 else 0) M) : em_M_isHeld (c : Int) M K := by
  unfold hel at kk
  have gu : ∀ k, k < 8 → gi M (196 + 16 * k) 2 = (if (S.2.2.1 k).2.2.1 = true then 1 else 0) := fun k hk => by
    by_cases e : k = c
    · rw [e]; exact hb.2.2
    · exact (hX k hk e).1.2.2
  refine fun _ => ?_
  rw [clA_, gu c hc]
  refine ⟨fun hu => ?_, fun hu => ?_⟩
  · have hu : (S.2.2.1 c).2.2.1 = false := by
      cases q : (S.2.2.1 c).2.2.1 with
      | false => rfl
      | true => rw [if_pos q] at hu; exact absurd hu (by decide)
    rw [hu] at kk
    refine ⟨fun v M' => M' = M ∧ ∃ j : Nat, v = (j : Int) ∧ j ≤ 8 ∧ ∀ i, i < j → (S.2.2.1 i).2.2.1 = false, ⟨rfl, 0, rfl, by omega, fun i h => absurd h (by omega)⟩, ?_⟩
    rintro v M' - ⟨rfl, j, rfl, hj, hf⟩
    refine ⟨fun h => ?_, fun h _ => ?_⟩
    · rw [if_neg (by
        simp
        intro i hi
        exact hf i (by omega))] at kk
      exact kk
    · rw [clA_, gu j (by omega)]
      refine ⟨fun q => ⟨inr_z (by omega) (by omega), rfl, j + 1, by omega, by omega, fun i hi => ?_⟩, fun q => ?_⟩
      · by_cases e : i = j
        · rw [e]
          cases z : (S.2.2.1 j).2.2.1 with
          | false => rfl
          | true => rw [if_pos z] at q; exact absurd q (by decide)
        · exact hf i (by omega)
      · have z : (S.2.2.1 j).2.2.1 = true := by
          by_cases z : (S.2.2.1 j).2.2.1 = true
          · exact z
          · rw [if_neg z] at q; exact absurd rfl q
        rw [if_pos (by
          simp
          exact ⟨j, by omega, z⟩)] at kk
        exact kk
  · have hu : (S.2.2.1 c).2.2.1 = true := by
      by_cases q : (S.2.2.1 c).2.2.1 = true
      · exact q
      · rw [if_neg q] at hu; exact absurd rfl hu
    rw [hu, if_neg (by simp)] at kk
    exact kk
/-- a run ends -/
theorem x_closeRun {o : (Nat × Int64) × sgT × rdT} {k k2 : Nat} (hS : SI Ts c0 S) (hc : c < 8) (hq : (S.2.2.1 c).1.length ≠ 0) (hX : RPX M Ts c0 S c) (hb : pcb M (196 + 16 * c) (S.2.2.1 c)) (hR : rnR M (199 + 16 * c) (25 + 12 * (S.2.2.1 c).1.headD 0) (Ts ((S.2.2.1 c).1.headD 0)).1 (Ts ((S.2.2.1 c).1.headD 0)).2.1 (Ts ((S.2.2.1 c).1.headD 0)).2.2.1 (Ts ((S.2.2.1 c).1.headD 0)).2.2.2 o.2.1 o.2.2 k) (hk : k ≤ 300) (hg : gvl (Ts ((S.2.2.1 c).1.headD 0)).1 (Ts ((S.2.2.1 c).1.headD 0)).2.1 k2 o.2.1) (ho : o.1.1 = 1 ∨ o.1.1 = 2) (hv : o.1.1 = 2 → gl M (199 + 16 * c) 3 = o.1.2) (hrows : S.2.2.2.length < 300) (h1 : o.1.1 = 1 ∧ wel Ts S ((S.2.2.1 c).1.headD 0) o.2.1 = true → ∀ M', RPS M' Ts c0 (brg S.1 o.2.1.2.1, S.2.1 ++ nru ((S.2.2.1 c).1.headD 0) o.2.1, va_up S.2.2.1 c (ovr (S.2.2.1 c)), S.2.2.2 ++ [((1, (c : Int), ((S.2.2.1 c).1.headD 0 : Int), (k : Int) + 1, (S.2.2.1 c).2.1), 0)]) → K 1 M') (h2 : ¬ (o.1.1 = 1 ∧ wel Ts S ((S.2.2.1 c).1.headD 0) o.2.1 = true) → ∀ M', RPS M' Ts c0 (S.1, S.2.1, va_up S.2.2.1 c (ovr (S.2.2.1 c)), S.2.2.2 ++ [((2, (c : Int), ((S.2.2.1 c).1.headD 0 : Int), (k : Int) + 1, (S.2.2.1 c).2.1), if o.1.1 = 1 then -2 else o.1.2)]) → K 2 M') : em_M_closeRun (c : Int) (o.1.1 : Int) M K := by
  have hbeg := beg_ok hS hc hq
  have hcl := hS.2.2.2.2 c hc
  have ht12 : (S.2.2.1 c).1.headD 0 < 12 := by have := hS.1.1; omega
  have hhd : gi M (197 + 16 * c) 0 = (((S.2.2.1 c).1.headD 0 : Nat) : Int) := by
    have := hb.1.2 0 (by omega)
    rw [show 196 + 16 * c + 1 = 197 + 16 * c by omega] at this
    rw [this]
    cases hl : (S.2.2.1 c).1 with
    | nil => rfl
    | cons x q => rfl
  have hcut := hcl.2.1
  generalize (S.2.2.1 c).1.headD 0 = t at *
  -- the row, and the client's next
  have last : ∀ (S' : syT) (kd : Int) (v : Int64) (M1 : rf_M) (K2 : rf_M → Prop), inr kd → S'.2.2.1 = S.2.2.1 → S'.2.2.2 = S.2.2.2 → RPX M1 Ts c0 S' c → pcb M1 (196 + 16 * c) (S.2.2.1 c) → gi M1 (199 + 16 * c) 1 = (k : Int) → gl M1 (199 + 16 * c) 3 = v → (∀ M', RPS M' Ts c0 (S'.1, S'.2.1, va_up S.2.2.1 c (ovr (S.2.2.1 c)), S.2.2.2 ++ [((kd, (c : Int), (t : Int), (k : Int) + 1, (S.2.2.1 c).2.1), v)]) → K2 M') → (inr (gi M1 (199 + 16 * c) 1 + 1) ∧ em_J_note kd (c : Int) (gi M1 (197 + 16 * c) 0) (gi M1 (199 + 16 * c) 1 + 1) (gi M1 (196 + 16 * c) 1) (gl M1 (199 + 16 * c) 3) M1 (fun M1 => em_C_finish (196 + 16 * c) M1 K2)) := by
    intro S' kd v M1 K2 ikd e1 e2 X1 b1 k1 v1 kk
    have hd1 : gi M1 (197 + 16 * c) 0 = (t : Int) := by
      have h0 := hb.1.2 0 (by omega)
      have h1 := b1.1.2 0 (by omega)
      rw [show 196 + 16 * c + 1 = 197 + 16 * c by omega] at h0 h1
      rw [h1, ← h0, hhd]
    rw [k1, hd1, v1, b1.2.1]
    refine ⟨inr_z (by omega) (by omega), ?_⟩
    obtain ⟨x1, x2, x3, x4, x5⟩ := X1
    rw [e2] at x5
    refine x_note (row := ((kd, (c : Int), (t : Int), (k : Int) + 1, (S.2.2.1 c).2.1), v)) x5 hrows ⟨ikd, inr_z (by show (-1000000 : Int) ≤ (c : Int); omega) (by show (c : Int) ≤ 1000000; omega), inr_z (by show (-1000000 : Int) ≤ (t : Int); omega) (by show (t : Int) ≤ 1000000; omega), inr_z (by show (-1000000 : Int) ≤ (k : Int) + 1; omega) (by show (k : Int) + 1 ≤ 1000000; omega), inr_z (by show (-1000000 : Int) ≤ (S.2.2.1 c).2.1; omega) (by show (S.2.2.1 c).2.1 ≤ 1000000; omega)⟩ (fun M2 y2 r2 => ?_)
    have b2 : pcb M2 (196 + 16 * c) (S.2.2.1 c) := b1.eq (fun b k h => (y2.1 b k (by omega)).1)
    refine x_finish (Ts := Ts) b2 hq hcl.1.1 (fun M3 y3 c3 => kk M3 ⟨?_, ?_, ?_, fun k hk => ?_, ?_⟩)
    · exact (x1.eq hS.1.1 y2 (fun b k h => by omega)).eq hS.1.1 y3 (fun b k h => by omega)
    · exact (x2.eqP y2 (fun b k h => by omega)).eqP y3 (fun b k h => by omega)
    · exact (x3.eq y2 (fun b k h => by omega)).eq y3 (fun b k h => by omega)
    · show pcl M3 Ts _ (va_up S.2.2.1 c (ovr (S.2.2.1 c)) k)
      by_cases e : k = c
      · rw [e, va_up_at]; exact c3
      · rw [va_up_of e]
        have := x4 k hk e
        rw [e1] at this
        exact this.eq (by omega) (hd12 hS hk) (fun b j h => ⟨((y3.1 b j (by omega)).1).trans (y2.1 b j (by omega)).1, ((y3.1 b j (by omega)).2).trans (y2.1 b j (by omega)).2, by rw [y3.2, y2.2]⟩)
    · exact r2.eq (fun b k h1 h2 => y3.1 b k (by omega))
  have eA3 : 196 + 16 * c + 3 = 199 + 16 * c := by omega
  have eA5 : 196 + 16 * c + 5 = 199 + 16 * c + 2 := by omega
  have eA1 : 196 + 16 * c + 1 = 197 + 16 * c := by omega
  obtain ⟨hk1, hw, hhw, R0⟩ := hR
  have thrown : ∀ (M1 : rf_M) (v : Int64), RPX M1 Ts c0 S c → pcb M1 (196 + 16 * c) (S.2.2.1 c) → gi M1 (199 + 16 * c) 1 = (k : Int) → gl M1 (199 + 16 * c) 3 = v → ¬ (o.1.1 = 1 ∧ wel Ts S t o.2.1 = true) → v = (if o.1.1 = 1 then -2 else o.1.2) → e_M_closeRun_67 (c : Int) (196 + 16 * c) (199 + 16 * c) 0 M1 K := fun M1 v X1 b1 k1 v1 hn hvv => by
    refine ⟨fun _ _ => ?_, fun q => absurd rfl q⟩
    have := last S 2 v M1 (fun M2 => ((0 : Int) = 0 → e_M_closeRun_125 2 M2 K) ∧ (¬ ((0 : Int) = 0) → e_M_closeRun_125 1 M2 K)) (inr_z (by omega) (by omega)) rfl rfl X1 b1 k1 v1 (fun M' hM => ⟨fun _ => h2 hn M' (by rw [← hvv]; exact hM), fun q => absurd rfl q⟩)
    rw [eA1]
    exact this
  refine fun _ => ?_
  rw [clA_, eA3, eA5]
  refine ⟨fun h1' => ?_, fun h1' => ?_⟩
  · have ho1 : o.1.1 = 1 := by omega
    refine ⟨isP_ R0.1 (k1_mem t ht12), ?_⟩
    rw [gr_ R0.1]
    obtain ⟨cn, hcn⟩ : ∃ x : Nat, o.2.1.2.1.2.2.2 = (x : Int) := ⟨o.2.1.2.1.2.2.2.toNat, by have := R0.2.2.2.2.1.2.1; omega⟩
    have hG := R0.2.2.2.2.1
    have hcnw : cn ≤ hw := by have := hG.2.1.2; omega
    obtain ⟨gp, ghw, _, g2, g3, g4⟩ := hg
    refine x_takes (c := cn) (S := S) (g := o.2.1) (by omega) (by omega) hS.1 hbeg.1 hX.1 hX.2.1 hX.2.2.1 (fun j hj => ?_) hS.2.1.1 hG.1 hcn (by omega) (fun j hj => hG.2.2.1 j (by omega)) (fun j hj => g3 j (by omega)) (fun hn M1 y1 => ?_) (fun hwl M1 y1 w1 p1 => ?_)
    · have := hS.2.1.2 (S.2.1.getD j (0, 0)) (by rw [gD_ hj]; exact List.getElem_mem hj)
      exact this
    · refine ⟨fun _ => ⟨fun _ => ⟨fun _ M2 e2 => ?_, fun q => absurd rfl q⟩, fun q => absurd h1' q⟩, fun q => absurd rfl q⟩
      have y2 : eqy (fun b k => b = 199 + 16 * c ∧ k = 3) M1 M2 := by rw [e2]; exact (eqy.rfl' _).wl ⟨rfl, rfl⟩
      have nal : ∀ b k, ¬ (192 ≤ b ∧ b ≤ 194) → ¬ (b = 187 ∧ k = 7) → ¬ alP 187 b k := fun b k h1 h2 => by unfold alP wsP; omega
      have X1 : RPX M1 Ts c0 S c := ⟨hX.1.eq hS.1.1 y1 (fun b k h => nal b k (by omega) (by omega)), hX.2.1.eqP y1 (fun b k h => nal b k (by omega) (by omega)), hX.2.2.1.eq y1 (fun b k h => nal b k (by omega) (by omega)), fun j hj hne => (hX.2.2.2.1 j hj hne).eq (by omega) (hd12 hS hj) (fun b i h => ⟨(y1.1 b i (nal b i (by omega) (by omega))).1, (y1.1 b i (nal b i (by omega) (by omega))).2, by rw [y1.2]⟩), hX.2.2.2.2.eq (fun b k h1 h2 => y1.1 b k (nal b k (by omega) (by omega)))⟩
      have X2 : RPX M2 Ts c0 S c := X1.eq hS hc (fun b k h => ⟨(y2.1 b k (by omega)).1, (y2.1 b k (by omega)).2, by rw [y2.2]⟩)
      refine thrown M2 (-2) X2 (hb.eq (fun b k h => ((y2.1 b k (by omega)).1).trans (y1.1 b k (nal b k (by omega) (by omega))).1)) (((y2.i (by omega)).trans (y1.i (nal _ _ (by omega) (by omega)))).trans hk1) (by rw [e2, gl_at]; rfl) (fun q => hn q.2) (by rw [if_pos ho1])
    · refine ⟨fun q => absurd q (by decide), fun _ => ⟨fun _ => ⟨fun q => absurd q (by decide), fun _ M2 e2 => ?_⟩, fun q => absurd h1' q⟩⟩
      refine ⟨fun q => absurd q (by decide), fun _ _ => ?_⟩
      have y2 : eqy (fun b k => b = 199 + 16 * c ∧ k = 3) M1 M2 := by rw [e2]; exact (eqy.rfl' _).wl ⟨rfl, rfl⟩
      have q1 : eqy (fun b _ => 187 ≤ b ∧ b ≤ 194) M (M1.1, M1.2.1, M.2.2) := ⟨fun b k q => ⟨(y1 b k q).1, (y1 b k q).2.1⟩, rfl⟩
      have X1 : RPX M1 Ts c0 (brg S.1 o.2.1.2.1, S.2.1 ++ nru t o.2.1, S.2.2.1, S.2.2.2) c := ⟨fun j hj => (by have q := (hX.1 j hj).eq q1 (fun b k _ _ => by have := hS.1.1; omega); exact q), w1, p1, fun j hj hne => (hX.2.2.2.1 j hj hne).eq (by omega) (hd12 hS hj) (fun b i h => y1 b i (by omega)), hX.2.2.2.2.eq (fun b k h1 h2 => ⟨(y1 b k (by omega)).1, (y1 b k (by omega)).2.1⟩)⟩
      have X2 : RPX M2 Ts c0 (brg S.1 o.2.1.2.1, S.2.1 ++ nru t o.2.1, S.2.2.1, S.2.2.2) c := by
        obtain ⟨x1, x2, x3, x4, x5⟩ := X1
        exact ⟨x1.eq hS.1.1 y2 (fun b k h => by omega), x2.eqP y2 (fun b k h => by omega), x3.eq y2 (fun b k h => by omega), fun j hj hne => (x4 j hj hne).eq (by omega) (hd12 hS hj) (fun b i h => ⟨(y2.1 b i (by omega)).1, (y2.1 b i (by omega)).2, by rw [y2.2]⟩), x5.eq (fun b k h1 h2 => y2.1 b k (by omega))⟩
      have := last (brg S.1 o.2.1.2.1, S.2.1 ++ nru t o.2.1, S.2.2.1, S.2.2.2) 1 0 M2 (fun M2 => ((1 : Int) = 0 → e_M_closeRun_125 2 M2 K) ∧ (¬ ((1 : Int) = 0) → e_M_closeRun_125 1 M2 K)) (inr_z (by omega) (by omega)) rfl rfl X2 (hb.eq (fun b k h => ((y2.1 b k (by omega)).1).trans (y1 b k (by omega)).1)) (((y2.i (by omega)).trans (congrArg Int32.toInt (y1 _ _ (by omega)).1)).trans hk1) (by rw [e2, gl_at]; rfl) (fun M' hM => ⟨fun q => absurd q (by decide), fun _ => h1 ⟨ho1, hwl⟩ M' hM⟩)
      rw [eA1]
      exact this
  · have ho2 : o.1.1 = 2 := by omega
    refine ⟨fun q => absurd q h1', fun _ => ?_⟩
    exact thrown M o.1.2 hX hb hk1 (hv ho2) (fun q => by omega) (by rw [if_neg (by omega)])
end PT1
/-! THE PROGRAM'S TURN, as a whole -/
theorem stepp_le (X : txT) (w : wdT) (g : sgT) (r : rdT) : (stepp X w g r).1.1 ≤ 4 := by
  unfold stepp stpx
  split
  · show 1 ≤ 4; omega
  · split
    · show 0 ≤ 4; omega
    · split
      · show 0 ≤ 4; omega
      · split
        · split
          · show 4 ≤ 4; omega
          · show 0 ≤ 4; omega
        · split
          · show 3 ≤ 4; omega
          · split
            · split
              · show 2 ≤ 4; omega
              · show 0 ≤ 4; omega
            · split
              · split
                · show 2 ≤ 4; omega
                · show 0 ≤ 4; omega
              · split
                · show 0 ≤ 4; omega
                · split
                  · show 0 ≤ 4; omega
                  · show 0 ≤ 4; omega
section PT2
variable {M M' : rf_M} {A n cc c0 c : Nat} {X : txT} {en : Int} {K : Int → rf_M → Prop} {Ts : tsT} {w : wdT} {r : rdT} {g : sgT} {cl : clT} {S : syT}
theorem out_le : (out Ts S cl).1.1 ≤ 4 := by
  unfold out
  split
  · show 2 ≤ 4; omega
  · exact stepp_le _ _ _ _
theorem out_g (h : (out Ts S cl).1.1 ≠ 0) : (out Ts S cl).2.1 = (beg Ts cl).2.1 := by
  unfold out at h ⊢
  split
  · rfl
  · rename_i q
    rw [if_neg q] at h
    exact stepp_g _ _ _ _ h
theorem out_sub : rsub (beg Ts cl).2.2 (out Ts S cl).2.2 := by
  unfold out
  split
  · exact rsub.rfl' _
  · exact stepp_mono _ _ _ _
theorem x_isFull (h : 0 ≤ gi M 324 0) (h0 : gi M 324 0 < 300 → K 0 M) (h1 : ¬ gi M 324 0 < 300 → K 1 M) : em_J_isFull M K := ⟨fun q => ⟨Or.inl rfl, h0 q⟩, fun q => ⟨Or.inr rfl, h1 q⟩⟩
/-- a step of a turn -/
theorem x_ostep (hS : SI Ts c0 S) (hc : c < 8) (hq : (S.2.2.1 c).1.length ≠ 0) (hW : weq S.1 (wS M 187)) (hR : rnR M (199 + 16 * c) (25 + 12 * (S.2.2.1 c).1.headD 0) (Ts ((S.2.2.1 c).1.headD 0)).1 (Ts ((S.2.2.1 c).1.headD 0)).2.1 (Ts ((S.2.2.1 c).1.headD 0)).2.2.1 (Ts ((S.2.2.1 c).1.headD 0)).2.2.2 (beg Ts (S.2.2.1 c)).2.1 (beg Ts (S.2.2.1 c)).2.2 (beg Ts (S.2.2.1 c)).1) (kk : ∀ M', eqy (fun b _ => 199 + 16 * c ≤ b ∧ b ≤ 211 + 16 * c) M M' → rnR M' (199 + 16 * c) (25 + 12 * (S.2.2.1 c).1.headD 0) (Ts ((S.2.2.1 c).1.headD 0)).1 (Ts ((S.2.2.1 c).1.headD 0)).2.1 (Ts ((S.2.2.1 c).1.headD 0)).2.2.1 (Ts ((S.2.2.1 c).1.headD 0)).2.2.2 (out Ts S (S.2.2.1 c)).2.1 (out Ts S (S.2.2.1 c)).2.2 (if (out Ts S (S.2.2.1 c)).1.1 = 0 then (beg Ts (S.2.2.1 c)).1 + 1 else (beg Ts (S.2.2.1 c)).1) → ((out Ts S (S.2.2.1 c)).1.1 = 2 → gl M' (199 + 16 * c) 3 = (out Ts S (S.2.2.1 c)).1.2) → K ((out Ts S (S.2.2.1 c)).1.1 : Nat) M') : em_R_step (199 + 16 * c) M K := by
  have hbeg := beg_ok hS hc hq
  have ht12 : (S.2.2.1 c).1.headD 0 < 12 := by have := hS.1.1; omega
  have hX := hS.1.2 _ hbeg.1
  unfold out at kk
  by_cases h3 : 300 ≤ (beg Ts (S.2.2.1 c)).1
  · rw [if_pos h3] at kk
    refine ⟨fun q => absurd q (by rw [hR.1]; omega), fun _ M1 e1 => ?_⟩
    have y1 : eqy (fun b k => b = 199 + 16 * c ∧ k = 3) M M1 := by rw [e1]; exact (eqy.rfl' M).wl ⟨rfl, rfl⟩
    refine kk M1 (y1.mono (fun b k h => by omega)) ?_ (fun _ => by rw [e1, gl_at]; rfl)
    rw [if_neg (show ¬ (2 : Nat) = 0 by decide)]
    obtain ⟨k1, hw, hh, R0⟩ := hR
    exact ⟨(y1.i (by omega)).trans k1, hw, hh, rn0.eqR (by omega) R0 y1 (fun b k h => by omega) (R0.2.2.2.2.2.eqP y1 (fun b k h => by omega))⟩
  · rw [if_neg h3] at kk
    have hsr : stR (199 + 16 * c) = 187 := by unfold stR; rw [if_neg (by omega)]
    refine x_rstep (by omega) (by rw [hsr]; omega) (k1_mem _ ht12) hX hR (by omega) (by rw [hsr]; exact hW) (fun M' y R' v' => kk M' ?_ R' v')
    exact y.mono (fun b k h => by omega)
theorem x_t70 (hS : SI Ts c0 S) (hc : c < 8) (hq : (S.2.2.1 c).1.length ≠ 0) (hX : RPX M Ts c0 S c) (hb : pcb M (196 + 16 * c) (S.2.2.1 c)) (hwt : pcw M (196 + 16 * c) (S.2.2.1 c)) (hR : rnR M (199 + 16 * c) (25 + 12 * (S.2.2.1 c).1.headD 0) (Ts ((S.2.2.1 c).1.headD 0)).1 (Ts ((S.2.2.1 c).1.headD 0)).2.1 (Ts ((S.2.2.1 c).1.headD 0)).2.2.1 (Ts ((S.2.2.1 c).1.headD 0)).2.2.2 (beg Ts (S.2.2.1 c)).2.1 (beg Ts (S.2.2.1 c)).2.2 (beg Ts (S.2.2.1 c)).1) (hst : gi M (196 + 16 * c) 0 = 2) (kk : ∀ M', RPS M' Ts c0 (trn2 Ts S c (S.2.2.1 c) (out Ts S (S.2.2.1 c))).2 → K (trn2 Ts S c (S.2.2.1 c) (out Ts S (S.2.2.1 c))).1 M') : e_M_takeTurn_70 (c : Int) (196 + 16 * c) (((S.2.2.1 c).2.2.2.1 : Int) + 1) M K := by
  have hbeg := beg_ok hS hc hq
  have hout := out_ok hS hc hq
  have hcl := hS.2.2.2.2 c hc
  have ht12 : (S.2.2.1 c).1.headD 0 < 12 := by have := hS.1.1; omega
  have eA3 : 196 + 16 * c + 3 = 199 + 16 * c := by omega
  have eA4 : 196 + 16 * c + 4 = 199 + 16 * c + 1 := by omega
  show em_R_step (196 + 16 * c + 3) M _
  rw [eA3]
  refine x_ostep hS hc hq hX.2.1 hR (fun M1 y1 R1 v1 => ?_)
  have hle := out_le (Ts := Ts) (S := S) (cl := S.2.2.1 c)
  have hog := out_g (Ts := Ts) (S := S) (cl := S.2.2.1 c)
  have hos := out_sub (Ts := Ts) (S := S) (cl := S.2.2.1 c)
  have X1 : RPX M1 Ts c0 S c := hX.eq hS hc (fun b k h => ⟨(y1.1 b k (by omega)).1, (y1.1 b k (by omega)).2, by rw [y1.2]⟩)
  have b1 : pcb M1 (196 + 16 * c) (S.2.2.1 c) := hb.eq (fun b k h => (y1.1 b k (by omega)).1)
  have s1 : gi M1 (196 + 16 * c) 0 = 2 := (y1.i (by omega)).trans hst
  have wt1 : pcw M1 (196 + 16 * c) (S.2.2.1 c) := hwt.eq (fun b k h => (y1.1 b k (by omega)).1)
  generalize out Ts S (S.2.2.1 c) = o at *
  unfold trn2 at kk
  -- cut
  have cut : ¬ o.1.1 = 0 → stale S.1 o.2.2 = true → ∀ M2, M2 = M1 → e_M_takeTurn_111 (196 + 16 * c) M2 K := fun hn hs M2 e => by
    subst e
    rw [if_neg hn, if_pos hs] at kk
    refine x_cut (by rw [b1.2.1]; have := hcl.2.1; have := hS.2.2.1; exact inr_z (by omega) (by omega)) (fun M3 y3 a0 a1 a2 => ?_)
    rw [b1.2.1] at a1 a2
    refine kk M3 ((X1.eq hS hc (fun b k h => ⟨(y3.1 b k (by omega)).1, (y3.1 b k (by omega)).2, by rw [y3.2]⟩)).all ⟨⟨⟨?_, fun j hj => ?_⟩, a1, a2⟩, ?_, fun (q : (0 : Nat) = 1) => absurd q (by decide), fun (q : (0 : Nat) = 2) => absurd q (by decide)⟩)
    · exact (y3.i (by omega)).trans b1.1.1
    · exact (y3.i (by omega)).trans (b1.1.2 j hj)
    · rw [a0, if_neg hq]; rfl
  refine ⟨fun z => ?_, fun z => ⟨fun z3 => ?_, fun z3 => ?_⟩⟩
  · have z : o.1.1 = 0 := by omega
    rw [if_pos z] at kk R1
    refine kk M1 (X1.all ⟨b1, ?_, fun _ => ?_, fun (q : (1 : Nat) = 2) => absurd q (by decide)⟩)
    · rw [s1, if_neg hq]; rfl
    · rw [eA3]; exact R1
  · have z3 : o.1.1 = 3 := by omega
    exact cut (by omega) (hout.2.2.1 z3) M1 rfl
  have z : ¬ o.1.1 = 0 := by omega
  rw [if_neg z] at R1
  have hsr : stR (199 + 16 * c) = 187 := by unfold stR; rw [if_neg (by omega)]
  obtain ⟨k1, hw1, hhw1, R0⟩ := R1
  have hmk : (mP M1 (199 + 16 * c)).2.2.2 = gi M1 (199 + 16 * c + 2) 3 := rfl
  refine x_isStale (w := S.1) (r := o.2.2) (by rw [hsr]; exact X1.2.1) R0.2.2.2.2.2 ⟨fun hz => ?_, fun hz => ?_⟩
  · have hs : ¬ stale S.1 o.2.2 = true := fun q => by rw [if_pos q] at hz; exact absurd hz (by decide)
    rw [if_neg z, if_neg hs] at kk
    -- nothing is done
    have back : ∀ (zz : Int) M2 M3, M2 = wi M1 (199 + 16 * c) 2 (gi M (199 + 16 * c) 2) → M3 = wi M2 (196 + 16 * c) 0 (((S.2.2.1 c).2.2.2.1 : Int) + 1) → RPS M3 Ts c0 S := fun _ M2 M3 e2 e3 => by
      have y2 : eqy (fun b k => b = 199 + 16 * c ∧ k = 2) M1 M2 := by rw [e2]; exact (eqy.rfl' _).wi ⟨rfl, rfl⟩
      have y3 : eqy (fun b k => b = 196 + 16 * c ∧ k = 0) M2 M3 := by rw [e3]; exact (eqy.rfl' _).wi ⟨rfl, rfl⟩
      have y23 : eqy (fun b k => (b = 199 + 16 * c ∧ k = 2) ∨ (b = 196 + 16 * c ∧ k = 0)) M1 M3 := (y2.mono (fun b k h => Or.inl h)).trans (y3.mono (fun b k h => Or.inr h))
      have htg := hcl.2.2.2.2.1
      refine (X1.eq hS hc (fun b k h => ⟨(y23.1 b k (by omega)).1, (y23.1 b k (by omega)).2, by rw [y23.2]⟩)).self ⟨b1.eq (fun b k h => (y23.1 b k (by omega)).1), ?_, fun ht => ?_, wt1.eq (fun b k h => (y23.1 b k (by omega)).1)⟩
      · rw [e3, gi_at (inr_z (by omega) (by omega)), if_neg hq]
      · rw [eA3]
        have eb : beg Ts (S.2.2.1 c) = (S.2.2.1 c).2.2.2.2 := by unfold beg; rw [if_pos ht]
        rw [eb] at k1 hhw1 hos hog hR
        have R0' := R0
        rw [hog z] at R0'
        refine ⟨(y23.i (by omega)).trans k1, hw1, hhw1, rn0.eqR (by omega) R0' y23 (fun b k h => by omega) ⟨?_, fun l hl b => ?_⟩⟩
        · show M3.1 (199 + 16 * c) 2 = _
          rw [(y3.1 _ _ (by omega)).1, e2]
          show (rf_wi M1 (199 + 16 * c) 2 _).1 (199 + 16 * c) 2 = _
          rw [rf_wi_at, gi_ofi]
          obtain ⟨_, _, _, Rb⟩ := hR
          exact Rb.2.2.2.2.2.1
        · obtain ⟨q1, q2, q3⟩ := hos l hl b
          have q4 := R0.2.2.2.2.2.2 l hl q1
          exact ⟨((y23.l (by omega)).trans q4.1).trans q2, ((y23.1 _ _ (by omega)).1.trans q4.2).trans q3⟩
    have t151 : ∀ (z6 : Int) (zo : Int) (M2 : rf_M), M2 = M1 → (z6 = 0 → zo = -1) → (¬ z6 = 0 → zo = 6) → (∀ M', RPS M' Ts c0 S → K zo M') → e_M_takeTurn_151 (196 + 16 * c) (((S.2.2.1 c).2.2.2.1 : Int) + 1) (gi M (199 + 16 * c) 2) z6 M2 K := fun z6 zo M2 e h1 h2 hk => by
      subst e
      intro M3 e3 M4 e4
      rw [eA3] at e3
      have := hk M4 (back 0 M3 M4 e3 e4)
      exact ⟨fun q => by rw [h1 q] at this; exact this, fun q => by rw [h2 q] at this; exact this⟩
    refine ⟨fun z4 => ?_, fun z4 => ?_⟩
    · have z4 : o.1.1 = 4 := by omega
      rw [if_pos z4] at kk
      refine x_rest (fun M3 y3 a0 a2 a6 av => ?_)
      rw [eA3] at a6
      rw [eA4] at av
      refine kk M3 ((X1.eq hS hc (fun b k h => ⟨(y3.1 b k (by omega)).1, (y3.1 b k (by omega)).2, by rw [y3.2]⟩)).all ⟨⟨⟨?_, fun j hj => ?_⟩, ?_, a2⟩, ?_, fun (q : (2 : Nat) = 1) => absurd q (by decide), fun _ => ⟨?_, fun l hl b => ?_⟩⟩)
      · exact (y3.i (by omega)).trans b1.1.1
      · exact (y3.i (by omega)).trans (b1.1.2 j hj)
      · exact (y3.i (by omega)).trans b1.2.1
      · rw [a0, if_neg hq]; rfl
      · rw [a6]; exact R0.2.2.2.2.2.1
      · rw [av l hl]
        exact (R0.2.2.2.2.2.2 l hl b).2
    · have z4 : ¬ o.1.1 = 4 := by omega
      rw [if_neg z4] at kk
      have z12 : o.1.1 = 1 ∨ o.1.1 = 2 := by omega
      refine x_isHeld (S := S) (Ts := Ts) hc b1 X1.2.2.2.1 ?_
      by_cases hh : hel S c = true
      · rw [if_pos hh] at kk ⊢
        exact ⟨fun q => absurd q (by decide), fun _ => t151 1 6 M1 rfl (fun q => absurd q (by decide)) (fun _ => rfl) kk⟩
      · rw [if_neg hh] at kk ⊢
        refine ⟨fun _ => ?_, fun q => absurd rfl q⟩
        have grow : gi M1 324 0 = (S.2.2.2.length : Int) := X1.2.2.2.2.1
        refine x_isFull (by omega) (fun hf => ⟨fun _ => ?_, fun q => absurd rfl q⟩) (fun hf => ⟨fun q => absurd q (by decide), fun _ => ?_⟩)
        · rw [if_neg (by omega)] at kk
          refine x_closeRun (k := (beg Ts (S.2.2.1 c)).1) hS hc hq X1 b1 ⟨k1, hw1, hhw1, R0⟩ hbeg.2.1 hout.1 z12 v1 (by omega) (fun hy M' hM => ?_) (fun hy M' hM => ?_)
          · rw [if_pos hy] at kk
            exact kk M' hM
          · rw [if_neg hy] at kk
            exact kk M' hM
        · rw [if_pos (by omega)] at kk
          exact t151 0 (-1) M1 rfl (fun _ => rfl) (fun q => absurd rfl q) kk
  · have hs : stale S.1 o.2.2 = true := by
      by_cases q : stale S.1 o.2.2 = true
      · exact q
      · rw [if_neg q] at hz; exact absurd rfl hz
    exact cut z hs M1 rfl
/-- a turn -/
theorem x_takeTurn (hS : SI Ts c0 S) (hc : c < 8) (hP : RPS M Ts c0 S) (kk : ∀ M', RPS M' Ts c0 (trn Ts S c).2 → K (trn Ts S c).1 M') : em_M_takeTurn (c : Int) M K := by
  have hcl := hS.2.2.2.2 c hc
  obtain ⟨pb, ps, pr, pw⟩ := hP.2.2.2.1 c hc
  have htg := hcl.2.2.2.2.1
  have eA3 : 196 + 16 * c + 3 = 199 + 16 * c := by omega
  have eA1 : 196 + 16 * c + 1 = 197 + 16 * c := by omega
  have eA2 : 196 + 16 * c + 2 = 198 + 16 * c := by omega
  unfold trn at kk
  refine fun _ => ?_
  rw [clA_, ps]
  by_cases hq : (S.2.2.1 c).1.length = 0
  · rw [if_pos hq] at kk ⊢
    exact ⟨fun _ => kk M hP, fun q => absurd rfl q⟩
  rw [if_neg hq] at kk ⊢
  have hbeg := beg_ok hS hc hq
  have ht12 : (S.2.2.1 c).1.headD 0 < 12 := by have := hS.1.1; omega
  have hhd : gi M (197 + 16 * c) 0 = (((S.2.2.1 c).1.headD 0 : Nat) : Int) := by
    have := pb.1.2 0 (by omega)
    rw [eA1] at this
    rw [this]
    cases hl : (S.2.2.1 c).1 with
    | nil => rfl
    | cons x q => rfl
  have t37 : (∀ M', RPS M' Ts c0 (trn2 Ts S c (S.2.2.1 c) (out Ts S (S.2.2.1 c))).2 → K (trn2 Ts S c (S.2.2.1 c) (out Ts S (S.2.2.1 c))).1 M') → e_M_takeTurn_37 (c : Int) (196 + 16 * c) M K := fun kk2 => by
    refine ⟨fun h2 => ?_, fun h2 _ => ?_⟩
    · rw [ps, if_neg hq] at h2
      have ht : (S.2.2.1 c).2.2.2.1 = 1 := by omega
      rw [ps, if_neg hq]
      have eb : beg Ts (S.2.2.1 c) = (S.2.2.1 c).2.2.2.2 := by unfold beg; rw [if_pos ht]
      refine x_t70 hS hc hq hP.x pb pw ?_ (by rw [ps, if_neg hq]; omega) kk2
      rw [eb, ← eA3]
      exact pr ht
    · rw [ps, if_neg hq] at h2
      rw [eA1, hhd]
      have ht : ¬ (S.2.2.1 c).2.2.2.1 = 1 := by omega
      have eb : beg Ts (S.2.2.1 c) = (0, run0 (Ts ((S.2.2.1 c).1.headD 0)).2.2.2, rd0) := by unfold beg; rw [if_neg ht]
      refine fun _ => ?_
      rw [eA3, show pgA (((S.2.2.1 c).1.headD 0 : Nat) : Int) = 25 + 12 * (S.2.2.1 c).1.headD 0 by unfold pgA; rw [tn_], ps, if_neg hq]
      refine x_begin (by omega) (k1_mem _ ht12) (hS.1.2 _ hbeg.1) (hP.1 _ hbeg.1) (fun M1 f1 R1 M2 e2 => ?_)
      have y2 : eqy (fun b k => b = 196 + 16 * c ∧ k = 0) M1 M2 := by rw [e2]; exact (eqy.rfl' _).wi ⟨rfl, rfl⟩
      refine x_t70 hS hc hq (RPX.eq hS hc hP.x (fun b k h => ⟨((y2.1 b k (by omega)).1).trans (f1 b k (by omega)).1, ((y2.1 b k (by omega)).2).trans (f1 b k (by omega)).2.1, by rw [y2.2]; exact (f1 b k (by omega)).2.2⟩)) (pb.eq (fun b k h => ((y2.1 b k (by omega)).1).trans (f1 b k (by omega)).1)) (pw.eq (fun b k h => ((y2.1 b k (by omega)).1).trans (f1 b k (by omega)).1)) ?_ (by rw [e2, gi_at (inr_z (by omega) (by omega))]) kk2
      rw [eb]
      exact R1.eq3 (by omega) (fun b k h => ⟨(y2.1 b k (by omega)).1, (y2.1 b k (by omega)).2, by rw [y2.2]⟩)
  refine ⟨fun h => absurd h (by omega), fun _ => ⟨fun h3 => ?_, fun h3 => ?_⟩⟩
  · have ht : (S.2.2.1 c).2.2.2.1 = 2 := by omega
    have hwt := pw ht
    rw [eA2] at hwt
    show em_S_differs 187 (gi M (196 + 16 * c) 6) (196 + 16 * c + 2) M _
    rw [eA2]
    refine x_differs ?_
    rw [gi_ofi, stale_eq (w := S.1) (r := (S.2.2.1 c).2.2.2.2.2.2) (r' := (M.1 (196 + 16 * c) 6, fun _ => 0, fun l => M.1 (198 + 16 * c) l)) (fun l hl => (hP.2.1 l hl).2) hwt.1 (fun l hl b => hwt.2 l hl b)]
    cases hs : stale S.1 (S.2.2.1 c).2.2.2.2.2.2 with
    | false =>
      rw [if_pos ⟨ht, hs⟩] at kk
      rw [if_neg (by decide)]
      exact ⟨Or.inl rfl, fun _ => kk M hP, fun q => absurd rfl q⟩
    | true =>
      rw [if_neg (fun q => by rw [hs] at q; exact absurd q.2 (by decide))] at kk
      rw [if_pos rfl]
      exact ⟨Or.inr rfl, fun q => absurd q (by decide), fun _ => t37 kk⟩
  · rw [if_neg (fun q => by omega)] at kk
    exact t37 kk
end PT2
