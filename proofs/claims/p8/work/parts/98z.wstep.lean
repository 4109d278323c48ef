/-! THE REFERENCE'S RUN: a step -/
def fR (t : Nat) (X : txT) (z : Int) : Int := 200 * (t : Int) + X.1 2 z.toNat
/-- the reference's walk of text t is g with what is read r -/
def rnW (M : rf_M) (t : Nat) (X : txT) (n cc : Nat) (en : Int) (g : sgT) (r : rdT) : Prop := rtx M t X n cc en ∧ gi M 353 60 = lf t g.1 ∧ plz n g.1 ∧ (∃ hw, grl X (fR t X) hw g (vR M t)) ∧ req r (rR M)
def stW (b k : Nat) : Prop := (b = 353 ∧ (k = 52 ∨ k = 55 ∨ k = 58 ∨ k = 60 ∨ k = 65 ∨ k = 66)) ∨ (389 ≤ b ∧ b ≤ 398)
def ocW (o : Nat) : Int := if o = 0 then 0 else if o = 1 then 4 else if o = 2 then 2 else if o = 3 then 1 else 3
section WR3
variable {M M' : rf_M} {t n cc x : Nat} {X : txT} {en : Int} {w : wdT} {m : mkT} {r : rdT} {g : sgT} {K : Int → rf_M → Prop}
theorem vR_eq {P : Nat → Nat → Prop} (e : eqy P M M') (q : ∀ b k, (b = 353 ∧ (k = 55 ∨ k = 58)) ∨ (391 ≤ b ∧ b ≤ 397) → ¬ P b k) : vR M' t = vR M t := by
  have e1 : ∀ b k, 391 ≤ b → b ≤ 397 → M'.1 b k = M.1 b k := fun b k h1 h2 => (e.1 b k (q b k (by omega))).1
  have e2 : ∀ b k, 391 ≤ b → b ≤ 397 → gl M' b k = gl M b k := fun b k h1 h2 => (e.1 b k (q b k (by omega))).2
  have e3 : ∀ b k, 391 ≤ b → b ≤ 397 → gi M' b k = gi M b k := fun b k h1 h2 => e.i (q b k (by omega))
  unfold vR mR kR
  rw [(e.1 353 55 (q _ _ (by omega))).1, e.i (q 353 58 (by omega))]
  have f3 : (fun l => gl M' 391 l) = fun l => gl M 391 l := funext (fun l => e2 _ _ (by omega) (by omega))
  have f4 : (fun l => gl M' 392 l) = fun l => gl M 392 l := funext (fun l => e2 _ _ (by omega) (by omega))
  have f5 : (fun l => gi M' 393 l) = fun l => gi M 393 l := funext (fun l => e3 _ _ (by omega) (by omega))
  have f6 : ∀ h : Nat, ((M'.1 394 (40 * t + h), fun l => gl M' 395 (16 * (40 * t + h) + l), fun l => gl M' 396 (10 * (40 * t + h) + l), gi M' 397 (40 * t + h)) : mkT) = (M.1 394 (40 * t + h), fun l => gl M 395 (16 * (40 * t + h) + l), fun l => gl M 396 (10 * (40 * t + h) + l), gi M 397 (40 * t + h)) := fun h => by
    rw [e1 _ _ (by omega) (by omega), e3 _ _ (by omega) (by omega), show (fun l => gl M' 395 (16 * (40 * t + h) + l)) = fun l => gl M 395 (16 * (40 * t + h) + l) from funext (fun l => e2 _ _ (by omega) (by omega)), show (fun l => gl M' 396 (10 * (40 * t + h) + l)) = fun l => gl M 396 (10 * (40 * t + h) + l) from funext (fun l => e2 _ _ (by omega) (by omega))]
  rw [f3, f4, f5]
  exact congrArg (fun z => (_, _, z)) (funext f6)
theorem y_keep {K : rf_M → Prop} (hx : x < 480) (kk : ∀ M', eqy (fun b _ => 394 ≤ b ∧ b ≤ 397) M M' → meq (mR M) (kR M' x) → (∀ y, y ≠ x → meq (kR M y) (kR M' y)) → K M') : em_W_keep (x : Int) M K := by
  intro _ M1 e1 _ M2 e2
  rw [tn_] at e1 e2
  have g1 : gi M1 353 58 = gi M 353 58 := by rw [e1, gi_of (Or.inl (by omega))]
  rw [g1] at e2
  refine ⟨fun v1 v2 M' => v1 = (x : Int) ∧ ∃ j : Nat, v2 = (j : Int) ∧ j ≤ 16 ∧ eqy (fun b k => b = 395 ∧ 16 * x ≤ k ∧ k < 16 * x + 16) M2 M' ∧ ∀ l, l < j → gl M' 395 (16 * x + l) = gl M 391 l, ⟨rfl, 0, rfl, by omega, eqy.rfl' _, fun l h => absurd h (by omega)⟩, ?_⟩
  rintro v1 v2 M3 - - ⟨rfl, j, rfl, hj, y3, h3⟩
  refine ⟨fun h => ?_, fun h _ => ⟨inr_z (by omega) (by omega), fun _ M4 e4 => ⟨inr_z (by omega) (by omega), rfl, j + 1, by omega, by omega, ?_, fun l hl => ?_⟩⟩⟩
  · refine ⟨fun v1 v2 M' => v1 = (x : Int) ∧ ∃ i : Nat, v2 = (i : Int) ∧ i ≤ 10 ∧ eqy (fun b k => b = 396 ∧ 10 * x ≤ k ∧ k < 10 * x + 10) M3 M' ∧ ∀ l, l < i → gl M' 396 (10 * x + l) = gl M 392 l, ⟨rfl, 0, rfl, by omega, eqy.rfl' _, fun l h => absurd h (by omega)⟩, ?_⟩
    rintro v1 v2 M5 - - ⟨rfl, i, rfl, hi, y5, h5⟩
    have l2 : ∀ b k, gl M2 b k = gl M b k := fun b k => by rw [e2, e1]; rfl
    refine ⟨fun h' => ?_, fun h' _ => ⟨inr_z (by omega) (by omega), fun _ M6 e6 => ⟨inr_z (by omega) (by omega), rfl, i + 1, by omega, by omega, ?_, fun l hl => ?_⟩⟩⟩
    · have y2 : eqy (fun b k => (b = 394 ∨ b = 397) ∧ k = x) M M2 := by rw [e2, e1]; exact ((eqy.rfl' M).wi ⟨Or.inl rfl, rfl⟩).wi ⟨Or.inr rfl, rfl⟩
      have yy : ∀ b k, ¬ (b = 395 ∧ 16 * x ≤ k ∧ k < 16 * x + 16) → ¬ (b = 396 ∧ 10 * x ≤ k ∧ k < 10 * x + 10) → M5.1 b k = M2.1 b k ∧ gl M5 b k = gl M2 b k := fun b k q1 q2 => ⟨(y5.1 b k q2).1.trans (y3.1 b k q1).1, (y5.1 b k q2).2.trans (y3.1 b k q1).2⟩
      have hj16 : j = 16 := by omega
      have hi10 : i = 10 := by omega
      refine kk M5 (((y2.mono (fun b k h => by omega)).trans (y3.mono (fun b k h => by omega))).trans (y5.mono (fun b k h => by omega))) ⟨?_, fun l hl _ => ?_, fun l hl => ?_, ?_⟩ (fun y hy => ⟨?_, fun l hl _ => ?_, fun l hl => ?_, ?_⟩)
      · refine (yy 394 x (by omega) (by omega)).1.trans ?_
        rw [e2]
        show (rf_wi M1 397 x _).1 394 x = _
        rw [rf_wi_of _ _ (Or.inl (by omega)), e1]
        show (rf_wi M 394 x _).1 394 x = _
        rw [rf_wi_at, gi_ofi]
        rfl
      · exact (y5.l (by omega)).trans (h3 l (by omega))
      · exact h5 l (by omega)
      · show gi M5 397 x = gi M 353 58
        rw [show gi M5 397 x = gi M2 397 x from congrArg Int32.toInt (yy 397 x (by omega) (by omega)).1, e2, gi_at (inr_gi _ _ _)]
      · exact (yy 394 y (by omega) (by omega)).1.trans (y2.1 394 y (by omega)).1
      · exact (yy 395 _ (by omega) (by omega)).2.trans (y2.1 395 _ (by omega)).2
      · exact (yy 396 _ (by omega) (by omega)).2.trans (y2.1 396 _ (by omega)).2
      · exact (congrArg Int32.toInt (yy 397 y (by omega) (by omega)).1).trans (y2.i (by omega))
    · rw [e6]
      have ex : (10 * (x : Int) + (i : Int)).toNat = 10 * x + i := by omega
      rw [ex]
      exact y5.wl ⟨rfl, by omega, by omega⟩
    · have ex : (10 * (x : Int) + (i : Int)).toNat = 10 * x + i := by omega
      rw [ex, tn_] at e6
      by_cases e : l = i
      · rw [e, e6, gl_at]
        exact (y5.l (by omega)).trans ((y3.l (by omega)).trans (l2 _ _))
      · rw [e6, gl_of (Or.inr (by omega))]
        exact h5 l (by omega)
  · have ex : (16 * (x : Int) + (j : Int)).toNat = 16 * x + j := by omega
    rw [ex] at e4
    rw [e4]
    exact y3.wl ⟨rfl, by omega, by omega⟩
  · have ex : (16 * (x : Int) + (j : Int)).toNat = 16 * x + j := by omega
    rw [ex, tn_] at e4
    by_cases e : l = j
    · rw [e, e4, gl_at]
      refine (y3.l (by omega)).trans ?_
      rw [e2, e1]; rfl
    · rw [e4, gl_of (Or.inr (by omega))]
      exact h3 l (by omega)
theorem y_bringBack {K : rf_M → Prop} (hx : x < 480) (kk : ∀ M', eqy (fun b k => (b = 353 ∧ (k = 55 ∨ k = 58)) ∨ b = 391 ∨ b = 392) M M' → meq (kR M x) (mR M') → K M') : em_W_bringBack (x : Int) M K := by
  intro _ M1 e1 _ M2 e2
  rw [tn_] at e1 e2
  have g1 : gi M1 397 x = gi M 397 x := by rw [e1, gi_of (Or.inl (by omega))]
  rw [g1] at e2
  have l2 : ∀ b k, gl M2 b k = gl M b k := fun b k => by rw [e2, e1]; rfl
  refine ⟨fun v1 v2 M' => v1 = (x : Int) ∧ ∃ j : Nat, v2 = (j : Int) ∧ j ≤ 16 ∧ eqy (fun b _ => b = 391) M2 M' ∧ ∀ l, l < j → gl M' 391 l = gl M 395 (16 * x + l), ⟨rfl, 0, rfl, by omega, eqy.rfl' _, fun l h => absurd h (by omega)⟩, ?_⟩
  rintro v1 v2 M3 - - ⟨rfl, j, rfl, hj, y3, h3⟩
  have ex : (16 * (x : Int) + (j : Int)).toNat = 16 * x + j := by omega
  refine ⟨fun h => ?_, fun h => ⟨inr_z (by omega) (by omega), fun _ _ M4 e4 => ⟨inr_z (by omega) (by omega), rfl, j + 1, by omega, by omega, ?_, fun l hl => ?_⟩⟩⟩
  · refine ⟨fun v1 v2 M' => v1 = (x : Int) ∧ ∃ i : Nat, v2 = (i : Int) ∧ i ≤ 10 ∧ eqy (fun b _ => b = 392) M3 M' ∧ ∀ l, l < i → gl M' 392 l = gl M 396 (10 * x + l), ⟨rfl, 0, rfl, by omega, eqy.rfl' _, fun l h => absurd h (by omega)⟩, ?_⟩
    rintro v1 v2 M5 - - ⟨rfl, i, rfl, hi, y5, h5⟩
    have ex5 : (10 * (x : Int) + (i : Int)).toNat = 10 * x + i := by omega
    refine ⟨fun h' => ?_, fun h' => ⟨inr_z (by omega) (by omega), fun _ _ M6 e6 => ⟨inr_z (by omega) (by omega), rfl, i + 1, by omega, by omega, ?_, fun l hl => ?_⟩⟩⟩
    · have y2 : eqy (fun b k => b = 353 ∧ (k = 55 ∨ k = 58)) M M2 := by rw [e2, e1]; exact ((eqy.rfl' M).wi ⟨rfl, Or.inl rfl⟩).wi ⟨rfl, Or.inr rfl⟩
      refine kk M5 (((y2.mono (fun b k h => Or.inl h)).trans (y3.mono (fun b k h => Or.inr (Or.inl h)))).trans (y5.mono (fun b k h => Or.inr (Or.inr h)))) ⟨?_, fun l hl _ => ?_, fun l hl => ?_, ?_⟩
      · refine ((y5.1 353 55 (by omega)).1.trans (y3.1 353 55 (by omega)).1).trans ?_
        rw [e2]
        show (rf_wi M1 353 58 _).1 353 55 = _
        rw [rf_wi_of _ _ (Or.inr (by omega)), e1]
        show (rf_wi M 353 55 _).1 353 55 = _
        rw [rf_wi_at, gi_ofi]
        rfl
      · exact (y5.l (by omega)).trans (h3 l (by omega))
      · exact h5 l (by omega)
      · refine ((y5.i (by omega)).trans (y3.i (by omega))).trans ?_
        rw [e2, gi_at (inr_gi _ _ _)]
        rfl
    · rw [e6]
      exact y5.wl rfl
    · rw [ex5, tn_] at e6
      by_cases e : l = i
      · rw [e, e6, gl_at]
        exact (y5.l (by omega)).trans ((y3.l (by omega)).trans (l2 _ _))
      · rw [e6, gl_of (Or.inr e)]
        exact h5 l (by omega)
  · rw [e4]
    exact y3.wl rfl
  · rw [ex, tn_] at e4
    by_cases e : l = j
    · rw [e, e4, gl_at]
      exact (y3.l (by omega)).trans (l2 _ _)
    · rw [e4, gl_of (Or.inr e)]
      exact h3 l (by omega)
theorem rnW_at {z : Int} {g' : mkT × (Nat → Int) × (Nat → mkT)} (ht12 : t < 12) (hn : n ≤ 40) (ht : rtx M t X n cc en) (hz : plz n z) (hg : ∃ hw, grl X (fR t X) hw (z, g') (vR M t)) (hr : req r (rR M)) (e : M' = wi M 353 60 (lf t z)) : rnW M' t X n cc en (z, g') r := by
  have y : eqy (fun b k => b = 353 ∧ k = 60) M M' := by rw [e]; exact (eqy.rfl' M).wi ⟨rfl, rfl⟩
  refine ⟨ht.eq y (fun b k h1 h2 => by omega), ?_, hz, ?_, hr.eqR y (fun b k h => by omega)⟩
  · rw [e]
    refine gi_at ?_
    rcases hz with q | ⟨x, q1, q2⟩
    · rw [q, lf_neg (by omega)]; exact inr_z (by omega) (by omega)
    · rw [q1, lf_nat]; exact inr_z (by omega) (by omega)
  · rw [vR_eq y (fun b k h => by omega)]
    exact hg
theorem y_retry (ht12 : t < 12) (hX : wfx X n cc en) (R : rnW M t X n cc en g r) (h3 : ard X 15 9 g.1 < 0 → K 3 M) (h0 : ∀ x : Nat, ard X 15 9 g.1 = (x : Int) → ∀ M', eqy stW M M' → rnW M' t X n cc en (gin X (x : Int) (X.1 8 x), g.2.2.2 x, g.2.2) r → K 0 M') : em_W_retryFrom (lf t g.1) M K := by
  obtain ⟨r1, r2, r3, ⟨hw, r5⟩, r6⟩ := R
  refine y_around hX r1 ht12 (k := 15) (fun p hp => (kf_iff (hX.2.2.2.2.2 p hp).2.2.2.2.2.2.1).2.2.2.2.1) r3 ?_
  rcases pok_ard hX (k := 15) 9 g.1 r3 r5.2.2.2 with q | ⟨x, q1, q2, q3, q4, q5⟩
  · rw [q, lf_neg (by omega)]
    exact ⟨fun h => absurd h (by omega), fun _ => h3 (by omega)⟩
  have hn := hX.1
  have wx := hX.2.2.2.2.2 x q2
  have l8 := wx.2.2.2.2.2.1
  have hgin := fun (P : Nat → Prop) (hP : pok X P g.1) => pok_gin hX (P := P) (z := X.1 8 x) q2 (by
    rcases pok_ard hX (k := 15) 9 g.1 r3 hP with q | ⟨x', q1', q2', q3', q4', q5'⟩
    · omega
    · have : x' = x := by omega
      subst this; exact q4') (l8.imp id (fun ⟨y, y1, y2, y3, y4⟩ => ⟨y, y1, y2, y3, fun z => by omega⟩))
  rw [q1, lf_nat]
  refine ⟨fun _ => y_bringBack (by omega) (fun M2 y2 m2 _ => ?_), fun h => absurd (by omega) h⟩
  have t2 := r1.eq y2 (fun b k _ _ => by omega)
  rw [tn_, (t2.2.1 x q2).2.2.2.2.2.2.2.1]
  refine y_goIn hX t2 ht12 q2 (l8.imp id (fun ⟨y, y1, y2, _⟩ => ⟨y, y1, y2, trivial⟩)) (fun M4 e4 => h0 x q1 M4 ?_ ?_)
  · rw [e4]
    exact (y2.mono (fun b k h => by unfold stW; omega)).wi (by unfold stW; omega)
  · have b := grl_back (z := gin X (x : Int) (X.1 8 x)) r5 (q5 (Or.inl q3)) (fun P _ hP => (hgin P hP).2)
    refine rnW_at ht12 hn t2 (hgin _ r5.2.2.2).1 ⟨hw, grl_v b m2 (fun j _ => y2.i (by omega)) (fun h => ?_)⟩ (r6.eqR y2 (fun b k h => by omega)) e4
    exact ⟨(y2.1 _ _ (by omega)).1, fun l _ _ => y2.l (by omega), fun l _ => y2.l (by omega), y2.i (by omega)⟩
theorem y_throw {v : Int64} (ht12 : t < 12) (hX : wfx X n cc en) (R : rnW M t X n cc en g r) (hv : gl M 353 66 = v) (h2 : tss X g.1 v g = none → K 2 M) (h0 : ∀ g', tss X g.1 v g = some g' → ∀ M', eqy stW M M' → rnW M' t X n cc en g' r → K 0 M') : em_W_throwFrom (lf t g.1) M K := by
  obtain ⟨r1, r2, r3, ⟨hw, r5⟩, r6⟩ := R
  unfold tss at h2 h0
  refine y_around hX r1 ht12 (k := 17) (fun p hp => (kf_iff (hX.2.2.2.2.2 p hp).2.2.2.2.2.2.1).2.2.2.2.2.1) r3 ?_
  rcases pok_ard hX (k := 17) 9 g.1 r3 r5.2.2.2 with q | ⟨x, q1, q2, q3, q4, q5⟩
  · rw [q, lf_neg (by omega)]
    exact ⟨fun h => absurd h (by omega), fun _ => h2 (if_pos (by omega))⟩
  rw [q1, if_neg (by omega), tn_] at h0
  have hn := hX.1
  have wx := hX.2.2.2.2.2 x q2
  have l8 := wx.2.2.2.2.2.1
  have hlet := wx.2.2.2.2.2.2.2.2.1 q3
  have hgin := fun (P : Nat → Prop) (hP : pok X P g.1) => pok_gin hX (P := P) (z := X.1 8 x) q2 (by
    rcases pok_ard hX (k := 17) 9 g.1 r3 hP with q | ⟨x', q1', q2', q3', q4', q5'⟩
    · omega
    · have : x' = x := by omega
      subst this; exact q4') (l8.imp id (fun ⟨y, y1, y2, y3, y4⟩ => ⟨y, y1, y2, y3, fun z => by omega⟩))
  rw [q1, lf_nat]
  refine ⟨fun _ => y_bringBack (by omega) (fun M2 y2 m2 _ => ?_), fun h => absurd (by omega) h⟩
  have t2 := r1.eq y2 (fun b k _ _ => by omega)
  rw [tn_, (t2.2.1 x q2).2.2.2.2.2.2.2.2 (Or.inr q3), show gl M2 353 66 = v from (y2.l (by omega)).trans hv]
  refine ⟨inr_z (by omega) (by omega), fun _ M3 e3 _ => ?_⟩
  have ex : (X.1 1 x - 16).toNat = (X.1 1 x).toNat - 16 := by omega
  rw [ex] at e3
  have y3 : eqy (fun b k => b = 392 ∧ k = (X.1 1 x).toNat - 16) M2 M3 := by rw [e3]; exact (eqy.rfl' _).wl ⟨rfl, rfl⟩
  have t3 := t2.eq y3 (fun b k _ _ => by omega)
  have y23 := y2.trans (y3.mono (fun b k h => Or.inr (Or.inr h.1)))
  rw [(t3.2.1 x q2).2.2.2.2.2.2.2.1]
  refine y_goIn hX t3 ht12 q2 (l8.imp id (fun ⟨y, y1, y2, _⟩ => ⟨y, y1, y2, trivial⟩)) (fun M4 e4 => h0 _ rfl M4 ?_ ?_)
  · rw [e4]
    exact (y23.mono (fun b k h => by unfold stW; omega)).wi (by unfold stW; omega)
  · have b := grl_back (z := gin X (x : Int) (X.1 8 x)) r5 (q5 (Or.inr q3)) (fun P _ hP => (hgin P hP).2)
    have b2 := grl_asg (z := gin X (x : Int) (X.1 8 x)) (l := X.1 1 x) (x := v) b (fun P _ hP => hP)
    refine rnW_at ht12 hn t3 (hgin _ r5.2.2.2).1 ⟨hw, grl_v b2 ?_ (fun j _ => y23.i (by omega)) (fun h => ?_)⟩ (r6.eqR y23 (fun b k h => by omega)) e4
    · refine (meq_asg m2 (X.1 1 x) v).trans ?_
      unfold asg
      rw [if_neg (by omega), if_pos ⟨by omega, by omega⟩]
      refine ⟨(y3.1 _ _ (by omega)).1, fun l _ _ => y3.l (by omega), fun l _ => ?_, y3.i (by omega)⟩
      show gl M3 392 l = va_up (fun l => gl M2 392 l) ((X.1 1 x).toNat - 16) v l
      by_cases e : l = (X.1 1 x).toNat - 16
      · rw [e, va_up_at, e3, gl_at]
      · rw [va_up_of e, e3, gl_of (Or.inr e)]
    · exact ⟨(y23.1 _ _ (by omega)).1, fun l _ _ => y23.l (by omega), fun l _ => y23.l (by omega), y23.i (by omega)⟩
theorem rnW.eqR {P : Nat → Nat → Prop} {r' : rdT} (R : rnW M t X n cc en g r) (e : eqy P M M') (q : ∀ b k, (358 ≤ b ∧ b ≤ 370) ∨ (b = 353 ∧ (k = 55 ∨ k = 58 ∨ k = 60)) ∨ (391 ≤ b ∧ b ≤ 397) → ¬ P b k) (hr : req r' (rR M')) : rnW M' t X n cc en g r' := by
  obtain ⟨r1, r2, r3, ⟨hw, r5⟩, r6⟩ := R
  exact ⟨r1.eq e (fun b k h1 h2 => q b k (by omega)), (e.i (q _ _ (by omega))).trans r2, r3, ⟨hw, by rw [vR_eq e (fun b k h => q b k (by omega))]; exact r5⟩, hr⟩
theorem y_rstep {d : Nat} (ht12 : t < 12) (hX : wfx X n cc en) (R : rnW M t X n cc en g r) (hd : gi M 353 42 = (d : Int)) (hd2 : d < 2) (hW : weq w (wR M d)) (kk : ∀ M', eqy stW M M' → rnW M' t X n cc en (stepp X w g r).2.1 (stepp X w g r).2.2 → ((stepp X w g r).1.1 = 2 → gl M' 353 66 = (stepp X w g r).1.2) → K (ocW (stepp X w g r).1.1) M') : em_W_step M K := by
  have R' := R
  obtain ⟨r1, r2, r3, ⟨hw, r5⟩, r6⟩ := R
  have hn := hX.1
  refine ⟨fun hpos M1 e1 => ?_, fun hneg => ?_⟩
  · rcases r3 with q | ⟨s, hs, hsn⟩
    · rw [r2, q, lf_neg (by omega)] at hpos; omega
    have r3 : plz n g.1 := Or.inr ⟨s, hs, hsn⟩
    have es : g.1.toNat = s := by omega
    have wx := hX.2.2.2.2.2 s hsn
    have hknd := wx.2.2.2.2.2.2.1
    have kfi := fun (_ : Unit) => kf_iff hknd
    rw [r2, hs, lf_nat]
    have y1 : eqy (fun b k => b = 353 ∧ k = 65) M M1 := by rw [e1]; exact (eqy.rfl' M).wi ⟨rfl, rfl⟩
    have g65 : gi M1 353 65 = 0 := by rw [e1, gi_at (inr_z (by omega) (by omega))]
    have R1 : rnW M1 t X n cc en g r := R'.eqR y1 (fun b k h => by omega) (r6.eqR y1 (fun b k h => by omega))
    have y1' : eqy stW M M1 := y1.mono (fun b k h => by unfold stW; omega)
    obtain ⟨u0, u1, u2, u3, u4, u5, u6, u7, u8⟩ := R1.1.2.1 s hsn
    rw [tn_, u0]
    have bh := fun (P : Nat → Prop) (hP : pok X P g.1) => pok_bhd hX (P := P) 9 g.1 r3 hP
    -- the rest of a step
    have rest : ∀ (z : Int64) (N : rf_M) (E : (Nat × Int64) × rdT), eqy stW M N → rnW N t X n cc en g E.2 → (E.1.1 = 1 → gi N 353 65 = 2) → (E.1.1 = 2 → gi N 353 65 = 1 ∧ gl N 353 66 = -1) → (E.1.1 ≠ 1 → E.1.1 ≠ 2 → gi N 353 65 = 0 ∧ z = E.1.2) → (X.1 0 s = 13 ∨ X.1 0 s = 15 ∨ X.1 0 s = 17 ∨ X.1 0 s = 19 → E = ((0, 0), r)) → (¬ (X.1 0 s = 13 ∨ X.1 0 s = 15 ∨ X.1 0 s = 17 ∨ X.1 0 s = 19) → stepp X w g r = stpx X g s E) → e_W_step_51 ((40 * t + s : Nat) : Int) z N K := by
      intro z N E yN RN hE1 hE2 hE0 hEk hEs
      have RN' := RN
      obtain ⟨n1, n2, n3, ⟨hwN, n5⟩, n6⟩ := RN
      obtain ⟨v0, v1, v2, v3, v4, v5, v6, v7, v8⟩ := n1.2.1 s hsn
      have thr : ∀ (v : Int64) (N2 : rf_M), eqy stW M N2 → rnW N2 t X n cc en g E.2 → gl N2 353 66 = v → stepp X w g r = (match tss X g.1 v g with | none => ((2, v), g, E.2) | some g' => ((0, 0), g', E.2)) → em_W_throwFrom ((40 * t + s : Nat) : Int) N2 (fun z8 M8 => K z8 M8) := fun v N2 yN2 RN2 hv ho => by
        rw [ho] at kk
        rw [← lf_nat, ← hs]
        refine y_throw ht12 hX RN2 hv (fun hn => ?_) (fun g' hg M' y R2 => ?_)
        · rw [hn] at kk
          exact kk N2 yN2 RN2 (fun _ => hv)
        · rw [hg] at kk
          exact kk M' (yN2.trans y) R2 (fun (q : (0 : Nat) = 2) => absurd q (by decide))
      refine ⟨fun q2 => ?_, fun q2 => ⟨fun q1 => ?_, fun q1 _ => ?_⟩⟩
      · have hE : E.1.1 = 1 := by
          by_cases a1 : E.1.1 = 1
          · exact a1
          · by_cases a2 : E.1.1 = 2
            · rw [(hE2 a2).1] at q2; omega
            · rw [(hE0 a1 a2).1] at q2; omega
        have nk : ¬ (X.1 0 s = 13 ∨ X.1 0 s = 15 ∨ X.1 0 s = 17 ∨ X.1 0 s = 19) := fun q => by rw [hEk q] at hE; exact absurd (show (0 : Nat) = 1 from hE) (by decide)
        have ho := hEs nk
        unfold stpx at ho
        rw [if_pos hE] at ho
        rw [ho] at kk
        exact kk N yN RN' (fun (q : (3 : Nat) = 2) => absurd q (by decide))
      · have hE : E.1.1 = 2 := by
          by_cases a2 : E.1.1 = 2
          · exact a2
          · by_cases a1 : E.1.1 = 1
            · rw [hE1 a1] at q1; omega
            · rw [(hE0 a1 a2).1] at q1; omega
        have nk : ¬ (X.1 0 s = 13 ∨ X.1 0 s = 15 ∨ X.1 0 s = 17 ∨ X.1 0 s = 19) := fun q => by rw [hEk q] at hE; exact absurd (show (0 : Nat) = 2 from hE) (by decide)
        have ho := hEs nk
        unfold stpx at ho
        rw [if_neg (by omega), if_pos hE] at ho
        exact thr (-1) N yN RN' (hE2 hE).2 ho
      have a1 : E.1.1 ≠ 1 := fun q => q2 (hE1 q)
      have a2 : E.1.1 ≠ 2 := fun q => q1 (hE2 q).1
      have hz := (hE0 a1 a2).2
      have fin : ∀ (p : Int) (g' : mkT × (Nat → Int) × (Nat → mkT)) (r' : rdT) (N2 : rf_M), stepp X w g r = ((0, 0), (p, g'), r') → eqy stW M N2 → rtx N2 t X n cc en → plz n p → (∃ hw, grl X (fR t X) hw (p, g') (vR N2 t)) → req r' (rR N2) → ∀ M4, M4 = wi N2 353 60 (lf t p) → K 0 M4 := fun p g' r' N2 ho yN2 t2 hp hg hr' M4 e4 => by
        rw [ho] at kk
        refine kk M4 ?_ (rnW_at ht12 hn t2 hp hg hr' e4) (fun (q : (0 : Nat) = 2) => absurd q (by decide))
        rw [e4]
        exact yN2.wi (by unfold stW; omega)
      have gf := fun (hns : ¬ kmk X s) (P : Nat → Prop) (hk : ∀ h, ¬ kmk X h → P h) (hP : pok X P g.1) => pok_gin hX (P := P) (z := X.1 7 s) hsn (by rw [← hs]; exact hP) (wx.2.2.2.2.1.imp id (fun ⟨y, y1, y2, y3, y4⟩ => ⟨y, y1, y2, y3, fun _ => hk s hns⟩))
      have gs := fun (P : Nat → Prop) (hP : pok X P g.1) => pok_gin hX (P := P) (z := X.1 8 s) hsn (by rw [← hs]; exact hP) (wx.2.2.2.2.2.1.imp id (fun ⟨y, y1, y2, y3, y4⟩ => ⟨y, y1, y2, y3, fun z => by omega⟩))
      have l7 : lnk n (X.1 7 s) (fun _ => True) := wx.2.2.2.2.1.imp id (fun ⟨y, y1, y2, _⟩ => ⟨y, y1, y2, trivial⟩)
      have l8 : lnk n (X.1 8 s) (fun _ => True) := wx.2.2.2.2.2.1.imp id (fun ⟨y, y1, y2, _⟩ => ⟨y, y1, y2, trivial⟩)
      rw [tn_, v0, v6, v7]
      refine ⟨fun k0 => ⟨fun c _ => ?_, fun c _ => ?_⟩, fun k2 => ⟨fun c => ?_, fun c _ => ?_⟩, fun k3 => ?_, fun k4 M7 e7 => ?_, fun k9 _ h400 M9 e9 M10 e10 => ?_, fun k20 _ => ?_, fun ko => ?_⟩
      · have k10 := (kfi ()).1.mp k0
        have nk : ¬ (X.1 0 s = 13 ∨ X.1 0 s = 15 ∨ X.1 0 s = 17 ∨ X.1 0 s = 19) := by omega
        have ho := hEs nk
        unfold stpx at ho
        rw [if_neg a1, if_neg a2, if_neg (by omega), if_pos k10, if_pos (by rw [← hz]; exact (lgz _).mp c), hs] at ho
        exact y_goIn hX n1 ht12 hsn l8 (fun M4 e4 => fin _ g.2 _ N ho yN n1 (gs _ n5.2.2.2).1 ⟨hwN, grl_move n5 (fun P _ hP => (gs P hP).2)⟩ n6 M4 e4)
      · have k10 := (kfi ()).1.mp k0
        have nm : ¬ kmk X s := by unfold kmk; omega
        have nk : ¬ (X.1 0 s = 13 ∨ X.1 0 s = 15 ∨ X.1 0 s = 17 ∨ X.1 0 s = 19) := by omega
        have ho := hEs nk
        unfold stpx at ho
        rw [if_neg a1, if_neg a2, if_neg (by omega), if_pos k10, if_neg (by rw [← hz]; exact fun q => c ((lgz _).mpr q)), hs] at ho
        exact y_goIn hX n1 ht12 hsn l7 (fun M4 e4 => fin _ g.2 _ N ho yN n1 (gf nm _ (fun h q k => absurd k q) n5.2.2.2).1 ⟨hwN, grl_move n5 (fun P hk hP => (gf nm P hk hP).2)⟩ n6 M4 e4)
      · have k12 := (kfi ()).2.1.mp k2
        have nk : ¬ (X.1 0 s = 13 ∨ X.1 0 s = 15 ∨ X.1 0 s = 17 ∨ X.1 0 s = 19) := by omega
        have ho := hEs nk
        unfold stpx at ho
        rw [if_neg a1, if_neg a2, if_neg (by omega), if_neg (by omega), if_pos k12, if_pos (by rw [← hz]; exact (lgz _).mp c)] at ho
        rw [← lf_nat, ← hs]
        exact y_behind hX n1 ht12 r3 (fun M4 e4 => fin _ g.2 _ N ho yN n1 (bh _ n5.2.2.2).1 ⟨hwN, grl_move n5 (fun P _ hP => (bh P hP).2)⟩ n6 M4 e4)
      · have k12 := (kfi ()).2.1.mp k2
        have nm : ¬ kmk X s := by unfold kmk; omega
        have nk : ¬ (X.1 0 s = 13 ∨ X.1 0 s = 15 ∨ X.1 0 s = 17 ∨ X.1 0 s = 19) := by omega
        have ho := hEs nk
        unfold stpx at ho
        rw [if_neg a1, if_neg a2, if_neg (by omega), if_neg (by omega), if_pos k12, if_neg (by rw [← hz]; exact fun q => c ((lgz _).mpr q)), hs] at ho
        exact y_goIn hX n1 ht12 hsn l7 (fun M4 e4 => fin _ g.2 _ N ho yN n1 (gf nm _ (fun h q k => absurd k q) n5.2.2.2).1 ⟨hwN, grl_move n5 (fun P hk hP => (gf nm P hk hP).2)⟩ n6 M4 e4)
      · have k13 := (kfi ()).2.2.1.mp k3
        have eE := hEk (Or.inl k13)
        have ho : stepp X w g r = (if ard X 15 9 g.1 < 0 then ((4, 0), g, r) else ((0, 0), (gin X (ard X 15 9 g.1) (X.1 8 (ard X 15 9 g.1).toNat), g.2.2.2 (ard X 15 9 g.1).toNat, g.2.2.1, g.2.2.2), r)) := by
          unfold stepp
          rw [if_neg (by omega), es, if_neg (by omega), if_neg (by omega), if_pos k13]
        rw [eE] at RN'
        rw [← lf_nat, ← hs]
        refine y_retry ht12 hX RN' (fun q => ?_) (fun x q M2 y2 R2 => ?_)
        · rw [if_pos q] at ho
          rw [ho] at kk
          exact kk N yN RN' (fun (q : (4 : Nat) = 2) => absurd q (by decide))
        · rw [if_neg (by omega), q, tn_] at ho
          rw [ho] at kk
          exact kk M2 (yN.trans y2) R2 (fun (q : (0 : Nat) = 2) => absurd q (by decide))
      · have k14 := (kfi ()).2.2.2.1.mp k4
        have nk : ¬ (X.1 0 s = 13 ∨ X.1 0 s = 15 ∨ X.1 0 s = 17 ∨ X.1 0 s = 19) := by omega
        have ho := hEs nk
        unfold stpx at ho
        rw [if_neg a1, if_neg a2, if_pos k14] at ho
        have y7 : eqy (fun b k => b = 353 ∧ k = 66) N M7 := by rw [e7]; exact (eqy.rfl' N).wl ⟨rfl, rfl⟩
        exact thr E.1.2 M7 (yN.trans (y7.mono (fun b k h => by unfold stW; omega))) (RN'.eqR y7 (fun b k h => by omega) (n6.eqR y7 (fun b k h => by omega))) (by rw [e7, gl_at]; exact hz) ho
      · have k19 := (kfi ()).2.2.2.2.2.2.1.mp k9
        have eE := hEk (Or.inr (Or.inr (Or.inr k19)))
        have ho : stepp X w g r = ((0, 0), (bhd X 9 g.1, (g.2.1.1, g.2.1.2.1, g.2.1.2.2.1, g.2.1.2.2.2 + 1), va_up g.2.2.1 g.2.1.2.2.2.toNat g.1, g.2.2.2), r) := by
          unfold stepp
          rw [if_neg (by omega), es, if_neg (by omega), if_pos k19]
        obtain ⟨c, hc⟩ : ∃ c : Nat, g.2.1.2.2.2 = (c : Int) := ⟨g.2.1.2.2.2.toNat, by have := n5.2.1; omega⟩
        have hcm : gi N 353 58 = (c : Int) := n5.1.2.2.2.trans hc
        rw [hcm, tn_, v4 (by unfold kxp; omega)] at e9
        have hce : cdo X cc (X.1 2 s) := wx.2.2.2.2.2.2.2.2.2.2 (by unfold kxp; omega)
        have hin : inr (200 * (t : Int) + X.1 2 s) := by
          obtain ⟨c0, c1, k, ck, c2, c3⟩ := hce
          have := hX.2.1
          exact inr_z (by omega) (by omega)
        have g9 : gi M9 353 58 = (c : Int) := by rw [e9, gi_of (Or.inl (by omega))]; exact hcm
        rw [g9] at e10
        have y10 : eqy (fun b k => (b = 353 ∧ k = 58) ∨ (b = 393 ∧ k = c)) N M10 := by rw [e10, e9]; exact ((eqy.rfl' N).wi (Or.inr ⟨rfl, rfl⟩)).wi (Or.inl ⟨rfl, rfl⟩)
        have t10 := n1.eq y10 (fun b k _ _ => by omega)
        rw [← lf_nat, ← hs]
        refine y_behind hX t10 ht12 r3 (fun M4 e4 => fin _ _ _ M10 ho (yN.trans (y10.mono (fun b k h => by unfold stW; omega))) t10 (bh _ n5.2.2.2).1 ⟨_, grl_rule (v' := vR M10 t) hc n5 ?_ ?_ (fun j _ hj => y10.i (by omega)) (fun x => ?_) (fun P _ hP => (bh P hP).2)⟩ ?_ M4 e4)
        · refine ⟨(y10.1 _ _ (by omega)).1, fun l _ _ => y10.l (by omega), fun l _ => y10.l (by omega), ?_⟩
          show gi M10 353 58 = gi N 353 58 + 1
          rw [e10, gi_at (inr_z (by omega) (by omega)), hcm]
        · show gi M10 393 c = 200 * (t : Int) + X.1 2 g.1.toNat
          rw [es, e10, gi_of (Or.inl (by omega)), e9, gi_at hin]
        · exact ⟨(y10.1 _ _ (by omega)).1, fun l _ _ => y10.l (by omega), fun l _ => y10.l (by omega), y10.i (by omega)⟩
        · rw [eE] at n6
          exact n6.eqR y10 (fun b k h => by omega)
      · have k1 := (kfi ()).2.2.2.2.2.2.2.mp k20
        have nk : ¬ (X.1 0 s = 13 ∨ X.1 0 s = 15 ∨ X.1 0 s = 17 ∨ X.1 0 s = 19) := by omega
        have ho := hEs nk
        unfold stpx at ho
        rw [if_neg a1, if_neg a2, if_neg (by omega), if_neg (by omega), if_neg (by omega), ← hz] at ho
        have hlet := wx.2.2.2.2.2.2.2.2.2.1 k1
        have G := fun z => grl_asg (z := bhd X 9 g.1) (l := X.1 1 s) (x := z) n5 (fun P _ hP => (bh P hP).2)
        have w198 : ∀ N2, eqy (fun b k => (b = 353 ∧ k = 55) ∨ b = 391 ∨ b = 392) N N2 → meq (asg (mR N) (X.1 1 s) z) (mR N2) → e_W_step_198 ((40 * t + s : Nat) : Int) N2 K := fun N2 y2 m2 => by
          have t2 := n1.eq y2 (fun b k _ _ => by omega)
          show em_W_behind _ N2 _
          rw [← lf_nat, ← hs]
          refine y_behind hX t2 ht12 r3 (fun M4 e4 => fin _ _ _ N2 ho (yN.trans (y2.mono (fun b k h => by unfold stW; omega))) t2 (bh _ n5.2.2.2).1 ⟨hwN, grl_v (G z) m2 (fun j _ => y2.i (by omega)) (fun h => ⟨(y2.1 _ _ (by omega)).1, fun l _ _ => y2.l (by omega), fun l _ => y2.l (by omega), y2.i (by omega)⟩)⟩ (n6.eqR y2 (fun b k h => by omega)) M4 e4)
        rw [v8 (Or.inl k1)]
        refine ⟨fun hl _ _ M13 e13 _ M14 e14 => ?_, fun hl _ => ⟨inr_z (by omega) (by omega), fun _ M15 e15 => ?_⟩⟩
        · obtain ⟨l, hl'⟩ : ∃ l : Nat, X.1 1 s = (l : Int) := ⟨(X.1 1 s).toNat, by omega⟩
          have y13 : eqy (fun b _ => b = 391) N M13 := by rw [e13]; exact (eqy.rfl' N).wl rfl
          rw [y13.i (by omega), y13.i (by omega), v8 (Or.inl k1), hl'] at e14
          rw [hl', tn_] at e13
          refine w198 M14 ?_ ?_
          · rw [e14, e13]
            exact ((eqy.rfl' N).wl (Or.inr (Or.inl rfl))).wi (Or.inl ⟨rfl, rfl⟩)
          · unfold asg
            rw [hl', if_pos ⟨by omega, by omega⟩, tn_]
            refine ⟨?_, fun j hj b => ?_, fun j hj => ?_, ?_⟩
            · show M14.1 353 55 = bs (N.1 353 55) l
              rw [e14]
              show (rf_wi M13 353 55 _).1 353 55 = _
              rw [rf_wi_at, bs_lit _ (by omega), gi_ofi]
            · show gl M14 391 j = va_up (fun l => gl N 391 l) l z j
              rw [e14, gl_wi, e13]
              by_cases e : j = l
              · rw [e, gl_at, va_up_at]
              · rw [gl_of (Or.inr e), va_up_of e]
            · show gl M14 392 j = gl N 392 j
              rw [e14, gl_wi, e13, gl_of (Or.inl (by omega))]
            · show gi M14 353 58 = gi N 353 58
              rw [e14, gi_of (Or.inr (by omega)), e13]
              rfl
        · have ex : (X.1 1 s - 16).toNat = (X.1 1 s).toNat - 16 := by omega
          rw [ex] at e15
          refine w198 M15 ?_ ?_
          · rw [e15]
            exact (eqy.rfl' N).wl (Or.inr (Or.inr rfl))
          · unfold asg
            rw [if_neg (by omega), if_pos ⟨by omega, by omega⟩]
            refine ⟨by rw [e15]; rfl, fun j hj b => ?_, fun j hj => ?_, by rw [e15]; rfl⟩
            · show gl M15 391 j = gl N 391 j
              rw [e15, gl_of (Or.inl (by omega))]
            · show gl M15 392 j = va_up (fun l => gl N 392 l) ((X.1 1 s).toNat - 16) z j
              rw [e15]
              by_cases e : j = (X.1 1 s).toNat - 16
              · rw [e, gl_at, va_up_at]
              · rw [gl_of (Or.inr e), va_up_of e]
      · have hm : kmk X s := by
          unfold kmk
          unfold knd at hknd
          rw [(kfi ()).1, (kfi ()).2.1, (kfi ()).2.2.1, (kfi ()).2.2.2.1, (kfi ()).2.2.2.2.2.2.1, (kfi ()).2.2.2.2.2.2.2] at ko
          omega
        have eE := hEk (by unfold kmk at hm; omega)
        have ho : stepp X w g r = ((0, 0), (gin X g.1 (X.1 7 s), g.2.1, g.2.2.1, va_up g.2.2.2 s g.2.1), r) := by
          unfold stepp
          rw [if_neg (by omega), es, if_pos (show X.1 0 s = 15 ∨ X.1 0 s = 17 from hm)]
        refine y_keep (by omega) (fun M3 y3 m3 o3 _ => ?_)
        have t3 := n1.eq y3 (fun b k _ _ => by omega)
        rw [(t3.2.1 s hsn).2.2.2.2.2.2.1]
        have G := grl_mark (v' := vR M3 t) hX hsn hs n5 ⟨(y3.1 _ _ (by omega)).1, fun l _ _ => y3.l (by omega), fun l _ => y3.l (by omega), y3.i (by omega)⟩ (fun j _ => y3.i (by omega)) m3 (fun x hx hd => o3 _ (fun q => by
          have : x = s := by omega
          rw [this] at hd; omega)) (wx.2.2.2.2.1.imp id (fun ⟨y, y1, y2, y3, _⟩ => ⟨y, y1, y2, y3⟩))
        rw [hs] at G ho
        rw [eE] at n6
        exact y_goIn hX t3 ht12 hsn l7 (fun M4 e4 => fin _ _ _ M3 ho (yN.trans (y3.mono (fun b k h => by unfold stW; omega))) t3 G.2 ⟨hwN, G.1⟩ (n6.eqR y3 (fun b k h => by omega)) M4 e4)
    have noexp : (X.1 0 s = 13 ∨ X.1 0 s = 15 ∨ X.1 0 s = 17 ∨ X.1 0 s = 19) → e_W_step_50 ((40 * t + s : Nat) : Int) M1 K := fun q => rest 0 M1 ((0, 0), r) y1' R1 (fun (q : (0 : Nat) = 1) => absurd q (by decide)) (fun (q : (0 : Nat) = 2) => absurd q (by decide)) (fun _ _ => ⟨g65, rfl⟩) (fun _ => rfl) (fun nq => absurd q nq)
    refine fun _ => ⟨fun hx => noexp ?_, fun hx _ => ⟨fun h9 => noexp (Or.inr (Or.inr (Or.inr ((kfi ()).2.2.2.2.2.2.1.mp h9)))), fun h9 _ => ?_⟩⟩
    · by_cases hq : kxp (X.1 0 s)
      · rw [u4 hq] at hx
        have := (wx.2.2.2.2.2.2.2.2.2.2 hq).1
        omega
      · unfold kxp at hq; unfold knd at hknd; omega
    · have hq : kxp (X.1 0 s) := by
        by_cases hq : kxp (X.1 0 s)
        · exact hq
        · rw [u5 hq] at hx; omega
      have n19 : ¬ X.1 0 s = 19 := fun q => h9 ((kfi ()).2.2.2.2.2.2.1.mpr q)
      have nk : ¬ (X.1 0 s = 13 ∨ X.1 0 s = 15 ∨ X.1 0 s = 17 ∨ X.1 0 s = 19) := by unfold kxp at hq; omega
      rw [u4 hq]
      have hw1 : weq w (wR M1 d) := hW.eqR y1 (fun b k h => by omega)
      obtain ⟨hwn, n5⟩ := R1.2.2.2.1
      refine y_work hX R1.1 ht12 (wx.2.2.2.2.2.2.2.2.2.2 hq) (Or.inl ⟨rfl, (y1.i (by omega)).trans hd, hd2, hw1, n5.1⟩) R1.2.2.2.2 g65 (fun z N yN q1 q2 q3 q4 => ?_)
      refine rest z N _ (y1'.trans (yN.mono (fun b k h => by unfold wkW at h; unfold stW; omega))) (R1.eqR yN (fun b k h => by unfold wkW; omega) q1) q2 q3 q4 (fun q => absurd q nk) (fun _ => ?_)
      unfold stepp
      rw [if_neg (by omega), es, if_neg (by omega), if_neg (by omega), if_neg (by omega)]
  · have hg : g.1 < 0 := by
      rcases r3 with q | ⟨s, hs, hsn⟩
      · omega
      · rw [r2, hs, lf_nat] at hneg; omega
    have ho : stepp X w g r = ((1, 0), g, r) := by
      unfold stepp
      rw [if_pos hg]
    rw [ho] at kk
    exact kk M (eqy.rfl' M) R' (fun (q : (1 : Nat) = 2) => absurd q (by decide))
end WR3
