/-! THE REFERENCE'S RUN: its texts, letters, exps -/
def lf (t : Nat) (z : Int) : Int := if z < 0 then -1 else 40 * (t : Int) + z
def kf (k : Int) : Int := if k = 1 then 20 else k - 10
def af (o : Int) : Int := if o = 0 then 4 else o
/-- the reference's text t -/
def rtx (M : rf_M) (t : Nat) (X : txT) (n cc : Nat) (en : Int) : Prop := gi M 358 t = lf t en ∧ (∀ s, s < n → gi M 360 (40 * t + s) = kf (X.1 0 s) ∧ gi M 361 (40 * t + s) = lf t (X.1 6 s) ∧ gi M 362 (40 * t + s) = lf t (X.1 3 s) ∧ gi M 363 (40 * t + s) = X.1 4 s ∧ (kxp (X.1 0 s) → gi M 364 (40 * t + s) = 200 * (t : Int) + X.1 2 s) ∧ (¬ kxp (X.1 0 s) → gi M 364 (40 * t + s) = -1) ∧ gi M 365 (40 * t + s) = lf t (X.1 7 s) ∧ gi M 366 (40 * t + s) = lf t (X.1 8 s) ∧ (X.1 0 s = 1 ∨ X.1 0 s = 17 → gi M 367 (40 * t + s) = X.1 1 s)) ∧ ∀ i, i < cc → gi M 368 (200 * t + i) = af (X.2.1 i) ∧ (X.2.1 i = 2 → gi M 369 (200 * t + i) = X.2.2 i) ∧ (X.2.1 i = 1 → gl M 370 (200 * t + i) = (Int32.ofInt (X.2.2 i)).toInt64)
theorem rtx.eq {M M' : rf_M} {t n cc : Nat} {X : txT} {en : Int} {P : Nat → Nat → Prop} (h : rtx M t X n cc en) (e : eqy P M M') (q : ∀ b k, 358 ≤ b → b ≤ 370 → ¬ P b k) : rtx M' t X n cc en := by
  obtain ⟨h1, h2, h3⟩ := h
  have qq : ∀ b k, 358 ≤ b → b ≤ 370 → gi M' b k = gi M b k := fun b k h1 h2 => e.i (q b k h1 h2)
  refine ⟨(qq _ _ (by omega) (by omega)).trans h1, fun s hs => ?_, fun i hi => ?_⟩
  · obtain ⟨a0, a1, a2, a3, a4, a5, a6, a7, a8⟩ := h2 s hs
    exact ⟨(qq _ _ (by omega) (by omega)).trans a0, (qq _ _ (by omega) (by omega)).trans a1, (qq _ _ (by omega) (by omega)).trans a2, (qq _ _ (by omega) (by omega)).trans a3, fun z => (qq _ _ (by omega) (by omega)).trans (a4 z), fun z => (qq _ _ (by omega) (by omega)).trans (a5 z), (qq _ _ (by omega) (by omega)).trans a6, (qq _ _ (by omega) (by omega)).trans a7, fun z => (qq _ _ (by omega) (by omega)).trans (a8 z)⟩
  · obtain ⟨a0, a1, a2⟩ := h3 i hi
    exact ⟨(qq _ _ (by omega) (by omega)).trans a0, fun z => (qq _ _ (by omega) (by omega)).trans (a1 z), fun z => (e.l (q _ _ (by omega) (by omega))).trans (a2 z)⟩
theorem lf_neg {t : Nat} {z : Int} (h : z < 0) : lf t z = -1 := if_pos h
theorem lf_nat (t x : Nat) : lf t (x : Int) = ((40 * t + x : Nat) : Int) := by
  unfold lf
  rw [if_neg (by omega)]
  omega
theorem bhd_neg (X : txT) : ∀ f, bhd X f (-1) = -1
  | 0 => rfl
  | f + 1 => by unfold bhd; rw [if_pos (by omega)]
theorem ard_neg (X : txT) (k : Int) : ∀ f, ard X k f (-1) = -1
  | 0 => rfl
  | f + 1 => by unfold ard; rw [if_pos (by omega)]
theorem kf_iff {k : Int} (h : knd k) : (kf k = 0 ↔ k = 10) ∧ (kf k = 2 ↔ k = 12) ∧ (kf k = 3 ↔ k = 13) ∧ (kf k = 4 ↔ k = 14) ∧ (kf k = 5 ↔ k = 15) ∧ (kf k = 7 ↔ k = 17) ∧ (kf k = 9 ↔ k = 19) ∧ (kf k = 20 ↔ k = 1) := by
  unfold knd at h
  unfold kf
  split <;> omega
section WR1
variable {M M' : rf_M} {t n cc : Nat} {X : txT} {en : Int} {K : Int → rf_M → Prop} {w : wdT} {m : mkT} {r : rdT}
theorem y_behind (hX : wfx X n cc en) (ht : rtx M t X n cc en) (ht12 : t < 12) {z : Int} (hz : plz n z) (kk : K (lf t (bhd X 9 z)) M) : em_W_behind (lf t z) M K := by
  have d9 : ∀ x : Nat, z = (x : Int) → X.1 5 x < 9 := fun x e => by
    rcases hz with q | ⟨y, q1, q2⟩
    · omega
    · have : x = y := by omega
      have w := (hX.2.2.2.2.2 x (by omega)).2.2.1
      omega
  generalize hR : bhd X 9 z = R at kk
  refine ⟨fun v M' => M' = M ∧ ∃ (y : Int) (f : Nat), v = lf t y ∧ plz n y ∧ bhd X f y = R ∧ ∀ x : Nat, y = (x : Int) → X.1 5 x < (f : Int), ⟨rfl, z, 9, rfl, hz, hR, d9⟩, ?_⟩
  rintro v M' - ⟨rfl, y, f, rfl, hy, hf, hd⟩
  rcases hy with rfl | ⟨x, rfl, hx⟩
  · rw [bhd_neg] at hf
    rw [lf_neg (by omega)]
    refine ⟨fun _ => ⟨fun q => absurd q (by omega), fun _ => ?_⟩, fun q => absurd (by omega) q⟩
    rw [← hf, lf_neg (by omega)] at kk
    exact kk
  · have hdx := hd x rfl
    have wx := hX.2.2.2.2.2 x hx
    obtain ⟨f, rfl⟩ : ∃ g, f = g + 1 := ⟨f - 1, by have := wx.2.2.1; omega⟩
    unfold bhd at hf
    rw [if_neg (by omega), tn_] at hf
    rw [lf_nat]
    obtain ⟨a0, a1, a2, a3, a4, a5, a6, a7, a8⟩ := ht.2.1 x hx
    have h0 : ¬ (((40 * t + x : Nat) : Int) < 0) := by omega
    refine ⟨fun q => absurd q h0, fun _ _ => ?_⟩
    rw [tn_, a1, a2]
    rcases wx.2.2.2.1 with w6 | ⟨y6, w6, w6n, w6p⟩
    · rw [if_neg (by omega)] at hf
      rw [w6, lf_neg (by omega)]
      refine ⟨fun q => absurd q (by omega), fun _ _ => ?_⟩
      rcases wx.1 with w1 | ⟨p, w1, w2, w3⟩
      · rw [w1.1, if_neg (by omega)] at hf
        rw [w1.1, lf_neg (by omega)]
        refine ⟨fun _ => ⟨rfl, -1, f, (lf_neg (by omega)).symm, Or.inl rfl, hf, fun x q => by omega⟩, fun q => absurd (by omega) q⟩
      · rw [w1, tn_] at hf
        rw [w1, lf_nat, tn_, (ht.2.1 p w2).1]
        refine ⟨fun q => absurd q (by omega), fun _ _ => ⟨fun e2 => ?_, fun e2 => ?_⟩⟩
        · rw [if_pos ⟨by omega, (kf_iff (hX.2.2.2.2.2 p w2).2.2.2.2.2.2.1).2.1.mp e2⟩] at hf
          rw [← hf, lf_nat] at kk
          exact kk
        · rw [if_neg (fun q => e2 ((kf_iff (hX.2.2.2.2.2 p w2).2.2.2.2.2.2.1).2.1.mpr q.2))] at hf
          exact ⟨rfl, (p : Int), f, (lf_nat t p).symm, Or.inr ⟨p, rfl, w2⟩, hf, fun x q => by rw [show x = p by omega]; omega⟩
    · rw [w6, if_pos (by omega)] at hf
      rw [w6, lf_nat]
      refine ⟨fun _ => ⟨fun _ _ => ?_, fun q => absurd (by omega) q⟩, fun q => absurd (by omega) q⟩
      rw [tn_, a1, w6]
      rw [← hf] at kk
      exact kk
theorem y_goIn {K : rf_M → Prop} (hX : wfx X n cc en) (ht : rtx M t X n cc en) (ht12 : t < 12) {s : Nat} {z : Int} (hs : s < n) (hz : lnk n z (fun _ => True)) (kk : ∀ M', M' = wi M 353 60 (lf t (gin X (s : Int) z)) → K M') : em_W_goIn ((40 * t + s : Nat) : Int) (lf t z) M K := by
  unfold gin at kk
  rw [tn_] at kk
  rcases hz with rfl | ⟨x, rfl, hx, -⟩
  · rw [if_neg (by omega)] at kk
    rw [lf_neg (by omega)]
    refine ⟨fun _ _ => ?_, fun q => absurd (by omega) q⟩
    rw [tn_, (ht.2.1 s hs).1]
    refine ⟨fun e M1 e1 => kk M1 ?_, fun e => ?_⟩
    · rw [if_pos ((kf_iff (hX.2.2.2.2.2 s hs).2.2.2.2.2.2.1).2.1.mp e), lf_nat]; exact e1
    · rw [if_neg (fun q => e ((kf_iff (hX.2.2.2.2.2 s hs).2.2.2.2.2.2.1).2.1.mpr q))] at kk
      have := y_behind (K := fun z1 M1 => e_W_goIn_28 z1 M1 K) hX ht ht12 (z := (s : Int)) (Or.inr ⟨s, rfl, hs⟩) (fun M1 e1 => kk M1 e1)
      rw [lf_nat] at this
      exact this
  · rw [if_pos (by omega)] at kk
    rw [lf_nat] at kk ⊢
    exact ⟨fun q => absurd q (by omega), fun _ M1 e1 => kk M1 e1⟩
theorem y_around (hX : wfx X n cc en) (ht : rtx M t X n cc en) (ht12 : t < 12) {z k k' : Int} (hk : ∀ p, p < n → (kf (X.1 0 p) = k' ↔ X.1 0 p = k)) (hz : plz n z) (kk : K (lf t (ard X k 9 z)) M) : em_W_around (lf t z) k' M K := by
  have d9 : ∀ x : Nat, z = (x : Int) → X.1 5 x < 9 := fun x e => by
    rcases hz with q | ⟨y, q1, q2⟩
    · omega
    · have : x = y := by omega
      have w := (hX.2.2.2.2.2 x (by omega)).2.2.1
      omega
  generalize hR : ard X k 9 z = R at kk
  refine ⟨fun v2 v3 M' => v2 = k' ∧ M' = M ∧ ∃ (y : Int) (f : Nat), v3 = lf t y ∧ plz n y ∧ ard X k f y = R ∧ ∀ x : Nat, y = (x : Int) → X.1 5 x < (f : Int), ⟨rfl, rfl, z, 9, rfl, hz, hR, d9⟩, ?_⟩
  rintro v2 v3 M' - - ⟨rfl, rfl, y, f, rfl, hy, hf, hd⟩
  rcases hy with rfl | ⟨x, rfl, hx⟩
  · rw [ard_neg] at hf
    rw [lf_neg (by omega)]
    refine ⟨fun _ => ?_, fun q => absurd (by omega) q⟩
    rw [← hf, lf_neg (by omega)] at kk
    exact kk
  · have hdx := hd x rfl
    have wx := hX.2.2.2.2.2 x hx
    obtain ⟨f, rfl⟩ : ∃ g, f = g + 1 := ⟨f - 1, by have := wx.2.2.1; omega⟩
    unfold ard at hf
    rw [if_neg (by omega), tn_] at hf
    rw [lf_nat]
    obtain ⟨a0, a1, a2, a3, a4, a5, a6, a7, a8⟩ := ht.2.1 x hx
    have h0 : ¬ (((40 * t + x : Nat) : Int) < 0) := by omega
    refine ⟨fun q => absurd q h0, fun _ _ => ?_⟩
    rw [tn_, a2, a3]
    rcases wx.1 with w1 | ⟨p, w1, w2, w3⟩
    · rw [w1.1, if_neg (by omega)] at hf
      rw [w1.1, lf_neg (by omega)]
      exact ⟨fun _ => ⟨rfl, rfl, -1, f, (lf_neg (by omega)).symm, Or.inl rfl, hf, fun x q => by omega⟩, fun q => absurd (by omega) q⟩
    · rw [w1, tn_] at hf
      rw [w1, lf_nat, tn_, (ht.2.1 p w2).1]
      have nx : ¬ ((0 : Int) ≤ (p : Int) ∧ X.1 0 p = k ∧ X.1 4 x = 0) → (v2 = v2 ∧ M' = M' ∧ ∃ (y : Int) (f : Nat), ((40 * t + p : Nat) : Int) = lf t y ∧ plz n y ∧ ard X k f y = R ∧ ∀ x : Nat, y = (x : Int) → X.1 5 x < (f : Int)) := fun ne => by
        rw [if_neg ne] at hf
        exact ⟨rfl, rfl, (p : Int), f, (lf_nat t p).symm, Or.inr ⟨p, rfl, w2⟩, hf, fun x q => by rw [show x = p by omega]; omega⟩
      refine ⟨fun q => absurd q (by omega), fun _ _ => ⟨fun e2 _ => ⟨fun e3 => ?_, fun e3 => nx (fun q => e3 q.2.2)⟩, fun e2 => nx (fun q => e2 ((hk p w2).mpr q.2.1))⟩⟩
      rw [if_pos ⟨by omega, (hk p w2).mp e2, e3⟩] at hf
      rw [← hf, lf_nat] at kk
      exact kk
def vwR (b k : Nat) : Prop := (b = 353 ∧ k = 52) ∨ b = 389 ∨ b = 390
def mR (M : rf_M) : mkT := (M.1 353 55, fun l => gl M 391 l, fun l => gl M 392 l, gi M 353 58)
theorem y_valueOf {z : Int} {d : Nat} {K : Int64 → rf_M → Prop} (hz : 0 ≤ z ∧ z < 26) (hd : gi M 353 42 = (d : Int)) (hd2 : d < 2) (hw : weq w (wR M d)) (hm : meq m (mR M)) (hr : req r (rR M)) (h0 : lval w m r z = none → ∀ M', eqy (fun b k => b = 353 ∧ k = 65) M M' → gi M' 353 65 = 2 → K 0 M') (h1 : ∀ v r' M', lval w m r z = some (v, r') → eqy vwR M M' → req r' (rR M') → K v M') : em_W_valueOf z M K := by
  obtain ⟨l, rfl⟩ : ∃ l : Nat, z = (l : Int) := ⟨z.toNat, by omega⟩
  unfold lval at h0 h1
  refine ⟨fun h => ?_, fun h => ⟨inr_z (by omega) (by omega), fun hb => ?_⟩⟩
  · have hl : l < 16 := by omega
    rw [if_pos ⟨by omega, h⟩, tn_] at h0
    rw [if_pos ⟨by omega, h⟩, tn_] at h1
    rw [tst_s _ hl, tst_s _ hl, gi_ofi, gi_ofi, show M.1 353 55 = m.1 from hm.1, show M.1 353 52 = r.1 from hr.1, tn_]
    refine ⟨fun hb _ => ?_, fun hb => ⟨fun hb2 => ?_, fun hb2 _ => ?_⟩⟩
    · have hb : bt m.1 l = true := by
        by_cases q : bt m.1 l = true
        · exact q
        · rw [if_neg q] at hb; exact absurd hb (by decide)
      rw [if_pos hb] at h1
      rw [show gl M 391 l = m.2.1 l from hm.2.1 l hl hb]
      exact h1 _ r M rfl (eqy.rfl' M) hr
    · have hb : ¬ bt m.1 l = true := fun q => hb (if_pos q)
      have hb2 : ¬ bt r.1 l = true := fun q => by rw [if_pos q] at hb2; exact absurd hb2 (by decide)
      rw [if_neg hb, if_neg hb2] at h0
      rw [if_neg hb, if_neg hb2] at h1
      have es : stale (wR M d) (rR M) = stale w r := stale_eq (fun l hl => (hw l hl).2) hr.1 (fun l hl b => (hr.2 l hl b).2)
      refine x_isChanged hd hd2 ?_
      rw [es]
      refine ⟨fun hz M2 e2 => ?_, fun hz M5 e5 => ?_⟩
      · have hs : ¬ stale w r = true := fun q => by rw [if_pos q] at hz; exact absurd hz (by decide)
        rw [if_neg hs] at h1
        have y2 : eqy vwR M M2 := by rw [e2]; exact (eqy.rfl' M).wi (Or.inl ⟨rfl, rfl⟩)
        have g2 : gi M2 353 42 = (d : Int) := (y2.i (by unfold vwR; omega)).trans hd
        rw [g2]
        have ex : (16 * (d : Int) + (l : Int)).toNat = 16 * d + l := by omega
        refine ⟨inr_z (by omega) (by omega), fun _ _ M3 e3 => ?_⟩
        rw [ex] at e3
        have y3 : eqy vwR M M3 := by rw [e3]; exact y2.wl (Or.inr (Or.inl rfl))
        have g3 : gi M3 353 42 = (d : Int) := (y3.i (by unfold vwR; omega)).trans hd
        rw [g3]
        refine ⟨inr_z (by omega) (by omega), fun _ _ M4 e4 _ => ?_⟩
        rw [ex] at e4
        have y4 : eqy vwR M M4 := by rw [e4]; exact y3.wi (Or.inr (Or.inr rfl))
        have v9 : gl M4 389 l = w.1 l := by
          rw [e4]
          show gl M3 389 l = _
          rw [e3, gl_at]
          exact (y2.l (by unfold vwR; omega)).trans (hw l hl).1
        rw [tn_, v9]
        refine h1 _ _ M4 rfl y4 ⟨?_, fun j hj b => ?_⟩
        · show M4.1 353 52 = bs r.1 l
          rw [e4]
          show (rf_wi M3 390 l _).1 353 52 = _
          rw [rf_wi_of _ _ (Or.inl (by omega)), e3]
          show M2.1 353 52 = _
          rw [e2]
          show (rf_wi M 353 52 _).1 353 52 = _
          rw [rf_wi_at, bs_lit _ hl, gi_ofi]
          exact congrArg (fun x => bs x l) hr.1
        · by_cases e : j = l
          · subst e
            refine ⟨v9.trans (va_up_at _ _ _).symm, ?_⟩
            show M4.1 390 j = va_up r.2.2 j (w.2 j) j
            rw [va_up_at, e4]
            show (rf_wi M3 390 j (Int32.ofInt (gi M3 377 (16 * d + j)))).1 390 j = _
            rw [rf_wi_at, gi_ofi]
            exact (y3.1 _ _ (by unfold vwR; omega)).1.trans (hw j hl).2
          · have b : bt (bs r.1 l) j = true := b
            rw [bt_bs hl hj] at b
            have b : bt r.1 j = true := by simpa [e] using b
            have q := hr.2 j hj b
            constructor
            · show gl M4 389 j = va_up r.2.1 l _ j
              rw [va_up_of e, e4]
              show gl M3 389 j = _
              rw [e3, gl_of (Or.inr e), e2]
              exact q.1
            · show M4.1 390 j = va_up r.2.2 l _ j
              rw [va_up_of e, e4]
              show (rf_wi M3 390 l _).1 390 j = _
              rw [rf_wi_of _ _ (Or.inr e), e3]
              show M2.1 390 j = _
              rw [e2]
              show (rf_wi M 353 52 _).1 390 j = _
              rw [rf_wi_of _ _ (Or.inl (by omega))]
              exact q.2
      · have hs : stale w r = true := by
          by_cases q : stale w r = true
          · exact q
          · rw [if_neg q] at hz; exact absurd rfl hz
        exact h0 (if_pos hs) M5 (by rw [e5]; exact (eqy.rfl' M).wi ⟨rfl, rfl⟩) (by rw [e5, gi_at (inr_z (by omega) (by omega))])
    · have hb : ¬ bt m.1 l = true := fun q => hb (if_pos q)
      have hb2 : bt r.1 l = true := by
        by_cases q : bt r.1 l = true
        · exact q
        · rw [if_neg q] at hb2; exact absurd rfl hb2
      rw [if_neg hb, if_pos hb2] at h1
      rw [tn_, show gl M 389 l = r.2.1 l from (hr.2 l hl hb2).1]
      exact h1 _ r M rfl (eqy.rfl' M) hr
  · rw [if_neg (by omega), if_pos (by omega), tn_] at h1
    rw [show ((l : Int) - 16).toNat = l - 16 by omega, show gl M 392 (l - 16) = m.2.2.1 (l - 16) from hm.2.2.1 _ (by omega)]
    exact h1 _ r M rfl (eqy.rfl' M) hr
theorem y_two {o : Int} {x y : Int64} {K : Int64 → rf_M → Prop} (ho : opk o) (h4 : ¬ (o = 0 ∨ o = 1 ∨ o = 2 ∨ o = 3)) (h0 : jn o x y = none → ∀ M', eqy (fun b k => b = 353 ∧ (k = 65 ∨ k = 66)) M M' → gi M' 353 65 = 1 → gl M' 353 66 = -1 → K 0 M') (h1 : ∀ v, jn o x y = some v → K v M) : em_W_two o x y M K := by
  unfold jn at h0 h1
  refine ⟨fun e => ⟨fun h => ?_, fun h => ?_⟩, fun e => ?_, fun e => ?_, fun e => ?_, fun e => ⟨fun h => ?_, fun h => ?_⟩, fun e => ⟨fun h => ?_, fun h => ?_⟩, fun e => ?_⟩
  · subst e
    refine h1 _ ?_
    rw [if_neg (by decide), if_neg (by decide), if_neg (by decide), if_neg (by decide), if_neg (by decide), if_neg (by decide), if_neg (by decide), if_pos ((lgc0 _ _).mp h)]
    rfl
  · subst e
    refine h1 _ ?_
    rw [if_neg (by decide), if_neg (by decide), if_neg (by decide), if_neg (by decide), if_neg (by decide), if_neg (by decide), if_neg (by decide), if_neg (fun q => h ((lgc0 _ _).mpr q))]
    rfl
  · subst e; exact h1 _ rfl
  · subst e; exact h1 _ rfl
  · subst e; exact h1 _ rfl
  · subst e
    refine h1 _ ?_
    rw [if_pos rfl, if_neg ((lgcn _ _).mp h)]
    rfl
  · subst e
    refine h1 _ ?_
    rw [if_pos rfl, if_pos (Classical.not_not.mp (fun q => h ((lgcn _ _).mpr q)))]
    rfl
  · subst e
    refine h1 _ ?_
    rw [if_neg (by decide), if_pos rfl, if_pos ((lgc0 _ _).mp h)]
    rfl
  · subst e
    refine h1 _ ?_
    rw [if_neg (by decide), if_pos rfl, if_neg (fun q => h ((lgc0 _ _).mpr q))]
    rfl
  · have eo : o = 47 ∨ o = 37 := by unfold opk at ho; omega
    refine ⟨fun hz M1 e1 M2 e2 => ?_, fun hz => ⟨fun h47 => ⟨fun hm => ?_, fun hm hne => ?_⟩, fun h47 => ⟨fun hm => ?_, fun hm hne => ?_⟩⟩⟩
    · refine h0 ?_ M2 ?_ ?_ ?_
      · have hz := (lgz _).mp hz
        rcases eo with rfl | rfl
        · rw [if_neg (by decide), if_neg (by decide), if_neg (by decide), if_neg (by decide), if_neg (by decide), if_pos rfl, if_pos hz]
        · rw [if_neg (by decide), if_neg (by decide), if_neg (by decide), if_neg (by decide), if_neg (by decide), if_neg (by decide), if_pos rfl, if_pos hz]
      · rw [e2, e1]
        exact ((eqy.rfl' M).wi ⟨rfl, Or.inl rfl⟩).wl ⟨rfl, Or.inr rfl⟩
      · rw [e2, gi_wl, e1, gi_at (inr_z (by omega) (by omega))]
      · rw [e2, gl_at, m1_lit]
    · have hm := (lgc0 _ _).mp hm
      rw [m1_lit] at hm
      subst h47; subst hm
      refine h1 _ ?_
      rw [if_neg (by decide), if_neg (by decide), if_neg (by decide), if_neg (by decide), if_neg (by decide), if_pos rfl, if_neg (fun q => hz ((lgz _).mpr q)), dv1]
    · subst h47
      refine h1 _ ?_
      rw [if_neg (by decide), if_neg (by decide), if_neg (by decide), if_neg (by decide), if_neg (by decide), if_pos rfl, if_neg (fun q => hz ((lgz _).mpr q))]
    · have hm := (lgc0 _ _).mp hm
      rw [m1_lit] at hm
      have h37 : o = 37 := by omega
      subst h37; subst hm
      refine h1 _ ?_
      rw [if_neg (by decide), if_neg (by decide), if_neg (by decide), if_neg (by decide), if_neg (by decide), if_neg (by decide), if_pos rfl, if_neg (fun q => hz ((lgz _).mpr q)), md1]
      rfl
    · have h37 : o = 37 := by omega
      subst h37
      refine h1 _ ?_
      rw [if_neg (by decide), if_neg (by decide), if_neg (by decide), if_neg (by decide), if_neg (by decide), if_neg (by decide), if_pos rfl, if_neg (fun q => hz ((lgz _).mpr q))]
end WR1
