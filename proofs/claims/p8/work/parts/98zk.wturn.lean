/-! THE REFERENCE'S TURN -/
/-- a turn of client c is about to walk -/
def W77 (M : rf_M) (Ts : tsT) (c0 : Nat) (S : syT) (c : Nat) : Prop := RRX M Ts c0 S c ∧ rcb M c (S.2.2.1 c) ∧ gi M 382 c = 1 ∧ gi M 383 c = ((beg Ts (S.2.2.1 c)).1 : Int) ∧ req (beg Ts (S.2.2.1 c)).2.2 (rC M c) ∧ ((S.2.2.1 c).2.2.2.1 ≠ 1 → gi M 386 c = 0) ∧ ((S.2.2.1 c).2.2.2.1 = 2 → stale S.1 (S.2.2.1 c).2.2.2.2.2.2 = true)
theorem ocW_ (o : Nat) (h : o ≤ 4) : (ocW o = 0 ↔ o = 0) ∧ (ocW o = 1 ↔ o = 3) ∧ (ocW o = 2 ↔ o = 2) ∧ (ocW o = 3 ↔ o = 4) := by
  have : o = 0 ∨ o = 1 ∨ o = 2 ∨ o = 3 ∨ o = 4 := by omega
  rcases this with rfl | rfl | rfl | rfl | rfl <;> decide
section WT1
variable {M M' : rf_M} {c0 c : Nat} {K : Int → rf_M → Prop} {Ts : tsT} {S : syT} {g : sgT} {w w' : wdT} {cl : clT} {rows : List rwT} {r : rdT} {P : Nat → Nat → Prop}
theorem W77.eq (hS : SI Ts c0 S) (hc : c < 8) (h : W77 M Ts c0 S c) (e : eqy P M M') (q : ∀ b k, pvR b k → ¬ P b k) : W77 M' Ts c0 S c := by
  obtain ⟨h1, h2, h3, h4, h5, h6, h7⟩ := h
  have hl := (hS.2.2.2.2 c hc).1.1
  exact ⟨h1.eq hS e (fun b k a _ => q b k a), h2.eq hl e (fun b k a => q b k (by unfold pvR; omega)), (e.i (q _ _ (by unfold pvR; omega))).trans h3, (e.i (q _ _ (by unfold pvR; omega))).trans h4, rC.eq h5 e (fun b k a => q b k (by unfold pvR; omega)), fun z => (e.i (q _ _ (by unfold pvR; omega))).trans (h6 z), h7⟩
theorem W77.back (h : W77 M Ts c0 S c) : RRS M Ts c0 S := by
  obtain ⟨h1, h2, h3, h4, h5, h6, h7⟩ := h
  refine h1.self ⟨h2, fun t => ?_, fun t => Or.inr ?_, fun t => Or.inr ?_⟩
  · have eb : beg Ts (S.2.2.1 c) = (S.2.2.1 c).2.2.2.2 := by unfold beg; rw [if_pos t]
    rw [eb] at h4 h5
    exact ⟨h3, h4, h5⟩
  · have eb : beg Ts (S.2.2.1 c) = (0, run0 (Ts ((S.2.2.1 c).1.headD 0)).2.2.2, rd0) := by unfold beg; rw [if_neg (by omega)]
    rw [eb] at h4
    exact ⟨h3, h4, h6 (by omega)⟩
  · have eb : beg Ts (S.2.2.1 c) = (0, run0 (Ts ((S.2.2.1 c).1.headD 0)).2.2.2, rd0) := by unfold beg; rw [if_neg (by omega)]
    rw [eb] at h4
    exact ⟨h3, h4, h6 (by omega), h7 t⟩
theorem y_hd (hb : rcb M c (S.2.2.1 c)) (hq : (S.2.2.1 c).1.length ≠ 0) : gi M 380 (16 * c) = (((S.2.2.1 c).1.headD 0 : Nat) : Int) := by
  have := hb.1.2 0 (by omega)
  rw [Nat.add_zero] at this
  rw [this]
  cases hl : (S.2.2.1 c).1 with
  | nil => rfl
  | cons x q => rfl
theorem y_firstOf (hb : rcb M c (S.2.2.1 c)) (hc : c < 8) (hq : (S.2.2.1 c).1.length ≠ 0) (kk : K (((S.2.2.1 c).1.headD 0 : Nat) : Int) M) : em_W_firstOf (c : Int) M K := by
  refine ⟨inr_z (by omega) (by omega), fun _ => ?_⟩
  rw [show (16 * (c : Int)).toNat = 16 * c by omega, y_hd hb hq]
  exact kk
/-- a row is added, the client goes on -/
theorem y_last {kd : Int} {v : Int64} {S' : syT} {K : rf_M → Prop} (hS : SI Ts c0 S) (hc : c < 8) (hq : (S.2.2.1 c).1.length ≠ 0) (ik : inr kd) (e1 : S'.2.2.1 = S.2.2.1) (e2 : S'.2.2.2 = S.2.2.2) (hrows : S.2.2.2.length < 300) (hX : RRX M Ts c0 S' c) (hb : rcb M c (S.2.2.1 c)) (hk : gi M 383 c = ((beg Ts (S.2.2.1 c)).1 : Int)) (kk : ∀ M', RRS M' Ts c0 (S'.1, S'.2.1, va_up S.2.2.1 c (ovr (S.2.2.1 c)), S.2.2.2 ++ [((kd, (c : Int), ((S.2.2.1 c).1.headD 0 : Int), ((beg Ts (S.2.2.1 c)).1 : Int) + 1, (S.2.2.1 c).2.1), v)]) → K M') : inr (gi M 383 c + 1) ∧ em_W_addRow kd (c : Int) (((S.2.2.1 c).1.headD 0 : Nat) : Int) (gi M 383 c + 1) (gi M 384 c) v M (fun M2 => em_W_over (c : Int) M2 K) := by
  have hbeg := beg_ok hS hc hq
  have hcl := hS.2.2.2.2 c hc
  have hc0 := hS.1.1
  have hrl := hS.2.2.1
  have hk3 := hbeg.2.1
  have ht := hbeg.1
  have hcu := hcl.2.1
  rw [hk, hb.2.1]
  refine ⟨inr_z (by omega) (by omega), ?_⟩
  obtain ⟨x1, x2, x3, x4, x5⟩ := hX
  rw [e2] at x5
  refine y_addRow (row := ((kd, (c : Int), ((S.2.2.1 c).1.headD 0 : Int), ((beg Ts (S.2.2.1 c)).1 : Int) + 1, (S.2.2.1 c).2.1), v)) x5 hrows ⟨ik, inr_z (by show (-1000000 : Int) ≤ (c : Int); omega) (by show (c : Int) ≤ 1000000; omega), inr_z (by show (-1000000 : Int) ≤ ((S.2.2.1 c).1.headD 0 : Int); omega) (by show ((S.2.2.1 c).1.headD 0 : Int) ≤ 1000000; omega), inr_z (by show (-1000000 : Int) ≤ ((beg Ts (S.2.2.1 c)).1 : Int) + 1; omega) (by show ((beg Ts (S.2.2.1 c)).1 : Int) + 1 ≤ 1000000; omega), inr_z (by show (-1000000 : Int) ≤ (S.2.2.1 c).2.1; omega) (by show (S.2.2.1 c).2.1 ≤ 1000000; omega)⟩ (fun M2 y2 r2 => ?_)
  have b2 : rcb M2 c (S.2.2.1 c) := hb.eq hcl.1.1 y2 (fun b k h => by omega)
  refine y_over (w := S'.1) hc b2 hq hcl.1.1 (fun M3 y3 c3 => kk M3 ⟨?_, ?_, ?_, fun k hk => ?_, ?_⟩)
  · exact (x1.eq y2 (fun b k _ _ => by omega)).eq y3 (fun b k _ _ => by unfold ccR; omega)
  · exact (x2.eqR y2 (fun b k h => by omega)).eqR y3 (fun b k h => by unfold ccR; omega)
  · exact (x3.eq y2 (fun b k h => by omega)).eq y3 (fun b k h => by unfold ccR; omega)
  · show rcl M3 S'.1 k (va_up S.2.2.1 c (ovr (S.2.2.1 c)) k)
    by_cases e : k = c
    · rw [e, va_up_at]; exact c3
    · rw [va_up_of e]
      have := x4 k hk e
      rw [e1] at this
      have hl := (hS.2.2.2.2 k hk).1.1
      exact ⟨(this.1.eq hl y2 (fun b k h => by omega)).eq hl y3 (fun b k h => by unfold ccR; omega), (this.2.eq y2 (fun b k h => by omega) (fun _ z => z)).eq y3 (fun b k h => by unfold ccR; omega) (fun _ z => z)⟩
  · exact r2.eq y3 (fun b k h => by unfold ccR; omega)
theorem y_endThrown {v : Int64} (hS : SI Ts c0 S) (hc : c < 8) (hq : (S.2.2.1 c).1.length ≠ 0) (hW : W77 M Ts c0 S c) (h300 : 300 ≤ S.2.2.2.length → K (-1) M) (kk : S.2.2.2.length < 300 → ∀ M', RRS M' Ts c0 (S.1, S.2.1, va_up S.2.2.1 c (ovr (S.2.2.1 c)), S.2.2.2 ++ [((2, (c : Int), ((S.2.2.1 c).1.headD 0 : Int), ((beg Ts (S.2.2.1 c)).1 : Int) + 1, (S.2.2.1 c).2.1), v)]) → K 2 M') : em_W_endThrown (c : Int) v M K := by
  obtain ⟨h1, h2, h3, h4, h5, h6, h7⟩ := hW
  have g69 := h1.2.2.2.2.1
  have hrl := hS.2.2.1
  refine ⟨fun h => h300 (by rw [g69] at h; omega), fun h => y_firstOf h2 hc hq (fun _ _ => ?_)⟩
  rw [g69] at h
  rw [tn_]
  exact y_last hS hc hq (inr_z (by omega) (by omega)) rfl rfl (by omega) h1 h2 h4 (kk (by omega))
/-- a turn behind its step -/
theorem y_t111 (hS : SI Ts c0 S) (hc : c < 8) (hq : (S.2.2.1 c).1.length ≠ 0) (hW : W77 M Ts c0 S c) (hd : gi M 353 42 = 0) (hR : rnW M ((S.2.2.1 c).1.headD 0) (Ts ((S.2.2.1 c).1.headD 0)).1 (Ts ((S.2.2.1 c).1.headD 0)).2.1 (Ts ((S.2.2.1 c).1.headD 0)).2.2.1 (Ts ((S.2.2.1 c).1.headD 0)).2.2.2 (out Ts S (S.2.2.1 c)).2.1 (out Ts S (S.2.2.1 c)).2.2) (hv : (out Ts S (S.2.2.1 c)).1.1 = 2 → gl M 353 66 = (out Ts S (S.2.2.1 c)).1.2) (kk : ∀ M', RRS M' Ts c0 (trn2 Ts S c (S.2.2.1 c) (out Ts S (S.2.2.1 c))).2 → K (trn2 Ts S c (S.2.2.1 c) (out Ts S (S.2.2.1 c))).1 M') : e_W_turnOf_111 (c : Int) (ocW (out Ts S (S.2.2.1 c)).1.1) M K := by
  have hbeg := beg_ok hS hc hq
  have hout := out_ok hS hc hq
  have hcl := hS.2.2.2.2 c hc
  have hle := out_le (Ts := Ts) (S := S) (cl := S.2.2.1 c)
  have hbg := hbeg.2.1
  generalize out Ts S (S.2.2.1 c) = o at *
  have oc := fun (_ : Unit) => ocW_ o.1.1 hle
  unfold trn2 at kk
  have hW' := hW
  obtain ⟨h1, h2, h3, h4, h5, h6, h7⟩ := hW
  have cut : ¬ o.1.1 = 0 → stale S.1 o.2.2 = true → ∀ N, eqy (fun b k => b = 353 ∧ k = 1000) M N → e_W_turnOf_144 (c : Int) N K := fun hn hs N yN => by
    rw [if_neg hn, if_pos hs] at kk
    have hrl := hS.2.2.1
    have hcu := hcl.2.1
    refine y_cutRun (w := S.1) hc (h2.eq hcl.1.1 yN (fun b k h => by omega)) hcl.2.2.1 ⟨by omega, by omega⟩ (fun M3 y3 c3 => ?_)
    refine kk M3 (RRX.all ((h1.eq hS yN (fun b k a _ => by unfold pvR at a; omega)).eq hS y3 (fun b k _ a => fun z => a (by unfold ccR; omega))) c3)
  refine ⟨fun z => ?_, fun z => ⟨fun z1 => ?_, fun z1 => ?_⟩⟩
  · have z0 := (oc ()).1.mp z
    rw [if_pos z0] at kk
    have hk3 := (hout.2.2.2.2 z0).1
    intro _ _ M1 e1
    rw [tn_, h4] at e1
    have y1 : eqy (fun b k => b = 383 ∧ k = c) M M1 := by rw [e1]; exact (eqy.rfl' M).wi ⟨rfl, rfl⟩
    refine y_keepRead (r := o.2.2) hc (hR.2.2.2.2.eqR y1 (fun b k h => by omega)) (fun M2 y2 r2 => ?_)
    refine kk M2 (RRX.all ((h1.eq hS y1 (fun b k _ a => fun z => a (by unfold ccR; omega))).eq hS y2 (fun b k _ a => fun z => a (by unfold ccR; omega))) ⟨(h2.eq hcl.1.1 y1 (fun b k h => by omega)).eq hcl.1.1 y2 (fun b k h => by omega), fun _ => ⟨?_, ?_, r2⟩, fun (q : (1 : Nat) = 0) => absurd q (by decide), fun (q : (1 : Nat) = 2) => absurd q (by decide)⟩)
    · exact ((y2.i (by omega)).trans (y1.i (by omega))).trans h3
    · refine (y2.i (by omega)).trans ?_
      rw [e1, gi_at (inr_z (by omega) (by omega))]
      show ((beg Ts (S.2.2.1 c)).1 : Int) + 1 = (((beg Ts (S.2.2.1 c)).1 + 1 : Nat) : Int)
      omega
  · have z3 := (oc ()).2.1.mp z1
    exact cut (by omega) (hout.2.2.1 z3) M (eqy.rfl' M)
  have z0 : ¬ o.1.1 = 0 := fun q => z ((oc ()).1.mpr q)
  have es : stale (wR M 0) (rR M) = stale S.1 o.2.2 := stale_eq (fun l hl => (h1.2.1 l hl).2) hR.2.2.2.2.1 (fun l hl b => (hR.2.2.2.2.2 l hl b).2)
  refine x_isChanged (d := 0) (by rw [hd]; rfl) (by omega) ?_
  rw [es]
  refine ⟨fun hz => ?_, fun hz => ?_⟩
  · have hs : ¬ stale S.1 o.2.2 = true := fun q => by rw [if_pos q] at hz; exact absurd hz (by decide)
    rw [if_neg z0, if_neg hs] at kk
    refine ⟨fun z3 _ M1 e1 _ M2 e2 _ M3 e3 => ?_, fun z3 => ?_⟩
    · have z4 := (oc ()).2.2.2.mp z3
      rw [if_pos z4] at kk
      have zz : (Int32.ofInt 0 &&& 1).toInt = 0 := by decide
      rw [tn_] at e1 e2 e3
      rw [zz] at e3
      have y3 : eqy (fun b k => (b = 382 ∨ b = 383 ∨ b = 385) ∧ k = c) M M3 := by
        rw [e3, e2, e1]
        exact (((eqy.rfl' M).wi ⟨by omega, rfl⟩).wi ⟨by omega, rfl⟩).wi ⟨by omega, rfl⟩
      refine y_keepRead (r := o.2.2) hc (hR.2.2.2.2.eqR y3 (fun b k h => by omega)) (fun M4 y4 r4 => ?_)
      refine kk M4 (RRX.all ((h1.eq hS y3 (fun b k _ a => fun z => a (by unfold ccR; omega))).eq hS y4 (fun b k _ a => fun z => a (by unfold ccR; omega))) ⟨⟨⟨?_, fun j hj => ?_⟩, ?_, ?_⟩, fun (q : (2 : Nat) = 1) => absurd q (by decide), fun (q : (2 : Nat) = 0) => absurd q (by decide), fun _ => Or.inl ⟨?_, r4⟩⟩)
      · exact ((y4.i (by omega)).trans (y3.i (by omega))).trans h2.1.1
      · exact ((y4.i (by omega)).trans (y3.i (by omega))).trans (h2.1.2 j hj)
      · exact ((y4.i (by omega)).trans (y3.i (by omega))).trans h2.2.1
      · refine (y4.i (by omega)).trans ?_
        rw [e3, gi_at (inr_z (by omega) (by omega))]
        rfl
      · refine (y4.i (by omega)).trans ?_
        rw [e3, gi_of (Or.inl (by omega)), e2, gi_of (Or.inl (by omega)), e1, gi_at (inr_z (by omega) (by omega))]
    · have n4 : ¬ o.1.1 = 4 := fun q => z3 ((oc ()).2.2.2.mpr q)
      have n3 : ¬ o.1.1 = 3 := fun q => z1 ((oc ()).2.1.mpr q)
      rw [if_neg n4] at kk
      refine y_isHeld (S := S) hc (fun k hk => ?_) ?_
      · by_cases e : k = c
        · rw [e]; exact h2.2.2
        · exact (h1.2.2.2.1 k hk e).1.2.2
      by_cases hh : hel S c = true
      · rw [if_pos hh] at kk ⊢
        exact ⟨fun q => absurd q (by decide), fun _ => kk M hW'.back⟩
      rw [if_neg hh] at kk ⊢
      refine ⟨fun _ => ⟨fun z2 => ?_, fun z2 => ?_⟩, fun q => absurd rfl q⟩
      · have z2 := (oc ()).2.2.1.mp z2
        rw [hv z2]
        refine y_endThrown hS hc hq hW' (fun h => ?_) (fun h M' hM => ?_)
        · rw [if_pos h] at kk
          exact kk M hW'.back
        · rw [if_neg (by omega), if_neg (fun q => by omega), if_neg (by omega)] at kk
          exact kk M' hM
      · have z2 : o.1.1 = 1 := by
          have : ¬ o.1.1 = 2 := fun q => z2 ((oc ()).2.2.1.mpr q)
          omega
        obtain ⟨hw, G⟩ := hR.2.2.2.1
        obtain ⟨cn, hcn⟩ : ∃ x : Nat, o.2.1.2.1.2.2.2 = (x : Int) := ⟨o.2.1.2.1.2.2.2.toNat, by have := G.2.1; omega⟩
        have hcnw : cn ≤ hw := by have := G.2.1.2; omega
        obtain ⟨gp, ghw, ghk, g2, g3, g4⟩ := hout.1
        have hro : rok Ts c0 S.2.1 := fun j hj => hS.2.1.2 (S.2.1.getD j (0, 0)) (by rw [gD_ hj]; exact List.getElem_mem hj)
        have hrl : ∀ j, j < cn → gi M 393 j = rex Ts ((S.2.2.1 c).1.headD 0, o.2.1.2.2.1 j) := fun j hj => G.2.2.1 j (by omega)
        have hvl : ∀ j, j < cn → vld (Ts ((S.2.2.1 c).1.headD 0)).1 (Ts ((S.2.2.1 c).1.headD 0)).2.1 (o.2.1.2.2.1 j) := fun j hj => g3 j (by omega)
        have fin300 : ∀ N, eqy wwW M N → W77 N Ts c0 S c := fun N yN => hW'.eq hS hc yN (fun b k a => by unfold pvR at a; unfold wwW wkW; omega)
        have hc300 : cn ≤ 400 := by omega
        · refine y_isWell (S := S) (g := o.2.1) (d := 0) (c := cn) hS.1 hbeg.1 h1.1 (by rw [hd]; rfl) (by omega) h1.2.1 h1.2.2.1 hro hS.2.1.1 G.1 hcn hc300 hrl hvl (fun M3 y3 => ?_)
          have W3 := fin300 M3 y3
          have nw : ∀ b k, ¬ (b = 353 ∧ (k = 52 ∨ k = 65 ∨ k = 66)) → ¬ (b = 389 ∨ b = 390 ∨ b = 398 ∨ b = 399) → ¬ wwW b k := fun b k h1 h2 => by unfold wwW wkW; omega
          by_cases hwel : wel Ts S ((S.2.2.1 c).1.headD 0) o.2.1 = true
          · rw [if_pos hwel]
            refine ⟨fun q => absurd q (by decide), fun _ => ?_⟩
            have g69 := W3.1.2.2.2.2.1
            have hrl3 := hS.2.2.1
            refine ⟨fun h => ?_, fun h => ?_⟩
            · rw [g69] at h
              rw [if_pos (by omega)] at kk
              exact kk M3 W3.back
            · rw [g69] at h
              rw [if_neg (by omega), if_pos ⟨z2, hwel⟩] at kk
              have hwl := hwel
              unfold wel at hwl
              rw [Bool.and_eq_true, decide_eq_true_eq] at hwl
              have h32 : S.2.1.length + cn ≤ 32 := by have := hwl.2; omega
              obtain ⟨x1, x2, x3, x4, x5⟩ := W3.1
              refine y_bringIn (S := S) (g := o.2.1) (d := 0) (c := cn) hS.1 hbeg.1 (by rw [y3.i (nw _ _ (by omega) (by omega)), hd]; rfl) (by omega) x2 x3 (G.1.eqR y3 (fun b k h => nw b k (by omega) (by omega))) hcn (fun j hj => (y3.i (nw _ _ (by omega) (by omega))).trans (hrl j hj)) hvl h32 (fun M4 y4 w4 r4 => ?_)
              have y4' : eqy (fun b k => (b = 376 ∨ b = 377) ∨ b = 378 ∨ b = 379) M3 M4 := y4.mono (fun b k h => by omega)
              have bl := brg_le (m := o.2.1.2.1) hS.2.2.2.1 hS.2.2.1
              have X4 : RRX M4 Ts c0 (brg S.1 o.2.1.2.1, S.2.1 ++ nru ((S.2.2.1 c).1.headD 0) o.2.1, S.2.2.1, S.2.2.2) c := by
                refine ⟨x1.eq y4' (fun b k _ _ => by omega), w4, r4, fun k hk hne => ?_, x5.eq y4' (fun b k h => by omega)⟩
                have hcu := hS.2.2.2.2 k hk
                have hx := x4 k hk hne
                exact ⟨hx.1.eq hcu.1.1 y4' (fun b k h => by omega), hx.2.eq y4' (fun b k h => by omega) (fun t hs => stale_up (hcu.2.2.2.2.2.2 (by omega)) (fun l hl => (bl l hl).1) hs)⟩
              have b4 : rcb M4 c (S.2.2.1 c) := W3.2.1.eq hcl.1.1 y4' (fun b k h => by omega)
              refine y_firstOf b4 hc hq (fun _ _ => ?_)
              rw [tn_]
              exact y_last (S' := (brg S.1 o.2.1.2.1, S.2.1 ++ nru ((S.2.2.1 c).1.headD 0) o.2.1, S.2.2.1, S.2.2.2)) hS hc hq (inr_z (by omega) (by omega)) rfl rfl (by omega) X4 b4 ((y4'.i (by omega)).trans W3.2.2.2.1) (fun M5 h5 => kk M5 h5)
          · rw [if_neg hwel]
            refine ⟨fun _ => ?_, fun q => absurd rfl q⟩
            refine y_endThrown hS hc hq W3 (fun h => ?_) (fun h M' hM => ?_)
            · rw [if_pos h] at kk
              exact kk M3 W3.back
            · rw [if_neg (by omega), if_neg (fun q => hwel q.2), if_pos z2] at kk
              exact kk M' hM
  · have hs : stale S.1 o.2.2 = true := by
      by_cases q : stale S.1 o.2.2 = true
      · exact q
      · rw [if_neg q] at hz; exact absurd rfl hz
    exact cut z0 hs M (eqy.rfl' M)
end WT1
section WT2
variable {M M' : rf_M} {c0 c : Nat} {K : Int → rf_M → Prop} {Ts : tsT} {S : syT}
theorem y_t77 (hS : SI Ts c0 S) (hc : c < 8) (hq : (S.2.2.1 c).1.length ≠ 0) (hW : W77 M Ts c0 S c) (kk : ∀ M', RRS M' Ts c0 (trn2 Ts S c (S.2.2.1 c) (out Ts S (S.2.2.1 c))).2 → K (trn2 Ts S c (S.2.2.1 c) (out Ts S (S.2.2.1 c))).1 M') : e_W_turnOf_77 (c : Int) M K := by
  have hbeg := beg_ok hS hc hq
  have hc0 := hS.1.1
  have ht := hbeg.1
  have hk := hbeg.2.1
  have hX := hS.1.2 _ ht
  have hW' := hW
  obtain ⟨h1, h2, h3, h4, h5, h6, h7⟩ := hW
  refine y_walkAnew (w := S.1) (r := (beg Ts (S.2.2.1 c)).2.2) (g := (beg Ts (S.2.2.1 c)).2.1) (k := (beg Ts (S.2.2.1 c)).1) hc (by omega) hX (h1.1 _ ht) (y_hd h2 hq) h4 h5 h1.2.1 (hbeg.2.2.1 S.1 _ (rsub.rfl' _)) hk (fun M1 y1 d1 R1 _ => ?_)
  have np : ∀ b k, pvR b k → ¬ waW b k := fun b k h => by unfold pvR at h; unfold waW stW; omega
  have W1 := hW'.eq hS hc y1 np
  rw [tn_, W1.2.2.2.1]
  have hsub : (out Ts S (S.2.2.1 c)) = (if 300 ≤ (beg Ts (S.2.2.1 c)).1 then ((2, -3), (beg Ts (S.2.2.1 c)).2) else stepp (Ts ((S.2.2.1 c).1.headD 0)).1 S.1 (beg Ts (S.2.2.1 c)).2.1 (beg Ts (S.2.2.1 c)).2.2) := rfl
  refine ⟨fun h M3 e3 => ?_, fun h => ?_⟩
  · have h300 : 300 ≤ (beg Ts (S.2.2.1 c)).1 := by omega
    rw [if_pos h300] at hsub
    have y3 : eqy (fun b k => b = 353 ∧ k = 66) M1 M3 := by rw [e3]; exact (eqy.rfl' _).wl ⟨rfl, rfl⟩
    have W3 := W1.eq hS hc y3 (fun b k a => by unfold pvR at a; omega)
    have := y_t111 (K := K) hS hc hq W3 ((y3.i (by omega)).trans d1) (by rw [hsub]; exact R1.eqR y3 (fun b k h => by omega) (R1.2.2.2.2.eqR y3 (fun b k h => by omega))) (fun _ => by rw [hsub, e3, gl_at]; rfl) kk
    rw [hsub] at this
    exact this
  · have h300 : ¬ 300 ≤ (beg Ts (S.2.2.1 c)).1 := by omega
    rw [if_neg h300] at hsub
    refine y_rstep (d := 0) (w := S.1) (by omega) hX R1 (by rw [d1]; rfl) (by omega) W1.1.2.1 (fun M2 y2 R2 v2 => ?_)
    rw [← hsub] at R2 v2 ⊢
    exact y_t111 hS hc hq (W1.eq hS hc y2 (fun b k a => by unfold pvR at a; unfold stW; omega)) ((y2.i (by unfold stW; omega)).trans d1) R2 v2 kk
theorem y_t47 (hS : SI Ts c0 S) (hc : c < 8) (hq : (S.2.2.1 c).1.length ≠ 0) (hX : RRX M Ts c0 S c) (hb : rcb M c (S.2.2.1 c)) (ht : (S.2.2.1 c).2.2.2.1 ≠ 1) (h2 : (S.2.2.1 c).2.2.2.1 = 2 → stale S.1 (S.2.2.1 c).2.2.2.2.2.2 = true) (hz : gi M 382 c = 0) (kk : ∀ M', RRS M' Ts c0 (trn2 Ts S c (S.2.2.1 c) (out Ts S (S.2.2.1 c))).2 → K (trn2 Ts S c (S.2.2.1 c) (out Ts S (S.2.2.1 c))).1 M') : e_W_turnOf_47 (c : Int) M K := by
  have hcl := hS.2.2.2.2 c hc
  refine fun _ => ⟨fun _ _ M1 e1 _ M2 e2 _ M3 e3 => ?_, fun q => absurd (by rw [tn_]; exact hz) q⟩
  rw [tn_] at e1 e2 e3
  have y3 : eqy (fun b k => (b = 382 ∨ b = 383 ∨ b = 386) ∧ k = c) M M3 := by
    rw [e3, e2, e1]
    exact (((eqy.rfl' M).wi ⟨by omega, rfl⟩).wi ⟨by omega, rfl⟩).wi ⟨by omega, rfl⟩
  have eb : beg Ts (S.2.2.1 c) = (0, run0 (Ts ((S.2.2.1 c).1.headD 0)).2.2.2, rd0) := by unfold beg; rw [if_neg ht]
  have g386 : gi M3 386 c = 0 := by rw [e3, gi_at (inr_z (by omega) (by omega))]
  refine y_t77 hS hc hq ⟨hX.eq hS y3 (fun b k _ a => fun z => a (by unfold ccR; omega)), hb.eq hcl.1.1 y3 (fun b k h => by omega), ?_, ?_, ?_, fun _ => g386, h2⟩ kk
  · rw [e3, gi_of (Or.inl (by omega)), e2, gi_of (Or.inl (by omega)), e1, gi_at (inr_z (by omega) (by omega))]
  · rw [eb, e3, gi_of (Or.inl (by omega)), e2, gi_at (inr_z (by omega) (by omega))]
    rfl
  · rw [eb]
    refine ⟨?_, fun l _ b => ?_⟩
    · show M3.1 386 c = 0
      rw [e3]
      show (rf_wi M2 386 c _).1 386 c = _
      rw [rf_wi_at]
      rfl
    · rw [show bt rd0.1 l = false from bt_0 l] at b; cases b
/-- a turn -/
theorem y_turnOf (hS : SI Ts c0 S) (hc : c < 8) (hR : RRS M Ts c0 S) (kk : ∀ M', RRS M' Ts c0 (trn Ts S c).2 → K (trn Ts S c).1 M') : em_W_turnOf (c : Int) M K := by
  have hcl := hS.2.2.2.2 c hc
  obtain ⟨rb, rs⟩ := hR.2.2.2.1 c hc
  have htg := hcl.2.2.2.2.1
  unfold trn at kk
  refine fun _ => ?_
  rw [tn_, rb.1.1]
  by_cases hq : (S.2.2.1 c).1.length = 0
  · rw [if_pos hq] at kk
    exact ⟨fun _ => kk M hR, fun q => absurd (by omega) q⟩
  rw [if_neg hq] at kk
  refine ⟨fun q => absurd (by omega) hq, fun _ _ => ?_⟩
  -- a run that has begun, or is to begin
  have go : gi M 382 c = 1 → gi M 383 c = ((beg Ts (S.2.2.1 c)).1 : Int) → req (beg Ts (S.2.2.1 c)).2.2 (rC M c) → ((S.2.2.1 c).2.2.2.1 ≠ 1 → gi M 386 c = 0) → ((S.2.2.1 c).2.2.2.1 = 2 → stale S.1 (S.2.2.1 c).2.2.2.2.2.2 = true) → (gi M 382 c = 2 → ∀ M1 : rf_M, M1 = wi M 353 42 0 → em_W_bringRead (c : Int) M1 (fun M2 => em_W_isChanged M2 (fun z3 M3 => (z3 = 0 → K 4 M3) ∧ (¬ z3 = 0 → ((0 : Int) ≤ (c : Int) ∧ (c : Int) < 8 → ∀ M4 : rf_M, M4 = wi M3 382 c 0 → e_W_turnOf_47 (c : Int) M4 K))))) ∧ (¬ gi M 382 c = 2 → e_W_turnOf_47 (c : Int) M K) := fun a1 a2 a3 a4 a5 => by
    refine ⟨fun q => by omega, fun _ _ => ⟨fun q => absurd q (by rw [tn_, a1]; decide), fun _ => ?_⟩⟩
    refine y_t77 hS hc hq ⟨hR.x, rb, a1, a2, a3, a4, a5⟩ ?_
    rw [if_neg (fun q => by rw [a5 q.1] at q; exact absurd q.2 (by decide))] at kk
    exact kk
  have fresh : (S.2.2.1 c).2.2.2.1 ≠ 1 → gi M 386 c = 0 → beg Ts (S.2.2.1 c) = (0, run0 (Ts ((S.2.2.1 c).1.headD 0)).2.2.2, rd0) ∧ req (beg Ts (S.2.2.1 c)).2.2 (rC M c) := fun ht h6 => by
    have eb : beg Ts (S.2.2.1 c) = (0, run0 (Ts ((S.2.2.1 c).1.headD 0)).2.2.2, rd0) := by unfold beg; rw [if_neg ht]
    refine ⟨eb, ?_⟩
    rw [eb]
    refine ⟨?_, fun l _ b => ?_⟩
    · show M.1 386 c = 0
      exact Int32.toInt_inj.mp (by rw [show (M.1 386 c).toInt = gi M 386 c from rfl, h6]; rfl)
    · rw [show bt rd0.1 l = false from bt_0 l] at b; cases b
  have cases3 : (S.2.2.1 c).2.2.2.1 = 0 ∨ (S.2.2.1 c).2.2.2.1 = 1 ∨ (S.2.2.1 c).2.2.2.1 = 2 := by omega
  rcases cases3 with t0 | t1 | t2
  · rw [if_neg (fun q => by omega)] at kk
    rcases rs.2.1 t0 with a | ⟨a1, a2, a3⟩
    · refine ⟨fun q => by omega, fun _ => y_t47 hS hc hq hR.x rb (by omega) (fun q => by omega) a kk⟩
    · have f := fresh (by omega) a3
      exact go a1 (by rw [f.1]; exact a2) f.2 (fun _ => a3) (fun q => by omega)
  · obtain ⟨a1, a2, a3⟩ := rs.1 t1
    have eb : beg Ts (S.2.2.1 c) = (S.2.2.1 c).2.2.2.2 := by unfold beg; rw [if_pos t1]
    exact go a1 (by rw [eb]; exact a2) (by rw [eb]; exact a3) (fun q => absurd t1 q) (fun q => by omega)
  · rcases rs.2.2 t2 with ⟨a1, a2⟩ | ⟨a1, a2, a3, a4⟩
    · refine ⟨fun _ M1 e1 => ?_, fun q => absurd a1 q⟩
      have y1 : eqy (fun b k => b = 353 ∧ k = 42) M M1 := by rw [e1]; exact (eqy.rfl' M).wi ⟨rfl, rfl⟩
      refine y_bringRead hc (rC.eq a2 y1 (fun b k h => by omega)) (fun M2 y2 r2 => ?_)
      have y12 : eqy (fun b k => (b = 353 ∧ k = 42) ∨ vwR b k) M M2 := (y1.mono (fun b k h => Or.inl h)).trans (y2.mono (fun b k h => Or.inr h))
      have np : ∀ b k, pvR b k → ¬ ((b = 353 ∧ k = 42) ∨ vwR b k) := fun b k h => by unfold pvR at h; unfold vwR; omega
      have d2 : gi M2 353 42 = 0 := by rw [y2.i (by unfold vwR; omega), e1, gi_at (inr_z (by omega) (by omega))]
      have R2 := hR.eq hS y12 np
      refine x_isChanged (d := 0) (by rw [d2]; rfl) (by omega) ?_
      rw [stale_eq (w := S.1) (r := (S.2.2.1 c).2.2.2.2.2.2) (fun l hl => (R2.2.1 l hl).2) r2.1 (fun l hl b => (r2.2 l hl b).2)]
      cases hs : stale S.1 (S.2.2.1 c).2.2.2.2.2.2 with
      | false =>
        rw [if_pos ⟨t2, hs⟩] at kk
        rw [if_neg (by decide)]
        exact ⟨fun _ => kk M2 R2, fun q => absurd rfl q⟩
      | true =>
        rw [if_neg (fun q => by rw [hs] at q; exact absurd q.2 (by decide))] at kk
        rw [if_pos rfl]
        refine ⟨fun q => absurd q (by decide), fun _ _ M4 e4 => ?_⟩
        have y4 : eqy (fun b k => b = 382 ∧ k = c) M2 M4 := by rw [e4]; exact (eqy.rfl' _).wi ⟨rfl, rfl⟩
        obtain ⟨rb2, -⟩ := R2.2.2.2.1 c hc
        refine y_t47 hS hc hq (RRX.eq hS R2.x y4 (fun b k _ a => fun z => a (by unfold ccR; omega))) (rb2.eq hcl.1.1 y4 (fun b k h => by omega)) (by omega) (fun _ => hs) (by rw [e4, gi_at (inr_z (by omega) (by omega))]) kk
    · have f := fresh (by omega) a3
      exact go a1 (by rw [f.1]; exact a2) f.2 (fun _ => a3) (fun _ => a4)
end WT2
