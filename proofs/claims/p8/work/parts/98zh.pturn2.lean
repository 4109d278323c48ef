/-! THE PROGRAM'S TURN, as a whole -/
theorem stepp_le (X : txT) (w : wdT) (g : sgT) (r : rdT) : (stepp X w g r).1.1 ≤ 4 := by
  unfold stepp stpx
  split
  · show 1 ≤ 4; omega
  · split
    · show 0 ≤ 4; omega
    · split
      · show 0 ≤ 4; omega
      · split
        · split
          · show 4 ≤ 4; omega
          · show 0 ≤ 4; omega
        · split
          · show 3 ≤ 4; omega
          · split
            · split
              · show 2 ≤ 4; omega
              · show 0 ≤ 4; omega
            · split
              · split
                · show 2 ≤ 4; omega
                · show 0 ≤ 4; omega
              · split
                · show 0 ≤ 4; omega
                · split
                  · show 0 ≤ 4; omega
                  · show 0 ≤ 4; omega
section PT2
variable {M M' : rf_M} {A n cc c0 c : Nat} {X : txT} {en : Int} {K : Int → rf_M → Prop} {Ts : tsT} {w : wdT} {r : rdT} {g : sgT} {cl : clT} {S : syT}
theorem out_le : (out Ts S cl).1.1 ≤ 4 := by
  unfold out
  split
  · show 2 ≤ 4; omega
  · exact stepp_le _ _ _ _
theorem out_g (h : (out Ts S cl).1.1 ≠ 0) : (out Ts S cl).2.1 = (beg Ts cl).2.1 := by
  unfold out at h ⊢
  split
  · rfl
  · rename_i q
    rw [if_neg q] at h
    exact stepp_g _ _ _ _ h
theorem out_sub : rsub (beg Ts cl).2.2 (out Ts S cl).2.2 := by
  unfold out
  split
  · exact rsub.rfl' _
  · exact stepp_mono _ _ _ _
theorem x_isFull (h : 0 ≤ gi M 324 0) (h0 : gi M 324 0 < 300 → K 0 M) (h1 : ¬ gi M 324 0 < 300 → K 1 M) : em_J_isFull M K := ⟨fun q => ⟨Or.inl rfl, h0 q⟩, fun q => ⟨Or.inr rfl, h1 q⟩⟩
/-- a step of a turn -/
theorem x_ostep (hS : SI Ts c0 S) (hc : c < 8) (hq : (S.2.2.1 c).1.length ≠ 0) (hW : weq S.1 (wS M 187)) (hR : rnR M (199 + 16 * c) (25 + 12 * (S.2.2.1 c).1.headD 0) (Ts ((S.2.2.1 c).1.headD 0)).1 (Ts ((S.2.2.1 c).1.headD 0)).2.1 (Ts ((S.2.2.1 c).1.headD 0)).2.2.1 (Ts ((S.2.2.1 c).1.headD 0)).2.2.2 (beg Ts (S.2.2.1 c)).2.1 (beg Ts (S.2.2.1 c)).2.2 (beg Ts (S.2.2.1 c)).1) (kk : ∀ M', eqy (fun b _ => 199 + 16 * c ≤ b ∧ b ≤ 211 + 16 * c) M M' → rnR M' (199 + 16 * c) (25 + 12 * (S.2.2.1 c).1.headD 0) (Ts ((S.2.2.1 c).1.headD 0)).1 (Ts ((S.2.2.1 c).1.headD 0)).2.1 (Ts ((S.2.2.1 c).1.headD 0)).2.2.1 (Ts ((S.2.2.1 c).1.headD 0)).2.2.2 (out Ts S (S.2.2.1 c)).2.1 (out Ts S (S.2.2.1 c)).2.2 (if (out Ts S (S.2.2.1 c)).1.1 = 0 then (beg Ts (S.2.2.1 c)).1 + 1 else (beg Ts (S.2.2.1 c)).1) → ((out Ts S (S.2.2.1 c)).1.1 = 2 → gl M' (199 + 16 * c) 3 = (out Ts S (S.2.2.1 c)).1.2) → K ((out Ts S (S.2.2.1 c)).1.1 : Nat) M') : em_R_step (199 + 16 * c) M K := by
  have hbeg := beg_ok hS hc hq
  have ht12 : (S.2.2.1 c).1.headD 0 < 12 := by have := hS.1.1; omega
  have hX := hS.1.2 _ hbeg.1
  unfold out at kk
  by_cases h3 : 300 ≤ (beg Ts (S.2.2.1 c)).1
  · rw [if_pos h3] at kk
    refine ⟨fun q => absurd q (by rw [hR.1]; omega), fun _ M1 e1 => ?_⟩
    have y1 : eqy (fun b k => b = 199 + 16 * c ∧ k = 3) M M1 := by rw [e1]; exact (eqy.rfl' M).wl ⟨rfl, rfl⟩
    refine kk M1 (y1.mono (fun b k h => by omega)) ?_ (fun _ => by rw [e1, gl_at]; rfl)
    rw [if_neg (show ¬ (2 : Nat) = 0 by decide)]
    obtain ⟨k1, hw, hh, R0⟩ := hR
    exact ⟨(y1.i (by omega)).trans k1, hw, hh, rn0.eqR (by omega) R0 y1 (fun b k h => by omega) (R0.2.2.2.2.2.eqP y1 (fun b k h => by omega))⟩
  · rw [if_neg h3] at kk
    have hsr : stR (199 + 16 * c) = 187 := by unfold stR; rw [if_neg (by omega)]
    refine x_rstep (by omega) (by rw [hsr]; omega) (k1_mem _ ht12) hX hR (by omega) (by rw [hsr]; exact hW) (fun M' y R' v' => kk M' ?_ R' v')
    exact y.mono (fun b k h => by omega)
theorem x_t70 (hS : SI Ts c0 S) (hc : c < 8) (hq : (S.2.2.1 c).1.length ≠ 0) (hX : RPX M Ts c0 S c) (hb : pcb M (196 + 16 * c) (S.2.2.1 c)) (hwt : pcw M (196 + 16 * c) (S.2.2.1 c)) (hR : rnR M (199 + 16 * c) (25 + 12 * (S.2.2.1 c).1.headD 0) (Ts ((S.2.2.1 c).1.headD 0)).1 (Ts ((S.2.2.1 c).1.headD 0)).2.1 (Ts ((S.2.2.1 c).1.headD 0)).2.2.1 (Ts ((S.2.2.1 c).1.headD 0)).2.2.2 (beg Ts (S.2.2.1 c)).2.1 (beg Ts (S.2.2.1 c)).2.2 (beg Ts (S.2.2.1 c)).1) (hst : gi M (196 + 16 * c) 0 = 2) (kk : ∀ M', RPS M' Ts c0 (trn2 Ts S c (S.2.2.1 c) (out Ts S (S.2.2.1 c))).2 → K (trn2 Ts S c (S.2.2.1 c) (out Ts S (S.2.2.1 c))).1 M') : e_M_takeTurn_70 (c : Int) (196 + 16 * c) (((S.2.2.1 c).2.2.2.1 : Int) + 1) M K := by
  have hbeg := beg_ok hS hc hq
  have hout := out_ok hS hc hq
  have hcl := hS.2.2.2.2 c hc
  have ht12 : (S.2.2.1 c).1.headD 0 < 12 := by have := hS.1.1; omega
  have eA3 : 196 + 16 * c + 3 = 199 + 16 * c := by omega
  have eA4 : 196 + 16 * c + 4 = 199 + 16 * c + 1 := by omega
  show em_R_step (196 + 16 * c + 3) M _
  rw [eA3]
  refine x_ostep hS hc hq hX.2.1 hR (fun M1 y1 R1 v1 => ?_)
  have hle := out_le (Ts := Ts) (S := S) (cl := S.2.2.1 c)
  have hog := out_g (Ts := Ts) (S := S) (cl := S.2.2.1 c)
  have hos := out_sub (Ts := Ts) (S := S) (cl := S.2.2.1 c)
  have X1 : RPX M1 Ts c0 S c := hX.eq hS hc (fun b k h => ⟨(y1.1 b k (by omega)).1, (y1.1 b k (by omega)).2, by rw [y1.2]⟩)
  have b1 : pcb M1 (196 + 16 * c) (S.2.2.1 c) := hb.eq (fun b k h => (y1.1 b k (by omega)).1)
  have s1 : gi M1 (196 + 16 * c) 0 = 2 := (y1.i (by omega)).trans hst
  have wt1 : pcw M1 (196 + 16 * c) (S.2.2.1 c) := hwt.eq (fun b k h => (y1.1 b k (by omega)).1)
  generalize out Ts S (S.2.2.1 c) = o at *
  unfold trn2 at kk
  -- cut
  have cut : ¬ o.1.1 = 0 → stale S.1 o.2.2 = true → ∀ M2, M2 = M1 → e_M_takeTurn_111 (196 + 16 * c) M2 K := fun hn hs M2 e => by
    subst e
    rw [if_neg hn, if_pos hs] at kk
    refine x_cut (by rw [b1.2.1]; have := hcl.2.1; have := hS.2.2.1; exact inr_z (by omega) (by omega)) (fun M3 y3 a0 a1 a2 => ?_)
    rw [b1.2.1] at a1 a2
    refine kk M3 ((X1.eq hS hc (fun b k h => ⟨(y3.1 b k (by omega)).1, (y3.1 b k (by omega)).2, by rw [y3.2]⟩)).all ⟨⟨⟨?_, fun j hj => ?_⟩, a1, a2⟩, ?_, fun (q : (0 : Nat) = 1) => absurd q (by decide), fun (q : (0 : Nat) = 2) => absurd q (by decide)⟩)
    · exact (y3.i (by omega)).trans b1.1.1
    · exact (y3.i (by omega)).trans (b1.1.2 j hj)
    · rw [a0, if_neg hq]; rfl
  refine ⟨fun z => ?_, fun z => ⟨fun z3 => ?_, fun z3 => ?_⟩⟩
  · have z : o.1.1 = 0 := by omega
    rw [if_pos z] at kk R1
    refine kk M1 (X1.all ⟨b1, ?_, fun _ => ?_, fun (q : (1 : Nat) = 2) => absurd q (by decide)⟩)
    · rw [s1, if_neg hq]; rfl
    · rw [eA3]; exact R1
  · have z3 : o.1.1 = 3 := by omega
    exact cut (by omega) (hout.2.2.1 z3) M1 rfl
  have z : ¬ o.1.1 = 0 := by omega
  rw [if_neg z] at R1
  have hsr : stR (199 + 16 * c) = 187 := by unfold stR; rw [if_neg (by omega)]
  obtain ⟨k1, hw1, hhw1, R0⟩ := R1
  have hmk : (mP M1 (199 + 16 * c)).2.2.2 = gi M1 (199 + 16 * c + 2) 3 := rfl
  refine x_isStale (w := S.1) (r := o.2.2) (by rw [hsr]; exact X1.2.1) R0.2.2.2.2.2 ⟨fun hz => ?_, fun hz => ?_⟩
  · have hs : ¬ stale S.1 o.2.2 = true := fun q => by rw [if_pos q] at hz; exact absurd hz (by decide)
    rw [if_neg z, if_neg hs] at kk
    -- nothing is done
    have back : ∀ (zz : Int) M2 M3, M2 = wi M1 (199 + 16 * c) 2 (gi M (199 + 16 * c) 2) → M3 = wi M2 (196 + 16 * c) 0 (((S.2.2.1 c).2.2.2.1 : Int) + 1) → RPS M3 Ts c0 S := fun _ M2 M3 e2 e3 => by
      have y2 : eqy (fun b k => b = 199 + 16 * c ∧ k = 2) M1 M2 := by rw [e2]; exact (eqy.rfl' _).wi ⟨rfl, rfl⟩
      have y3 : eqy (fun b k => b = 196 + 16 * c ∧ k = 0) M2 M3 := by rw [e3]; exact (eqy.rfl' _).wi ⟨rfl, rfl⟩
      have y23 : eqy (fun b k => (b = 199 + 16 * c ∧ k = 2) ∨ (b = 196 + 16 * c ∧ k = 0)) M1 M3 := (y2.mono (fun b k h => Or.inl h)).trans (y3.mono (fun b k h => Or.inr h))
      have htg := hcl.2.2.2.2.1
      refine (X1.eq hS hc (fun b k h => ⟨(y23.1 b k (by omega)).1, (y23.1 b k (by omega)).2, by rw [y23.2]⟩)).self ⟨b1.eq (fun b k h => (y23.1 b k (by omega)).1), ?_, fun ht => ?_, wt1.eq (fun b k h => (y23.1 b k (by omega)).1)⟩
      · rw [e3, gi_at (inr_z (by omega) (by omega)), if_neg hq]
      · rw [eA3]
        have eb : beg Ts (S.2.2.1 c) = (S.2.2.1 c).2.2.2.2 := by unfold beg; rw [if_pos ht]
        rw [eb] at k1 hhw1 hos hog hR
        have R0' := R0
        rw [hog z] at R0'
        refine ⟨(y23.i (by omega)).trans k1, hw1, hhw1, rn0.eqR (by omega) R0' y23 (fun b k h => by omega) ⟨?_, fun l hl b => ?_⟩⟩
        · show M3.1 (199 + 16 * c) 2 = _
          rw [(y3.1 _ _ (by omega)).1, e2]
          show (rf_wi M1 (199 + 16 * c) 2 _).1 (199 + 16 * c) 2 = _
          rw [rf_wi_at, gi_ofi]
          obtain ⟨_, _, _, Rb⟩ := hR
          exact Rb.2.2.2.2.2.1
        · obtain ⟨q1, q2, q3⟩ := hos l hl b
          have q4 := R0.2.2.2.2.2.2 l hl q1
          exact ⟨((y23.l (by omega)).trans q4.1).trans q2, ((y23.1 _ _ (by omega)).1.trans q4.2).trans q3⟩
    have t151 : ∀ (z6 : Int) (zo : Int) (M2 : rf_M), M2 = M1 → (z6 = 0 → zo = -1) → (¬ z6 = 0 → zo = 6) → (∀ M', RPS M' Ts c0 S → K zo M') → e_M_takeTurn_151 (196 + 16 * c) (((S.2.2.1 c).2.2.2.1 : Int) + 1) (gi M (199 + 16 * c) 2) z6 M2 K := fun z6 zo M2 e h1 h2 hk => by
      subst e
      intro M3 e3 M4 e4
      rw [eA3] at e3
      have := hk M4 (back 0 M3 M4 e3 e4)
      exact ⟨fun q => by rw [h1 q] at this; exact this, fun q => by rw [h2 q] at this; exact this⟩
    refine ⟨fun z4 => ?_, fun z4 => ?_⟩
    · have z4 : o.1.1 = 4 := by omega
      rw [if_pos z4] at kk
      refine x_rest (fun M3 y3 a0 a2 a6 av => ?_)
      rw [eA3] at a6
      rw [eA4] at av
      refine kk M3 ((X1.eq hS hc (fun b k h => ⟨(y3.1 b k (by omega)).1, (y3.1 b k (by omega)).2, by rw [y3.2]⟩)).all ⟨⟨⟨?_, fun j hj => ?_⟩, ?_, a2⟩, ?_, fun (q : (2 : Nat) = 1) => absurd q (by decide), fun _ => ⟨?_, fun l hl b => ?_⟩⟩)
      · exact (y3.i (by omega)).trans b1.1.1
      · exact (y3.i (by omega)).trans (b1.1.2 j hj)
      · exact (y3.i (by omega)).trans b1.2.1
      · rw [a0, if_neg hq]; rfl
      · rw [a6]; exact R0.2.2.2.2.2.1
      · rw [av l hl]
        exact (R0.2.2.2.2.2.2 l hl b).2
    · have z4 : ¬ o.1.1 = 4 := by omega
      rw [if_neg z4] at kk
      have z12 : o.1.1 = 1 ∨ o.1.1 = 2 := by omega
      refine x_isHeld (S := S) (Ts := Ts) hc b1 X1.2.2.2.1 ?_
      by_cases hh : hel S c = true
      · rw [if_pos hh] at kk ⊢
        exact ⟨fun q => absurd q (by decide), fun _ => t151 1 6 M1 rfl (fun q => absurd q (by decide)) (fun _ => rfl) kk⟩
      · rw [if_neg hh] at kk ⊢
        refine ⟨fun _ => ?_, fun q => absurd rfl q⟩
        have grow : gi M1 324 0 = (S.2.2.2.length : Int) := X1.2.2.2.2.1
        refine x_isFull (by omega) (fun hf => ⟨fun _ => ?_, fun q => absurd rfl q⟩) (fun hf => ⟨fun q => absurd q (by decide), fun _ => ?_⟩)
        · rw [if_neg (by omega)] at kk
          refine x_closeRun (k := (beg Ts (S.2.2.1 c)).1) hS hc hq X1 b1 ⟨k1, hw1, hhw1, R0⟩ hbeg.2.1 hout.1 z12 v1 (by omega) (fun hy M' hM => ?_) (fun hy M' hM => ?_)
          · rw [if_pos hy] at kk
            exact kk M' hM
          · rw [if_neg hy] at kk
            exact kk M' hM
        · rw [if_pos (by omega)] at kk
          exact t151 0 (-1) M1 rfl (fun _ => rfl) (fun q => absurd rfl q) kk
  · have hs : stale S.1 o.2.2 = true := by
      by_cases q : stale S.1 o.2.2 = true
      · exact q
      · rw [if_neg q] at hz; exact absurd rfl hz
    exact cut z hs M1 rfl
/-- a turn -/
theorem x_takeTurn (hS : SI Ts c0 S) (hc : c < 8) (hP : RPS M Ts c0 S) (kk : ∀ M', RPS M' Ts c0 (trn Ts S c).2 → K (trn Ts S c).1 M') : em_M_takeTurn (c : Int) M K := by
  have hcl := hS.2.2.2.2 c hc
  obtain ⟨pb, ps, pr, pw⟩ := hP.2.2.2.1 c hc
  have htg := hcl.2.2.2.2.1
  have eA3 : 196 + 16 * c + 3 = 199 + 16 * c := by omega
  have eA1 : 196 + 16 * c + 1 = 197 + 16 * c := by omega
  have eA2 : 196 + 16 * c + 2 = 198 + 16 * c := by omega
  unfold trn at kk
  refine fun _ => ?_
  rw [clA_, ps]
  by_cases hq : (S.2.2.1 c).1.length = 0
  · rw [if_pos hq] at kk ⊢
    exact ⟨fun _ => kk M hP, fun q => absurd rfl q⟩
  rw [if_neg hq] at kk ⊢
  have hbeg := beg_ok hS hc hq
  have ht12 : (S.2.2.1 c).1.headD 0 < 12 := by have := hS.1.1; omega
  have hhd : gi M (197 + 16 * c) 0 = (((S.2.2.1 c).1.headD 0 : Nat) : Int) := by
    have := pb.1.2 0 (by omega)
    rw [eA1] at this
    rw [this]
    cases hl : (S.2.2.1 c).1 with
    | nil => rfl
    | cons x q => rfl
  have t37 : (∀ M', RPS M' Ts c0 (trn2 Ts S c (S.2.2.1 c) (out Ts S (S.2.2.1 c))).2 → K (trn2 Ts S c (S.2.2.1 c) (out Ts S (S.2.2.1 c))).1 M') → e_M_takeTurn_37 (c : Int) (196 + 16 * c) M K := fun kk2 => by
    refine ⟨fun h2 => ?_, fun h2 _ => ?_⟩
    · rw [ps, if_neg hq] at h2
      have ht : (S.2.2.1 c).2.2.2.1 = 1 := by omega
      rw [ps, if_neg hq]
      have eb : beg Ts (S.2.2.1 c) = (S.2.2.1 c).2.2.2.2 := by unfold beg; rw [if_pos ht]
      refine x_t70 hS hc hq hP.x pb pw ?_ (by rw [ps, if_neg hq]; omega) kk2
      rw [eb, ← eA3]
      exact pr ht
    · rw [ps, if_neg hq] at h2
      rw [eA1, hhd]
      have ht : ¬ (S.2.2.1 c).2.2.2.1 = 1 := by omega
      have eb : beg Ts (S.2.2.1 c) = (0, run0 (Ts ((S.2.2.1 c).1.headD 0)).2.2.2, rd0) := by unfold beg; rw [if_neg ht]
      refine fun _ => ?_
      rw [eA3, show pgA (((S.2.2.1 c).1.headD 0 : Nat) : Int) = 25 + 12 * (S.2.2.1 c).1.headD 0 by unfold pgA; rw [tn_], ps, if_neg hq]
      refine x_begin (by omega) (k1_mem _ ht12) (hS.1.2 _ hbeg.1) (hP.1 _ hbeg.1) (fun M1 f1 R1 M2 e2 => ?_)
      have y2 : eqy (fun b k => b = 196 + 16 * c ∧ k = 0) M1 M2 := by rw [e2]; exact (eqy.rfl' _).wi ⟨rfl, rfl⟩
      refine x_t70 hS hc hq (RPX.eq hS hc hP.x (fun b k h => ⟨((y2.1 b k (by omega)).1).trans (f1 b k (by omega)).1, ((y2.1 b k (by omega)).2).trans (f1 b k (by omega)).2.1, by rw [y2.2]; exact (f1 b k (by omega)).2.2⟩)) (pb.eq (fun b k h => ((y2.1 b k (by omega)).1).trans (f1 b k (by omega)).1)) (pw.eq (fun b k h => ((y2.1 b k (by omega)).1).trans (f1 b k (by omega)).1)) ?_ (by rw [e2, gi_at (inr_z (by omega) (by omega))]) kk2
      rw [eb]
      exact R1.eq3 (by omega) (fun b k h => ⟨(y2.1 b k (by omega)).1, (y2.1 b k (by omega)).2, by rw [y2.2]⟩)
  refine ⟨fun h => absurd h (by omega), fun _ => ⟨fun h3 => ?_, fun h3 => ?_⟩⟩
  · have ht : (S.2.2.1 c).2.2.2.1 = 2 := by omega
    have hwt := pw ht
    rw [eA2] at hwt
    show em_S_differs 187 (gi M (196 + 16 * c) 6) (196 + 16 * c + 2) M _
    rw [eA2]
    refine x_differs ?_
    rw [gi_ofi, stale_eq (w := S.1) (r := (S.2.2.1 c).2.2.2.2.2.2) (r' := (M.1 (196 + 16 * c) 6, fun _ => 0, fun l => M.1 (198 + 16 * c) l)) (fun l hl => (hP.2.1 l hl).2) hwt.1 (fun l hl b => hwt.2 l hl b)]
    cases hs : stale S.1 (S.2.2.1 c).2.2.2.2.2.2 with
    | false =>
      rw [if_pos ⟨ht, hs⟩] at kk
      rw [if_neg (by decide)]
      exact ⟨Or.inl rfl, fun _ => kk M hP, fun q => absurd rfl q⟩
    | true =>
      rw [if_neg (fun q => by rw [hs] at q; exact absurd q.2 (by decide))] at kk
      rw [if_pos rfl]
      exact ⟨Or.inr rfl, fun q => absurd q (by decide), fun _ => t37 kk⟩
  · rw [if_neg (fun q => by omega)] at kk
    exact t37 kk
end PT2
