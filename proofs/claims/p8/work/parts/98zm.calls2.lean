/-! the calls that only tell; clear -/
def celS (S : syT) (z : Int) : Int64 := if 0 ≤ z ∧ z < 16 then S.1.1 z.toNat else 0
def verS (S : syT) (z : Int) : Int := if 0 ≤ z ∧ z < 16 then (S.1.2 z.toNat).toInt else -1
def rowS (S : syT) (i w : Int) : Int := if 0 ≤ i ∧ i < (S.2.2.2.length : Int) then (if w = 0 then (S.2.2.2.getD i.toNat ((0, 0, 0, 0, 0), 0)).1.1 else if w = 1 then (S.2.2.2.getD i.toNat ((0, 0, 0, 0, 0), 0)).1.2.1 else if w = 2 then (S.2.2.2.getD i.toNat ((0, 0, 0, 0, 0), 0)).1.2.2.1 else if w = 3 then (S.2.2.2.getD i.toNat ((0, 0, 0, 0, 0), 0)).1.2.2.2.1 else if w = 4 then (S.2.2.2.getD i.toNat ((0, 0, 0, 0, 0), 0)).1.2.2.2.2 else -1) else -1
def valS (S : syT) (i : Int) : Int64 := if 0 ≤ i ∧ i < (S.2.2.2.length : Int) then (S.2.2.2.getD i.toNat ((0, 0, 0, 0, 0), 0)).2 else 0
section PCb
variable {M M' : rf_M} {c0 c : Nat} {K : Int → rf_M → Prop} {Ts : tsT} {S : syT}
theorem ptxs.eq' {P : Nat → Nat → Prop} (h : ptxs M Ts c0) (h12 : c0 ≤ 12) (e : eqy P M M') (q : ∀ b k, 25 ≤ b → b ≤ 168 → ¬ P b k) : ptxs M' Ts c0 := fun t ht => (h t ht).eq e (fun b k h1 h2 => q b k (by omega) (by omega))
/-- an idle client needs its own cells alone -/
theorem pclN_eq {A : Nat} (h : pcl M Ts A clN) (e : ∀ k, M'.1 A k = M.1 A k) : pcl M' Ts A clN := ⟨⟨⟨(congrArg Int32.toInt (e 5)).trans h.1.1.1, fun i hi => absurd hi (by show ¬ i < 0; omega)⟩, (congrArg Int32.toInt (e 1)).trans h.1.2.1, (congrArg Int32.toInt (e 2)).trans h.1.2.2⟩, (congrArg Int32.toInt (e 0)).trans h.2.1, fun (q : (0 : Nat) = 1) => absurd q (by decide), fun (q : (0 : Nat) = 2) => absurd q (by decide)⟩
theorem x_cell {z : Int} {K : Int64 → rf_M → Prop} (hP : RPS M Ts c0 S) (kk : K (celS S z) M) : em_M_cell z M K := by
  unfold celS at kk
  refine x_isCell (fun h => ⟨fun q => absurd q (by decide), fun _ _ => ?_⟩) (fun h => ⟨fun _ => ?_, fun q => absurd rfl q⟩)
  · rw [if_pos h] at kk
    show K (gl M 188 z.toNat) M
    rw [show gl M 188 z.toNat = S.1.1 z.toNat from (hP.2.1 _ (by omega)).1]
    exact kk
  · rw [if_neg h] at kk
    exact kk
theorem x_version {z : Int} (hP : RPS M Ts c0 S) (kk : K (verS S z) M) : em_M_version z M K := by
  unfold verS at kk
  refine x_isCell (fun h => ⟨fun q => absurd q (by decide), fun _ _ => ?_⟩) (fun h => ⟨fun _ => ?_, fun q => absurd rfl q⟩)
  · rw [if_pos h] at kk
    show K (gi M 189 z.toNat) M
    rw [show gi M 189 z.toNat = (S.1.2 z.toNat).toInt from congrArg Int32.toInt (hP.2.1 _ (by omega)).2]
    exact kk
  · rw [if_neg h] at kk
    exact kk
theorem x_rules (hP : RPS M Ts c0 S) (kk : K (S.2.1.length : Int) M) : em_M_rules M K := by
  show K (gi M 187 2) M
  rw [hP.2.2.1.1]
  exact kk
theorem x_rows (hP : RPS M Ts c0 S) (kk : K (S.2.2.2.length : Int) M) : em_M_rows M K := by
  show K (gi M 324 0) M
  rw [hP.2.2.2.2.1]
  exact kk
theorem x_Jhas {i : Int} (hS : SI Ts c0 S) (hP : RPS M Ts c0 S) (h1 : 0 ≤ i ∧ i < (S.2.2.2.length : Int) → K 1 M) (h0 : ¬ (0 ≤ i ∧ i < (S.2.2.2.length : Int)) → K 0 M) : em_J_has i M K := by
  have g := hP.2.2.2.2.1
  have h3 := hS.2.2.1
  refine ⟨fun h => ⟨Or.inl rfl, h0 (by omega)⟩, fun h => ⟨fun h' => ⟨Or.inl rfl, h0 (by omega)⟩, fun h' => ⟨fun h'' => ⟨Or.inl rfl, h0 (by omega)⟩, fun h'' => ⟨Or.inr rfl, h1 (by omega)⟩⟩⟩⟩
theorem x_row {i w : Int} (hS : SI Ts c0 S) (hP : RPS M Ts c0 S) (kk : K (rowS S i w) M) : em_M_row i w M K := by
  unfold rowS at kk
  refine x_Jhas hS hP (fun h => ⟨fun q => absurd q (by decide), fun _ => ?_⟩) (fun h => ⟨fun _ => ?_, fun q => absurd rfl q⟩)
  · rw [if_pos h] at kk
    obtain ⟨a1, a2, a3, a4, a5, a6⟩ := hP.2.2.2.2.2 i.toNat (by omega)
    refine ⟨fun e _ => ?_, fun e _ => ?_, fun e _ => ?_, fun e _ => ?_, fun e _ => ?_, fun e => ?_⟩
    · rw [if_pos e, ← a1] at kk; exact kk
    · rw [if_neg (by omega), if_pos e, ← a2] at kk; exact kk
    · rw [if_neg (by omega), if_neg (by omega), if_pos e, ← a3] at kk; exact kk
    · rw [if_neg (by omega), if_neg (by omega), if_neg (by omega), if_pos e, ← a4] at kk; exact kk
    · rw [if_neg (by omega), if_neg (by omega), if_neg (by omega), if_neg (by omega), if_pos e, ← a5] at kk; exact kk
    · rw [if_neg e.1, if_neg e.2.1, if_neg e.2.2.1, if_neg e.2.2.2.1, if_neg e.2.2.2.2] at kk; exact kk
  · rw [if_neg h] at kk
    exact kk
theorem x_value {i : Int} {K : Int64 → rf_M → Prop} (hS : SI Ts c0 S) (hP : RPS M Ts c0 S) (kk : K (valS S i) M) : em_M_value i M K := by
  unfold valS at kk
  refine x_Jhas hS hP (fun h => ⟨fun q => absurd q (by decide), fun _ _ => ?_⟩) (fun h => ⟨fun _ => ?_, fun q => absurd rfl q⟩)
  · rw [if_pos h] at kk
    obtain ⟨a1, a2, a3, a4, a5, a6⟩ := hP.2.2.2.2.2 i.toNat (by omega)
    rw [← a6] at kk
    exact kk
  · rw [if_neg h] at kk
    exact kk
theorem x_sees {x y : Int} {K : Int64 → rf_M → Prop} (hS : SI Ts c0 S) (hP : RPS M Ts c0 S) (kk : K (seesS S x y) M) : em_M_sees x y M K := by
  unfold seesS at kk
  have no : ¬ (0 ≤ x ∧ x < 8 ∧ 0 ≤ y ∧ y < 26) → e_M_sees_18 M K := fun h => by rw [if_neg h] at kk; exact kk
  refine x_isClient (fun hx => ⟨fun q => absurd q (by decide), fun _ => ⟨fun h => no (by omega), fun h => ⟨fun h' _ => ?_, fun h' => no (by omega)⟩⟩⟩) (fun hx => ⟨fun _ => no (by omega), fun q => absurd rfl q⟩)
  obtain ⟨c, rfl⟩ : ∃ c : Nat, x = (c : Int) := ⟨x.toNat, by omega⟩
  have hc : c < 8 := by omega
  rw [if_pos ⟨by omega, by omega, by omega, by omega⟩, tn_] at kk
  obtain ⟨pb, ps, pr, pw⟩ := hP.2.2.2.1 c hc
  have hcl := hS.2.2.2.2 c hc
  rw [clA_, ps]
  refine ⟨fun h2 _ => ?_, fun h2 => ?_⟩
  · have ht : (S.2.2.1 c).2.2.2.1 = 1 := by
      by_cases q : (S.2.2.1 c).1.length = 0
      · rw [if_pos q] at h2; omega
      · rw [if_neg q] at h2; omega
    rw [if_pos ht] at kk
    have hsr : stR (196 + 16 * c + 3) = 187 := by unfold stR; rw [if_neg (by omega)]
    obtain ⟨_, _, _, R0⟩ := pr ht
    exact x_shows (w := S.1) (m := (S.2.2.1 c).2.2.2.2.2.1.2.1) (r := (S.2.2.1 c).2.2.2.2.2.2) (by rw [hsr]; exact hP.2.1) R0.2.2.2.2.1.1 R0.2.2.2.2.2 kk
  · have ht : ¬ (S.2.2.1 c).2.2.2.1 = 1 := fun q => h2 (by
      rw [if_neg (fun z => by have := hcl.2.2.2.1 z; omega), q]
      rfl)
    rw [if_neg ht] at kk
    refine x_isCell (fun h16 => ⟨fun q => absurd q (by decide), fun _ _ => ?_⟩) (fun h16 => ⟨fun _ => ?_, fun q => absurd rfl q⟩)
    · rw [if_pos (by omega)] at kk
      show K (gl M 188 y.toNat) M
      rw [show gl M 188 y.toNat = S.1.1 y.toNat from (hP.2.1 _ (by omega)).1]
      exact kk
    · rw [if_neg (by omega)] at kk
      exact kk
theorem x_fillJ {b : Nat} {K : rf_M → Prop} (kk : ∀ M', eqy (fun a _ => a = b) M M' → (∀ l, l < 16 → gl M' b l = 0) → K M') : em_F_fillJ16 b (Int64.ofNat 0) M K := by
  refine ⟨fun v0 v1 v3 v4 M' => v0 = b ∧ v1 = Int64.ofNat 0 ∧ v4 = 16 ∧ ∃ j : Nat, v3 = (j : Int) ∧ j ≤ 16 ∧ eqy (fun a _ => a = b) M M' ∧ ∀ l, l < j → gl M' b l = 0, ⟨rfl, rfl, rfl, 0, rfl, by omega, eqy.rfl' M, fun l h => absurd h (by omega)⟩, ?_⟩
  rintro v0 v1 v3 v4 M1 - - ⟨rfl, rfl, rfl, j, rfl, hj, y1, h1⟩
  refine ⟨fun h => kk M1 y1 (fun l hl => h1 l (by omega)), fun h _ M2 e2 => ⟨inr_z (by omega) (by omega), rfl, rfl, rfl, j + 1, by omega, by omega, by rw [e2]; exact y1.wl rfl, fun l hl => ?_⟩⟩
  rw [tn_] at e2
  by_cases e : l = j
  · rw [e, e2, gl_at]; rfl
  · rw [e2, gl_of (Or.inr e)]; exact h1 l (by omega)
theorem x_fillI {b : Nat} {K : rf_M → Prop} (kk : ∀ M', eqy (fun a _ => a = b) M M' → (∀ l, l < 16 → M'.1 b l = 0) → K M') : em_F_fillI16 b 0 M K := by
  refine ⟨fun v0 v1 v2 v3 M' => v0 = b ∧ v1 = 0 ∧ v3 = 16 ∧ ∃ j : Nat, v2 = (j : Int) ∧ j ≤ 16 ∧ eqy (fun a _ => a = b) M M' ∧ ∀ l, l < j → M'.1 b l = 0, ⟨rfl, rfl, rfl, 0, rfl, by omega, eqy.rfl' M, fun l h => absurd h (by omega)⟩, ?_⟩
  rintro v0 v1 v2 v3 M1 - - - ⟨rfl, rfl, rfl, j, rfl, hj, y1, h1⟩
  refine ⟨fun h => kk M1 y1 (fun l hl => h1 l (by omega)), fun h _ M2 e2 => ⟨inr_z (by omega) (by omega), rfl, rfl, rfl, j + 1, by omega, by omega, by rw [e2]; exact y1.wi rfl, fun l hl => ?_⟩⟩
  rw [tn_] at e2
  by_cases e : l = j
  · rw [e, e2]
    show (rf_wi M1 v0 j _).1 v0 j = 0
    rw [rf_wi_at]
    rfl
  · rw [e2]
    show (rf_wi M1 v0 j _).1 v0 l = 0
    rw [rf_wi_of _ _ (Or.inr e)]
    exact h1 l (by omega)
theorem x_Sreset {st : Nat} {K : rf_M → Prop} (kk : ∀ M', eqy (fun b k => b = st + 1 ∨ b = st + 2 ∨ (b = st ∧ k = 2)) M M' → weq wd0 (wS M' st) → gi M' st 2 = 0 → K M') : em_S_reset st M K := by
  refine x_fillJ (fun M1 y1 z1 => x_fillI (fun M2 y2 z2 M3 e3 => ?_))
  have y3 : eqy (fun b k => b = st ∧ k = 2) M2 M3 := by rw [e3]; exact (eqy.rfl' _).wi ⟨rfl, rfl⟩
  refine kk M3 (((y1.mono (fun b k h => by omega)).trans (y2.mono (fun b k h => by omega))).trans (y3.mono (fun b k h => by omega))) (fun l hl => ⟨?_, ?_⟩) (by rw [e3, gi_at (inr_z (by omega) (by omega))])
  · show gl M3 (st + 1) l = 0
    rw [y3.l (by omega), y2.l (by omega)]
    exact z1 l hl
  · show M3.1 (st + 2) l = 0
    rw [(y3.1 _ _ (by omega)).1]
    exact z2 l hl
theorem x_clear (hS : SI Ts c0 S) (hP : RPS M Ts c0 S) (kk : ∀ M', RPS M' Ts c0 (clrS S).2 → K (clrS S).1 M') : em_M_clear M K := by
  intro M1 e1
  rw [hP.2.2.2.2.1]
  have y1 : eqy (fun b k => b = 324 ∧ k = 0) M M1 := by rw [e1]; exact (eqy.rfl' M).wi ⟨rfl, rfl⟩
  refine x_Sreset (st := 187) (fun M2 y2 w2 r2 => x_Sreset (st := 332) (fun M3 y3 _ _ M4 e4 M5 e5 => ?_))
  have y5 : eqy (fun b k => b = 331 ∧ (k = 1 ∨ k = 2)) M3 M5 := by rw [e5, e4]; exact ((eqy.rfl' _).wi ⟨rfl, by omega⟩).wi ⟨rfl, by omega⟩
  have y15 : eqy (fun b k => (b = 324 ∧ k = 0) ∨ (187 ≤ b ∧ b ≤ 189) ∨ (331 ≤ b)) M M5 := (((y1.mono (fun b k h => by omega)).trans (y2.mono (fun b k h => by omega))).trans (y3.mono (fun b k h => by omega))).trans (y5.mono (fun b k h => by omega))
  have w5 : weq wd0 (wS M5 187) := (w2.eqP y3 (fun b k h => by omega)).eqP y5 (fun b k h => by omega)
  have r5 : gi M5 187 2 = 0 := (y5.i (by omega)).trans ((y3.i (by omega)).trans r2)
  have n5 : gi M5 324 0 = 0 := by
    rw [y5.i (by omega), y3.i (by omega), y2.i (by omega), e1, gi_at (inr_z (by omega) (by omega))]
  refine ⟨fun v1 v2 M' => v1 = (S.2.2.2.length : Int) ∧ ∃ j : Nat, v2 = (j : Int) ∧ j ≤ 8 ∧ eqy (fun b k => (196 ≤ b ∧ b < 324)) M5 M' ∧ ∀ c, c < j → pcl M' Ts (196 + 16 * c) clN, ⟨rfl, 0, rfl, by omega, eqy.rfl' _, fun c h => absurd h (by omega)⟩, ?_⟩
  rintro v1 v2 M6 - - ⟨rfl, j, rfl, hj, y6, h6⟩
  refine ⟨fun h M7 e7 => ?_, fun h _ => ?_⟩
  · have y7 : eqy (fun b k => b = 22 ∧ k = 4) M6 M7 := by rw [e7]; exact (eqy.rfl' _).wi ⟨rfl, rfl⟩
    refine kk M7 ⟨?_, ?_, ⟨?_, fun j hj => absurd hj (by show ¬ j < 0; omega)⟩, fun c hc => ?_, ?_, fun i hi => absurd hi (by show ¬ i < 0; omega)⟩
    · exact ((hP.1.eq hS.1.1 y15 (fun b k h => by omega)).eq hS.1.1 y6 (fun b k h => by omega)).eq' hS.1.1 y7 (fun b k _ _ => by omega)
    · exact (w5.eqP y6 (fun b k h => by omega)).eqP y7 (fun b k h => by omega)
    · rw [y7.i (by omega), y6.i (by omega), r5]; rfl
    · exact pclN_eq (h6 c (by omega)) (fun k => (y7.1 _ _ (by omega)).1)
    · rw [y7.i (by omega), y6.i (by omega), n5]; rfl
  · rw [clA_]
    intro M7 e7 M8 e8 M9 e9 M10 e10
    have y10 : eqy (fun b k => b = 196 + 16 * j ∧ (k = 0 ∨ k = 5 ∨ k = 1 ∨ k = 2)) M6 M10 := by
      rw [e10, e9, e8, e7]
      exact ((((eqy.rfl' _).wi ⟨rfl, by omega⟩).wi ⟨rfl, by omega⟩).wi ⟨rfl, by omega⟩).wi ⟨rfl, by omega⟩
    refine ⟨inr_z (by omega) (by omega), rfl, j + 1, by omega, by omega, y6.trans (y10.mono (fun b k h => by omega)), fun c hc => ?_⟩
    by_cases e : c = j
    · subst e
      refine ⟨⟨⟨?_, fun i hi => absurd hi (by show ¬ i < 0; omega)⟩, ?_, ?_⟩, ?_, fun (q : (0 : Nat) = 1) => absurd q (by decide), fun (q : (0 : Nat) = 2) => absurd q (by decide)⟩
      · rw [e10, gi_of (Or.inr (by omega)), e9, gi_of (Or.inr (by omega)), e8, gi_at (inr_z (by omega) (by omega))]; rfl
      · rw [e10, gi_of (Or.inr (by omega)), e9, gi_at (inr_z (by omega) (by omega))]; rfl
      · rw [e10, gi_at (inr_z (by omega) (by omega))]; rfl
      · rw [e10, gi_of (Or.inr (by omega)), e9, gi_of (Or.inr (by omega)), e8, gi_of (Or.inr (by omega)), e7, gi_at (inr_z (by omega) (by omega))]; rfl
    · exact pclN_eq (h6 c (by omega)) (fun k => (y10.1 _ _ (by omega)).1)
end PCb
