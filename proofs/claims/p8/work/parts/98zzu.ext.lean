/-! A TEXT MORE; the program's text(); clear() -/
def exT (Ts : tsT) (c0 : Nat) (Y : txT × Nat × Nat × Int) : tsT := fun t => if t = c0 then Y else Ts t
section EXT
variable {M M' : rf_M} {c0 t : Nat} {Ts : tsT} {S : syT} {Y : txT × Nat × Nat × Int} {K : Int → rf_M → Prop}
theorem exT_lt (h : t < c0) : exT Ts c0 Y t = Ts t := if_neg (by omega)
theorem exT_at : exT Ts c0 Y c0 = Y := if_pos rfl
theorem SI_ext (h : SI Ts c0 S) (hc : c0 < 12) (hY : wfx Y.1 Y.2.1 Y.2.2.1 Y.2.2.2) : SI (exT Ts c0 Y) (c0 + 1) S := by
  obtain ⟨⟨h1, h2⟩, ⟨h3, h4⟩, h5, h6, h7⟩ := id h
  refine ⟨⟨by omega, fun t ht => ?_⟩, ⟨h3, fun q hq => ?_⟩, h5, h6, fun c hc' => ?_⟩
  · by_cases e : t = c0
    · rw [e, exT_at]; exact hY
    · rw [exT_lt (by omega)]; exact h2 t (by omega)
  · have := h4 q hq
    rw [exT_lt this.1]
    exact ⟨by omega, this.2⟩
  · obtain ⟨a1, a2, a3, a4, a5, a6, a7⟩ := h7 c hc'
    refine ⟨⟨a1.1, fun t ht => Nat.lt_succ_of_lt (a1.2 t ht)⟩, a2, a3, a4, a5, fun q => ?_, a7⟩
    rw [exT_lt (hd_c0 h hc' q)]
    exact a6 q
theorem RPS_ext (hS : SI Ts c0 S) (h : RPS M Ts c0 S) (hY : ptx M (25 + 12 * c0) Y.1 Y.2.1 Y.2.2.1 Y.2.2.2) : RPS M (exT Ts c0 Y) (c0 + 1) S := by
  obtain ⟨h1, h2, h3, h4, h5⟩ := h
  refine ⟨fun t ht => ?_, h2, h3, fun c hc => ?_, h5⟩
  · by_cases e : t = c0
    · rw [e, exT_at]; exact hY
    · rw [exT_lt (by omega)]; exact h1 t (by omega)
  · obtain ⟨p1, p2, p3, p4⟩ := h4 c hc
    refine ⟨p1, p2, fun q => ?_, p4⟩
    rw [exT_lt (hd_c0 hS hc q)]
    exact p3 q
theorem RPL_ext (h : RPL M Ts c0) : RPL M (exT Ts c0 Y) (c0 + 1) := by
  obtain ⟨⟨rs, h1, h2, h3⟩, h4⟩ := h
  refine ⟨⟨rs, h1, fun q hq => ?_, h3⟩, h4⟩
  have := h2 q hq
  rw [exT_lt this.1]
  exact ⟨by omega, this.2⟩
theorem RRS_ext (hS : SI Ts c0 S) (h : RRS M Ts c0 S) (hY : rtx M c0 Y.1 Y.2.1 Y.2.2.1 Y.2.2.2) : RRS M (exT Ts c0 Y) (c0 + 1) S := by
  obtain ⟨h1, h2, h3, h4, h5⟩ := h
  refine ⟨fun t ht => ?_, h2, ⟨h3.1, fun j hj => ?_⟩, h4, h5⟩
  · by_cases e : t = c0
    · rw [e, exT_at]; exact hY
    · rw [exT_lt (by omega)]; exact h1 t (by omega)
  · have hq := (hS.2.1.2 (S.2.1.getD j (0, 0)) (by rw [gD_ hj]; exact List.getElem_mem hj)).1
    have := h3.2 j hj
    unfold rex at this ⊢
    rw [exT_lt hq]
    exact this
theorem RRS.fr (hS : SI Ts c0 S) (h : RRS M Ts c0 S) (e : ∀ b k, 353 ≤ b → M'.1 b k = M.1 b k ∧ M'.2.1 b k = M.2.1 b k) : RRS M' Ts c0 S := by
  have y : eqy (fun b _ => b < 353) M (M'.1, M'.2.1, M.2.2) := ⟨fun b k q => e b k (by omega), rfl⟩
  have q := h.eq hS y (fun b k z => by unfold pvR at z; omega)
  exact q
theorem RRS.tx {r : Nat} (hS : SI Ts c0 S) (h : RRS M Ts c0 S) (hr : c0 ≤ r) (e : eqy (txW r) M M') : RRS M' Ts c0 S := by
  have h' : RRS (M'.1, M'.2.1, M'.2.2) Ts c0 S := by
    obtain ⟨h1, h2, h3, h4, h5⟩ := h
    have h32 := hS.2.1.1
    have nn : ∀ b k, 376 ≤ b → ¬ txW r b k := fun b k z => by unfold txW teW; omega
    refine ⟨fun t ht => ?_, h2.eqR e (fun b k z => nn b k (by omega)), h3.eq e (fun b k z => nn b k (by omega)), fun c hc => ?_, h5.eq e (fun b k z => by unfold txW teW; omega)⟩
    · obtain ⟨a1, a2, a3⟩ := h1 t ht
      have hw := hS.1.2 t ht
      have n40 := hw.1
      have c160 := hw.2.1
      have g : ∀ b k, 358 ≤ b → b ≤ 370 → b ≠ 359 → (b = 358 → k = t) → (360 ≤ b → b ≤ 367 → k < 40 * t + 40) → (368 ≤ b → k < 200 * t + 160) → ¬ txW r b k := fun b k z1 z2 z6 z3 z4 z5 => by
        unfold txW teW
        omega
      refine ⟨(e.i (g _ _ (by omega) (by omega) (by omega) (fun _ => rfl) (by omega) (by omega))).trans a1, fun s hs => ?_, fun i hi => ?_⟩
      · obtain ⟨b0, b1, b2, b3, b4, b5, b6, b7, b8⟩ := a2 s hs
        have gg : ∀ b, 360 ≤ b → b ≤ 367 → gi M' b (40 * t + s) = gi M b (40 * t + s) := fun b z1 z2 => e.i (g _ _ (by omega) (by omega) (by omega) (by omega) (by omega) (by omega))
        exact ⟨(gg _ (by omega) (by omega)).trans b0, (gg _ (by omega) (by omega)).trans b1, (gg _ (by omega) (by omega)).trans b2, (gg _ (by omega) (by omega)).trans b3, fun z => (gg _ (by omega) (by omega)).trans (b4 z), fun z => (gg _ (by omega) (by omega)).trans (b5 z), (gg _ (by omega) (by omega)).trans b6, (gg _ (by omega) (by omega)).trans b7, fun z => (gg _ (by omega) (by omega)).trans (b8 z)⟩
      · obtain ⟨b0, b1, b2⟩ := a3 i hi
        exact ⟨(e.i (g _ _ (by omega) (by omega) (by omega) (by omega) (by omega) (by omega))).trans b0, fun z => (e.i (g _ _ (by omega) (by omega) (by omega) (by omega) (by omega) (by omega))).trans (b1 z), fun z => (e.l (g _ _ (by omega) (by omega) (by omega) (by omega) (by omega) (by omega))).trans (b2 z)⟩
    · obtain ⟨b1, b2⟩ := h4 c hc
      have hl := (hS.2.2.2.2 c hc).1.1
      exact ⟨b1.eq hl e (fun b k z => nn b k (by omega)), b2.eq e (fun b k z => nn b k (by omega)) (fun _ z => z)⟩
  exact h'
/-- clear(): the replay begins anew -/
theorem x_clearL (kk : ∀ z M', RPL M' Ts c0 → K z M') : em_M_clear M K := by
  intro M1 e1
  refine x_Sreset (st := 187) (fun M2 y2 w2 r2 => x_Sreset (st := 332) (fun M3 y3 _ r3 M4 e4 M5 e5 => ?_))
  have k1 : gi M5 331 1 = 0 := by rw [e5, gi_of (Or.inr (by omega)), e4, gi_at (inr_z (by omega) (by omega))]
  have k2 : gi M5 332 2 = 0 := by rw [e5, gi_of (Or.inl (by omega)), e4, gi_of (Or.inl (by omega))]; exact r3
  refine ⟨fun v1 v2 M' => ∃ j : Nat, v2 = (j : Int) ∧ j ≤ 8 ∧ eqy (fun b k => (196 ≤ b ∧ b < 324)) M5 M', ⟨0, rfl, by omega, eqy.rfl' _⟩, ?_⟩
  rintro v1 v2 M6 - - ⟨j, rfl, hj, y6⟩
  refine ⟨fun h M7 e7 => ?_, fun h _ => ?_⟩
  · have y7 : eqy (fun b k => b = 22 ∧ k = 4) M6 M7 := by rw [e7]; exact (eqy.rfl' _).wi ⟨rfl, rfl⟩
    have g1 : gi M7 331 1 = 0 := (y7.i (by omega)).trans ((y6.i (by omega)).trans k1)
    have g2 : gi M7 332 2 = 0 := (y7.i (by omega)).trans ((y6.i (by omega)).trans k2)
    exact kk _ M7 ⟨⟨[], ⟨g2, fun j hj => absurd hj (by show ¬ j < 0; omega)⟩, fun q hq => (by cases hq), by show 0 ≤ 32; omega⟩, by omega, by omega⟩
  · rw [clA_]
    intro M7 e7 M8 e8 M9 e9 M10 e10
    have y10 : eqy (fun b k => b = 196 + 16 * j ∧ (k = 0 ∨ k = 5 ∨ k = 1 ∨ k = 2)) M6 M10 := by
      rw [e10, e9, e8, e7]
      exact ((((eqy.rfl' _).wi ⟨rfl, by omega⟩).wi ⟨rfl, by omega⟩).wi ⟨rfl, by omega⟩).wi ⟨rfl, by omega⟩
    exact ⟨inr_z (by omega) (by omega), j + 1, by omega, by omega, y6.trans (y10.mono (fun b k h => by omega))⟩
end EXT
/-- parse, as text() calls it -/
def Prx (fz : Bool) (Sg : gS) (x0 : Nat) (x1 : Int) (x2 : Nat) (M : rf_M) (K : Int → rf_M → Prop) : Prop := x0 = 23 ∧ x2 ∈ k1 ∧ sc_S fz Sg ∧ sc_M fz Sg (rf_wq M 170 4 (some 23)) ∧ ∃ n : Nat, x1 = (n : Int) ∧ n ≤ 800 ∧ ∀ z M', inr z → prsx x2 (p_T (M.1 23) n) M z M' → K z M'
theorem l_text {fz : Bool} {Sg : gS} {B M : rf_M} {K : Int → rf_M → Prop} (hS : rl Sg) (hR : fl 22 353 B M) (h : em_M_text (Prx fz Sg) M K) (n0 : Nat) : lx (cx0 fz) n0 16 0 (lv_args 0 [.ref 22]) [] (M, Sg) (vl_i 22 353 B Sg K) := by
  refine E_M_text_m (Pr := Prx fz Sg) hS hR (fun n' _ x0 x1 x2 M K a b c d h => ?_) h
  obtain ⟨rfl, hp, hSS, hM, n, rfl, hn, kk⟩ := h
  refine lx_mono (l_parse (K := fun z M' => prsx x2 (p_T (M.1 23) n) M z M') hS a hp hn hSS hM (fun _ _ q => q) n') ?_
  rintro r h' ⟨z, M', e1, e2, f, iz, q⟩
  exact ⟨z, M', e1, e2, f, iz, kk z M' iz q⟩
def txF (c0 : Nat) (M M' : rf_M) : Prop := (∀ a k, ¬ (25 + 12 * c0 ≤ a ∧ a ≤ 36 + 12 * c0) → ¬ (169 ≤ a ∧ a ≤ 173) → a ≠ 22 → M'.1 a k = M.1 a k ∧ M'.2.1 a k = M.2.1 a k) ∧ ∀ a k, ¬ (a = 169 ∧ k = 1) → ¬ (a = 170 ∧ k = 4) → M'.2.2 a k = M.2.2 a k
def txA (T : tK) (c0 : Nat) (M' : rf_M) : Prop := ∃ n j s c u first, dSs (κT T) (νT T) (XP M' (25 + 12 * c0)) (dB (κT T) (νT T) (XP M' (25 + 12 * c0)) 8) (-1) 0 0 n 0 0 0 j s c first u ∧ κT T j = 0 ∧ ptx M' (25 + 12 * c0) (XP M' (25 + 12 * c0)) s c first ∧ s ≤ 40 ∧ c ≤ 2 * u ∧ u ≤ 60
theorem x_text {fz : Bool} {Sg : gS} {M : rf_M} {n c0 : Nat} {K : Int → rf_M → Prop} (h1 : gi M 22 1 = (n : Int)) (hn : n ≤ 800) (h3 : gi M 22 3 = (c0 : Int)) (hc : c0 ≤ 12) (hSS : sc_S fz Sg) (hM : sc_M fz Sg (rf_wq M 170 4 (some 23))) (kk : ∀ z M', txF c0 M M' → ((z = -1 ∨ z = -2) ∧ gi M' 22 3 = (c0 : Int)) ∨ (z = (c0 : Int) ∧ c0 < 12 ∧ gi M' 22 3 = (c0 : Int) + 1 ∧ txA (p_T (M.1 23) n) c0 M') → K z M') : em_M_text (Prx fz Sg) M K := by
  have epg : pgA (gi M 22 3) = 25 + 12 * c0 := by unfold pgA; rw [h3, tn_]
  refine ⟨fun hlt _ => ?_, fun _ => kk (-1) M ⟨fun _ _ _ _ _ => ⟨rfl, rfl⟩, fun _ _ _ _ => rfl⟩ (Or.inl ⟨Or.inl rfl, h3⟩)⟩
  rw [epg]
  have hc12 : c0 < 12 := by omega
  refine ⟨rfl, k1_mem c0 hc12, hSS, hM, n, h1, hn, fun z1 M1 iz q M2 e2 M3 e3 => ?_⟩
  obtain ⟨⟨q1, q2⟩, q3⟩ := q
  have y3 : eqy (fun b k => b = 22 ∧ (k = 1 ∨ k = 4)) M1 M3 := by rw [e3, e2]; exact ((eqy.rfl' _).wi ⟨rfl, Or.inr rfl⟩).wi ⟨rfl, Or.inl rfl⟩
  have g3 : gi M3 22 3 = (c0 : Int) := (y3.i (by omega)).trans ((congrArg Int32.toInt (q1 22 3 (by omega) (by omega)).1).trans h3)
  have g4 : gi M3 22 4 = z1 := by rw [e3, gi_of (Or.inr (by omega)), e2, gi_at iz]
  have F3 : ∀ M4, eqy (fun b k => b = 22) M3 M4 → txF c0 M M4 := fun M4 y4 => by
    refine ⟨fun a k z1 z2 z3 => ?_, fun a k z1 z2 => ?_⟩
    · have a4 := y4.1 a k z3
      have a3 := y3.1 a k (by omega)
      have a1 := q1 a k (by omega) z2
      exact ⟨a4.1.trans (a3.1.trans a1.1), a4.2.trans (a3.2.trans a1.2)⟩
    · rw [y4.2, y3.2]
      exact q2 a k z1 z2
  refine ⟨fun w M4 e4 => ?_, fun _ => kk (-2) M3 (F3 M3 (eqy.rfl' _)) (Or.inl ⟨Or.inr rfl, g3⟩)⟩
  have y4 : eqy (fun b k => b = 22) M3 M4 := by rw [e4]; exact (eqy.rfl' _).wi rfl
  have g5 : gi M4 22 3 = (c0 : Int) + 1 := by rw [e4, gi_at (by rw [g3]; exact inr_z (by omega) (by omega)), g3]
  rw [g5, show (c0 : Int) + 1 - 1 = (c0 : Int) by omega]
  refine ⟨inr_z (by omega) (by omega), kk (c0 : Int) M4 (F3 M4 y4) (Or.inr ⟨rfl, hc12, g5, ?_⟩)⟩
  obtain ⟨n', j, s, c, u, first, d1, d2, d3, d4, d5, d6, d7, d8⟩ := q3 (g4.symm.trans w)
  have xx : XP M4 (25 + 12 * c0) = XP M1 (25 + 12 * c0) := (XP_same y4 (fun b k z1 z2 => by omega)).trans (XP_same y3 (fun b k z1 z2 => by omega))
  have gg : ∀ k, gi M4 (25 + 12 * c0) k = gi M1 (25 + 12 * c0) k := fun k => (y4.i (by omega)).trans (y3.i (by omega))
  refine ⟨n', j, s, c, u, first, by rw [xx]; exact d1, d2, ⟨⟨(gg 0).trans d3, (gg 3).trans d4, (gg 4).trans d5⟩, fun s _ => ⟨rfl, rfl, rfl, rfl, rfl, rfl, rfl, rfl, rfl⟩, fun i _ => ⟨rfl, rfl⟩⟩, d6, d7, d8⟩
