/-! THE PROGRAM'S replays() leaves all as it was but for its replay -/
/-- the replay's store holds rules that are there -/
def RPL (M : rf_M) (Ts : tsT) (c0 : Nat) : Prop := (∃ rs, prs M 332 rs ∧ (∀ q ∈ rs, q.1 < c0 ∧ vld (Ts q.1).1 (Ts q.1).2.1 q.2) ∧ rs.length ≤ 32) ∧ 0 ≤ gi M 331 1 ∧ gi M 331 1 ≤ 300
section PRL

variable {M M' : rf_M} {c0 c p a n cc k hw : Nat} {X : txT} {en : Int} {K : Int → rf_M → Prop} {Ts : tsT} {S : syT} {P : Nat → Nat → Prop} {g : sgT} {r : rdT}

theorem rnR.eq4 (R : rnR M a p X n cc en g r k) (e : ∀ b k, (a ≤ b ∧ b ≤ a + 12) ∨ (p ≤ b ∧ b ≤ p + 11) → M'.1 b k = M.1 b k ∧ M'.2.1 b k = M.2.1 b k ∧ M'.2.2 b k = M.2.2 b k) : rnR M' a p X n cc en g r k := by
  obtain ⟨hk, hw, hh, r1, r2, r3, r4, r5, r6⟩ := R
  have y : eqy (fun b _ => ¬ ((a ≤ b ∧ b ≤ a + 12) ∨ (p ≤ b ∧ b ≤ p + 11))) M (M'.1, M'.2.1, M.2.2) := ⟨fun b k q => ⟨(e b k (Classical.not_not.mp q)).1, (e b k (Classical.not_not.mp q)).2.1⟩, rfl⟩
  have t2 : ptx (M'.1, M'.2.1, M.2.2) p X n cc en := r2.eq y (fun b k h1 h2 => fun q => q (Or.inr ⟨h1, h2⟩))
  have t5 : grl X (fun z => z) hw g (vP (M'.1, M'.2.1, M.2.2) a X) := by
    rw [vP_eq y (fun b k h1 h2 => fun q => q (by omega))]; exact r5
  have t6 : req r (rP (M'.1, M'.2.1, M.2.2) a) := r6.eqP y (fun b k h => fun q => q (by omega))
  exact ⟨(congrArg Int32.toInt (e a 1 (by omega)).1).trans hk, hw, hh, (e a 0 (by omega)).2.2.trans r1, t2, (congrArg Int32.toInt (e a 6 (by omega)).1).trans r3, r4, t5, t6⟩
theorem hd_c0 (hS : SI Ts c0 S) {k : Nat} (hk : k < 8) : (S.2.2.1 k).2.2.2.1 = 1 → (S.2.2.1 k).1.headD 0 < c0 := fun q => by
  have hq : (S.2.2.1 k).1.length ≠ 0 := fun z => by
    have := (hS.2.2.2.2 k hk).2.2.2.1 z
    omega
  exact (beg_ok hS hk hq).1
theorem RPS.fr (hS : SI Ts c0 S) (h : RPS M Ts c0 S) (e : ∀ b k, (25 ≤ b ∧ b < 25 + 12 * c0) ∨ (187 ≤ b ∧ b ≤ 330) → M'.1 b k = M.1 b k ∧ M'.2.1 b k = M.2.1 b k ∧ M'.2.2 b k = M.2.2 b k) : RPS M' Ts c0 S := by
  obtain ⟨h1, h2, h3, h4, h5⟩ := h
  have y : eqy (fun b _ => ¬ ((25 ≤ b ∧ b < 25 + 12 * c0) ∨ (187 ≤ b ∧ b ≤ 330))) M (M'.1, M'.2.1, M.2.2) := ⟨fun b k q => ⟨(e b k (Classical.not_not.mp q)).1, (e b k (Classical.not_not.mp q)).2.1⟩, rfl⟩
  refine ⟨fun t ht => (by have q := (h1 t ht).eq y (fun b k a1 a2 => fun q => q (by omega)); exact q), (by have q := h2.eqP y (fun b k h => fun q => q (by omega)); exact q), ⟨(y.i (a := 187) (k := 2) (fun q => q (by omega))).trans h3.1, fun j hj => ⟨(e 190 j (by omega)).2.2.trans (h3.2 j hj).1, (y.i (a := 191) (k := j) (fun q => q (by omega))).trans (h3.2 j hj).2⟩⟩, fun c hc => ?_, h5.eq (fun b k a1 a2 => ⟨(e b k (by omega)).1, (e b k (by omega)).2.1⟩)⟩
  obtain ⟨p1, p2, p3, p4⟩ := h4 c hc
  refine ⟨p1.eq (fun b k h => (e b k (by omega)).1), (congrArg Int32.toInt (e _ 0 (by omega)).1).trans p2, fun q => ?_, p4.eq (fun b k h => (e b k (by omega)).1)⟩
  have hh := hd_c0 hS hc q
  exact (p3 q).eq4 (fun b k h => e b k (by omega))
theorem RPL.fr (h : RPL M Ts c0) (e : ∀ b k, (b = 331 ∧ k = 1) ∨ (b = 332 ∧ k = 2) ∨ b = 335 ∨ b = 336 → M'.1 b k = M.1 b k ∧ M'.2.2 b k = M.2.2 b k) : RPL M' Ts c0 := by
  obtain ⟨⟨rs, h1, h2, h3⟩, h4⟩ := h
  have g : ∀ b k, (b = 331 ∧ k = 1) ∨ (b = 332 ∧ k = 2) ∨ b = 335 ∨ b = 336 → gi M' b k = gi M b k := fun b k z => congrArg Int32.toInt (e b k z).1
  refine ⟨⟨rs, ⟨(g 332 2 (by omega)).trans h1.1, fun j hj => ⟨(e 335 j (by omega)).2.trans (h1.2 j hj).1, (g 336 j (by omega)).trans (h1.2 j hj).2⟩⟩, h2, h3⟩, ?_⟩
  rw [g 331 1 (by omega)]
  exact h4
theorem eqy.t3 (y : eqy P M M') {b k : Nat} (q : ¬ P b k) : M'.1 b k = M.1 b k ∧ M'.2.1 b k = M.2.1 b k ∧ M'.2.2 b k = M.2.2 b k := ⟨(y.1 b k q).1, (y.1 b k q).2, by rw [y.2]⟩
end PRL
/-! A TEXT MORE; the program's text(); clear() -/
def exT (Ts : tsT) (c0 : Nat) (Y : txT × Nat × Nat × Int) : tsT := fun t => if t = c0 then Y else Ts t
section EXT

variable {M M' : rf_M} {c0 t : Nat} {Ts : tsT} {S : syT} {Y : txT × Nat × Nat × Int} {K : Int → rf_M → Prop}

theorem exT_lt (h : t < c0) : exT Ts c0 Y t = Ts t := if_neg (by omega)
theorem exT_at : exT Ts c0 Y c0 = Y := if_pos rfl
theorem SI_ext (h : SI Ts c0 S) (hc : c0 < 12) (hY : wfx Y.1 Y.2.1 Y.2.2.1 Y.2.2.2) : SI (exT Ts c0 Y) (c0 + 1) S := by
  obtain ⟨⟨h1, h2⟩, ⟨h3, h4⟩, h5, h6, h7⟩ := id h
  refine ⟨⟨by omega, fun t ht => ?_⟩, ⟨h3, fun q hq => ?_⟩, h5, h6, fun c hc' => ?_⟩
  · by_cases e : t = c0
    · rw [e, exT_at]; exact hY
    · rw [exT_lt (by omega)]; exact h2 t (by omega)
  · have := h4 q hq
    rw [exT_lt this.1]
    exact ⟨by omega, this.2⟩
  · obtain ⟨a1, a2, a3, a4, a5, a6, a7⟩ := h7 c hc'
    refine ⟨⟨a1.1, fun t ht => Nat.lt_succ_of_lt (a1.2 t ht)⟩, a2, a3, a4, a5, fun q => ?_, a7⟩
    rw [exT_lt (hd_c0 h hc' q)]
    exact a6 q
theorem RPS_ext (hS : SI Ts c0 S) (h : RPS M Ts c0 S) (hY : ptx M (25 + 12 * c0) Y.1 Y.2.1 Y.2.2.1 Y.2.2.2) : RPS M (exT Ts c0 Y) (c0 + 1) S := by
  obtain ⟨h1, h2, h3, h4, h5⟩ := h
  refine ⟨fun t ht => ?_, h2, h3, fun c hc => ?_, h5⟩
  · by_cases e : t = c0
    · rw [e, exT_at]; exact hY
    · rw [exT_lt (by omega)]; exact h1 t (by omega)
  · obtain ⟨p1, p2, p3, p4⟩ := h4 c hc
    refine ⟨p1, p2, fun q => ?_, p4⟩
    rw [exT_lt (hd_c0 hS hc q)]
    exact p3 q
theorem RRS_ext (hS : SI Ts c0 S) (h : RRS M Ts c0 S) (hY : rtx M c0 Y.1 Y.2.1 Y.2.2.1 Y.2.2.2) : RRS M (exT Ts c0 Y) (c0 + 1) S := by
  obtain ⟨h1, h2, h3, h4, h5⟩ := h
  refine ⟨fun t ht => ?_, h2, ⟨h3.1, fun j hj => ?_⟩, h4, h5⟩
  · by_cases e : t = c0
    · rw [e, exT_at]; exact hY
    · rw [exT_lt (by omega)]; exact h1 t (by omega)
  · have hq := (hS.2.1.2 (S.2.1.getD j (0, 0)) (by rw [gD_ hj]; exact List.getElem_mem hj)).1
    have := h3.2 j hj
    unfold rex at this ⊢
    rw [exT_lt hq]
    exact this
theorem RRS.fr (hS : SI Ts c0 S) (h : RRS M Ts c0 S) (e : ∀ b k, 353 ≤ b → M'.1 b k = M.1 b k ∧ M'.2.1 b k = M.2.1 b k) : RRS M' Ts c0 S := by
  have y : eqy (fun b _ => b < 353) M (M'.1, M'.2.1, M.2.2) := ⟨fun b k q => e b k (by omega), rfl⟩
  have q := h.eq hS y (fun b k z => by unfold pvR at z; omega)
  exact q
theorem RRS.tx {r : Nat} (hS : SI Ts c0 S) (h : RRS M Ts c0 S) (hr : c0 ≤ r) (e : eqy (txW r) M M') : RRS M' Ts c0 S := by
  have h' : RRS (M'.1, M'.2.1, M'.2.2) Ts c0 S := by
    obtain ⟨h1, h2, h3, h4, h5⟩ := h
    have h32 := hS.2.1.1
    have nn : ∀ b k, 376 ≤ b → ¬ txW r b k := fun b k z => by unfold txW teW; omega
    refine ⟨fun t ht => ?_, h2.eqR e (fun b k z => nn b k (by omega)), h3.eq e (fun b k z => nn b k (by omega)), fun c hc => ?_, h5.eq e (fun b k z => by unfold txW teW; omega)⟩
    · obtain ⟨a1, a2, a3⟩ := h1 t ht
      have hw := hS.1.2 t ht
      have n40 := hw.1
      have c160 := hw.2.1
      have g : ∀ b k, 358 ≤ b → b ≤ 370 → b ≠ 359 → (b = 358 → k = t) → (360 ≤ b → b ≤ 367 → k < 40 * t + 40) → (368 ≤ b → k < 200 * t + 160) → ¬ txW r b k := fun b k z1 z2 z6 z3 z4 z5 => by
        unfold txW teW
        omega
      refine ⟨(e.i (g _ _ (by omega) (by omega) (by omega) (fun _ => rfl) (by omega) (by omega))).trans a1, fun s hs => ?_, fun i hi => ?_⟩
      · obtain ⟨b0, b1, b2, b3, b4, b5, b6, b7, b8⟩ := a2 s hs
        have gg : ∀ b, 360 ≤ b → b ≤ 367 → gi M' b (40 * t + s) = gi M b (40 * t + s) := fun b z1 z2 => e.i (g _ _ (by omega) (by omega) (by omega) (by omega) (by omega) (by omega))
        exact ⟨(gg _ (by omega) (by omega)).trans b0, (gg _ (by omega) (by omega)).trans b1, (gg _ (by omega) (by omega)).trans b2, (gg _ (by omega) (by omega)).trans b3, fun z => (gg _ (by omega) (by omega)).trans (b4 z), fun z => (gg _ (by omega) (by omega)).trans (b5 z), (gg _ (by omega) (by omega)).trans b6, (gg _ (by omega) (by omega)).trans b7, fun z => (gg _ (by omega) (by omega)).trans (b8 z)⟩
      · obtain ⟨b0, b1, b2⟩ := a3 i hi
        exact ⟨(e.i (g _ _ (by omega) (by omega) (by omega) (by omega) (by omega) (by omega))).trans b0, fun z => (e.i (g _ _ (by omega) (by omega) (by omega) (by omega) (by omega) (by omega))).trans (b1 z), fun z => (e.l (g _ _ (by omega) (by omega) (by omega) (by omega) (by omega) (by omega))).trans (b2 z)⟩
    · obtain ⟨b1, b2⟩ := h4 c hc
      have hl := (hS.2.2.2.2 c hc).1.1
      exact ⟨b1.eq hl e (fun b k z => nn b k (by omega)), b2.eq e (fun b k z => nn b k (by omega)) (fun _ z => z)⟩
  exact h'
end EXT

/-- parse, as text() calls it -/
def Prx (fz : Bool) (Sg : gS) (x0 : Nat) (x1 : Int) (x2 : Nat) (M : rf_M) (K : Int → rf_M → Prop) : Prop := x0 = 23 ∧ x2 ∈ k1 ∧ sc_S fz Sg ∧ sc_M fz Sg (rf_wq M 170 4 (some 23)) ∧ ∃ n : Nat, x1 = (n : Int) ∧ n ≤ 800 ∧ ∀ z M', inr z → prsx x2 (p_T (M.1 23) n) M z M' → K z M'
theorem l_text {fz : Bool} {Sg : gS} {B M : rf_M} {K : Int → rf_M → Prop} (hS : rl Sg) (hR : fl 22 353 B M) (h : em_M_text (Prx fz Sg) M K) (n0 : Nat) : lx (cx0 fz) n0 16 0 (lv_args 0 [.ref 22]) [] (M, Sg) (vl_i 22 353 B Sg K) := by
  refine E_M_text_m (Pr := Prx fz Sg) hS hR (fun n' _ x0 x1 x2 M K a b c d h => ?_) h
  obtain ⟨rfl, hp, hSS, hM, n, rfl, hn, kk⟩ := h
  refine lx_mono (l_parse (K := fun z M' => prsx x2 (p_T (M.1 23) n) M z M') hS a hp hn hSS hM (fun _ _ q => q) n') ?_
  rintro r h' ⟨z, M', e1, e2, f, iz, q⟩
  exact ⟨z, M', e1, e2, f, iz, kk z M' iz q⟩
def txF (c0 : Nat) (M M' : rf_M) : Prop := (∀ a k, ¬ (25 + 12 * c0 ≤ a ∧ a ≤ 36 + 12 * c0) → ¬ (169 ≤ a ∧ a ≤ 173) → a ≠ 22 → M'.1 a k = M.1 a k ∧ M'.2.1 a k = M.2.1 a k) ∧ ∀ a k, ¬ (a = 169 ∧ k = 1) → ¬ (a = 170 ∧ k = 4) → M'.2.2 a k = M.2.2 a k
def txA (T : tK) (c0 : Nat) (M' : rf_M) : Prop := ∃ n j s c u first, dSs (κT T) (νT T) (XP M' (25 + 12 * c0)) (dB (κT T) (νT T) (XP M' (25 + 12 * c0)) 8) (-1) 0 0 n 0 0 0 j s c first u ∧ κT T j = 0 ∧ ptx M' (25 + 12 * c0) (XP M' (25 + 12 * c0)) s c first ∧ s ≤ 40 ∧ c ≤ 2 * u ∧ u ≤ 60
theorem x_text {fz : Bool} {Sg : gS} {M : rf_M} {n c0 : Nat} {K : Int → rf_M → Prop} (h1 : gi M 22 1 = (n : Int)) (hn : n ≤ 800) (h3 : gi M 22 3 = (c0 : Int)) (hc : c0 ≤ 12) (hSS : sc_S fz Sg) (hM : sc_M fz Sg (rf_wq M 170 4 (some 23))) (kk : ∀ z M', txF c0 M M' → ((z = -1 ∨ z = -2) ∧ gi M' 22 3 = (c0 : Int)) ∨ (z = (c0 : Int) ∧ c0 < 12 ∧ gi M' 22 3 = (c0 : Int) + 1 ∧ txA (p_T (M.1 23) n) c0 M') → K z M') : em_M_text (Prx fz Sg) M K := by
  have epg : pgA (gi M 22 3) = 25 + 12 * c0 := by unfold pgA; rw [h3, tn_]
  refine ⟨fun hlt _ => ?_, fun _ => kk (-1) M ⟨fun _ _ _ _ _ => ⟨rfl, rfl⟩, fun _ _ _ _ => rfl⟩ (Or.inl ⟨Or.inl rfl, h3⟩)⟩
  rw [epg]
  have hc12 : c0 < 12 := by omega
  refine ⟨rfl, k1_mem c0 hc12, hSS, hM, n, h1, hn, fun z1 M1 iz q M2 e2 M3 e3 => ?_⟩
  obtain ⟨⟨q1, q2⟩, q3⟩ := q
  have y3 : eqy (fun b k => b = 22 ∧ (k = 1 ∨ k = 4)) M1 M3 := by rw [e3, e2]; exact ((eqy.rfl' _).wi ⟨rfl, Or.inr rfl⟩).wi ⟨rfl, Or.inl rfl⟩
  have g3 : gi M3 22 3 = (c0 : Int) := (y3.i (by omega)).trans ((congrArg Int32.toInt (q1 22 3 (by omega) (by omega)).1).trans h3)
  have g4 : gi M3 22 4 = z1 := by rw [e3, gi_of (Or.inr (by omega)), e2, gi_at iz]
  have F3 : ∀ M4, eqy (fun b k => b = 22) M3 M4 → txF c0 M M4 := fun M4 y4 => by
    refine ⟨fun a k z1 z2 z3 => ?_, fun a k z1 z2 => ?_⟩
    · have a4 := y4.1 a k z3
      have a3 := y3.1 a k (by omega)
      have a1 := q1 a k (by omega) z2
      exact ⟨a4.1.trans (a3.1.trans a1.1), a4.2.trans (a3.2.trans a1.2)⟩
    · rw [y4.2, y3.2]
      exact q2 a k z1 z2
  refine ⟨fun w M4 e4 => ?_, fun _ => kk (-2) M3 (F3 M3 (eqy.rfl' _)) (Or.inl ⟨Or.inr rfl, g3⟩)⟩
  have y4 : eqy (fun b k => b = 22) M3 M4 := by rw [e4]; exact (eqy.rfl' _).wi rfl
  have g5 : gi M4 22 3 = (c0 : Int) + 1 := by rw [e4, gi_at (by rw [g3]; exact inr_z (by omega) (by omega)), g3]
  rw [g5, show (c0 : Int) + 1 - 1 = (c0 : Int) by omega]
  refine ⟨inr_z (by omega) (by omega), kk (c0 : Int) M4 (F3 M4 y4) (Or.inr ⟨rfl, hc12, g5, ?_⟩)⟩
  obtain ⟨n', j, s, c, u, first, d1, d2, d3, d4, d5, d6, d7, d8⟩ := q3 (g4.symm.trans w)
  have xx : XP M4 (25 + 12 * c0) = XP M1 (25 + 12 * c0) := (XP_same y4 (fun b k z1 z2 => by omega)).trans (XP_same y3 (fun b k z1 z2 => by omega))
  have gg : ∀ k, gi M4 (25 + 12 * c0) k = gi M1 (25 + 12 * c0) k := fun k => (y4.i (by omega)).trans (y3.i (by omega))
  refine ⟨n', j, s, c, u, first, by rw [xx]; exact d1, d2, ⟨⟨(gg 0).trans d3, (gg 3).trans d4, (gg 4).trans d5⟩, fun s _ => ⟨rfl, rfl, rfl, rfl, rfl, rfl, rfl, rfl, rfl⟩, fun i _ => ⟨rfl, rfl⟩⟩, d6, d7, d8⟩
/-! THE REFERENCE'S feed, end, place, told, client leave texts, store, clients, rows alone -/
section WFM
variable {M M' : rf_M} {c0 n : Nat} {Ts : tsT} {S : syT} {K : Int → rf_M → Prop}
theorem y_feed {v1 v2 v3 v4 v5 : Int} (h2 : gi M 353 2 = (n : Int)) (hn : n ≤ 800) (kk : ∀ z M', eqy (fun a k => (a = 353 ∧ (k = 0 ∨ k = 2)) ∨ a = 354) M M' → K z M') : em_W_feed v1 v2 v3 v4 v5 M K := by
  intro M1 e1
  have y1 : eqy (fun a k => (a = 353 ∧ (k = 0 ∨ k = 2)) ∨ a = 354) M M1 := by rw [e1]; exact (eqy.rfl' M).wi (Or.inl ⟨rfl, Or.inl rfl⟩)
  have g2 : gi M1 353 2 = (n : Int) := by rw [e1, gi_of (Or.inr (by omega)), h2]
  rw [g2]
  refine ⟨inr_z (by omega) (by omega), fun _ => ?_, fun _ => kk (-1) M1 y1⟩
  refine ⟨fun _ _ _ _ _ v6 N => (0 ≤ v6 ∧ v6 ≤ 20) ∧ eqy (fun a k => (a = 353 ∧ (k = 0 ∨ k = 2)) ∨ a = 354) M N, ⟨by omega, y1⟩, ?_⟩
  rintro v1 v2 v3 v4 v5 v6 N - - - - - - ⟨hv, yN⟩
  have k78 : ¬ 20 ≤ v6 → ∀ s0, e_W_feed_78 v1 v2 v3 v4 v5 v6 s0 N (fun _ _ _ _ _ v6 N => (0 ≤ v6 ∧ v6 ≤ 20) ∧ eqy (fun a k => (a = 353 ∧ (k = 0 ∨ k = 2)) ∨ a = 354) M N) K := by
    intro h20 s0 _ N1 f1 N2 f2
    refine ⟨inr_z (by omega) (by omega), by omega, ?_⟩
    rw [f2, f1]
    exact (yN.wi (Or.inr rfl)).wi (Or.inl ⟨rfl, Or.inr rfl⟩)
  exact ⟨fun _ => kk _ N yN, fun h20 => ⟨fun _ => k78 h20 _, fun _ => ⟨fun _ => k78 h20 _, fun _ => ⟨fun _ => k78 h20 _, fun _ => ⟨fun _ => k78 h20 _, fun _ => k78 h20 _⟩⟩⟩⟩⟩
theorem y_endc {v1 : Int} (kk : ∀ z M', eqy (fun a k => (a = 353 ∧ (k = 0 ∨ k = 2)) ∨ a = 354) M M' → K z M') : em_W_end v1 M K := by
  intro M1 e1
  have y1 : eqy (fun a k => (a = 353 ∧ (k = 0 ∨ k = 2)) ∨ a = 354) M M1 := by rw [e1]; exact (eqy.rfl' M).wi (Or.inl ⟨rfl, Or.inl rfl⟩)
  exact ⟨fun _ => kk (-1) M1 y1, fun _ => ⟨fun _ => kk (-1) M1 y1, fun _ => ⟨fun _ M2 e2 => kk _ M2 (by rw [e2]; exact y1.wi (Or.inl ⟨rfl, Or.inr rfl⟩)), fun _ => kk (-1) M1 y1⟩⟩⟩
theorem y_placec (kk : ∀ z M', eqy (fun a k => (a = 353 ∧ (k = 0 ∨ k = 2)) ∨ a = 354) M M' → K z M') : em_W_place M K := by
  intro M1 e1
  exact kk _ M1 (by rw [e1]; exact (eqy.rfl' M).wi (Or.inl ⟨rfl, Or.inl rfl⟩))
theorem y_toldc {v1 v2 : Int} (kk : ∀ z M', eqy (fun a k => (a = 353 ∧ (k = 0 ∨ k = 2)) ∨ a = 354) M M' → K z M') : em_W_told v1 v2 M K := by
  intro M1 e1
  have y1 : eqy (fun a k => (a = 353 ∧ (k = 0 ∨ k = 2)) ∨ a = 354) M M1 := by rw [e1]; exact (eqy.rfl' M).wi (Or.inl ⟨rfl, Or.inl rfl⟩)
  exact ⟨fun _ => kk (-1) M1 y1, fun _ => ⟨fun _ => ⟨fun _ _ => kk _ M1 y1, fun _ => ⟨fun _ _ => kk _ M1 y1, fun _ => ⟨fun _ _ => kk _ M1 y1, fun _ => kk _ M1 y1⟩⟩⟩, fun _ => kk (-1) M1 y1⟩⟩
theorem y_client {x y : Int} (hS : SI Ts c0 S) (hR : RRS M Ts c0 S) (kk : ∀ z M', RRS M' Ts c0 S → K z M') : em_W_client x y M K := by
  intro M1 e1
  have R1 := hR.code hS e1
  have no : e_W_client_23 M1 K := kk (-1) M1 R1
  refine y_isClient (fun hx => ⟨fun q => absurd q (by decide), fun _ => ⟨fun _ => no, fun h => ⟨fun h' _ => ?_, fun _ => no⟩⟩⟩) (fun hx => ⟨fun _ => no, fun q => absurd rfl q⟩)
  obtain ⟨c, rfl⟩ : ∃ c : Nat, x = (c : Int) := ⟨x.toNat, by omega⟩
  have hc : c < 8 := by omega
  obtain ⟨rb, rs⟩ := R1.2.2.2.1 c hc
  have hcl := hS.2.2.2.2 c hc
  have htg := hcl.2.2.2.2.1
  have h382 : 0 ≤ gi M1 382 c ∧ gi M1 382 c ≤ 2 := by
    have : (S.2.2.1 c).2.2.2.1 = 0 ∨ (S.2.2.1 c).2.2.2.1 = 1 ∨ (S.2.2.1 c).2.2.2.1 = 2 := by omega
    rcases this with t | t | t
    · rcases rs.2.1 t with a | ⟨a1, -⟩ <;> omega
    · have := (rs.1 t).1; omega
    · rcases rs.2.2 t with ⟨a, -⟩ | ⟨a1, -⟩ <;> omega
  have wlk : ¬ (S.2.2.1 c).1.length = 0 → gi M1 382 c = 1 → ∀ K' : rf_M → Prop, (∀ M3, RRS M3 Ts c0 S → K' M3) → em_W_walkAnew (c : Int) M1 K' := by
    intro hq h1 K' k'
    have hbeg := beg_ok hS hc hq
    have hc0 := hS.1.1
    have ht12 := hbeg.1
    have hX := hS.1.2 _ ht12
    have k383 : gi M1 383 c = ((beg Ts (S.2.2.1 c)).1 : Int) ∧ req (beg Ts (S.2.2.1 c)).2.2 (rC M1 c) := by
      by_cases ht : (S.2.2.1 c).2.2.2.1 = 1
      · have eb : beg Ts (S.2.2.1 c) = (S.2.2.1 c).2.2.2.2 := by unfold beg; rw [if_pos ht]
        rw [eb]
        exact ⟨(rs.1 ht).2.1, (rs.1 ht).2.2⟩
      · have eb : beg Ts (S.2.2.1 c) = (0, run0 (Ts ((S.2.2.1 c).1.headD 0)).2.2.2, rd0) := by unfold beg; rw [if_neg ht]
        rw [eb]
        have h36 : gi M1 383 c = 0 ∧ gi M1 386 c = 0 := by
          have : (S.2.2.1 c).2.2.2.1 = 0 ∨ (S.2.2.1 c).2.2.2.1 = 2 := by omega
          rcases this with t | t
          · rcases rs.2.1 t with a | ⟨a1, a2, a3⟩
            · omega
            · exact ⟨a2, a3⟩
          · rcases rs.2.2 t with ⟨a, _⟩ | ⟨a1, a2, a3, _⟩
            · omega
            · exact ⟨a2, a3⟩
        refine ⟨h36.1, ⟨?_, fun l _ b => ?_⟩⟩
        · show M1.1 386 c = 0
          exact Int32.toInt_inj.mp (by rw [show (M1.1 386 c).toInt = gi M1 386 c from rfl, h36.2]; rfl)
        · rw [show bt rd0.1 l = false from bt_0 l] at b; cases b
    refine y_walkAnew (w := S.1) (r := (beg Ts (S.2.2.1 c)).2.2) (g := (beg Ts (S.2.2.1 c)).2.1) (k := (beg Ts (S.2.2.1 c)).1) hc (by omega) hX (R1.1 _ ht12) (y_hd rb hq) k383.1 k383.2 R1.2.1 (hbeg.2.2.1 S.1 _ (rsub.rfl' _)) hbeg.2.1 (fun M3 y3 d3 W3 => k' M3 ?_)
    exact R1.eq hS y3 (fun b k a => by unfold pvR at a; unfold waW stW; omega)
  have k59 : ∀ v3 s0 : Int, (s0 = 0 ∨ (¬ (S.2.2.1 c).1.length = 0 ∧ gi M1 382 c = 1)) → e_W_client_59 (c : Int) y v3 s0 M1 K := by
    intro v3 s0 hs0
    refine ⟨fun _ => ⟨fun _ _ => ?_, fun _ => kk 0 M1 R1⟩, fun _ _ => kk _ M1 R1, fun _ => ⟨fun _ => ⟨inr_z (by omega) (by omega), fun _ => kk _ M1 R1⟩, fun _ => kk _ M1 R1⟩, fun _ _ => kk _ M1 R1, fun _ _ => kk _ M1 R1, fun _ _ => kk _ M1 R1, fun _ _ => ⟨fun _ => kk 0 M1 R1, fun _ => kk 1 M1 R1⟩, fun _ => ⟨fun _ => kk 0 M1 R1, fun h0 => ?_⟩⟩
    · rw [tn_]
      exact ⟨inr_z (by omega) (by omega), kk _ M1 R1⟩
    · rcases hs0 with w | ⟨w1, w2⟩
      · exact absurd w h0
      · exact wlk w1 w2 _ (fun M3 R3 => ⟨fun _ => kk _ M3 R3, fun _ => kk _ M3 R3⟩)
  rw [tn_, rb.1.1]
  refine ⟨fun h0 => ⟨fun w => absurd w (by decide), fun _ => k59 1 0 (Or.inl rfl)⟩, fun h0 => ⟨fun _ _ => ?_, fun w => absurd rfl w⟩⟩
  rw [tn_]
  exact ⟨fun h1 => k59 0 1 (Or.inr ⟨by omega, h1⟩), fun _ => k59 0 0 (Or.inl rfl)⟩
end WFM
/-! BOTH, EXACTLY: what holds between two calls -/
theorem nI_inj {a b : Nat} (ha : a ≤ 100000) (hb : b ≤ 100000) (h : nI a = nI b) : a = b := by
  have := congrArg Int32.toInt h
  rw [nI_int ha, nI_int hb] at this
  omega
theorem rl_HK (fz : Bool) (L : Nat) (xs : Nat → Int32) : rl (HK fz L xs).2 := ⟨by rw [HK_n]; decide, fun a h1 h2 => by rw [HK_shp fz L xs h1, K2_shp fz h1 h2]⟩
theorem lx_and {cx : rf_C} {n i pc : Nat} {ls : rf_L} {st : List Value} {h : rf_H} {Q Q' : Option Value → rf_H → Prop} (k : lx cx n i pc ls st h Q) (k' : lx cx n i pc ls st h Q') : lx cx n i pc ls st h (fun r h' => Q r h' ∧ Q' r h') := fun m hm d r h' he => ⟨k m hm d r h' he, k' m hm d r h' he⟩
theorem fl.up {B M : rf_M} (h : fl 22 331 B M) : fl 22 353 B M := ⟨fun a k q => h.1 a k (fun w => q ⟨w.1, by omega⟩), h.2⟩
section UPF

variable {fz : Bool} {L : Nat} {xs : Nat → Int32} {jx jm : Nat} {as : List Value} {b b' : Bool}

end UPF
/-! THE PAIRS, EXACTLY -/
def trnF (z : Int) (Ts : tsT) (_ : Nat) (S : syT) : Int × syT := if 0 ≤ z ∧ z < 8 then trn Ts S z.toNat else (-1, S)
def plyF (s : Int64) (n : Int) (Ts : tsT) (_ : Nat) (S : syT) : Int × syT := if 0 ≤ n ∧ n ≤ 2000 then plyS Ts n.toNat s 0 S else (-1, S)
theorem SI_trnF {z : Int} {Ts : tsT} {c : Nat} {S : syT} (h : SI Ts c S) : SI Ts c (trnF z Ts c S).2 := by
  unfold trnF
  split
  · exact SI_trn h (by omega)
  · exact h
theorem SI_plyF {s : Int64} {n : Int} {Ts : tsT} {c : Nat} {S : syT} (h : SI Ts c S) : SI Ts c (plyF s n Ts c S).2 := by
  unfold plyF
  split
  · exact SI_ply _ _ _ _ h
  · exact h
section GP

variable (fz : Bool) (L : Nat) (xs : Nat → Int32) (b' : Bool)

end GP
/-! THE OTHER PAIRS; the beginning -/
theorem rg_lo : (List.range 329).all (fun i => decide (2 ≤ xk_rg (i + 24))) = true := by decide +kernel
theorem rfF_ok : rfF.all (fun q => decide (24 ≤ q.1) || (decide (q.1 = 22) && !(decide (q.2.1 = 1)))) = true := by decide +kernel
def qmd (md : List (Nat × Nat)) : Bool := md.all (fun q => decide (q = (0, 2)) || decide (q = (1, 0)))
section QTP

variable {fz : Bool} {L : Nat} {xs : Nat → Int32} {jx jm : Nat} {as : List Value} {b : Bool}

theorem sq_fl {M M' : rf_M} {md : List (Nat × Nat)} (hm : qmd md = true) (hf : sx_fr (xk_W fz L xs) md M M') (hk : kfr M) : fl 22 353 M M' ∧ M'.1 22 3 = M.1 22 3 ∧ ∀ a k, 24 ≤ a → sx_same M M' a k := by
  have hq : ∀ q ∈ md, q = (0, 2) ∨ q = (1, 0) := fun q h => by
    have := List.all_eq_true.mp hm q h
    simpa using this
  have s22 : ∀ k, k ≠ 1 → sx_same M M' 22 k := fun k hk1 => by
    refine hf 22 k (Or.inr ?_)
    show (xk_rg 22, 0) ∉ md ∧ (xk_rg 22, k + 1) ∉ md
    have e : xk_rg 22 = 0 := rfl
    rw [e]
    constructor
    · intro h
      rcases hq _ h with w | w <;> (injection w with w1 w2; omega)
    · intro h
      rcases hq _ h with w | w <;> (injection w with w1 w2; omega)
  have s24 : ∀ a k, 24 ≤ a → sx_same M M' a k := fun a k ha => by
    refine hf a k (Or.inr ?_)
    show (xk_rg a, 0) ∉ md ∧ (xk_rg a, k + 1) ∉ md
    have h2 : 2 ≤ xk_rg a := by
      by_cases h : a < 353
      · have := List.all_eq_true.mp rg_lo (a - 24) (List.mem_range.mpr (by omega))
        rw [decide_eq_true_eq, show a - 24 + 24 = a by omega] at this
        exact this
      · rw [rg_far (by omega)]; decide
    constructor
    · intro h
      rcases hq _ h with w | w <;> (injection w with w1 w2; omega)
    · intro h
      rcases hq _ h with w | w <;> (injection w with w1 w2; omega)
  refine ⟨⟨fun a k q => ?_, fun q hq' => ?_⟩, (s22 3 (by decide)).1, s24⟩
  · by_cases h : a < 22
    · have := hf a k (Or.inl h)
      exact ⟨this.1, this.2.1, this.2.2⟩
    · have := s24 a k (by omega)
      exact ⟨this.1, this.2.1, this.2.2⟩
  · have h := List.all_eq_true.mp rfF_ok q hq'
    have e : M'.2.2 q.1 q.2.1 = M.2.2 q.1 q.2.1 := by
      rw [Bool.or_eq_true, Bool.and_eq_true, decide_eq_true_eq, decide_eq_true_eq, Bool.not_eq_true', decide_eq_false_iff_not] at h
      rcases h with h | ⟨h1, h2⟩
      · exact (s24 _ _ h).2.2
      · rw [h1]; exact (s22 _ h2).2.2
    exact e.trans (hk q hq')
end QTP

theorem RRS.tape {M M' : rf_M} {Ts : tsT} {c0 : Nat} {S : syT} (hS : SI Ts c0 S) (h : RRS M Ts c0 S) (e : eqy (fun a k => (a = 353 ∧ (k = 0 ∨ k = 2)) ∨ a = 354) M M') : RRS M' Ts c0 S := h.eq hS e (fun b k z => by unfold pvR at z; omega)
section GQ

variable (fz : Bool) (L : Nat) (xs : Nat → Int32)

end GQ
