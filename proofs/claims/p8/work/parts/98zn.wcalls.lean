/-! THE REFERENCE'S CALLS -/
section WCa
variable {M M' : rf_M} {c0 c : Nat} {K : Int → rf_M → Prop} {Ts : tsT} {S : syT}
theorem RRS.code (hS : SI Ts c0 S) (h : RRS M Ts c0 S) (e : M' = wi M 353 0 0) : RRS M' Ts c0 S := by
  have y : eqy (fun b k => b = 353 ∧ k = 0) M M' := by rw [e]; exact (eqy.rfl' M).wi ⟨rfl, rfl⟩
  exact h.eq hS y (fun b k a => by unfold pvR at a; omega)
theorem y_isClient {z : Int} (h1 : 0 ≤ z ∧ z < 8 → K 1 M) (h0 : ¬ (0 ≤ z ∧ z < 8) → K 0 M) : em_W_isClient z M K :=
  ⟨fun h => ⟨Or.inl rfl, h0 (by omega)⟩, fun h => ⟨fun g => ⟨Or.inl rfl, h0 (by omega)⟩, fun g => ⟨Or.inr rfl, h1 (by omega)⟩⟩⟩
theorem y_turn {z : Int} (hS : SI Ts c0 S) (hR : RRS M Ts c0 S) (h1 : 0 ≤ z ∧ z < 8 → ∀ M', RRS M' Ts c0 (trn Ts S z.toNat).2 → K (trn Ts S z.toNat).1 M') (h0 : ¬ (0 ≤ z ∧ z < 8) → ∀ M', RRS M' Ts c0 S → K (-1) M') : em_W_turn z M K := by
  intro M1 e1
  have R1 := hR.code hS e1
  refine y_isClient (fun h => ⟨fun q => absurd q (by decide), fun _ => ?_⟩) (fun h => ⟨fun _ => h0 h M1 R1, fun q => absurd rfl q⟩)
  obtain ⟨c, rfl⟩ : ∃ c : Nat, z = (c : Int) := ⟨z.toNat, by omega⟩
  have := h1 h
  rw [tn_] at this
  exact y_turnOf hS (by omega) R1 this
theorem y_play {s : Int64} {n : Int} (hS : SI Ts c0 S) (hR : RRS M Ts c0 S) (h1 : 0 ≤ n ∧ n ≤ 2000 → ∀ M', RRS M' Ts c0 (plyS Ts n.toNat s 0 S).2 → K (plyS Ts n.toNat s 0 S).1 M') (h0 : ¬ (0 ≤ n ∧ n ≤ 2000) → ∀ M', RRS M' Ts c0 S → K (-1) M') : em_W_play s n M K := by
  intro M0 e0
  have R0 := hR.code hS e0
  refine ⟨fun h => h0 (by omega) M0 R0, fun h => ⟨fun h' => ?_, fun h' => h0 (by omega) M0 R0⟩⟩
  obtain ⟨n, rfl⟩ : ∃ x : Nat, n = (x : Int) := ⟨n.toNat, by omega⟩
  have h1 := h1 ⟨by omega, h'⟩
  rw [tn_] at h1
  generalize hp : plyS Ts n s 0 S = R at h1
  refine ⟨fun v3 v4 v6 v7 M' => v3 = (n : Int) ∧ ∃ (i : Nat) (S' : syT), v7 = (i : Int) ∧ i ≤ n ∧ SI Ts c0 S' ∧ RRS M' Ts c0 S' ∧ plyS Ts (n - i) v4 v6 S' = R ∧ 0 ≤ v6 ∧ v6 ≤ (i : Int), ⟨rfl, 0, S, rfl, Nat.zero_le _, hS, R0, hp, by omega, by omega⟩, ?_⟩
  rintro v3 v4 v6 v7 M1 - - - ⟨rfl, i, S1, rfl, hi, hS1, hR1, e1, d0, d1⟩
  refine ⟨fun hq => ?_, fun hq => ?_⟩
  · have : n - i = 0 := by omega
    rw [this] at e1
    have h1 := h1 M1
    rw [← e1] at h1
    exact h1 hR1
  · obtain ⟨l, hl, el⟩ := sdC_lt (sdN v4)
    have en : n - i = (n - (i + 1)) + 1 := by omega
    rw [en] at e1
    unfold plyS at e1
    rw [el, tn_] at e1
    have es : v4 * Int64.ofNat 6364136223846793005 + Int64.ofNat 1442695040888963407 = sdN v4 := by unfold sdN; rw [Int64.mul_comm]
    rw [es]
    show em_W_turnOf (sdC (sdN v4)) M1 _
    rw [el]
    refine y_turnOf hS1 hl hR1 (fun M2 hR2 => ⟨fun z => ?_, fun z => ?_⟩)
    · rw [if_pos z] at e1
      exact ⟨inr_z (by omega) (by omega), inr_z (by omega) (by omega), rfl, i + 1, _, by omega, by omega, SI_trn hS1 hl, hR2, e1, by omega, by omega⟩
    · rw [if_neg z] at e1
      refine ⟨inr_z (by omega) (by omega), inr_z (by omega) (by omega), rfl, i + 1, _, by omega, by omega, SI_trn hS1 hl, hR2, ?_, by omega, by omega⟩
      rw [Int.add_zero]
      exact e1
theorem y_put {z : Int} {v : Int64} (hS : SI Ts c0 S) (hR : RRS M Ts c0 S) (kk : ∀ M', RRS M' Ts c0 (putS Ts S z v).2 → K (putS Ts S z v).1 M') : em_W_put z v M K := by
  intro M1 e1
  have R1 := hR.code hS e1
  unfold putS at kk
  have hro : rok Ts c0 S.2.1 := fun j hj => hS.2.1.2 (S.2.1.getD j (0, 0)) (by rw [gD_ hj]; exact List.getElem_mem hj)
  have g69 := R1.2.2.2.2.1
  have hrl := hS.2.2.1
  have no : ¬ (0 ≤ z ∧ z < 16 ∧ S.2.2.2.length < 300) → e_W_put_25 M1 K := fun h => by rw [if_neg h] at kk; exact kk M1 R1
  refine ⟨fun h => no (by omega), fun h => ⟨fun h' => no (by omega), fun h' => ⟨fun h3 => no (by rw [g69] at h3; omega), fun h3 M2 e2 => ?_⟩⟩⟩
  rw [g69] at h3
  obtain ⟨l, rfl⟩ : ∃ l : Nat, z = (l : Int) := ⟨z.toNat, by omega⟩
  have hl : l < 16 := by omega
  have hlen : S.2.2.2.length < 300 := by omega
  rw [if_pos ⟨by omega, by omega, hlen⟩, tn_] at kk
  have y2 : eqy (fun b k => b = 353 ∧ k = 42) M1 M2 := by rw [e2]; exact (eqy.rfl' _).wi ⟨rfl, rfl⟩
  have d2 : gi M2 353 42 = ((0 : Nat) : Int) := by rw [e2, gi_at (inr_z (by omega) (by omega))]; rfl
  have R2 := R1.eq hS y2 (fun b k a => by unfold pvR at a; omega)
  refine ⟨fun v1 v2 v4 M' => v1 = (l : Int) ∧ v2 = v ∧ ∃ j : Nat, v4 = (j : Int) ∧ j ≤ 16 ∧ eqy (fun b _ => b = 399) M2 M' ∧ ∀ i, i < j → gl M' 399 i = va_up S.1.1 l v i, ⟨rfl, rfl, 0, rfl, by omega, eqy.rfl' _, fun i h => absurd h (by omega)⟩, ?_⟩
  rintro v1 v2 v4 M3 - - ⟨rfl, rfl, j, rfl, hj, y3, h3'⟩
  have R3 := R2.eq hS y3 (fun b k a => by unfold pvR at a; omega)
  refine ⟨fun h16 => ?_, fun h16 => ?_⟩
  · refine y_rulesHold (d := 0) (rs := S.2.1) (V := va_up S.1.1 l v2) hS.1 R3.1 ((y3.i (by omega)).trans d2) (by omega) R3.2.2.1 hro hS.2.1.1 (fun i hi => h3' i (by omega)) (fun M4 y4 => ?_)
    have R4 := R3.eq hS y4 (fun b k a => by unfold pvR at a; unfold wkW; omega)
    by_cases ha : S.2.1.all (hld Ts (va_up S.1.1 l v2)) = true
    · rw [if_pos ha] at kk ⊢
      refine ⟨fun q => absurd q (by decide), fun _ _ M5 e5 _ _ M6 e6 => ?_⟩
      rw [tn_] at e5 e6
      have y6 : eqy (fun b k => (b = 376 ∨ b = 377) ∧ k = l) M4 M6 := by
        rw [e6, e5]
        exact ((eqy.rfl' _).wl ⟨Or.inl rfl, rfl⟩).wi ⟨Or.inr rfl, rfl⟩
      have v6 : M6.1 377 l = Int32.ofInt ((S.1.2 l).toInt + 1) := by
        rw [e6]
        show (rf_wi M5 377 l _).1 377 l = _
        rw [rf_wi_at, e5]
        show Int32.ofInt ((M4.1 377 l).toInt + 1) = _
        have := (R4.2.1 l hl).2
        have : M4.1 377 (16 * 0 + l) = S.1.2 l := this
        rw [show 16 * 0 + l = l by omega] at this
        rw [this]
      refine y_addRow (row := ((0, -1, (l : Int), 0, 0), v2)) (R4.2.2.2.2.eq y6 (fun b k h => by omega)) hlen ⟨ir_0, ir_1, inr_z (by show (-1000000 : Int) ≤ (l : Int); omega) (by show (l : Int) ≤ 1000000; omega), ir_0, ir_0⟩ (fun M7 y7 r7 _ => ?_)
      rw [tn_, show gi M7 377 l = (Int32.ofInt ((S.1.2 l).toInt + 1)).toInt by rw [y7.i (by omega)]; exact congrArg Int32.toInt v6]
      refine kk M7 ⟨?_, fun i hi => ?_, ?_, fun k hk => ?_, r7⟩
      · exact (R4.1.eq y6 (fun b k _ _ => by omega)).eq y7 (fun b k _ _ => by omega)
      · have w4 := R4.2.1 i hi
        have w41 : gl M4 376 (16 * 0 + i) = S.1.1 i := w4.1
        have w42 : M4.1 377 (16 * 0 + i) = S.1.2 i := w4.2
        constructor
        · show gl M7 376 (16 * 0 + i) = va_up S.1.1 l v2 i
          rw [y7.l (by omega)]
          rw [show 16 * 0 + i = i by omega] at w41 ⊢
          by_cases e : i = l
          · rw [e, va_up_at, e6, gl_wi, e5, gl_at]
          · rw [va_up_of e, y6.l (by omega)]
            exact w41
        · show M7.1 377 (16 * 0 + i) = va_up S.1.2 l _ i
          rw [(y7.1 377 _ (by omega)).1]
          rw [show 16 * 0 + i = i by omega] at w42 ⊢
          by_cases e : i = l
          · rw [e, va_up_at]; exact v6
          · rw [va_up_of e, (y6.1 377 i (by omega)).1]
            exact w42
      · exact (R4.2.2.1.eq y6 (fun b k h => by omega)).eq y7 (fun b k h => by omega)
      · have hcu := hS.2.2.2.2 k hk
        have hx := R4.2.2.2.1 k hk
        have h4 := hS.2.2.2.1
        refine ⟨(hx.1.eq hcu.1.1 y6 (fun b k h => by omega)).eq hcu.1.1 y7 (fun b k h => by omega), (hx.2.eq y6 (fun b k h => by omega) (fun t hs => stale_up (hcu.2.2.2.2.2.2 (by omega)) (fun i hi => ?_) hs)).eq y7 (fun b k h => by omega) (fun _ z => z)⟩
        show (S.1.2 i).toInt ≤ (va_up S.1.2 l (Int32.ofInt ((S.1.2 l).toInt + 1)) i).toInt
        have := h4 i hi
        by_cases e : i = l
        · rw [e] at this ⊢
          rw [va_up_at, ti_ofi (inr_z (by omega) (by omega))]
          omega
        · rw [va_up_of e]; omega
    · rw [if_neg ha] at kk ⊢
      exact ⟨fun _ => kk M4 R4, fun q => absurd rfl q⟩
  · have nxt : ∀ (x : Int64), x = va_up S.1.1 l v2 j → e_W_put_65 (l : Int) v2 (j : Int) (j : Int) x M3 (fun v1 v2' v4 M' => v1 = (l : Int) ∧ v2' = v2 ∧ ∃ j : Nat, v4 = (j : Int) ∧ j ≤ 16 ∧ eqy (fun b _ => b = 399) M2 M' ∧ ∀ i, i < j → gl M' 399 i = va_up S.1.1 l v2 i) K := fun x hx => by
      intro _ M4 e4
      rw [tn_] at e4
      refine ⟨inr_z (by omega) (by omega), rfl, rfl, j + 1, by omega, by omega, by rw [e4]; exact y3.wl rfl, fun i hi => ?_⟩
      by_cases e : i = j
      · rw [e, e4, gl_at, hx]
      · rw [e4, gl_of (Or.inr e)]; exact h3' i (by omega)
    refine ⟨fun e => nxt _ ?_, fun e _ => nxt _ ?_⟩
    · have : j = l := by omega
      rw [this, va_up_at]
    · rw [va_up_of (by omega), tn_]
      have w3 : gl M3 376 (16 * 0 + j) = S.1.1 j := (R3.2.1 j (by omega)).1
      rw [show 16 * 0 + j = j by omega] at w3
      exact w3
theorem y_add {x y : Int} (hS : SI Ts c0 S) (hR : RRS M Ts c0 S) (hcc : gi M 353 11 = (c0 : Int)) (kk : ∀ M', RRS M' Ts c0 (addS c0 S x y).2 → K (addS c0 S x y).1 M') : em_W_add x y M K := by
  intro M1 e1
  have R1 := hR.code hS e1
  have c1 : gi M1 353 11 = (c0 : Int) := by rw [e1, gi_of (Or.inr (by omega))]; exact hcc
  unfold addS at kk
  have no : ¬ (0 ≤ x ∧ x < 8 ∧ 0 ≤ y ∧ y < (c0 : Int) ∧ (S.2.2.1 x.toNat).1.length < 16) → e_W_add_36 M1 K := fun h => by rw [if_neg h] at kk; exact kk M1 R1
  refine y_isClient (fun hx => ⟨fun q => absurd q (by decide), fun _ => ⟨fun h => no (by omega), fun h => ⟨fun h' => no (by rw [c1] at h'; omega), fun h' _ => ?_⟩⟩⟩) (fun hx => ⟨fun _ => no (by omega), fun q => absurd rfl q⟩)
  rw [c1] at h'
  obtain ⟨c, rfl⟩ : ∃ c : Nat, x = (c : Int) := ⟨x.toNat, by omega⟩
  have hc : c < 8 := by omega
  obtain ⟨rb, rs⟩ := R1.2.2.2.1 c hc
  have hcl := hS.2.2.2.2 c hc
  rw [tn_] at kk no
  rw [tn_, rb.1.1]
  refine ⟨fun h16 => no (by omega), fun h16 _ => ⟨inr_z (by have := hcl.1.1; omega) (by have := hcl.1.1; omega), fun _ M2 e2 _ _ M3 e3 _ => ?_⟩⟩
  have hlen : (S.2.2.1 c).1.length < 16 := by have := hcl.1.1; omega
  rw [if_pos ⟨by omega, by omega, by omega, by omega, hlen⟩] at kk
  have ex : (16 * (c : Int) + ((S.2.2.1 c).1.length : Int)).toNat = 16 * c + (S.2.2.1 c).1.length := by omega
  rw [ex] at e2
  have g2 : gi M2 381 c = ((S.2.2.1 c).1.length : Int) := by rw [e2, gi_of (Or.inl (by omega))]; exact rb.1.1
  rw [g2] at e3
  have g3 : gi M3 381 c = ((S.2.2.1 c).1.length : Int) + 1 := by rw [e3, gi_at (inr_z (by omega) (by omega))]
  rw [g3]
  have hc0 := hS.1.1
  have y3 : eqy (fun b k => (b = 380 ∧ k = 16 * c + (S.2.2.1 c).1.length) ∨ (b = 381 ∧ k = c)) M1 M3 := by
    rw [e3, e2]
    exact ((eqy.rfl' _).wi (Or.inl ⟨rfl, rfl⟩)).wi (Or.inr ⟨rfl, rfl⟩)
  refine kk M3 (RRX.all (R1.x.eq hS y3 (fun b k _ a => fun z => a (by unfold ccR; omega))) ⟨⟨⟨?_, fun j hj => ?_⟩, ?_, ?_⟩, ?_⟩)
  · rw [g3]
    show _ = (((S.2.2.1 c).1 ++ [y.toNat]).length : Int)
    simp
  · have hj : j < ((S.2.2.1 c).1 ++ [y.toNat]).length := hj
    simp at hj
    show gi M3 380 (16 * c + j) = ((((S.2.2.1 c).1 ++ [y.toNat]).getD j 0 : Nat) : Int)
    rw [e3, gi_of (Or.inl (by omega)), e2]
    by_cases e : j = (S.2.2.1 c).1.length
    · have er : ((S.2.2.1 c).1 ++ [y.toNat]).getD j 0 = y.toNat := by
        have := app_getD2 (l := (S.2.2.1 c).1) (m := [y.toNat]) (j := 0) (d := 0) (by simp)
        rw [Nat.add_zero, ← e] at this
        exact this
      rw [er, e, gi_at (inr_z (by omega) (by omega))]
      omega
    · rw [gi_of (Or.inr (by omega)), app_getD1 (by omega)]
      exact rb.1.2 j (by omega)
  · exact (y3.i (by omega)).trans rb.2.1
  · exact (y3.i (by omega)).trans rb.2.2
  · exact rcs.eq (cl := ((S.2.2.1 c).1 ++ [y.toNat], (S.2.2.1 c).2)) rs y3 (fun b k h => by omega) (fun _ z => z)
theorem y_cell {z : Int} {K : Int64 → rf_M → Prop} (hS : SI Ts c0 S) (hR : RRS M Ts c0 S) (kk : ∀ M', RRS M' Ts c0 S → K (celS S z) M') : em_W_cell z M K := by
  intro M1 e1
  have R1 := hR.code hS e1
  unfold celS at kk
  have no : ¬ (0 ≤ z ∧ z < 16) → e_W_cell_15 M1 K := fun h => by rw [if_neg h] at kk; exact kk M1 R1
  refine ⟨fun h => no (by omega), fun h => ⟨fun h' _ => ?_, fun h' => no (by omega)⟩⟩
  rw [if_pos ⟨by omega, h'⟩] at kk
  have w1 : gl M1 376 (16 * 0 + z.toNat) = S.1.1 z.toNat := (R1.2.1 _ (by omega)).1
  rw [show 16 * 0 + z.toNat = z.toNat by omega] at w1
  rw [w1]
  exact kk M1 R1
theorem y_version {z : Int} (hS : SI Ts c0 S) (hR : RRS M Ts c0 S) (kk : ∀ M', RRS M' Ts c0 S → K (verS S z) M') : em_W_version z M K := by
  intro M1 e1
  have R1 := hR.code hS e1
  unfold verS at kk
  have no : ¬ (0 ≤ z ∧ z < 16) → e_W_version_15 M1 K := fun h => by rw [if_neg h] at kk; exact kk M1 R1
  refine ⟨fun h => no (by omega), fun h => ⟨fun h' _ => ?_, fun h' => no (by omega)⟩⟩
  rw [if_pos ⟨by omega, h'⟩] at kk
  have w1 : M1.1 377 (16 * 0 + z.toNat) = S.1.2 z.toNat := (R1.2.1 _ (by omega)).2
  rw [show 16 * 0 + z.toNat = z.toNat by omega] at w1
  rw [show gi M1 377 z.toNat = (S.1.2 z.toNat).toInt from congrArg Int32.toInt w1]
  exact kk M1 R1
theorem y_rules (hS : SI Ts c0 S) (hR : RRS M Ts c0 S) (kk : ∀ M', RRS M' Ts c0 S → K (S.2.1.length : Int) M') : em_W_rules M K := by
  intro M1 e1 _
  have R1 := hR.code hS e1
  rw [R1.2.2.1.1]
  exact kk M1 R1
theorem y_rows (hS : SI Ts c0 S) (hR : RRS M Ts c0 S) (kk : ∀ M', RRS M' Ts c0 S → K (S.2.2.2.length : Int) M') : em_W_rows M K := by
  intro M1 e1
  have R1 := hR.code hS e1
  rw [R1.2.2.2.2.1]
  exact kk M1 R1
theorem y_row {i w : Int} (hS : SI Ts c0 S) (hR : RRS M Ts c0 S) (kk : ∀ M', RRS M' Ts c0 S → K (rowS S i w) M') : em_W_row i w M K := by
  intro M1 e1
  have R1 := hR.code hS e1
  have kk := kk M1 R1
  unfold rowS at kk
  have g69 := R1.2.2.2.2.1
  have no : ¬ (0 ≤ i ∧ i < (S.2.2.2.length : Int)) → e_W_row_17 M1 K := fun h => by rw [if_neg h] at kk; exact kk
  refine ⟨fun h => no (by omega), fun h => ⟨fun h' => ?_, fun h' => no (by rw [g69] at h'; omega)⟩⟩
  rw [g69] at h'
  rw [if_pos ⟨by omega, h'⟩] at kk
  obtain ⟨a1, a2, a3, a4, a5, a6⟩ := R1.2.2.2.2.2 i.toNat (by omega)
  refine ⟨fun e _ => ?_, fun n0 => ⟨fun e _ => ?_, fun n1 => ⟨fun e _ => ?_, fun n2 => ⟨fun e _ => ?_, fun n3 => ⟨fun e _ => ?_, fun n4 => ?_⟩⟩⟩⟩⟩
  · rw [if_pos e, ← a1] at kk; exact kk
  · rw [if_neg n0, if_pos e, ← a2] at kk; exact kk
  · rw [if_neg n0, if_neg n1, if_pos e, ← a3] at kk; exact kk
  · rw [if_neg n0, if_neg n1, if_neg n2, if_pos e, ← a4] at kk; exact kk
  · rw [if_neg n0, if_neg n1, if_neg n2, if_neg n3, if_pos e, ← a5] at kk; exact kk
  · rw [if_neg n0, if_neg n1, if_neg n2, if_neg n3, if_neg n4] at kk; exact kk
theorem y_value {i : Int} {K : Int64 → rf_M → Prop} (hS : SI Ts c0 S) (hR : RRS M Ts c0 S) (kk : ∀ M', RRS M' Ts c0 S → K (valS S i) M') : em_W_value i M K := by
  intro M1 e1
  have R1 := hR.code hS e1
  have kk := kk M1 R1
  unfold valS at kk
  have g69 := R1.2.2.2.2.1
  have no : ¬ (0 ≤ i ∧ i < (S.2.2.2.length : Int)) → e_W_value_17 M1 K := fun h => by rw [if_neg h] at kk; exact kk
  refine ⟨fun h => no (by omega), fun h => ⟨fun h' _ => ?_, fun h' => no (by rw [g69] at h'; omega)⟩⟩
  rw [g69] at h'
  rw [if_pos ⟨by omega, h'⟩] at kk
  obtain ⟨a1, a2, a3, a4, a5, a6⟩ := R1.2.2.2.2.2 i.toNat (by omega)
  rw [← a6] at kk
  exact kk
theorem y_sees {x y : Int} {K : Int64 → rf_M → Prop} (hS : SI Ts c0 S) (hR : RRS M Ts c0 S) (kk : ∀ M', RRS M' Ts c0 S → K (seesS S x y) M') : em_W_sees x y M K := by
  intro M1 e1
  have R1 := hR.code hS e1
  unfold seesS at kk
  have no : ¬ (0 ≤ x ∧ x < 8 ∧ 0 ≤ y ∧ y < 26) → e_W_sees_23 M1 K := fun h => by rw [if_neg h] at kk; exact kk M1 R1
  refine y_isClient (fun hx => ⟨fun q => absurd q (by decide), fun _ => ⟨fun h => no (by omega), fun h => ⟨fun h' _ => ?_, fun h' => no (by omega)⟩⟩⟩) (fun hx => ⟨fun _ => no (by omega), fun q => absurd rfl q⟩)
  obtain ⟨c, rfl⟩ : ∃ c : Nat, x = (c : Int) := ⟨x.toNat, by omega⟩
  have hc : c < 8 := by omega
  rw [if_pos ⟨by omega, by omega, by omega, by omega⟩, tn_] at kk
  obtain ⟨rb, rs⟩ := R1.2.2.2.1 c hc
  have hcl := hS.2.2.2.2 c hc
  have htg := hcl.2.2.2.2.1
  have plain : ¬ (S.2.2.1 c).2.2.2.1 = 1 → e_W_sees_44 y M1 K := fun ht => by
    rw [if_neg ht] at kk
    refine ⟨fun h16 => ?_, fun h16 _ => ?_⟩
    · rw [if_neg (by omega)] at kk
      exact kk M1 R1
    · rw [if_pos (by omega)] at kk
      have w1 : gl M1 376 (16 * 0 + y.toNat) = S.1.1 y.toNat := (R1.2.1 _ (by omega)).1
      rw [show 16 * 0 + y.toNat = y.toNat by omega] at w1
      show K (gl M1 376 y.toNat) M1
      rw [w1]
      exact kk M1 R1
  rw [tn_, rb.1.1]
  refine ⟨fun h0 => plain (by have := hcl.2.2.2.1 (by omega); omega), fun h0 _ => ⟨fun h1 => ?_, fun h1 => plain (fun q => h1 (rs.1 q).1)⟩⟩
  have hq : (S.2.2.1 c).1.length ≠ 0 := by omega
  have hbeg := beg_ok hS hc hq
  have hc0 := hS.1.1
  have ht12 := hbeg.1
  have hX := hS.1.2 _ ht12
  -- what is walked anew
  have k383 : gi M1 383 c = ((beg Ts (S.2.2.1 c)).1 : Int) ∧ req (beg Ts (S.2.2.1 c)).2.2 (rC M1 c) ∧ (seesS S (c : Int) y = shw S.1 (beg Ts (S.2.2.1 c)).2.1.2.1 (beg Ts (S.2.2.1 c)).2.2 y) := by
    unfold seesS
    rw [if_pos ⟨by omega, by omega, by omega, by omega⟩, tn_]
    by_cases ht : (S.2.2.1 c).2.2.2.1 = 1
    · have eb : beg Ts (S.2.2.1 c) = (S.2.2.1 c).2.2.2.2 := by unfold beg; rw [if_pos ht]
      rw [eb, if_pos ht]
      exact ⟨(rs.1 ht).2.1, (rs.1 ht).2.2, rfl⟩
    · have eb : beg Ts (S.2.2.1 c) = (0, run0 (Ts ((S.2.2.1 c).1.headD 0)).2.2.2, rd0) := by unfold beg; rw [if_neg ht]
      rw [eb, if_neg ht]
      have h36 : gi M1 383 c = 0 ∧ gi M1 386 c = 0 := by
        have : (S.2.2.1 c).2.2.2.1 = 0 ∨ (S.2.2.1 c).2.2.2.1 = 2 := by omega
        rcases this with t | t
        · rcases rs.2.1 t with a | ⟨a1, a2, a3⟩
          · omega
          · exact ⟨a2, a3⟩
        · rcases rs.2.2 t with ⟨a, _⟩ | ⟨a1, a2, a3, _⟩
          · omega
          · exact ⟨a2, a3⟩
      refine ⟨h36.1, ⟨?_, fun l _ b => ?_⟩, ?_⟩
      · show M1.1 386 c = 0
        exact Int32.toInt_inj.mp (by rw [show (M1.1 386 c).toInt = gi M1 386 c from rfl, h36.2]; rfl)
      · rw [show bt rd0.1 l = false from bt_0 l] at b; cases b
      · show _ = shw S.1 mk0 rd0 y
        unfold shw
        rw [show bt mk0.1 y.toNat = false from bt_0 _, show bt rd0.1 y.toNat = false from bt_0 _]
        by_cases h16 : y < 16
        · rw [if_pos h16, if_pos ⟨by omega, h16⟩, if_neg (by decide), if_neg (by decide)]
        · rw [if_neg h16, if_neg (by omega), if_pos (by omega)]
          rfl
  have kk2 : ∀ M', RRS M' Ts c0 S → K (shw S.1 (beg Ts (S.2.2.1 c)).2.1.2.1 (beg Ts (S.2.2.1 c)).2.2 y) M' := fun M' h => by
    have := kk M' h
    have e := k383.2.2
    unfold seesS at e
    rw [if_pos ⟨by omega, by omega, by omega, by omega⟩, tn_] at e
    rw [← e]
    exact this
  refine y_walkAnew (w := S.1) (r := (beg Ts (S.2.2.1 c)).2.2) (g := (beg Ts (S.2.2.1 c)).2.1) (k := (beg Ts (S.2.2.1 c)).1) hc (by omega) hX (R1.1 _ ht12) (y_hd rb hq) k383.1 k383.2.1 R1.2.1 (hbeg.2.2.1 S.1 _ (rsub.rfl' _)) hbeg.2.1 (fun M3 y3 d3 W3 => ?_)
  have R3 := R1.eq hS y3 (fun b k a => by unfold pvR at a; unfold waW stW; omega)
  have kk3 := kk2 M3 R3
  obtain ⟨_, G⟩ := W3.2.2.2.1
  have hm : meq (beg Ts (S.2.2.1 c)).2.1.2.1 (mR M3) := G.1
  have hr := W3.2.2.2.2
  unfold shw at kk3
  refine ⟨fun h16 => ?_, fun h16 => ⟨inr_z (by omega) (by omega), fun _ => ?_⟩⟩
  · obtain ⟨l, rfl⟩ : ∃ l : Nat, y = (l : Int) := ⟨y.toNat, by omega⟩
    have hl : l < 16 := by omega
    rw [if_pos ⟨by omega, h16⟩, tn_] at kk3
    rw [tst_s _ hl, tst_s _ hl, gi_ofi, gi_ofi, show M3.1 353 55 = (beg Ts (S.2.2.1 c)).2.1.2.1.1 from hm.1, show M3.1 353 52 = (beg Ts (S.2.2.1 c)).2.2.1 from hr.1, tn_]
    refine ⟨fun hb _ => ?_, fun hb => ⟨fun hb2 _ => ?_, fun hb2 _ => ?_⟩⟩
    · have hb : bt (beg Ts (S.2.2.1 c)).2.1.2.1.1 l = true := by
        by_cases q : bt (beg Ts (S.2.2.1 c)).2.1.2.1.1 l = true
        · exact q
        · rw [if_neg q] at hb; exact absurd hb (by decide)
      rw [if_pos hb] at kk3
      show K (gl M3 391 l) M3
      rw [show gl M3 391 l = _ from hm.2.1 l hl hb]
      exact kk3
    · have hb : ¬ bt (beg Ts (S.2.2.1 c)).2.1.2.1.1 l = true := fun q => hb (if_pos q)
      have hb2 : bt (beg Ts (S.2.2.1 c)).2.2.1 l = true := by
        by_cases q : bt (beg Ts (S.2.2.1 c)).2.2.1 l = true
        · exact q
        · rw [if_neg q] at hb2; exact absurd hb2 (by decide)
      rw [if_neg hb, if_pos hb2] at kk3
      show K (gl M3 389 l) M3
      rw [show gl M3 389 l = _ from (hr.2 l hl hb2).1]
      exact kk3
    · have hb : ¬ bt (beg Ts (S.2.2.1 c)).2.1.2.1.1 l = true := fun q => hb (if_pos q)
      have hb2 : ¬ bt (beg Ts (S.2.2.1 c)).2.2.1 l = true := fun q => hb2 (if_pos q)
      rw [if_neg hb, if_neg hb2] at kk3
      have w1 : gl M3 376 (16 * 0 + l) = S.1.1 l := (R3.2.1 _ (by omega)).1
      rw [show 16 * 0 + l = l by omega] at w1
      show K (gl M3 376 l) M3
      rw [w1]
      exact kk3
  · rw [if_neg (by omega), if_pos (by omega)] at kk3
    rw [show (y - 16).toNat = y.toNat - 16 by omega, show gl M3 392 (y.toNat - 16) = _ from hm.2.2.1 _ (by omega)]
    exact kk3
theorem y_clear (hS : SI Ts c0 S) (hR : RRS M Ts c0 S) (kk : ∀ M', RRS M' Ts c0 (clrS S).2 → K (clrS S).1 M') : em_W_clear M K := by
  intro M1 e1 M2 e2 _ M3 e3
  have R1 := hR.code hS e1
  rw [R1.2.2.2.2.1]
  have y3 : eqy (fun b k => (b = 353 ∧ k = 69) ∨ (b = 378 ∧ k = 0)) M1 M3 := by rw [e3, e2]; exact ((eqy.rfl' _).wi (Or.inl ⟨rfl, rfl⟩)).wi (Or.inr ⟨rfl, rfl⟩)
  have n3 : gi M3 353 69 = 0 := by rw [e3, gi_of (Or.inl (by omega)), e2, gi_at (inr_z (by omega) (by omega))]
  have r3 : gi M3 378 0 = 0 := by rw [e3, gi_at (inr_z (by omega) (by omega))]
  refine ⟨fun v1 v2 M' => v1 = (S.2.2.2.length : Int) ∧ ∃ j : Nat, v2 = (j : Int) ∧ j ≤ 16 ∧ eqy (fun b _ => b = 376 ∨ b = 377) M3 M' ∧ ∀ l, l < j → gl M' 376 l = 0 ∧ M'.1 377 l = 0, ⟨rfl, 0, rfl, by omega, eqy.rfl' _, fun l h => absurd h (by omega)⟩, ?_⟩
  rintro v1 v2 M4 - - ⟨rfl, j, rfl, hj, y4, h4⟩
  refine ⟨fun h => ?_, fun h _ M5 e5 _ M6 e6 => ⟨inr_z (by omega) (by omega), rfl, j + 1, by omega, by omega, by rw [e6, e5]; exact (y4.wl (Or.inl rfl)).wi (Or.inr rfl), fun l hl => ?_⟩⟩
  · refine ⟨fun v1 v2 M' => v1 = (S.2.2.2.length : Int) ∧ ∃ i : Nat, v2 = (i : Int) ∧ i ≤ 8 ∧ eqy (fun b _ => 381 ≤ b ∧ b ≤ 386) M4 M' ∧ ∀ c, c < i → rcl M' wd0 c clN, ⟨rfl, 0, rfl, by omega, eqy.rfl' _, fun c h => absurd h (by omega)⟩, ?_⟩
    rintro v1 v2 M5 - - ⟨rfl, i, rfl, hi, y5, h5⟩
    refine ⟨fun h8 => ?_, fun h8 _ M6 e6 _ M7 e7 _ M8 e8 _ M9 e9 _ M10 e10 _ M11 e11 => ?_⟩
    · refine kk M5 ⟨?_, fun l hl => ⟨?_, ?_⟩, ⟨?_, fun j hj => absurd hj (by show ¬ j < 0; omega)⟩, fun c hc => h5 c (by omega), ?_, fun i hi => absurd hi (by show ¬ i < 0; omega)⟩
      · exact ((R1.1.eq y3 (fun b k _ _ => by omega)).eq y4 (fun b k _ _ => by omega)).eq y5 (fun b k _ _ => by omega)
      · show gl M5 376 (16 * 0 + l) = 0
        rw [y5.l (by omega), show 16 * 0 + l = l by omega]
        exact (h4 l (by omega)).1
      · show M5.1 377 (16 * 0 + l) = 0
        rw [(y5.1 _ _ (by omega)).1, show 16 * 0 + l = l by omega]
        exact (h4 l (by omega)).2
      · rw [y5.i (by omega), y4.i (by omega), r3]; rfl
      · rw [y5.i (by omega), y4.i (by omega), n3]; rfl
    · have zz : (Int32.ofInt 0 &&& 1).toInt = 0 := by decide
      rw [tn_] at e6 e7 e8 e9 e10 e11
      rw [zz] at e10
      have y11 : eqy (fun b k => (381 ≤ b ∧ b ≤ 386) ∧ k = i) M5 M11 := by
        rw [e11, e10, e9, e8, e7, e6]
        exact ((((((eqy.rfl' _).wi ⟨by omega, rfl⟩).wi ⟨by omega, rfl⟩).wi ⟨by omega, rfl⟩).wi ⟨by omega, rfl⟩).wi ⟨by omega, rfl⟩).wi ⟨by omega, rfl⟩
      refine ⟨inr_z (by omega) (by omega), rfl, i + 1, by omega, by omega, y5.trans (y11.mono (fun b k h => h.1)), fun c hc => ?_⟩
      by_cases e : c = i
      · subst e
        refine ⟨⟨⟨?_, fun j hj => absurd hj (by show ¬ j < 0; omega)⟩, ?_, ?_⟩, fun (q : (0 : Nat) = 1) => absurd q (by decide), fun _ => Or.inl ?_, fun (q : (0 : Nat) = 2) => absurd q (by decide)⟩
        · rw [e11, gi_of (Or.inl (by omega)), e10, gi_of (Or.inl (by omega)), e9, gi_of (Or.inl (by omega)), e8, gi_of (Or.inl (by omega)), e7, gi_of (Or.inl (by omega)), e6, gi_at (inr_z (by omega) (by omega))]; rfl
        · rw [e11, gi_of (Or.inl (by omega)), e10, gi_of (Or.inl (by omega)), e9, gi_at (inr_z (by omega) (by omega))]; rfl
        · rw [e11, gi_of (Or.inl (by omega)), e10, gi_at (inr_z (by omega) (by omega))]; rfl
        · rw [e11, gi_of (Or.inl (by omega)), e10, gi_of (Or.inl (by omega)), e9, gi_of (Or.inl (by omega)), e8, gi_of (Or.inl (by omega)), e7, gi_at (inr_z (by omega) (by omega))]
      · have q := h5 c (by omega)
        exact ⟨q.1.eq (by show 0 ≤ 16; omega) y11 (fun b k h => by omega), q.2.eq y11 (fun b k h => by omega) (fun _ z => z)⟩
  · rw [tn_] at e5 e6
    by_cases e : l = j
    · subst e
      constructor
      · rw [e6]
        show gl M5 376 l = 0
        rw [e5, gl_at]
        rfl
      · rw [e6]
        show (rf_wi M5 377 l _).1 377 l = 0
        rw [rf_wi_at]
        rfl
    · constructor
      · rw [e6]
        show gl M5 376 l = 0
        rw [e5, gl_of (Or.inr e)]
        exact (h4 l (by omega)).1
      · rw [e6]
        show (rf_wi M5 377 j _).1 377 l = 0
        rw [rf_wi_of _ _ (Or.inr e), e5]
        exact (h4 l (by omega)).2
end WCa
