/-! THE REFERENCE'S feed, end, place, told, client leave texts, store, clients, rows alone -/
section WFM
variable {M M' : rf_M} {c0 n : Nat} {Ts : tsT} {S : syT} {K : Int → rf_M → Prop}
theorem y_feed {v1 v2 v3 v4 v5 : Int} (h2 : gi M 353 2 = (n : Int)) (hn : n ≤ 800) (kk : ∀ z M', eqy (fun a k => (a = 353 ∧ (k = 0 ∨ k = 2)) ∨ a = 354) M M' → K z M') : em_W_feed v1 v2 v3 v4 v5 M K := by
  intro M1 e1
  have y1 : eqy (fun a k => (a = 353 ∧ (k = 0 ∨ k = 2)) ∨ a = 354) M M1 := by rw [e1]; exact (eqy.rfl' M).wi (Or.inl ⟨rfl, Or.inl rfl⟩)
  have g2 : gi M1 353 2 = (n : Int) := by rw [e1, gi_of (Or.inr (by omega)), h2]
  rw [g2]
  refine ⟨inr_z (by omega) (by omega), fun _ => ?_, fun _ => kk (-1) M1 y1⟩
  refine ⟨fun _ _ _ _ _ v6 N => (0 ≤ v6 ∧ v6 ≤ 20) ∧ eqy (fun a k => (a = 353 ∧ (k = 0 ∨ k = 2)) ∨ a = 354) M N, ⟨by omega, y1⟩, ?_⟩
  rintro v1 v2 v3 v4 v5 v6 N - - - - - - ⟨hv, yN⟩
  have k78 : ¬ 20 ≤ v6 → ∀ s0, e_W_feed_78 v1 v2 v3 v4 v5 v6 s0 N (fun _ _ _ _ _ v6 N => (0 ≤ v6 ∧ v6 ≤ 20) ∧ eqy (fun a k => (a = 353 ∧ (k = 0 ∨ k = 2)) ∨ a = 354) M N) K := by
    intro h20 s0 _ N1 f1 N2 f2
    refine ⟨inr_z (by omega) (by omega), by omega, ?_⟩
    rw [f2, f1]
    exact (yN.wi (Or.inr rfl)).wi (Or.inl ⟨rfl, Or.inr rfl⟩)
  exact ⟨fun _ => kk _ N yN, fun h20 => ⟨fun _ => k78 h20 _, fun _ => ⟨fun _ => k78 h20 _, fun _ => ⟨fun _ => k78 h20 _, fun _ => ⟨fun _ => k78 h20 _, fun _ => k78 h20 _⟩⟩⟩⟩⟩
theorem y_endc {v1 : Int} (kk : ∀ z M', eqy (fun a k => (a = 353 ∧ (k = 0 ∨ k = 2)) ∨ a = 354) M M' → K z M') : em_W_end v1 M K := by
  intro M1 e1
  have y1 : eqy (fun a k => (a = 353 ∧ (k = 0 ∨ k = 2)) ∨ a = 354) M M1 := by rw [e1]; exact (eqy.rfl' M).wi (Or.inl ⟨rfl, Or.inl rfl⟩)
  exact ⟨fun _ => kk (-1) M1 y1, fun _ => ⟨fun _ => kk (-1) M1 y1, fun _ => ⟨fun _ M2 e2 => kk _ M2 (by rw [e2]; exact y1.wi (Or.inl ⟨rfl, Or.inr rfl⟩)), fun _ => kk (-1) M1 y1⟩⟩⟩
theorem y_placec (kk : ∀ z M', eqy (fun a k => (a = 353 ∧ (k = 0 ∨ k = 2)) ∨ a = 354) M M' → K z M') : em_W_place M K := by
  intro M1 e1
  exact kk _ M1 (by rw [e1]; exact (eqy.rfl' M).wi (Or.inl ⟨rfl, Or.inl rfl⟩))
theorem y_toldc {v1 v2 : Int} (kk : ∀ z M', eqy (fun a k => (a = 353 ∧ (k = 0 ∨ k = 2)) ∨ a = 354) M M' → K z M') : em_W_told v1 v2 M K := by
  intro M1 e1
  have y1 : eqy (fun a k => (a = 353 ∧ (k = 0 ∨ k = 2)) ∨ a = 354) M M1 := by rw [e1]; exact (eqy.rfl' M).wi (Or.inl ⟨rfl, Or.inl rfl⟩)
  exact ⟨fun _ => kk (-1) M1 y1, fun _ => ⟨fun _ => ⟨fun _ _ => kk _ M1 y1, fun _ => ⟨fun _ _ => kk _ M1 y1, fun _ => ⟨fun _ _ => kk _ M1 y1, fun _ => kk _ M1 y1⟩⟩⟩, fun _ => kk (-1) M1 y1⟩⟩
theorem y_client {x y : Int} (hS : SI Ts c0 S) (hR : RRS M Ts c0 S) (kk : ∀ z M', RRS M' Ts c0 S → K z M') : em_W_client x y M K := by
  intro M1 e1
  have R1 := hR.code hS e1
  have no : e_W_client_23 M1 K := kk (-1) M1 R1
  refine y_isClient (fun hx => ⟨fun q => absurd q (by decide), fun _ => ⟨fun _ => no, fun h => ⟨fun h' _ => ?_, fun _ => no⟩⟩⟩) (fun hx => ⟨fun _ => no, fun q => absurd rfl q⟩)
  obtain ⟨c, rfl⟩ : ∃ c : Nat, x = (c : Int) := ⟨x.toNat, by omega⟩
  have hc : c < 8 := by omega
  obtain ⟨rb, rs⟩ := R1.2.2.2.1 c hc
  have hcl := hS.2.2.2.2 c hc
  have htg := hcl.2.2.2.2.1
  have h382 : 0 ≤ gi M1 382 c ∧ gi M1 382 c ≤ 2 := by
    have : (S.2.2.1 c).2.2.2.1 = 0 ∨ (S.2.2.1 c).2.2.2.1 = 1 ∨ (S.2.2.1 c).2.2.2.1 = 2 := by omega
    rcases this with t | t | t
    · rcases rs.2.1 t with a | ⟨a1, -⟩ <;> omega
    · have := (rs.1 t).1; omega
    · rcases rs.2.2 t with ⟨a, -⟩ | ⟨a1, -⟩ <;> omega
  have wlk : ¬ (S.2.2.1 c).1.length = 0 → gi M1 382 c = 1 → ∀ K' : rf_M → Prop, (∀ M3, RRS M3 Ts c0 S → K' M3) → em_W_walkAnew (c : Int) M1 K' := by
    intro hq h1 K' k'
    have hbeg := beg_ok hS hc hq
    have hc0 := hS.1.1
    have ht12 := hbeg.1
    have hX := hS.1.2 _ ht12
    have k383 : gi M1 383 c = ((beg Ts (S.2.2.1 c)).1 : Int) ∧ req (beg Ts (S.2.2.1 c)).2.2 (rC M1 c) := by
      by_cases ht : (S.2.2.1 c).2.2.2.1 = 1
      · have eb : beg Ts (S.2.2.1 c) = (S.2.2.1 c).2.2.2.2 := by unfold beg; rw [if_pos ht]
        rw [eb]
        exact ⟨(rs.1 ht).2.1, (rs.1 ht).2.2⟩
      · have eb : beg Ts (S.2.2.1 c) = (0, run0 (Ts ((S.2.2.1 c).1.headD 0)).2.2.2, rd0) := by unfold beg; rw [if_neg ht]
        rw [eb]
        have h36 : gi M1 383 c = 0 ∧ gi M1 386 c = 0 := by
          have : (S.2.2.1 c).2.2.2.1 = 0 ∨ (S.2.2.1 c).2.2.2.1 = 2 := by omega
          rcases this with t | t
          · rcases rs.2.1 t with a | ⟨a1, a2, a3⟩
            · omega
            · exact ⟨a2, a3⟩
          · rcases rs.2.2 t with ⟨a, _⟩ | ⟨a1, a2, a3, _⟩
            · omega
            · exact ⟨a2, a3⟩
        refine ⟨h36.1, ⟨?_, fun l _ b => ?_⟩⟩
        · show M1.1 386 c = 0
          exact Int32.toInt_inj.mp (by rw [show (M1.1 386 c).toInt = gi M1 386 c from rfl, h36.2]; rfl)
        · rw [show bt rd0.1 l = false from bt_0 l] at b; cases b
    refine y_walkAnew (w := S.1) (r := (beg Ts (S.2.2.1 c)).2.2) (g := (beg Ts (S.2.2.1 c)).2.1) (k := (beg Ts (S.2.2.1 c)).1) hc (by omega) hX (R1.1 _ ht12) (y_hd rb hq) k383.1 k383.2 R1.2.1 (hbeg.2.2.1 S.1 _ (rsub.rfl' _)) hbeg.2.1 (fun M3 y3 d3 W3 => k' M3 ?_)
    exact R1.eq hS y3 (fun b k a => by unfold pvR at a; unfold waW stW; omega)
  have k59 : ∀ v3 s0 : Int, (s0 = 0 ∨ (¬ (S.2.2.1 c).1.length = 0 ∧ gi M1 382 c = 1)) → e_W_client_59 (c : Int) y v3 s0 M1 K := by
    intro v3 s0 hs0
    refine ⟨fun _ => ⟨fun _ _ => ?_, fun _ => kk 0 M1 R1⟩, fun _ _ => kk _ M1 R1, fun _ => ⟨fun _ => ⟨inr_z (by omega) (by omega), fun _ => kk _ M1 R1⟩, fun _ => kk _ M1 R1⟩, fun _ _ => kk _ M1 R1, fun _ _ => kk _ M1 R1, fun _ _ => kk _ M1 R1, fun _ _ => ⟨fun _ => kk 0 M1 R1, fun _ => kk 1 M1 R1⟩, fun _ => ⟨fun _ => kk 0 M1 R1, fun h0 => ?_⟩⟩
    · rw [tn_]
      exact ⟨inr_z (by omega) (by omega), kk _ M1 R1⟩
    · rcases hs0 with w | ⟨w1, w2⟩
      · exact absurd w h0
      · exact wlk w1 w2 _ (fun M3 R3 => ⟨fun _ => kk _ M3 R3, fun _ => kk _ M3 R3⟩)
  rw [tn_, rb.1.1]
  refine ⟨fun h0 => ⟨fun w => absurd w (by decide), fun _ => k59 1 0 (Or.inl rfl)⟩, fun h0 => ⟨fun _ _ => ?_, fun w => absurd rfl w⟩⟩
  rw [tn_]
  exact ⟨fun h1 => k59 0 1 (Or.inr ⟨by omega, h1⟩), fun _ => k59 0 0 (Or.inl rfl)⟩
end WFM
