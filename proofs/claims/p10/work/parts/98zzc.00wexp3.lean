/-! the reference's exp(): its loop -/
section WX3
variable {M M' M0 : rf_M} {T : tK} {r c0 i u : Nat} {π : List Int} {cs : List Bool} {o : cdT} {ir : Bool}
theorem xm_close {ρ : List Int} {M1 : rf_M} (h : xm T r c0 M0 M i u (40 :: ρ) cs o) (y : eqy (fun a k => a = 353 ∧ (k = 30 ∨ k = 31 ∨ k = 33)) M M1) (p1 : gi M1 353 30 = (ρ.length : Int)) (p2 : gi M1 353 31 = ((fil ρ).length : Int)) (p3 : gi M1 353 33 = (lv ρ : Int)) : xm T r c0 M0 M1 i u ρ cs.tail o := by
  obtain ⟨⟨a1, ⟨a2, a2'⟩, a3, a4⟩, ⟨b1, b2, ⟨b3, b3'⟩, b4⟩, ⟨c1, c2, c3, ⟨c4, c4'⟩, c5, c6, c7⟩⟩ := h
  have hp := fil_p ρ
  rw [hp.2.1] at c7
  refine ⟨⟨a1.eq y (fun a k z => by omega), ⟨(y.i (by omega)).trans a2, a2'⟩, a3.trans (y.mono (fun a k z => by unfold exW; omega)), (y.i (by omega)).trans a4⟩, ⟨(y.i (by omega)).trans b1, b2, ⟨(y.i (by omega)).trans b3, b3'⟩, b4.eq y (fun b k z _ _ => by omega)⟩, ⟨p1, c2.2.eq (fun k _ => y.i (by omega)), c3.2.2, ⟨p2, Nat.le_trans (fil_le 40 ρ) c4'⟩, p3, ?_, ?_⟩⟩
  · cases cs with
    | nil => trivial
    | cons x cs' => exact c6.2.eq (fun k _ => y.i (by omega))
  · rw [List.length_tail]; omega
theorem stg_isb {x : Int} (h : 1 ≤ stg x) : isb x = true := by
  refine (isb_iff x).mpr ?_
  unfold stg at h
  split at h
  · omega
  · split at h
    · omega
    · split at h
      · omega
      · omega
theorem y_exp {v1 : Int} {i0 u0 : Nat} {K : Int → rf_M → Prop} (hv : v1 = 0 ↔ ir = false) (hm : mtv M T i0) (h28 : gi M 353 28 = (r : Int)) (hr : r < 12) (h9 : gi M 353 9 = 0) (h56 : gi M 356 r = (u0 : Int)) (hu : u0 ≤ 60) (h59 : gi M 359 r = (c0 : Int)) (hc : c0 ≤ 2400) (kk : ∀ M', xpq T r c0 M ir i0 u0 M' → K (200 * (r : Int) + (c0 : Int)) M') : em_W_exp v1 M K := by
  have er : (gi M 353 28).toNat = r := by rw [h28]; omega
  show e_W_exp v1 M K
  unfold e_W_exp
  rw [er, h28, h59]
  intro _ M1 e1 M2 e2 M3 e3 _ M4 e4
  refine ⟨inr_z (by omega) (by omega), ?_⟩
  have y4 : eqy (fun a k => (a = 353 ∧ (k = 30 ∨ k = 31 ∨ k = 33)) ∨ a = 372) M M4 := by
    rw [e4, e3, e2, e1]
    exact ((((eqy.rfl' M).wi (by omega)).wi (by omega)).wi (by omega)).wi (by omega)
  have h4 : xm T r c0 M M4 i0 u0 [] [false] [] := by
    refine ⟨⟨hm.eq y4 (fun a k z => by omega), ⟨(y4.i (by omega)).trans h28, hr⟩, y4.mono (fun a k z => by unfold exW; omega), (y4.i (by omega)).trans h9⟩, ⟨(y4.i (by omega)).trans h56, hu, ⟨(y4.i (by omega)).trans h59, hc⟩, fun k hk => absurd hk (by simp)⟩, ⟨?_, trivial, trivial, ⟨?_, by simp [fil]⟩, ?_, ⟨?_, trivial⟩, rfl⟩⟩
    · rw [e4, gi_of (Or.inl (by omega)), e3, gi_of (Or.inr (by omega)), e2, gi_of (Or.inr (by omega)), e1, gi_at ir_0]; rfl
    · rw [e4, gi_of (Or.inl (by omega)), e3, gi_of (Or.inr (by omega)), e2, gi_at ir_0]; rfl
    · rw [e4, gi_of (Or.inl (by omega)), e3, gi_at ir_0]; rfl
    · show gi M4 372 0 = 0
      rw [e4, gi_at (inr_ti _)]
      decide
  clear e1 e2 e3 e4
  refine ⟨fun w1 w2 w3 w4 N => w1 = v1 ∧ w2 = 200 * (r : Int) + (c0 : Int) ∧ (xfl r c0 M N ∨ ∃ (i u : Nat) (w : Bool) (π : List Int) (cs : List Bool) (o : cdT), xm T r c0 M N i u π cs o ∧ (w3 = 0 ↔ w = false) ∧ xre (κT T) (νT T) ir (i0, u0, true, [], [false], []) (i, u, w, π, cs, o) ∧ (w = false → π.head? ≠ some 1000) ∧ (w4 = 0 → w = false ∧ xst (κT T) (νT T) ir i u false π cs o = .inr (i, u, decide (lv π = 0), o ++ pops 1 π))), ⟨rfl, rfl, Or.inr ⟨i0, u0, true, [], [false], [], h4, by decide, xre.rfl' _, fun q => absurd q (by decide), fun q => absurd q (by decide)⟩⟩, ?_⟩
  rintro w1 w2 w3 w4 N - - - - ⟨e1', e2', hN⟩
  rw [e1', e2']
  rcases hN with hx | ⟨i, u, w, π, cs, o, hx, hw, hre, hhd, hen⟩
  · exact ⟨fun _ => y_end_f hx (fun M' h' => kk M' (Or.inl h')), fun _ => ⟨fun q => absurd q hx.2.2.1, fun _ => y_end_f hx (fun M' h' => kk M' (Or.inl h'))⟩⟩
  have g9 := hx.1.2.2.2
  refine ⟨fun q4 => ?_, fun n4 => ⟨fun _ => ⟨fun q3 => ?_, fun n3 => ?_⟩, fun q => absurd g9 q⟩⟩
  · obtain ⟨rfl, hs⟩ := hen q4
    exact y_end hx hre hs kk
  · have ew := hw.mp q3
    subst ew
    have hd := hhd rfl
    clear hen hhd
    obtain ⟨⟨a1, ⟨a2, a2'⟩, a3, a4⟩, ⟨b1, b2, ⟨b3, b3'⟩, b4⟩, ⟨c1, c2, c3, ⟨c4, c4'⟩, c5, c6, c7⟩⟩ := id hx
    have tk := a1.1.2.2
    have hk := tkm_iff tk.2.2.2
    have k4 : gi N 353 4 = 4 ↔ 20 ≤ κT T i := by rw [tk.1]; exact hk.1
    have g8 : 20 ≤ κT T i → gi N 353 8 = κT T i := tk.2.1
    have s20 : ¬ 20 ≤ κT T i → stg (κT T i) = 0 := fun q => by
      unfold stg
      rw [if_neg (by omega), if_neg (by omega), if_neg (by omega)]
    have lt : κT T i ≠ 0 → i < T.length := fun q => kd_lt q
    cases cs with
    | nil => exact absurd c7 (by simp)
    | cons x cs' =>
    have hl : cs'.length = lv π := by simpa using c7
    have fx : gi N 372 (lv π) = (if x then 1 else 0) := by rw [← hl]; exact c6.1
    -- an operator
    have e237 : ∀ (l : Int) (b : Bool) (N1 : rf_M), 1 ≤ l ∧ l ≤ 3 → 20 ≤ κT T i → 1 ≤ stg (κT T i) → xm T r c0 M N1 i u π (b :: cs') o → xst (κT T) (νT T) ir i u false π (x :: cs') o = .inl (i + 1, u, true, κT T i :: popr l π, b :: cs', o ++ pops l π) → e_W_exp_237 v1 (200 * (r : Int) + (c0 : Int)) w4 l N1 (fun w1 w2 w3 w4 N => w1 = v1 ∧ w2 = 200 * (r : Int) + (c0 : Int) ∧ (xfl r c0 M N ∨ ∃ (i u : Nat) (w : Bool) (π : List Int) (cs : List Bool) (o : cdT), xm T r c0 M N i u π cs o ∧ (w3 = 0 ↔ w = false) ∧ xre (κT T) (νT T) ir (i0, u0, true, [], [false], []) (i, u, w, π, cs, o) ∧ (w = false → π.head? ≠ some 1000) ∧ (w4 = 0 → w = false ∧ xst (κT T) (νT T) ir i u false π cs o = .inr (i, u, decide (lv π = 0), o ++ pops 1 π)))) K := fun l b N1 hl1 h20 hs1 hN1 hst => by
      refine y_reduce hl1 hN1 (fun N2 h2 hb N3 e3 N4 e4 => ?_)
      have g30 := h2.2.2.1
      have g82 : gi N2 353 8 = κT T i := h2.1.1.1.2.2.2.1 h20
      rw [g30, tn_, g82] at e3
      rw [g30] at hb
      have y3 : eqy (fun a k => (a = 353 ∧ k = 30) ∨ (a = 371 ∧ k = (popr l π).length)) N2 N3 := by rw [e3]; exact (eqy.rfl' _).wi (Or.inr ⟨rfl, rfl⟩)
      have q30 : gi N3 353 30 = ((popr l π).length : Int) := by rw [e3, gi_of (Or.inl (by omega))]; exact g30
      have y4 : eqy (fun a k => (a = 353 ∧ k = 30) ∨ (a = 371 ∧ k = (popr l π).length)) N3 N4 := by rw [e4]; exact (eqy.rfl' _).wi (Or.inl ⟨rfl, rfl⟩)
      have hq := xm_sign (x := κT T i) h2 (stg_isb hs1) ((popr_keep l π).2.2.2 hd c3) (y3.trans y4) (by rw [e4, gi_at (by rw [q30]; exact inr_z (by omega) (by omega)), q30]) (by rw [e4, gi_of (Or.inl (by omega)), e3, gi_at (κT_i T i).1])
      exact y_next hq.1.1 (lt (by omega)) (fun N5 y5 m5 => ⟨rfl, rfl, Or.inr ⟨_, _, true, _, _, _, hq.nx y5 m5, by decide, hre.trans (xre.one hst), fun q => absurd q (by decide), fun q => absurd q n4⟩⟩)
    have b0 : (Int32.ofInt 0 &&& 1).toInt = 0 := by decide
    have b1' : (Int32.ofInt 1 &&& 1).toInt = 1 := by decide
    have h33 : (gi N 353 33).toNat = lv π := by rw [c5, tn_]
    have fl : ∀ (b : Bool) (N1 : rf_M) (z : Int), N1 = wi N 372 (lv π) z → z = (if b then 1 else 0) → inr z → xm T r c0 M N1 i u π (b :: cs') o := fun b N1 z e1 ez iz => xm_flag hx (by rw [e1]; exact (eqy.rfl' _).wi ⟨rfl, rfl⟩) (by rw [e1, gi_at iz]; exact ez)
    have st3 : ∀ z, stg z ≤ 3 := fun z => by
      unfold stg
      split
      · omega
      · split
        · omega
        · split <;> omega
    by_cases h41 : κT T i = 41 ∧ 0 < lv π
    · refine y_isSign a1.1 (by decide) (fun _ => ⟨fun q => absurd q (by decide), fun _ => ⟨fun q => absurd q (by omega), fun _ => ?_⟩⟩) (fun q => absurd h41.1 q)
      refine y_reduce (by omega) hx (fun N2 h2 N3 e3 N4 e4 N5 e5 => ?_)
      have hpk := popr_keep 1 π
      have hst : xst (κT T) (νT T) ir i u false π (x :: cs') o = .inl (i + 1, u, false, dm (popr 1 π).tail, cs', o ++ pops 1 π ++ negs (popr 1 π).tail) := by
        unfold xst
        rw [if_neg (by decide), if_pos h41]
        rfl
      obtain ⟨ρ, hρ⟩ : ∃ ρ, popr 1 π = 40 :: ρ := by
        rcases popr_one π c3 hd with z | z
        · have := hpk.2.1
          rw [z] at this
          have : 0 = lv π := this
          omega
        · exact z
      rw [hρ] at h2 hst
      obtain ⟨_, _, ⟨d1, d2, d3, ⟨d4, d4'⟩, d5, d6, d7⟩⟩ := id h2
      have hp := fil_p ρ
      have lρ := lv_le ρ
      have f31 : gi N2 353 31 = ((fil ρ).length : Int) + 1 := by rw [d4, hp.1]; simp
      have f33 : gi N2 353 33 = (lv ρ : Int) + 1 := by rw [d5, hp.2.1]; omega
      have f30 : gi N2 353 30 = (ρ.length : Int) + 1 := by rw [d1]; simp
      have i3 := inr_gi N2 353 30
      have h8 : (fil ρ).length ≤ 8 := by rw [hp.1] at d4'; simp at d4'; omega
      have y5 : eqy (fun a k => a = 353 ∧ (k = 30 ∨ k = 31 ∨ k = 33)) N2 N5 := by rw [e5, e4, e3]; exact (((eqy.rfl' _).wi (by omega)).wi (by omega)).wi (by omega)
      have g33 : gi N3 353 33 = (lv ρ : Int) + 1 := by rw [e3, gi_of (Or.inr (by omega))]; exact f33
      have g31 : gi N4 353 31 = ((fil ρ).length : Int) + 1 := by rw [e4, gi_of (Or.inr (by omega)), e3, gi_of (Or.inr (by omega))]; exact f31
      have hq := xm_close h2 y5 (by rw [e5, gi_of (Or.inr (by omega)), e4, gi_of (Or.inr (by omega)), e3, gi_at ⟨by omega, by have := i3.2; omega⟩, f30]; omega) (by rw [e5, gi_at (by rw [g31]; exact inr_z (by omega) (by omega)), g31]; omega) (by rw [e5, gi_of (Or.inr (by omega)), e4, gi_at (by rw [g33]; exact inr_z (by omega) (by omega)), g33]; omega)
      exact y_next hq.1.1 (lt (by omega)) (fun N6 y6 m6 => y_operand (hq.nx y6 m6) (fun N7 h7 => ⟨rfl, rfl, Or.inr ⟨_, _, false, _, _, _, h7, hw, hre.trans (xre.one hst), fun _ => (dm_keep d3.2.2).2.2.2.1, fun q => absurd q n4⟩⟩))
    · have fin : ¬ 1 < stg (κT T i) → ¬ (stg (κT T i) = 1 ∧ x = false) → xst (κT T) (νT T) ir i u false π (x :: cs') o = .inr (i, u, decide (lv π = 0), o ++ pops 1 π) := fun n1 n2 => by
        unfold xst
        rw [if_neg (by decide), if_neg h41, if_neg n1, if_neg (fun z => n2 ⟨z.1, by simpa using z.2⟩)]
      have stA : 1 < stg (κT T i) → xst (κT T) (νT T) ir i u false π (x :: cs') o = .inl (i + 1, u, true, κT T i :: popr (stg (κT T i)) π, x :: cs', o ++ pops (stg (κT T i)) π) := fun n1 => by
        unfold xst
        rw [if_neg (by decide), if_neg h41, if_pos n1]
      have stB : stg (κT T i) = 1 → x = false → xst (κT T) (νT T) ir i u false π (x :: cs') o = .inl (i + 1, u, true, κT T i :: popr 2 π, true :: cs', o ++ pops 2 π) := fun n1 n2 => by
        unfold xst
        rw [if_neg (by decide), if_neg h41, if_neg (by omega), if_pos ⟨n1, by rw [n2]; rfl⟩]
        rfl
      have fx0 : gi N 372 (lv π) = 0 ↔ x = false := by
        rw [fx]
        cases x <;> simp
      refine y_isSign a1.1 (by decide) (fun e => ⟨fun q => absurd q (by decide), fun _ => ⟨fun _ => ?_, fun q => absurd (show 0 < lv π by omega) (fun z => h41 ⟨e, z⟩)⟩⟩) (fun ne => ⟨fun _ => ?_, fun q => absurd rfl q⟩)
      all_goals
        refine ⟨fun q4 => y_strength ⟨fun q1 => y_strength (fun _ => ?_), fun q1 => ⟨fun _ => y_strength ⟨fun q5 hb => ⟨fun qf => y_strength (fun _ => ?_), fun qf => ⟨rfl, rfl, Or.inr ⟨i, u, false, π, x :: cs', o, hx, hw, hre, fun _ => hd, fun _ => ⟨rfl, ?_⟩⟩⟩⟩, fun q5 => ⟨rfl, rfl, Or.inr ⟨i, u, false, π, x :: cs', o, hx, hw, hre, fun _ => hd, fun _ => ⟨rfl, ?_⟩⟩⟩⟩, fun q => absurd q4 q⟩⟩, fun q4 => ⟨fun q => absurd q q4, fun _ => ⟨rfl, rfl, Or.inr ⟨i, u, false, π, x :: cs', o, hx, hw, hre, fun _ => hd, fun _ => ⟨rfl, ?_⟩⟩⟩⟩⟩
      all_goals first
        | exact fin (by rw [s20 (fun z => q4 (k4.mpr z))]; decide) (by rw [s20 (fun z => q4 (k4.mpr z))]; exact fun z => absurd z.1 (by decide))
        | (rw [g8 (k4.mp q4)] at q1 q5; exact fin q1 (fun z => q5 z.1))
        | (rw [g8 (k4.mp q4)] at q1 q5; rw [h33] at qf; exact fin q1 (fun z => qf (fx0.mpr z.2)))
        | (rw [g8 (k4.mp q4)] at q1 q5; rw [g8 (k4.mp q4), h33]; rw [h33] at qf
           refine ⟨fun _ => ⟨fun _ _ N1 en => ?_, fun z => absurd q5 z⟩, fun z => absurd qf z⟩
           rw [h33] at en
           exact ⟨fun _ => e237 2 true N1 (by omega) (k4.mp q4) (by omega) (fl true N1 _ en b1' (inr_ti _)) (stB q5 (fx0.mp qf)), fun z => absurd q5 z⟩)
        | (rw [g8 (k4.mp q4)] at q1; rw [g8 (k4.mp q4), h33]
           have s3 := st3 (κT T i)
           refine ⟨fun qf => ⟨fun z => absurd z (by omega), fun _ _ N1 en => ?_⟩, fun qf _ N1 en => ?_⟩
           · rw [h33] at en
             refine ⟨fun z => absurd z (by omega), fun _ => e237 _ x N1 (by omega) (k4.mp q4) (by omega) (fl x N1 _ en ?_ (inr_ti _)) (stA q1)⟩
             rw [b0, fx0.mp qf]; rfl
           · rw [h33] at en
             have hx1 : x = true := by
               cases x with
               | true => rfl
               | false => exact absurd (fx0.mpr rfl) qf
             refine ⟨fun z => absurd z (by omega), fun _ => e237 _ x N1 (by omega) (k4.mp q4) (by omega) (fl x N1 _ en ?_ (inr_ti _)) (stA q1)⟩
             rw [b1', hx1]; rfl)
  · have ew : w = true := by
      cases w with
      | true => rfl
      | false => exact absurd (hw.mpr rfl) n3
    subst ew
    exact y_readUnary hv hx (fun M' h' => ⟨rfl, rfl, Or.inl h'⟩) (fun M' π' cs' h' st => ⟨rfl, rfl, Or.inr ⟨_, _, true, π', cs', o, h', by decide, hre.trans (xre.one st), fun q => absurd q (by decide), fun q => absurd q n4⟩⟩) (fun M' π' o' h' hh st => ⟨rfl, rfl, Or.inr ⟨_, _, false, π', cs, o', h', by decide, hre.trans (xre.one st), fun _ => hh, fun q => absurd q n4⟩⟩)
end WX3
/-! the reference's exp() writes what the grammar says -/
theorem xpq_d {T : tK} {r c0 i0 u0 j du : Nat} {M0 M' : rf_M} {ir : Bool} {cd : cdT} (h : xpq T r c0 M0 ir i0 u0 M') (hd : dE (κT T) (dU (κT T) (νT T) ir 8) i0 j cd du) (hu : u0 + du ≤ 60) (hj : κT T j = 59 ∨ κT T j = 41) : xfl r c0 M0 M' ∨ (eqy (exW r c0) M0 M' ∧ (gi M' 353 28 = (r : Int) ∧ r < 12) ∧ gi M' 353 9 = 0 ∧ mtv M' T j ∧ gi M' 356 r = ((u0 + du : Nat) : Int) ∧ (gi M' 359 r = ((c0 + cd.length + 1 : Nat) : Int) ∧ c0 + cd.length + 1 ≤ 2400) ∧ rcq M' (200 * r + c0) (cd ++ [(4, 0)])) := by
  rcases h with h | ⟨a1, a2, a3, i, u, π, cs, o, cd', ⟨k1, b1⟩, b2, b3, b4, b5, b6, b7⟩
  · exact Or.inl h
  obtain ⟨σ, ⟨k2, d1⟩, d2⟩ := x_whole (u0 := u0) hd hu hj
  obtain ⟨k, e1⟩ := xru_det b1 d1 d2
  cases k with
  | zero =>
    have e2 : σ = (i, u, false, π, cs, o) := e1
    subst e2
    have e3 : (Sum.inr (i, u, true, cd') : xS ⊕ (Nat × Nat × Bool × cdT)) = .inr (j, u0 + du, true, cd) := b2.symm.trans d2
    injection e3 with e4
    injection e4 with e5 e6
    injection e6 with e7 e8
    injection e8 with e9 e10
    subst e5; subst e7; subst e10
    exact Or.inr ⟨a1, a2, a3, b3, b4, b6, b7⟩
  | succ k =>
    obtain ⟨τ, e2, _⟩ := e1
    have e3 := b2.symm.trans e2
    cases e3
/-! code of an exp: no end within, a number or a letter first; what is left of a text -/
def hdc (c : cdT) : Prop := (∀ q ∈ c, q.1 ≠ 0) ∧ ∃ q c', c = q :: c' ∧ (q.1 = 1 ∨ q.1 = 2)
section GR3
variable {κ ν : Nat → Int} {ir : Bool} {U : rxT}
theorem hdc.app {c d : cdT} (h : hdc c) (h' : ∀ q ∈ d, q.1 ≠ 0) : hdc (c ++ d) := by
  obtain ⟨h1, q, c', rfl, h2⟩ := h
  refine ⟨fun x hx => ?_, q, c' ++ d, rfl, h2⟩
  rcases List.mem_append.mp hx with hx | hx
  · exact h1 x hx
  · exact h' x hx
theorem dL_hd {op : Int → Prop} (ho : ∀ o, op o → o ≠ 0) (hU : ∀ i j c u, U i j c u → hdc c) : ∀ (n i j : Nat) (c : cdT) (u : Nat), dL κ op U n i j c u → ∀ q ∈ c, q.1 ≠ 0
  | 0, i, j, c, u, h => by
    obtain ⟨-, rfl, rfl⟩ := h
    intro q hq
    cases hq
  | n + 1, i, j, c, u, h => by
    obtain ⟨j1, c1, u1, c2, u2, h1, h2, h3, rfl, rfl⟩ := h
    intro q hq
    rcases List.mem_append.mp hq with hq | hq
    · exact (hU _ _ _ _ h2).1 q hq
    · rcases List.mem_cons.mp hq with rfl | hq
      · exact ho _ h1
      · exact dL_hd ho hU n _ _ _ _ h3 q hq
theorem dP_hd (hU : ∀ i j c u, U i j c u → hdc c) : ∀ i j c u, dP κ U i j c u → hdc c := by
  rintro i j c u ⟨j1, c1, u1, n, c2, u2, h1, h2, rfl, rfl⟩
  exact (hU _ _ _ _ h1).app (dL_hd (fun o h => by unfold mop at h; omega) hU _ _ _ _ _ h2)
theorem dS_hd (hU : ∀ i j c u, U i j c u → hdc c) : ∀ i j c u, dS κ U i j c u → hdc c := by
  rintro i j c u ⟨j1, c1, u1, n, c2, u2, h1, h2, rfl, rfl⟩
  exact (dP_hd hU _ _ _ _ h1).app (dL_hd (fun o h => by unfold aop at h; omega) (dP_hd hU) _ _ _ _ _ h2)
theorem dE_hd (hU : ∀ i j c u, U i j c u → hdc c) : ∀ i j c u, dE κ U i j c u → hdc c := by
  rintro i j c u (h | ⟨j1, c1, u1, c2, u2, h1, h2, h3, rfl, rfl⟩)
  · exact dS_hd hU _ _ _ _ h
  · refine (dS_hd hU _ _ _ _ h1).app (fun q hq => ?_)
    rcases List.mem_append.mp hq with hq | hq
    · exact (dS_hd hU _ _ _ _ h3).1 q hq
    · have : q = (κ j1, 0) := by simpa using hq
      rw [this]
      show κ j1 ≠ 0
      unfold cop at h2
      omega
theorem dF_hd : ∀ i j c u, dF κ ν ir i j c u → hdc c := by
  rintro i j c u ⟨h, -, rfl⟩
  rcases h with ⟨h, rfl⟩ | ⟨h, -, rfl⟩
  · refine ⟨fun q hq => ?_, _, _, rfl, Or.inl rfl⟩
    have : q = (1, ν i) := by simpa using hq
    rw [this]
    show (1 : Int) ≠ 0
    decide
  · refine ⟨fun q hq => ?_, _, _, rfl, Or.inr rfl⟩
    have : q = (2, ν i) := by simpa using hq
    rw [this]
    show (2 : Int) ≠ 0
    decide
theorem dU_hd : ∀ (f i j : Nat) (c : cdT) (u : Nat), dU κ ν ir f i j c u → hdc c
  | 0, i, j, c, u, h => dF_hd i j c u h
  | f + 1, i, j, c, u, h => by
    rcases h with h | ⟨_, c1, u1, h, rfl, rfl⟩ | ⟨_, j1, u1, h, _, _, rfl⟩
    · exact dF_hd i j c u h
    · refine (dU_hd f _ _ _ _ h).app (fun q hq => ?_)
      have : q = (3, 0) := by simpa using hq
      rw [this]
      show (3 : Int) ≠ 0
      decide
    · exact dE_hd (dU_hd f) _ _ _ _ h
end GR3
