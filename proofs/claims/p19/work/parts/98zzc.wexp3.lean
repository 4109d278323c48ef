/-! the reference's exp(): its loop -/
section WX3
variable {M M' M0 : rf_M} {T : tK} {r c0 i u : Nat} {π : List Int} {cs : List Bool} {o : cdT} {ir : Bool}
theorem xm_close {ρ : List Int} {M1 : rf_M} (h : xm T r c0 M0 M i u (40 :: ρ) cs o) (y : eqy (fun a k => a = 353 ∧ (k = 30 ∨ k = 31 ∨ k = 33)) M M1) (p1 : gi M1 353 30 = (ρ.length : Int)) (p2 : gi M1 353 31 = ((fil ρ).length : Int)) (p3 : gi M1 353 33 = (lv ρ : Int)) : xm T r c0 M0 M1 i u ρ cs.tail o := by
  obtain ⟨⟨a1, ⟨a2, a2'⟩, a3, a4⟩, ⟨b1, b2, ⟨b3, b3'⟩, b4⟩, ⟨c1, c2, c3, ⟨c4, c4'⟩, c5, c6, c7⟩⟩ := h
  have hp := fil_p ρ
  rw [hp.2.1] at c7
  refine ⟨⟨a1.eq y (fun a k z => by omega), ⟨(y.i (by omega)).trans a2, a2'⟩, a3.trans (y.mono (fun a k z => by unfold exW; omega)), (y.i (by omega)).trans a4⟩, ⟨(y.i (by omega)).trans b1, b2, ⟨(y.i (by omega)).trans b3, b3'⟩, b4.eq y (fun b k z _ _ => by omega)⟩, ⟨p1, c2.2.eq (fun k _ => y.i (by omega)), c3.2.2, ⟨p2, Nat.le_trans (fil_le 40 ρ) c4'⟩, p3, ?_, ?_⟩⟩
  · cases cs with
    | nil => trivial
    | cons x cs' => exact c6.2.eq (fun k _ => y.i (by omega))
  · rw [List.length_tail]; omega
theorem stg_isb {x : Int} (h : 1 ≤ stg x) : isb x = true := by
  refine (isb_iff x).mpr ?_
  unfold stg at h
  split at h
  · omega
  · split at h
    · omega
    · split at h
      · omega
      · omega
theorem y_exp {v1 : Int} {i0 u0 : Nat} {K : Int → rf_M → Prop} (hv : v1 = 0 ↔ ir = false) (hm : mtv M T i0) (h28 : gi M 353 28 = (r : Int)) (hr : r < 12) (h9 : gi M 353 9 = 0) (h56 : gi M 356 r = (u0 : Int)) (hu : u0 ≤ 60) (h59 : gi M 359 r = (c0 : Int)) (hc : c0 ≤ 2400) (kk : ∀ M', xpq T r c0 M ir i0 u0 M' → K (200 * (r : Int) + (c0 : Int)) M') : em_W_exp v1 M K := by
  have er : (gi M 353 28).toNat = r := by rw [h28]; omega
  show e_W_exp v1 M K
  unfold e_W_exp
  rw [er, h28, h59]
  intro _ M1 e1 M2 e2 M3 e3 _ M4 e4
  refine ⟨inr_z (by omega) (by omega), ?_⟩
  have y4 : eqy (fun a k => (a = 353 ∧ (k = 30 ∨ k = 31 ∨ k = 33)) ∨ a = 372) M M4 := by
    rw [e4, e3, e2, e1]
    exact ((((eqy.rfl' M).wi (by omega)).wi (by omega)).wi (by omega)).wi (by omega)
  have h4 : xm T r c0 M M4 i0 u0 [] [false] [] := by
    refine ⟨⟨hm.eq y4 (fun a k z => by omega), ⟨(y4.i (by omega)).trans h28, hr⟩, y4.mono (fun a k z => by unfold exW; omega), (y4.i (by omega)).trans h9⟩, ⟨(y4.i (by omega)).trans h56, hu, ⟨(y4.i (by omega)).trans h59, hc⟩, fun k hk => absurd hk (by simp)⟩, ⟨?_, trivial, trivial, ⟨?_, by simp [fil]⟩, ?_, ⟨?_, trivial⟩, rfl⟩⟩
    · rw [e4, gi_of (Or.inl (by omega)), e3, gi_of (Or.inr (by omega)), e2, gi_of (Or.inr (by omega)), e1, gi_at ir_0]; rfl
    · rw [e4, gi_of (Or.inl (by omega)), e3, gi_of (Or.inr (by omega)), e2, gi_at ir_0]; rfl
    · rw [e4, gi_of (Or.inl (by omega)), e3, gi_at ir_0]; rfl
    · show gi M4 372 0 = 0
      rw [e4, gi_at (inr_ti _)]
      decide
  clear e1 e2 e3 e4
  refine ⟨fun w1 w2 w3 w4 N => w1 = v1 ∧ w2 = 200 * (r : Int) + (c0 : Int) ∧ (xfl r c0 M N ∨ ∃ (i u : Nat) (w : Bool) (π : List Int) (cs : List Bool) (o : cdT), xm T r c0 M N i u π cs o ∧ (w3 = 0 ↔ w = false) ∧ xre (κT T) (νT T) ir (i0, u0, true, [], [false], []) (i, u, w, π, cs, o) ∧ (w = false → π.head? ≠ some 1000) ∧ (w4 = 0 → w = false ∧ xst (κT T) (νT T) ir i u false π cs o = .inr (i, u, decide (lv π = 0), o ++ pops 1 π))), ⟨rfl, rfl, Or.inr ⟨i0, u0, true, [], [false], [], h4, by decide, xre.rfl' _, fun q => absurd q (by decide), fun q => absurd q (by decide)⟩⟩, ?_⟩
  rintro w1 w2 w3 w4 N - - - - ⟨e1', e2', hN⟩
  rw [e1', e2']
  rcases hN with hx | ⟨i, u, w, π, cs, o, hx, hw, hre, hhd, hen⟩
  · exact ⟨fun _ => y_end_f hx (fun M' h' => kk M' (Or.inl h')), fun _ => ⟨fun q => absurd q hx.2.2.1, fun _ => y_end_f hx (fun M' h' => kk M' (Or.inl h'))⟩⟩
  have g9 := hx.1.2.2.2
  refine ⟨fun q4 => ?_, fun n4 => ⟨fun _ => ⟨fun q3 => ?_, fun n3 => ?_⟩, fun q => absurd g9 q⟩⟩
  · obtain ⟨rfl, hs⟩ := hen q4
    exact y_end hx hre hs kk
  · have ew := hw.mp q3
    subst ew
    have hd := hhd rfl
    clear hen hhd
    obtain ⟨⟨a1, ⟨a2, a2'⟩, a3, a4⟩, ⟨b1, b2, ⟨b3, b3'⟩, b4⟩, ⟨c1, c2, c3, ⟨c4, c4'⟩, c5, c6, c7⟩⟩ := id hx
    have tk := a1.1.2.2
    have hk := tkm_iff tk.2.2.2
    have k4 : gi N 353 4 = 4 ↔ 20 ≤ κT T i := by rw [tk.1]; exact hk.1
    have g8 : 20 ≤ κT T i → gi N 353 8 = κT T i := tk.2.1
    have s20 : ¬ 20 ≤ κT T i → stg (κT T i) = 0 := fun q => by
      unfold stg
      rw [if_neg (by omega), if_neg (by omega), if_neg (by omega)]
    have lt : κT T i ≠ 0 → i < T.length := fun q => kd_lt q
    cases cs with
    | nil => exact absurd c7 (by simp)
    | cons x cs' =>
    have hl : cs'.length = lv π := by simpa using c7
    have fx : gi N 372 (lv π) = (if x then 1 else 0) := by rw [← hl]; exact c6.1
    -- an operator
    have e237 : ∀ (l : Int) (b : Bool) (N1 : rf_M), 1 ≤ l ∧ l ≤ 3 → 20 ≤ κT T i → 1 ≤ stg (κT T i) → xm T r c0 M N1 i u π (b :: cs') o → xst (κT T) (νT T) ir i u false π (x :: cs') o = .inl (i + 1, u, true, κT T i :: popr l π, b :: cs', o ++ pops l π) → e_W_exp_237 v1 (200 * (r : Int) + (c0 : Int)) w4 l N1 (fun w1 w2 w3 w4 N => w1 = v1 ∧ w2 = 200 * (r : Int) + (c0 : Int) ∧ (xfl r c0 M N ∨ ∃ (i u : Nat) (w : Bool) (π : List Int) (cs : List Bool) (o : cdT), xm T r c0 M N i u π cs o ∧ (w3 = 0 ↔ w = false) ∧ xre (κT T) (νT T) ir (i0, u0, true, [], [false], []) (i, u, w, π, cs, o) ∧ (w = false → π.head? ≠ some 1000) ∧ (w4 = 0 → w = false ∧ xst (κT T) (νT T) ir i u false π cs o = .inr (i, u, decide (lv π = 0), o ++ pops 1 π)))) K := fun l b N1 hl1 h20 hs1 hN1 hst => by
      refine y_reduce hl1 hN1 (fun N2 h2 hb N3 e3 N4 e4 => ?_)
      have g30 := h2.2.2.1
      have g82 : gi N2 353 8 = κT T i := h2.1.1.1.2.2.2.1 h20
      rw [g30, tn_, g82] at e3
      rw [g30] at hb
      have y3 : eqy (fun a k => (a = 353 ∧ k = 30) ∨ (a = 371 ∧ k = (popr l π).length)) N2 N3 := by rw [e3]; exact (eqy.rfl' _).wi (Or.inr ⟨rfl, rfl⟩)
      have q30 : gi N3 353 30 = ((popr l π).length : Int) := by rw [e3, gi_of (Or.inl (by omega))]; exact g30
      have y4 : eqy (fun a k => (a = 353 ∧ k = 30) ∨ (a = 371 ∧ k = (popr l π).length)) N3 N4 := by rw [e4]; exact (eqy.rfl' _).wi (Or.inl ⟨rfl, rfl⟩)
      have hq := xm_sign (x := κT T i) h2 (stg_isb hs1) ((popr_keep l π).2.2.2 hd c3) (y3.trans y4) (by rw [e4, gi_at (by rw [q30]; exact inr_z (by omega) (by omega)), q30]) (by rw [e4, gi_of (Or.inl (by omega)), e3, gi_at (κT_i T i).1])
      exact y_next hq.1.1 (lt (by omega)) (fun N5 y5 m5 => ⟨rfl, rfl, Or.inr ⟨_, _, true, _, _, _, hq.nx y5 m5, by decide, hre.trans (xre.one hst), fun q => absurd q (by decide), fun q => absurd q n4⟩⟩)
    have b0 : (Int32.ofInt 0 &&& 1).toInt = 0 := by decide
    have b1' : (Int32.ofInt 1 &&& 1).toInt = 1 := by decide
    have h33 : (gi N 353 33).toNat = lv π := by rw [c5, tn_]
    have fl : ∀ (b : Bool) (N1 : rf_M) (z : Int), N1 = wi N 372 (lv π) z → z = (if b then 1 else 0) → inr z → xm T r c0 M N1 i u π (b :: cs') o := fun b N1 z e1 ez iz => xm_flag hx (by rw [e1]; exact (eqy.rfl' _).wi ⟨rfl, rfl⟩) (by rw [e1, gi_at iz]; exact ez)
    have st3 : ∀ z, stg z ≤ 3 := fun z => by
      unfold stg
      split
      · omega
      · split
        · omega
        · split <;> omega
    by_cases h41 : κT T i = 41 ∧ 0 < lv π
    · refine y_isSign a1.1 (by decide) (fun _ => ⟨fun q => absurd q (by decide), fun _ => ⟨fun q => absurd q (by omega), fun _ => ?_⟩⟩) (fun q => absurd h41.1 q)
      refine y_reduce (by omega) hx (fun N2 h2 N3 e3 N4 e4 N5 e5 => ?_)
      have hpk := popr_keep 1 π
      have hst : xst (κT T) (νT T) ir i u false π (x :: cs') o = .inl (i + 1, u, false, dm (popr 1 π).tail, cs', o ++ pops 1 π ++ negs (popr 1 π).tail) := by
        unfold xst
        rw [if_neg (by decide), if_pos h41]
        rfl
      obtain ⟨ρ, hρ⟩ : ∃ ρ, popr 1 π = 40 :: ρ := by
        rcases popr_one π c3 hd with z | z
        · have := hpk.2.1
          rw [z] at this
          have : 0 = lv π := this
          omega
        · exact z
      rw [hρ] at h2 hst
      obtain ⟨_, _, ⟨d1, d2, d3, ⟨d4, d4'⟩, d5, d6, d7⟩⟩ := id h2
      have hp := fil_p ρ
      have lρ := lv_le ρ
      have f31 : gi N2 353 31 = ((fil ρ).length : Int) + 1 := by rw [d4, hp.1]; simp
      have f33 : gi N2 353 33 = (lv ρ : Int) + 1 := by rw [d5, hp.2.1]; omega
      have f30 : gi N2 353 30 = (ρ.length : Int) + 1 := by rw [d1]; simp
      have i3 := inr_gi N2 353 30
      have h8 : (fil ρ).length ≤ 8 := by rw [hp.1] at d4'; simp at d4'; omega
      have y5 : eqy (fun a k => a = 353 ∧ (k = 30 ∨ k = 31 ∨ k = 33)) N2 N5 := by rw [e5, e4, e3]; exact (((eqy.rfl' _).wi (by omega)).wi (by omega)).wi (by omega)
      have g33 : gi N3 353 33 = (lv ρ : Int) + 1 := by rw [e3, gi_of (Or.inr (by omega))]; exact f33
      have g31 : gi N4 353 31 = ((fil ρ).length : Int) + 1 := by rw [e4, gi_of (Or.inr (by omega)), e3, gi_of (Or.inr (by omega))]; exact f31
      have hq := xm_close h2 y5 (by rw [e5, gi_of (Or.inr (by omega)), e4, gi_of (Or.inr (by omega)), e3, gi_at ⟨by omega, by have := i3.2; omega⟩, f30]; omega) (by rw [e5, gi_at (by rw [g31]; exact inr_z (by omega) (by omega)), g31]; omega) (by rw [e5, gi_of (Or.inr (by omega)), e4, gi_at (by rw [g33]; exact inr_z (by omega) (by omega)), g33]; omega)
      exact y_next hq.1.1 (lt (by omega)) (fun N6 y6 m6 => y_operand (hq.nx y6 m6) (fun N7 h7 => ⟨rfl, rfl, Or.inr ⟨_, _, false, _, _, _, h7, hw, hre.trans (xre.one hst), fun _ => (dm_keep d3.2.2).2.2.2.1, fun q => absurd q n4⟩⟩))
    · have fin : ¬ 1 < stg (κT T i) → ¬ (stg (κT T i) = 1 ∧ x = false) → xst (κT T) (νT T) ir i u false π (x :: cs') o = .inr (i, u, decide (lv π = 0), o ++ pops 1 π) := fun n1 n2 => by
        unfold xst
        rw [if_neg (by decide), if_neg h41, if_neg n1, if_neg (fun z => n2 ⟨z.1, by simpa using z.2⟩)]
      have stA : 1 < stg (κT T i) → xst (κT T) (νT T) ir i u false π (x :: cs') o = .inl (i + 1, u, true, κT T i :: popr (stg (κT T i)) π, x :: cs', o ++ pops (stg (κT T i)) π) := fun n1 => by
        unfold xst
        rw [if_neg (by decide), if_neg h41, if_pos n1]
      have stB : stg (κT T i) = 1 → x = false → xst (κT T) (νT T) ir i u false π (x :: cs') o = .inl (i + 1, u, true, κT T i :: popr 2 π, true :: cs', o ++ pops 2 π) := fun n1 n2 => by
        unfold xst
        rw [if_neg (by decide), if_neg h41, if_neg (by omega), if_pos ⟨n1, by rw [n2]; rfl⟩]
        rfl
      have fx0 : gi N 372 (lv π) = 0 ↔ x = false := by
        rw [fx]
        cases x <;> simp
      refine y_isSign a1.1 (by decide) (fun e => ⟨fun q => absurd q (by decide), fun _ => ⟨fun _ => ?_, fun q => absurd (show 0 < lv π by omega) (fun z => h41 ⟨e, z⟩)⟩⟩) (fun ne => ⟨fun _ => ?_, fun q => absurd rfl q⟩)
      all_goals
        refine ⟨fun q4 => y_strength ⟨fun q1 => y_strength (fun _ => ?_), fun q1 => ⟨fun _ => y_strength ⟨fun q5 hb => ⟨fun qf => y_strength (fun _ => ?_), fun qf => ⟨rfl, rfl, Or.inr ⟨i, u, false, π, x :: cs', o, hx, hw, hre, fun _ => hd, fun _ => ⟨rfl, ?_⟩⟩⟩⟩, fun q5 => ⟨rfl, rfl, Or.inr ⟨i, u, false, π, x :: cs', o, hx, hw, hre, fun _ => hd, fun _ => ⟨rfl, ?_⟩⟩⟩⟩, fun q => absurd q4 q⟩⟩, fun q4 => ⟨fun q => absurd q q4, fun _ => ⟨rfl, rfl, Or.inr ⟨i, u, false, π, x :: cs', o, hx, hw, hre, fun _ => hd, fun _ => ⟨rfl, ?_⟩⟩⟩⟩⟩
      all_goals first
        | exact fin (by rw [s20 (fun z => q4 (k4.mpr z))]; decide) (by rw [s20 (fun z => q4 (k4.mpr z))]; exact fun z => absurd z.1 (by decide))
        | (rw [g8 (k4.mp q4)] at q1 q5; exact fin q1 (fun z => q5 z.1))
        | (rw [g8 (k4.mp q4)] at q1 q5; rw [h33] at qf; exact fin q1 (fun z => qf (fx0.mpr z.2)))
        | (rw [g8 (k4.mp q4)] at q1 q5; rw [g8 (k4.mp q4), h33]; rw [h33] at qf
           refine ⟨fun _ => ⟨fun _ _ N1 en => ?_, fun z => absurd q5 z⟩, fun z => absurd qf z⟩
           rw [h33] at en
           exact ⟨fun _ => e237 2 true N1 (by omega) (k4.mp q4) (by omega) (fl true N1 _ en b1' (inr_ti _)) (stB q5 (fx0.mp qf)), fun z => absurd q5 z⟩)
        | (rw [g8 (k4.mp q4)] at q1; rw [g8 (k4.mp q4), h33]
           have s3 := st3 (κT T i)
           refine ⟨fun qf => ⟨fun z => absurd z (by omega), fun _ _ N1 en => ?_⟩, fun qf _ N1 en => ?_⟩
           · rw [h33] at en
             refine ⟨fun z => absurd z (by omega), fun _ => e237 _ x N1 (by omega) (k4.mp q4) (by omega) (fl x N1 _ en ?_ (inr_ti _)) (stA q1)⟩
             rw [b0, fx0.mp qf]; rfl
           · rw [h33] at en
             have hx1 : x = true := by
               cases x with
               | true => rfl
               | false => exact absurd (fx0.mpr rfl) qf
             refine ⟨fun z => absurd z (by omega), fun _ => e237 _ x N1 (by omega) (k4.mp q4) (by omega) (fl x N1 _ en ?_ (inr_ti _)) (stA q1)⟩
             rw [b1', hx1]; rfl)
  · have ew : w = true := by
      cases w with
      | true => rfl
      | false => exact absurd (hw.mpr rfl) n3
    subst ew
    exact y_readUnary hv hx (fun M' h' => ⟨rfl, rfl, Or.inl h'⟩) (fun M' π' cs' h' st => ⟨rfl, rfl, Or.inr ⟨_, _, true, π', cs', o, h', by decide, hre.trans (xre.one st), fun q => absurd q (by decide), fun q => absurd q n4⟩⟩) (fun M' π' o' h' hh st => ⟨rfl, rfl, Or.inr ⟨_, _, false, π', cs, o', h', by decide, hre.trans (xre.one st), fun _ => hh, fun q => absurd q n4⟩⟩)
end WX3
/-! the reference's exp() writes what the grammar says -/
theorem xpq_d {T : tK} {r c0 i0 u0 j du : Nat} {M0 M' : rf_M} {ir : Bool} {cd : cdT} (h : xpq T r c0 M0 ir i0 u0 M') (hd : dE (κT T) (dU (κT T) (νT T) ir 8) i0 j cd du) (hu : u0 + du ≤ 60) (hj : κT T j = 59 ∨ κT T j = 41) : xfl r c0 M0 M' ∨ (eqy (exW r c0) M0 M' ∧ (gi M' 353 28 = (r : Int) ∧ r < 12) ∧ gi M' 353 9 = 0 ∧ mtv M' T j ∧ gi M' 356 r = ((u0 + du : Nat) : Int) ∧ (gi M' 359 r = ((c0 + cd.length + 1 : Nat) : Int) ∧ c0 + cd.length + 1 ≤ 2400) ∧ rcq M' (200 * r + c0) (cd ++ [(4, 0)])) := by
  rcases h with h | ⟨a1, a2, a3, i, u, π, cs, o, cd', ⟨k1, b1⟩, b2, b3, b4, b5, b6, b7⟩
  · exact Or.inl h
  obtain ⟨σ, ⟨k2, d1⟩, d2⟩ := x_whole (u0 := u0) hd hu hj
  obtain ⟨k, e1⟩ := xru_det b1 d1 d2
  cases k with
  | zero =>
    have e2 : σ = (i, u, false, π, cs, o) := e1
    subst e2
    have e3 : (Sum.inr (i, u, true, cd') : xS ⊕ (Nat × Nat × Bool × cdT)) = .inr (j, u0 + du, true, cd) := b2.symm.trans d2
    injection e3 with e4
    injection e4 with e5 e6
    injection e6 with e7 e8
    injection e8 with e9 e10
    subst e5; subst e7; subst e10
    exact Or.inr ⟨a1, a2, a3, b3, b4, b6, b7⟩
  | succ k =>
    obtain ⟨τ, e2, _⟩ := e1
    have e3 := b2.symm.trans e2
    cases e3
/-! code of an exp: no end within, a number or a letter first; what is left of a text -/
def hdc (c : cdT) : Prop := (∀ q ∈ c, q.1 ≠ 0) ∧ ∃ q c', c = q :: c' ∧ (q.1 = 1 ∨ q.1 = 2)
section GR3
variable {κ ν : Nat → Int} {ir : Bool} {U : rxT}
theorem hdc.app {c d : cdT} (h : hdc c) (h' : ∀ q ∈ d, q.1 ≠ 0) : hdc (c ++ d) := by
  obtain ⟨h1, q, c', rfl, h2⟩ := h
  refine ⟨fun x hx => ?_, q, c' ++ d, rfl, h2⟩
  rcases List.mem_append.mp hx with hx | hx
  · exact h1 x hx
  · exact h' x hx
theorem dL_hd {op : Int → Prop} (ho : ∀ o, op o → o ≠ 0) (hU : ∀ i j c u, U i j c u → hdc c) : ∀ (n i j : Nat) (c : cdT) (u : Nat), dL κ op U n i j c u → ∀ q ∈ c, q.1 ≠ 0
  | 0, i, j, c, u, h => by
    obtain ⟨-, rfl, rfl⟩ := h
    intro q hq
    cases hq
  | n + 1, i, j, c, u, h => by
    obtain ⟨j1, c1, u1, c2, u2, h1, h2, h3, rfl, rfl⟩ := h
    intro q hq
    rcases List.mem_append.mp hq with hq | hq
    · exact (hU _ _ _ _ h2).1 q hq
    · rcases List.mem_cons.mp hq with rfl | hq
      · exact ho _ h1
      · exact dL_hd ho hU n _ _ _ _ h3 q hq
theorem dP_hd (hU : ∀ i j c u, U i j c u → hdc c) : ∀ i j c u, dP κ U i j c u → hdc c := by
  rintro i j c u ⟨j1, c1, u1, n, c2, u2, h1, h2, rfl, rfl⟩
  exact (hU _ _ _ _ h1).app (dL_hd (fun o h => by unfold mop at h; omega) hU _ _ _ _ _ h2)
theorem dS_hd (hU : ∀ i j c u, U i j c u → hdc c) : ∀ i j c u, dS κ U i j c u → hdc c := by
  rintro i j c u ⟨j1, c1, u1, n, c2, u2, h1, h2, rfl, rfl⟩
  exact (dP_hd hU _ _ _ _ h1).app (dL_hd (fun o h => by unfold aop at h; omega) (dP_hd hU) _ _ _ _ _ h2)
theorem dE_hd (hU : ∀ i j c u, U i j c u → hdc c) : ∀ i j c u, dE κ U i j c u → hdc c := by
  rintro i j c u (h | ⟨j1, c1, u1, c2, u2, h1, h2, h3, rfl, rfl⟩)
  · exact dS_hd hU _ _ _ _ h
  · refine (dS_hd hU _ _ _ _ h1).app (fun q hq => ?_)
    rcases List.mem_append.mp hq with hq | hq
    · exact (dS_hd hU _ _ _ _ h3).1 q hq
    · have : q = (κ j1, 0) := by simpa using hq
      rw [this]
      show κ j1 ≠ 0
      unfold cop at h2
      omega
theorem dF_hd : ∀ i j c u, dF κ ν ir i j c u → hdc c := by
  rintro i j c u ⟨h, -, rfl⟩
  rcases h with ⟨h, rfl⟩ | ⟨h, -, rfl⟩
  · refine ⟨fun q hq => ?_, _, _, rfl, Or.inl rfl⟩
    have : q = (1, ν i) := by simpa using hq
    rw [this]
    show (1 : Int) ≠ 0
    decide
  · refine ⟨fun q hq => ?_, _, _, rfl, Or.inr rfl⟩
    have : q = (2, ν i) := by simpa using hq
    rw [this]
    show (2 : Int) ≠ 0
    decide
theorem dU_hd : ∀ (f i j : Nat) (c : cdT) (u : Nat), dU κ ν ir f i j c u → hdc c
  | 0, i, j, c, u, h => dF_hd i j c u h
  | f + 1, i, j, c, u, h => by
    rcases h with h | ⟨_, c1, u1, h, rfl, rfl⟩ | ⟨_, j1, u1, h, _, _, rfl⟩
    · exact dF_hd i j c u h
    · refine (dU_hd f _ _ _ _ h).app (fun q hq => ?_)
      have : q = (3, 0) := by simpa using hq
      rw [this]
      show (3 : Int) ≠ 0
      decide
    · exact dE_hd (dU_hd f) _ _ _ _ h
end GR3
/-- the bodies that are open: owners and parts -/
abbrev skT : Type := List (Nat × Int)
def zow : skT → Int
  | [] => -1
  | e :: _ => (e.1 : Int)
def zpt : skT → Int
  | [] => 0
  | e :: _ => e.2
/-- the link that is open is f: l is the last statement of the innermost body -/
def lkq (X : txT) (en : Int) (σ : skT) (l f : Int) : Prop := (l ≠ -1 → X.1 6 l.toNat = f) ∧ (l = -1 → (σ = [] → en = f) ∧ (∀ e ρ, σ = e :: ρ → (e.2 = 0 → X.1 7 e.1 = f) ∧ (e.2 = 1 → X.1 8 e.1 = f)))
abbrev zrT : Type := Nat → Nat → Nat → Nat → Prop
def zb (κ ν : Nat → Int) (X : txT) (d : Nat) (R : zrT) (o j s c u : Nat) : Prop := ∃ j' s' c' u', dB κ ν X (8 - d) o 1 j s c j' s' c' (X.1 8 o) u' ∧ R j' s' c' (u + u')
/-- behind the end of a body -/
def zc (κ ν : Nat → Int) (X : txT) (d : Nat) (R : zrT) (o : Nat) (q : Int) (j s c u : Nat) : Prop :=
  (q = 1 ∧ R j s c u) ∨ (q = 0 ∧ ((X.1 0 o = 12 ∧ X.1 8 o = -1 ∧ R j s c u) ∨ (X.1 0 o = 10 ∧ κ j ≠ 11 ∧ X.1 8 o = -1 ∧ R j s c u) ∨ (X.1 0 o = 10 ∧ κ j = 11 ∧ zb κ ν X d R o (j + 1) s c u) ∨ (X.1 0 o = 15 ∧ κ j = 16 ∧ zb κ ν X d R o (j + 1) s c u) ∨ (X.1 0 o = 17 ∧ κ j = 18 ∧ (κ (j + 1) = 1 ∧ 16 ≤ ν (j + 1) ∧ X.1 1 o = ν (j + 1)) ∧ zb κ ν X d R o (j + 2) s c u)))
/-- what is left: S statements, C pieces of code in all -/
def zr (κ ν : Nat → Int) (X : txT) (en : Int) (S C : Nat) : skT → Int → zrT
  | [], l => fun i s c u => ∃ n j f u', dSs κ ν X (dB κ ν X 8) (-1) 0 0 n i s c j S C f u' ∧ lkq X en [] l f ∧ κ j = 0 ∧ u + u' ≤ 60
  | e :: ρ, l => fun i s c u => ∃ n j s' c' f u', dSs κ ν X (dB κ ν X (8 - (ρ.length + 1))) (e.1 : Int) e.2 ((ρ.length + 1 : Nat) : Int) n i s c j s' c' f u' ∧ lkq X en (e :: ρ) l f ∧ κ j = 125 ∧ zc κ ν X ρ.length (zr κ ν X en S C ρ (e.1 : Int)) e.1 e.2 (j + 1) s' c' (u + u')
section ZR
variable {κ ν : Nat → Int} {X : txT} {en : Int} {S C : Nat}
theorem zc_le {R : zrT} {d o : Nat} {q : Int} {j s c u : Nat} (hR : ∀ i s c u, R i s c u → s ≤ S ∧ c ≤ C ∧ u ≤ 60) (h : zc κ ν X d R o q j s c u) : s ≤ S ∧ c ≤ C ∧ u ≤ 60 := by
  have hb : ∀ j, zb κ ν X d R o j s c u → s ≤ S ∧ c ≤ C ∧ u ≤ 60 := by
    rintro j ⟨j', s', c', u', h1, h2⟩
    have a := (dB.congr (X' := X) _ _ _ _ _ _ _ _ _ _ _ h1).1
    have b := hR _ _ _ _ h2
    clear h1 h2 hR h
    omega
  rcases h with ⟨_, h⟩ | ⟨_, ⟨_, _, h⟩ | ⟨_, _, _, h⟩ | ⟨_, _, h⟩ | ⟨_, _, h⟩ | ⟨_, _, _, h⟩⟩
  · exact hR _ _ _ _ h
  · exact hR _ _ _ _ h
  · exact hR _ _ _ _ h
  · exact hb _ h
  · exact hb _ h
  · exact hb _ h
theorem zr_le : ∀ (σ : skT) (l : Int) (i s c u : Nat), zr κ ν X en S C σ l i s c u → s ≤ S ∧ c ≤ C ∧ u ≤ 60
  | [], l, i, s, c, u, h => by
    obtain ⟨n, j, f, u', h1, -, -, h4⟩ := h
    have a := (dSs.congr (X' := X) (dB.congr 8) _ _ _ _ _ _ _ _ _ h1).1
    clear h1
    omega
  | e :: ρ, l, i, s, c, u, h => by
    obtain ⟨n, j, s', c', f, u', h1, -, -, h4⟩ := h
    have a := (dSs.congr (X' := X) (dB.congr _) _ _ _ _ _ _ _ _ _ h1).1
    have b := zc_le (zr_le ρ _) h4
    clear h1 h4
    omega
theorem dT_kd {B : bxT} {par part dep : Int} {i s cc j s' cc' u : Nat} (h : dT κ ν X B par part dep i s cc j s' cc' u) : knd (κ i) := by
  rcases h.2 with ⟨k, -⟩ | ⟨k, -⟩ | ⟨k, -⟩ | ⟨k, -⟩ | ⟨k, -⟩ | ⟨k, -⟩ | ⟨k, -⟩ | ⟨k, -⟩ <;> (unfold knd; omega)
theorem zr_step {σ : skT} {l : Int} {i s c u : Nat} (h : zr κ ν X en S C σ l i s c u) (hk : ¬ (κ i = 0 ∧ σ = [])) (hk2 : ¬ (κ i = 125 ∧ σ ≠ [])) : ∃ j1 s1 c1 u1, dT κ ν X (dB κ ν X (8 - σ.length)) (zow σ) (zpt σ) (σ.length : Int) i s c j1 s1 c1 u1 ∧ lkq X en σ l (s : Int) ∧ zr κ ν X en S C σ (s : Int) j1 s1 c1 (u + u1) := by
  cases σ with
  | nil =>
    obtain ⟨n, j, f, u', h1, h2, h3, h4⟩ := h
    cases n with
    | zero =>
      obtain ⟨rfl, -⟩ := h1
      exact absurd ⟨h3, rfl⟩ hk
    | succ n =>
      obtain ⟨rfl, j1, s1, c1, u1, f2, u2, d1, d2, d3, rfl⟩ := h1
      exact ⟨j1, s1, c1, u1, d1, h2, n, j, f2, u2, d2, ⟨fun _ => d3, fun q => absurd q (by omega)⟩, h3, by omega⟩
  | cons e ρ =>
    obtain ⟨n, j, s', c', f, u', h1, h2, h3, h4⟩ := h
    cases n with
    | zero =>
      obtain ⟨rfl, -⟩ := h1
      exact absurd ⟨h3, fun w => by cases w⟩ hk2
    | succ n =>
      obtain ⟨rfl, j1, s1, c1, u1, f2, u2, d1, d2, d3, rfl⟩ := h1
      exact ⟨j1, s1, c1, u1, d1, h2, n, j, s', c', f2, u2, d2, ⟨fun _ => d3, fun q => absurd q (by omega)⟩, h3, by rw [Nat.add_assoc]; exact h4⟩
theorem zr_end {l : Int} {i s c u : Nat} (h : zr κ ν X en S C [] l i s c u) (hk : κ i = 0) : s = S ∧ c = C ∧ lkq X en [] l (-1) := by
  obtain ⟨n, j, f, u', h1, h2, h3, h4⟩ := h
  cases n with
  | zero =>
    obtain ⟨-, rfl, rfl, rfl, -⟩ := h1
    exact ⟨rfl, rfl, h2⟩
  | succ n =>
    obtain ⟨-, j1, s1, c1, u1, f2, u2, d1, -⟩ := h1
    have := dT_kd d1
    unfold knd at this
    omega
theorem zr_close {e : Nat × Int} {ρ : skT} {l : Int} {i s c u : Nat} (h : zr κ ν X en S C (e :: ρ) l i s c u) (hk : κ i = 125) : lkq X en (e :: ρ) l (-1) ∧ zc κ ν X ρ.length (zr κ ν X en S C ρ (e.1 : Int)) e.1 e.2 (i + 1) s c u := by
  obtain ⟨n, j, s', c', f, u', h1, h2, h3, h4⟩ := h
  cases n with
  | zero =>
    obtain ⟨rfl, rfl, rfl, rfl, rfl⟩ := h1
    exact ⟨h2, h4⟩
  | succ n =>
    obtain ⟨-, j1, s1, c1, u1, f2, u2, d1, -⟩ := h1
    have := dT_kd d1
    unfold knd at this
    omega
theorem zr_open {σ : skT} {o : Nat} {q : Int} {i s c j s' c' u u' : Nat} {first : Int} (h : dB κ ν X (8 - σ.length) o q i s c j s' c' first u') (hf : (q = 0 ∧ X.1 7 o = first) ∨ (q = 1 ∧ X.1 8 o = first)) (hz : zc κ ν X σ.length (zr κ ν X en S C σ (o : Int)) o q j s' c' (u + u')) : κ i = 123 ∧ σ.length < 8 ∧ zr κ ν X en S C ((o, q) :: σ) (-1) (i + 1) s c u := by
  have hl : σ.length < 8 := by
    by_cases w : σ.length < 8
    · exact w
    · rw [show 8 - σ.length = 0 by omega] at h
      exact h.elim
  obtain ⟨f, ef⟩ : ∃ f, 8 - σ.length = f + 1 := ⟨7 - σ.length, by omega⟩
  rw [ef] at h
  obtain ⟨h1, n, j1, h2, h3, rfl⟩ := h
  refine ⟨h1, hl, n, j1, s', c', first, u', ?_, ⟨fun w => absurd rfl w, fun _ => ⟨fun w => (by cases w), fun e ρ he => ?_⟩⟩, h3, hz⟩
  · have e1 : 8 - (σ.length + 1) = f := by omega
    have e2 : 8 - (f : Int) = ((σ.length + 1 : Nat) : Int) := by omega
    rw [e2] at h2
    rw [e1]
    exact h2
  · injection he with he1 he2
    subst he1
    rcases hf with ⟨q0, q1⟩ | ⟨q0, q1⟩
    · exact ⟨fun _ => q1, fun w => absurd (q0.symm.trans w) (by decide)⟩
    · exact ⟨fun w => absurd (q0.symm.trans w) (by decide), fun _ => q1⟩
end ZR
/-! THE REFERENCE'S STATEMENTS: its memory, newStatement() -/
def pnA : skT → Nat → Prop
  | [], _ => False
  | e :: ρ, x => x = e.1 ∨ pnA ρ x
def pn0 : skT → Nat → Prop
  | [], _ => False
  | e :: ρ, x => (x = e.1 ∧ e.2 = 0) ∨ pn0 ρ x
def ptp (q : Int) (σ : skT) (x : Nat) : Prop := (x : Int) = zow σ ∧ zpt σ = q
def okz : skT → Int → Prop
  | [], l => -1 ≤ l
  | e :: ρ, l => (l = -1 ∨ (e.1 : Int) < l) ∧ (e.2 = 0 ∨ e.2 = 1) ∧ okz ρ (e.1 : Int)
theorem okz_lo : ∀ (σ : skT) (l : Int), okz σ l → -1 ≤ l
  | [], _, h => h
  | e :: ρ, l, h => by
    have := h.1
    omega
theorem pnA_lt : ∀ (σ : skT) (l : Int) (x : Nat), okz σ l → pnA σ x → l = -1 ∨ (x : Int) < l
  | [], _, _, _, h => h.elim
  | e :: ρ, l, x, h, h' => by
    obtain ⟨a, -, b⟩ := h
    rcases h' with h' | h'
    · rcases a with a | a
      · exact Or.inl a
      · exact Or.inr (by omega)
    · have c := pnA_lt ρ _ x b h'
      clear b h'
      rcases a with a | a
      · exact Or.inl a
      · exact Or.inr (by omega)
theorem pn0_A : ∀ (σ : skT) (x : Nat), pn0 σ x → pnA σ x
  | [], _, h => h
  | _ :: ρ, x, h => h.elim (fun w => Or.inl w.1) (fun w => Or.inr (pn0_A ρ x w))
/-- the open bodies lie there -/
def skm (M : rf_M) (r : Nat) : skT → Int → Prop
  | [], l => gi M 373 0 = -1 ∧ gi M 374 0 = 0 ∧ gi M 375 0 = lf r l
  | e :: ρ, l => gi M 373 (ρ.length + 1) = lf r (e.1 : Int) ∧ gi M 374 (ρ.length + 1) = e.2 ∧ gi M 375 (ρ.length + 1) = lf r l ∧ skm M r ρ (e.1 : Int)
theorem skm.hd {M : rf_M} {r : Nat} : ∀ {σ : skT} {l : Int}, skm M r σ l → gi M 373 σ.length = lf r (zow σ) ∧ gi M 374 σ.length = zpt σ ∧ gi M 375 σ.length = lf r l
  | [], l, h => ⟨h.1.trans (lf_neg (by show (-1 : Int) < 0; omega)).symm, h.2.1, h.2.2⟩
  | e :: ρ, l, h => ⟨h.1, h.2.1, h.2.2.1⟩
theorem skm.eq {M M' : rf_M} {r : Nat} : ∀ {σ : skT} {l : Int}, skm M r σ l → (∀ b k, 373 ≤ b → b ≤ 375 → k ≤ σ.length → gi M' b k = gi M b k) → skm M' r σ l
  | [], l, h, q => ⟨(q _ _ (by omega) (by omega) (Nat.zero_le _)).trans h.1, (q _ _ (by omega) (by omega) (Nat.zero_le _)).trans h.2.1, (q _ _ (by omega) (by omega) (Nat.zero_le _)).trans h.2.2⟩
  | e :: ρ, l, h, q => ⟨(q _ _ (by omega) (by omega) (Nat.le_refl _)).trans h.1, (q _ _ (by omega) (by omega) (Nat.le_refl _)).trans h.2.1, (q _ _ (by omega) (by omega) (Nat.le_refl _)).trans h.2.2.1, skm.eq h.2.2.2 (fun b k b1 b2 b3 => q b k b1 b2 (Nat.le_succ_of_le b3))⟩
theorem skm.top {M M' : rf_M} {r : Nat} {l' : Int} : ∀ {σ : skT} {l : Int}, skm M r σ l → (∀ b k, 373 ≤ b → b ≤ 375 → ¬ (b = 375 ∧ k = σ.length) → gi M' b k = gi M b k) → gi M' 375 σ.length = lf r l' → skm M' r σ l'
  | [], l, h, q, t => ⟨(q _ _ (by omega) (by omega) (by omega)).trans h.1, (q _ _ (by omega) (by omega) (by omega)).trans h.2.1, t⟩
  | e :: ρ, l, h, q, t => ⟨(q _ _ (by omega) (by omega) (by omega)).trans h.1, (q _ _ (by omega) (by omega) (by omega)).trans h.2.1, t, h.2.2.2.eq (fun b k b1 b2 b3 => q b k b1 b2 (fun w => by
    have := w.2
    rw [List.length_cons] at this
    omega))⟩
/-- a statement that lies there; p1 .. p5: links, letter, exp that are still to come -/
def srec (M : rf_M) (r : Nat) (X : txT) (p1 p2 p3 p4 p5 : Prop) (x : Nat) : Prop :=
  (gi M 360 (40 * r + x) = kf (X.1 0 x) ∧ gi M 362 (40 * r + x) = lf r (X.1 3 x) ∧ gi M 363 (40 * r + x) = X.1 4 x ∧ knd (X.1 0 x)) ∧
  ((kxp (X.1 0 x) ∧ ¬ p5 → gi M 364 (40 * r + x) = 200 * (r : Int) + X.1 2 x) ∧ (¬ (kxp (X.1 0 x) ∧ ¬ p5) → gi M 364 (40 * r + x) = -1)) ∧
  ((p1 → gi M 361 (40 * r + x) = -1) ∧ (¬ p1 → gi M 361 (40 * r + x) = lf r (X.1 6 x))) ∧
  ((p2 → gi M 365 (40 * r + x) = -1) ∧ (¬ p2 → gi M 365 (40 * r + x) = lf r (X.1 7 x))) ∧
  ((p3 → gi M 366 (40 * r + x) = -1) ∧ (¬ p3 → gi M 366 (40 * r + x) = lf r (X.1 8 x))) ∧
  (X.1 0 x = 1 ∨ (X.1 0 x = 17 ∧ ¬ p4) → gi M 367 (40 * r + x) = X.1 1 x)
section SRC
variable {M M' : rf_M} {r x : Nat} {X : txT} {p1 p2 p3 p4 p5 q1 q2 q3 q4 q5 : Prop}
theorem srec.eq (h : srec M r X p1 p2 p3 p4 p5 x) (e : ∀ b, 360 ≤ b → b ≤ 367 → gi M' b (40 * r + x) = gi M b (40 * r + x)) : srec M' r X p1 p2 p3 p4 p5 x := by
  unfold srec at h ⊢
  rw [e 360 (by omega) (by omega), e 361 (by omega) (by omega), e 362 (by omega) (by omega), e 363 (by omega) (by omega), e 364 (by omega) (by omega), e 365 (by omega) (by omega), e 366 (by omega) (by omega), e 367 (by omega) (by omega)]
  exact h
theorem srec.cg (h : srec M r X p1 p2 p3 p4 p5 x) (e1 : q1 ↔ p1) (e2 : q2 ↔ p2) (e3 : q3 ↔ p3) (e4 : q4 ↔ p4) (e5 : q5 ↔ p5) : srec M r X q1 q2 q3 q4 q5 x := by
  obtain rfl := propext e1
  obtain rfl := propext e2
  obtain rfl := propext e3
  obtain rfl := propext e4
  obtain rfl := propext e5
  exact h
theorem srec.set (h : srec M r X p1 p2 p3 p4 p5 x) (e : ∀ b, b = 360 ∨ b = 362 ∨ b = 363 ∨ b = 364 ∨ b = 367 → gi M' b (40 * r + x) = gi M b (40 * r + x)) (h1 : (q1 → gi M' 361 (40 * r + x) = -1) ∧ (¬ q1 → gi M' 361 (40 * r + x) = lf r (X.1 6 x))) (h2 : (q2 → gi M' 365 (40 * r + x) = -1) ∧ (¬ q2 → gi M' 365 (40 * r + x) = lf r (X.1 7 x))) (h3 : (q3 → gi M' 366 (40 * r + x) = -1) ∧ (¬ q3 → gi M' 366 (40 * r + x) = lf r (X.1 8 x))) : srec M' r X q1 q2 q3 p4 p5 x := by
  obtain ⟨a, b, -, -, -, g⟩ := h
  unfold srec
  rw [e 360 (by omega), e 362 (by omega), e 363 (by omega), e 364 (by omega), e 367 (by omega)]
  exact ⟨a, b, h1, h2, h3, g⟩
end SRC
def scod (M : rf_M) (r : Nat) (X : txT) (c : Nat) : Prop := ∀ k, k < c → gi M 368 (200 * r + k) = af (X.2.1 k) ∧ (X.2.1 k = 2 → gi M 369 (200 * r + k) = X.2.2 k) ∧ (X.2.1 k = 1 → gl M 370 (200 * r + k) = (Int32.ofInt (X.2.2 k)).toInt64)
/-- s statements, c pieces of code lie there; σ, l: what is open -/
def smem (M : rf_M) (r : Nat) (X : txT) (en : Int) (σ : skT) (l : Int) (s c pe : Nat) : Prop :=
  ((σ = [] ∧ l = -1 → gi M 358 r = -1) ∧ (¬ (σ = [] ∧ l = -1) → gi M 358 r = lf r en)) ∧
  (∀ x, x < s → srec M r X (pnA σ x ∨ (x : Int) = l) (ptp 0 σ x ∧ l = -1) (pn0 σ x ∨ (ptp 1 σ x ∧ l = -1)) (pn0 σ x) (x = pe) x) ∧ scod M r X c
def sB (M : rf_M) (r : Nat) (σ : skT) (l : Int) : Prop := gi M 353 37 = (σ.length : Int) ∧ σ.length ≤ 8 ∧ skm M r σ l
def teW (r : Nat) (a k : Nat) : Prop := (a = 353 ∧ ((3 ≤ k ∧ k ≤ 10) ∨ k = 30 ∨ k = 31 ∨ k = 33 ∨ k = 37)) ∨ ((355 ≤ a ∧ a ≤ 359) ∧ k = r) ∨ ((360 ≤ a ∧ a ≤ 367) ∧ 40 * r ≤ k) ∨ ((a = 368 ∨ a = 369 ∨ a = 370) ∧ 200 * r ≤ k) ∨ (371 ≤ a ∧ a ≤ 375)
def sA (T : tK) (r : Nat) (M0 M : rf_M) (i s c u : Nat) : Prop := (mtv M T i ∧ (gi M 353 28 = (r : Int) ∧ r < 12) ∧ eqy (teW r) M0 M ∧ gi M 353 9 = 0) ∧ (gi M 355 r = (s : Int) ∧ gi M 356 r = (u : Int) ∧ gi M 359 r = (c : Int) ∧ c ≤ 2400)
/-- a fault was found -/
def sfl (r : Nat) (M0 M : rf_M) : Prop := eqy (teW r) M0 M ∧ ¬ gi M 353 9 = 0
def nw8 (r s a k : Nat) : Prop := (a = 355 ∧ k = r) ∨ ((361 ≤ a ∧ a ≤ 367) ∧ k = 40 * r + s)
def nwW (r d a k : Nat) : Prop := ((a = 355 ∨ a = 358) ∧ k = r) ∨ ((361 ≤ a ∧ a ≤ 367) ∧ 40 * r ≤ k) ∨ (a = 375 ∧ k = d)
section WSM
variable {M M' M0 : rf_M} {T : tK} {r i s c u pe : Nat} {X : txT} {en l : Int} {σ : skT} {P : Nat → Nat → Prop}
theorem scod.eq (h : scod M r X c) (e : eqy P M M') (q : ∀ b k, 368 ≤ b → b ≤ 370 → 200 * r ≤ k → k < 200 * r + c → ¬ P b k) : scod M' r X c := fun k hk => by
  obtain ⟨h1, h2, h3⟩ := h k hk
  exact ⟨(e.i (q _ _ (by omega) (by omega) (by omega) (by omega))).trans h1, fun z => (e.i (q _ _ (by omega) (by omega) (by omega) (by omega))).trans (h2 z), fun z => (e.l (q _ _ (by omega) (by omega) (by omega) (by omega))).trans (h3 z)⟩
theorem smem.eq (h : smem M r X en σ l s c pe) (e : eqy P M M') (q : ∀ b k, (b = 358 ∧ k = r) ∨ ((360 ≤ b ∧ b ≤ 367) ∧ 40 * r ≤ k ∧ k < 40 * r + s) ∨ ((368 ≤ b ∧ b ≤ 370) ∧ 200 * r ≤ k ∧ k < 200 * r + c) → ¬ P b k) : smem M' r X en σ l s c pe := by
  obtain ⟨h1, h2, h3⟩ := h
  refine ⟨?_, fun x hx => (h2 x hx).eq (fun b b1 b2 => e.i (q _ _ (Or.inr (Or.inl ⟨⟨b1, b2⟩, by omega, by omega⟩)))), h3.eq e (fun b k b1 b2 b3 b4 => q b k (Or.inr (Or.inr ⟨⟨b1, b2⟩, b3, b4⟩)))⟩
  rw [e.i (q 358 r (Or.inl ⟨rfl, rfl⟩))]
  exact h1
theorem sB.eq (h : sB M r σ l) (e : eqy P M M') (q : ∀ b k, (b = 353 ∧ k = 37) ∨ (373 ≤ b ∧ b ≤ 375 ∧ k ≤ σ.length) → ¬ P b k) : sB M' r σ l := ⟨(e.i (q _ _ (Or.inl ⟨rfl, rfl⟩))).trans h.1, h.2.1, h.2.2.eq (fun b k b1 b2 b3 => e.i (q b k (Or.inr ⟨b1, b2, b3⟩)))⟩
theorem sA.fl (h : sA T r M0 M i s c u) (y : eqy (fun a k => a = 353 ∧ (k = 9 ∨ k = 10)) M M') (q : ¬ gi M' 353 9 = 0) : sfl r M0 M' := ⟨h.1.2.2.1.trans (y.mono (fun a k z => by unfold teW; omega)), q⟩
theorem sA.nx {i' : Nat} (h : sA T r M0 M i s c u) (y : eqy nxw M M') (hm : mtv M' T i') : sA T r M0 M' i' s c u := by
  obtain ⟨⟨a1, ⟨a2, a2'⟩, a3, a4⟩, b1, b2, b3, b4⟩ := h
  have g : ∀ a k, ¬ (a = 353 ∧ 3 ≤ k ∧ k ≤ 8) → gi M' a k = gi M a k := fun a k z => y.i z
  exact ⟨⟨hm, ⟨(g _ _ (by omega)).trans a2, a2'⟩, a3.trans (y.mono (fun a k z => by unfold nxw at z; unfold teW; omega)), (g _ _ (by omega)).trans a4⟩, (g _ _ (by omega)).trans b1, (g _ _ (by omega)).trans b2, (g _ _ (by omega)).trans b3, b4⟩
theorem sB.nx (h : sB M r σ l) (y : eqy nxw M M') : sB M' r σ l := h.eq y (fun b k z => by unfold nxw; omega)
theorem smem.nx (h : smem M r X en σ l s c pe) (y : eqy nxw M M') : smem M' r X en σ l s c pe := h.eq y (fun b k z => by unfold nxw; omega)
theorem y_new {K : Int → rf_M → Prop} (h28 : gi M 353 28 = (r : Int)) (hr : r < 12) (h55 : gi M 355 r = (s : Int)) (hs : s < 40) (hB : sB M r σ l) (ho : okz σ l) (hl : l < (s : Int)) (hw : zow σ < (s : Int)) (hlk : lkq X en σ l (s : Int)) (hm : smem M r X en σ l s c s)
    (kk : ∀ M', eqy (nwW r σ.length) M M' → gi M' 355 r = (s : Int) + 1 → sB M' r σ (s : Int) → (gi M' 361 (40 * r + s) = -1 ∧ gi M' 362 (40 * r + s) = lf r (zow σ) ∧ gi M' 363 (40 * r + s) = zpt σ ∧ gi M' 364 (40 * r + s) = -1 ∧ gi M' 365 (40 * r + s) = -1 ∧ gi M' 366 (40 * r + s) = -1) → smem M' r X en σ (s : Int) s c s → K (40 * (r : Int) + (s : Int)) M') : em_W_newStatement M K := by
  obtain ⟨b1, b2, b3⟩ := hB
  obtain ⟨t3, t4, t5⟩ := b3.hd
  have e0 : (gi M 353 28).toNat = r := by rw [h28]; omega
  have en' : (40 * (r : Int) + (s : Int)).toNat = 40 * r + s := by omega
  have iS : inr (40 * (r : Int) + (s : Int)) := inr_z (by omega) (by omega)
  have i1 : inr (-1) := inr_z (by omega) (by omega)
  have i3 : inr (lf r (zow σ)) := by rw [← t3]; exact inr_gi _ _ _
  have i4 : inr (zpt σ) := by rw [← t4]; exact inr_gi _ _ _
  show e_W_newStatement M K
  unfold e_W_newStatement
  rw [e0, h28, h55, en']
  intro _ _ _ M1 e1
  refine ⟨iS, fun hb M2 e2 _ _ M3 e3 _ _ M4 e4 _ M5 e5 _ M6 e6 _ M7 e7 _ M8 e8 _ _ => ?_⟩
  have y1 : eqy (nw8 r s) M M1 := by rw [e1]; exact (eqy.rfl' M).wi (Or.inl ⟨rfl, rfl⟩)
  have y2 : eqy (nw8 r s) M M2 := by rw [e2]; exact y1.wi (Or.inr ⟨by omega, rfl⟩)
  have y3 : eqy (nw8 r s) M M3 := by rw [e3]; exact y2.wi (Or.inr ⟨by omega, rfl⟩)
  have y4 : eqy (nw8 r s) M M4 := by rw [e4]; exact y3.wi (Or.inr ⟨by omega, rfl⟩)
  have y5 : eqy (nw8 r s) M M5 := by rw [e5]; exact y4.wi (Or.inr ⟨by omega, rfl⟩)
  have y6 : eqy (nw8 r s) M M6 := by rw [e6]; exact y5.wi (Or.inr ⟨by omega, rfl⟩)
  have y7 : eqy (nw8 r s) M M7 := by rw [e7]; exact y6.wi (Or.inr ⟨by omega, rfl⟩)
  have y8 : eqy (nw8 r s) M M8 := by rw [e8]; exact y7.wi (Or.inr ⟨by omega, rfl⟩)
  have g37 : ∀ {N : rf_M}, eqy (nw8 r s) M N → (gi N 353 37).toNat = σ.length := fun y => by rw [y.i (by unfold nw8; omega), b1]; omega
  have g3 : ∀ {N : rf_M}, eqy (nw8 r s) M N → gi N 373 σ.length = lf r (zow σ) := fun y => (y.i (by unfold nw8; omega)).trans t3
  have g4 : ∀ {N : rf_M}, eqy (nw8 r s) M N → gi N 374 σ.length = zpt σ := fun y => (y.i (by unfold nw8; omega)).trans t4
  have g5 : ∀ {N : rf_M}, eqy (nw8 r s) M N → gi N 375 σ.length = lf r l := fun y => (y.i (by unfold nw8; omega)).trans t5
  rw [g37 y2, g3 y2] at e3
  rw [g37 y3, g4 y3] at e4
  have f0 : gi M8 355 r = (s : Int) + 1 := by rw [e8, gi_of (Or.inl (by omega)), e7, gi_of (Or.inl (by omega)), e6, gi_of (Or.inl (by omega)), e5, gi_of (Or.inl (by omega)), e4, gi_of (Or.inl (by omega)), e3, gi_of (Or.inl (by omega)), e2, gi_of (Or.inl (by omega)), e1, gi_at (inr_z (by omega) (by omega))]
  have f1 : gi M8 361 (40 * r + s) = -1 := by rw [e8, gi_of (Or.inl (by omega)), e7, gi_of (Or.inl (by omega)), e6, gi_of (Or.inl (by omega)), e5, gi_of (Or.inl (by omega)), e4, gi_of (Or.inl (by omega)), e3, gi_of (Or.inl (by omega)), e2, gi_at i1]
  have f2 : gi M8 362 (40 * r + s) = lf r (zow σ) := by rw [e8, gi_of (Or.inl (by omega)), e7, gi_of (Or.inl (by omega)), e6, gi_of (Or.inl (by omega)), e5, gi_of (Or.inl (by omega)), e4, gi_of (Or.inl (by omega)), e3, gi_at i3]
  have f3 : gi M8 363 (40 * r + s) = zpt σ := by rw [e8, gi_of (Or.inl (by omega)), e7, gi_of (Or.inl (by omega)), e6, gi_of (Or.inl (by omega)), e5, gi_of (Or.inl (by omega)), e4, gi_at i4]
  have f4 : gi M8 364 (40 * r + s) = -1 := by rw [e8, gi_of (Or.inl (by omega)), e7, gi_of (Or.inl (by omega)), e6, gi_of (Or.inl (by omega)), e5, gi_at i1]
  have f5 : gi M8 365 (40 * r + s) = -1 := by rw [e8, gi_of (Or.inl (by omega)), e7, gi_of (Or.inl (by omega)), e6, gi_at i1]
  have f6 : gi M8 366 (40 * r + s) = -1 := by rw [e8, gi_of (Or.inl (by omega)), e7, gi_at i1]
  have e28 : (gi M8 353 28).toNat = r := by rw [y8.i (by unfold nw8; omega)]; exact e0
  have hm8 : smem M8 r X en σ l s c s := hm.eq y8 (fun b k z => by unfold nw8; omega)
  have fin : ∀ M9, eqy (fun a k => (a = 358 ∧ k = r) ∨ ((a = 361 ∨ a = 365 ∨ a = 366) ∧ 40 * r ≤ k ∧ k < 40 * r + s)) M8 M9 → smem M9 r X en σ (s : Int) s c s → e_W_newStatement_176 (40 * (r : Int) + (s : Int)) M9 K := by
    intro M9 y9 hm9 _ M' e'
    have q37 : (gi M9 353 37).toNat = σ.length := by rw [y9.i (by omega)]; exact g37 y8
    rw [q37] at e'
    have y' : eqy (fun a k => a = 375 ∧ k = σ.length) M9 M' := by rw [e']; exact (eqy.rfl' _).wi ⟨rfl, rfl⟩
    have g : ∀ b k, ¬ (b = 375 ∧ k = σ.length) → ¬ ((b = 358 ∧ k = r) ∨ ((b = 361 ∨ b = 365 ∨ b = 366) ∧ 40 * r ≤ k ∧ k < 40 * r + s)) → gi M' b k = gi M8 b k := fun b k z1 z2 => (y'.i z1).trans (y9.i z2)
    refine kk M' ?_ ((g _ _ (by omega) (by omega)).trans f0) ⟨?_, b2, b3.top (fun b k z1 z2 z3 => ?_) ?_⟩ ⟨(g _ _ (by omega) (by omega)).trans f1, (g _ _ (by omega) (by omega)).trans f2, (g _ _ (by omega) (by omega)).trans f3, (g _ _ (by omega) (by omega)).trans f4, (g _ _ (by omega) (by omega)).trans f5, (g _ _ (by omega) (by omega)).trans f6⟩ (hm9.eq y' (fun b k w => by omega))
    · exact ((y8.mono (fun a k z => by unfold nw8 at z; unfold nwW; omega)).trans (y9.mono (fun a k z => by unfold nwW; omega))).trans (y'.mono (fun a k z => by unfold nwW; omega))
    · rw [g _ _ (by omega) (by omega), y8.i (by unfold nw8; omega)]; exact b1
    · rw [g _ _ z3 (by omega), y8.i (by unfold nw8; omega)]
    · rw [e', gi_at iS, lf_nat]; omega
  rw [g37 y8, g5 y8, g3 y8, g4 y8, e28]
  by_cases hl1 : l = -1
  · subst hl1
    have n1 : lf r (-1) = -1 := lf_neg (by omega)
    refine ⟨fun _ => ?_, fun w => absurd (by rw [n1]; omega) w⟩
    cases σ with
    | nil =>
      refine ⟨fun w => absurd w (by show ¬ 0 ≤ lf r (-1); rw [n1]; omega), fun _ _ M11 e11 => ?_⟩
      have y11 : eqy (fun a k => a = 358 ∧ k = r) M8 M11 := by rw [e11]; exact (eqy.rfl' _).wi ⟨rfl, rfl⟩
      refine fin M11 (y11.mono (fun a k z => Or.inl z)) ⟨⟨fun w => absurd w.2 (by omega), fun _ => ?_⟩, fun x hx => ?_, hm8.2.2.eq y11 (fun b k z1 z2 z3 z4 => by omega)⟩
      · rw [e11, gi_at iS, (hlk.2 rfl).1 rfl, lf_nat]; omega
      · refine ((hm8.2.1 x hx).eq (fun b z1 z2 => y11.i (by omega))).cg ?_ ?_ ?_ Iff.rfl Iff.rfl
        · exact ⟨fun w => Or.inl (w.resolve_right (by omega)), fun w => Or.inl (w.resolve_right (by omega))⟩
        · exact ⟨fun w => absurd w.2 (by omega), fun w => absurd w.1.1 (by show ¬ ((x : Int) = -1); omega)⟩
        · exact ⟨fun w => absurd (w.resolve_left (fun z => z)).2 (by omega), fun w => absurd (w.resolve_left (fun z => z)).1.1 (by show ¬ ((x : Int) = -1); omega)⟩
    | cons e ρ =>
      obtain ⟨-, hq, hρ⟩ := ho
      have hw' : (e.1 : Int) < (s : Int) := hw
      have nz : ¬ pn0 ρ e.1 := fun w => by
        have := pnA_lt ρ _ _ hρ (pn0_A _ _ w)
        omega
      have ez : lf r (zow (e :: ρ)) = ((40 * r + e.1 : Nat) : Int) := lf_nat r e.1
      have lk2 := (hlk.2 rfl).2 e ρ rfl
      rw [ez, tn_]
      refine ⟨fun _ _ => ⟨fun q0 _ M10 e10 => ?_, fun q0 _ M10 e10 => ?_⟩, fun w => absurd (Int.natCast_nonneg _) w⟩
      · have q0 : e.2 = 0 := q0
        have y10 : eqy (fun a k => a = 365 ∧ k = 40 * r + e.1) M8 M10 := by rw [e10]; exact (eqy.rfl' _).wi ⟨rfl, rfl⟩
        refine fin M10 (y10.mono (fun a k z => by omega)) ⟨⟨fun w => absurd w.2 (by omega), fun _ => (y10.i (by omega)).trans (hm8.1.2 (fun w => by cases w.1))⟩, fun x hx => ?_, hm8.2.2.eq y10 (fun b k z1 z2 z3 z4 => by omega)⟩
        have R := hm8.2.1 x hx
        by_cases ex : x = e.1
        · refine R.set (fun b z => y10.i (by omega)) ⟨fun _ => (y10.i (by omega)).trans (R.2.2.1.1 (Or.inl (Or.inl ex))), fun w => absurd (Or.inl (Or.inl ex)) w⟩ ⟨fun w => absurd w.2 (by omega), fun _ => ?_⟩ ⟨fun _ => (y10.i (by omega)).trans (R.2.2.2.2.1.1 (Or.inl (Or.inl ⟨ex, q0⟩))), fun w => absurd (Or.inl (Or.inl ⟨ex, q0⟩)) w⟩
          rw [ex, e10, gi_at iS, lk2.1 q0, lf_nat]; omega
        · refine (R.eq (fun b z1 z2 => y10.i (by omega))).cg ?_ ?_ ?_ Iff.rfl Iff.rfl
          · exact ⟨fun w => Or.inl (w.resolve_right (by omega)), fun w => Or.inl (w.resolve_right (by omega))⟩
          · exact ⟨fun w => absurd w.2 (by omega), fun w => absurd w.1.1 (by show ¬ ((x : Int) = (e.1 : Int)); omega)⟩
          · exact ⟨fun w => Or.inl (w.resolve_right (fun w => absurd w.2 (by omega))), fun w => Or.inl (w.resolve_right (fun w => absurd w.1.1 (by show ¬ ((x : Int) = (e.1 : Int)); omega)))⟩
      · have q0 : ¬ e.2 = 0 := q0
        have q1 : e.2 = 1 := by omega
        have y10 : eqy (fun a k => a = 366 ∧ k = 40 * r + e.1) M8 M10 := by rw [e10]; exact (eqy.rfl' _).wi ⟨rfl, rfl⟩
        refine fin M10 (y10.mono (fun a k z => by omega)) ⟨⟨fun w => absurd w.2 (by omega), fun _ => (y10.i (by omega)).trans (hm8.1.2 (fun w => by cases w.1))⟩, fun x hx => ?_, hm8.2.2.eq y10 (fun b k z1 z2 z3 z4 => by omega)⟩
        have R := hm8.2.1 x hx
        by_cases ex : x = e.1
        · have nz' : ¬ pn0 (e :: ρ) x := fun w => w.elim (fun w => q0 w.2) (fun w => nz (ex ▸ w))
          refine R.set (fun b z => y10.i (by omega)) ⟨fun _ => (y10.i (by omega)).trans (R.2.2.1.1 (Or.inl (Or.inl ex))), fun w => absurd (Or.inl (Or.inl ex)) w⟩ ⟨fun w => absurd w.2 (by omega), fun _ => (y10.i (by omega)).trans (R.2.2.2.1.2 (fun w => q0 w.1.2))⟩ ⟨fun w => absurd (w.resolve_left nz').2 (by omega), fun _ => ?_⟩
          rw [ex, e10, gi_at iS, lk2.2 q1, lf_nat]; omega
        · refine (R.eq (fun b z1 z2 => y10.i (by omega))).cg ?_ ?_ ?_ Iff.rfl Iff.rfl
          · exact ⟨fun w => Or.inl (w.resolve_right (by omega)), fun w => Or.inl (w.resolve_right (by omega))⟩
          · exact ⟨fun w => absurd w.2 (by omega), fun w => absurd w.1.1 (by show ¬ ((x : Int) = (e.1 : Int)); omega)⟩
          · exact ⟨fun w => Or.inl (w.resolve_right (fun w => absurd w.2 (by omega))), fun w => Or.inl (w.resolve_right (fun w => absurd w.1.1 (by show ¬ ((x : Int) = (e.1 : Int)); omega)))⟩
  · obtain ⟨x0, rfl⟩ : ∃ x0 : Nat, l = (x0 : Int) := ⟨l.toNat, by have := okz_lo σ l ho; omega⟩
    rw [lf_nat, tn_]
    refine ⟨fun w => absurd w (by omega), fun _ _ M12 e12 => ?_⟩
    have y12 : eqy (fun a k => a = 361 ∧ k = 40 * r + x0) M8 M12 := by rw [e12]; exact (eqy.rfl' _).wi ⟨rfl, rfl⟩
    refine fin M12 (y12.mono (fun a k z => by omega)) ⟨⟨fun w => absurd w.2 (by omega), fun _ => (y12.i (by omega)).trans (hm8.1.2 (fun w => absurd w.2 (by omega)))⟩, fun x hx => ?_, hm8.2.2.eq y12 (fun b k z1 z2 z3 z4 => by omega)⟩
    have R := hm8.2.1 x hx
    by_cases ex : x = x0
    · subst ex
      refine R.set (fun b z => y12.i (by omega)) ⟨fun w => ?_, fun _ => ?_⟩ ⟨fun w => absurd w.2 (by omega), fun _ => (y12.i (by omega)).trans (R.2.2.2.1.2 (fun w => absurd w.2 (by omega)))⟩ ⟨fun w => (y12.i (by omega)).trans (R.2.2.2.2.1.1 (Or.inl (w.resolve_right (fun w => absurd w.2 (by omega))))), fun w => (y12.i (by omega)).trans (R.2.2.2.2.1.2 (fun w' => w (Or.inl (w'.resolve_right (fun w => absurd w.2 (by omega))))))⟩
      · have := pnA_lt σ _ _ ho (w.resolve_right (by omega))
        omega
      · rw [e12, gi_at iS]
        have lk1 : X.1 6 x = (s : Int) := hlk.1 hl1
        rw [lk1, lf_nat]; omega
    · refine (R.eq (fun b z1 z2 => y12.i (by omega))).cg ?_ ?_ ?_ Iff.rfl Iff.rfl
      · exact ⟨fun w => Or.inl (w.resolve_right (by omega)), fun w => Or.inl (w.resolve_right (by omega))⟩
      · exact ⟨fun w => absurd w.2 (by omega), fun w => absurd w.2 (by omega)⟩
      · exact ⟨fun w => Or.inl (w.resolve_right (fun w => absurd w.2 (by omega))), fun w => Or.inl (w.resolve_right (fun w => absurd w.2 (by omega)))⟩
end WSM
/-! THE REFERENCE'S STATEMENTS: take, takeWord, openBody, exps -/
section WS2
variable {M M' M0 : rf_M} {T : tK} {r i s c u pe : Nat} {X : txT} {en l : Int} {σ : skT} {P : Nat → Nat → Prop} {K : rf_M → Prop}
theorem y_isSign_f {ch : Int} {K : Int → rf_M → Prop} (k1 : K 1 M) (k0 : K 0 M) : em_W_isSign ch M K := ⟨fun _ => ⟨fun _ => ⟨Or.inr rfl, k1⟩, fun _ => ⟨Or.inl rfl, k0⟩⟩, fun _ => ⟨Or.inl rfl, k0⟩⟩
theorem y_mis_f (hb : ¬ gi M 353 9 = 0) (k : K M) : em_W_misplaced M K := ⟨fun w => absurd w hb, fun _ => k⟩
theorem y_take_f {ch : Int} (hb : ¬ gi M 353 9 = 0) (k : K M) : em_W_take ch M K := by
  show e_W_take ch M K
  unfold e_W_take
  exact y_isSign_f ⟨fun w => absurd w (by decide), fun _ => ⟨fun w => absurd w hb, fun _ => k⟩⟩ ⟨fun _ => y_mis_f hb ⟨fun w => absurd w hb, fun _ => k⟩, fun w => absurd rfl w⟩
theorem y_take {ch : Int} (h9 : gi M 353 9 = 0) (hm : mtv M T i) (hc : 20 ≤ ch) (hk : κT T i = ch) (kk : ∀ M', eqy nxw M M' → mtv M' T (i + 1) → K M') : em_W_take ch M K := by
  show e_W_take ch M K
  unfold e_W_take
  exact y_isSign hm.1 hc (fun _ => ⟨fun w => absurd w (by decide), fun _ => ⟨fun _ => y_next hm (kd_lt (by show ¬ κT T i = 0; omega)) kk, fun w => absurd h9 w⟩⟩) (fun w => absurd hk w)
theorem tok4 (hm : mtk M T i) : (gi M 353 4 = 0 ↔ κT T i = 0) ∧ (gi M 353 4 = 2 ↔ κT T i = 1) ∧ (∀ z, 10 ≤ z → z ≤ 19 → (gi M 353 4 = z ↔ κT T i = z)) ∧ (κT T i = 1 → gi M 353 6 = νT T i ∧ 0 ≤ νT T i ∧ νT T i ≤ 25) := by
  have tk := hm.2.2
  have hk := tkm_iff tk.2.2.2
  exact ⟨by rw [tk.1]; exact hk.2.2.2.1, by rw [tk.1]; exact hk.2.2.1, fun z z1 z2 => by rw [tk.1]; exact hk.2.2.2.2.1 z z1 z2, tk.2.2.1⟩
theorem y_takeWord {w : Int} (h9 : gi M 353 9 = 0) (hm : mtv M T i) (hw : 0 ≤ w ∧ w ≤ 9) (hk : κT T i = 10 + w) (kk : ∀ M', eqy nxw M M' → mtv M' T (i + 1) → K M') : em_W_takeWord w M K := by
  show e_W_takeWord w M K
  unfold e_W_takeWord
  exact ⟨inr_z (by omega) (by omega), fun _ => ⟨fun _ => y_next hm (kd_lt (by show ¬ κT T i = 0; omega)) kk, fun q => absurd h9 q⟩, fun q => absurd (((tok4 hm.1).2.2.1 (10 + w) (by omega) (by omega)).mpr hk) q⟩
theorem sA.eq (h : sA T r M0 M i s c u) (e : eqy P M M') (q1 : ∀ a k, P a k → teW r a k) (q2 : ∀ a k, (a = 353 ∧ (k = 2 ∨ (3 ≤ k ∧ k ≤ 9) ∨ k = 28)) ∨ a = 354 ∨ ((a = 355 ∨ a = 356 ∨ a = 359) ∧ k = r) → ¬ P a k) : sA T r M0 M' i s c u := by
  obtain ⟨⟨a1, ⟨a2, a2'⟩, a3, a4⟩, b1, b2, b3, b4⟩ := h
  exact ⟨⟨a1.eq e (fun a k z => q2 a k (by omega)), ⟨(e.i (q2 _ _ (by omega))).trans a2, a2'⟩, a3.trans (e.mono q1), (e.i (q2 _ _ (by omega))).trans a4⟩, (e.i (q2 _ _ (by omega))).trans b1, (e.i (q2 _ _ (by omega))).trans b2, (e.i (q2 _ _ (by omega))).trans b3, b4⟩
def opW (r d a k : Nat) : Prop := (a = 353 ∧ k = 37) ∨ (a = 357 ∧ k = r) ∨ ((373 ≤ a ∧ a ≤ 375) ∧ k = d + 1)
theorem y_opn {o : Nat} {q : Int} (hA : sA T r M0 M i s c u) (hB : sB M r σ (o : Int)) (hm : smem M r X en ((o, q) :: σ) (-1) s c pe) (hk : κT T i = 123) (hd : σ.length < 8) (hq : q = 0 ∨ q = 1) (ho : o < 40) (kk : ∀ M', sA T r M0 M' (i + 1) s c u → sB M' r ((o, q) :: σ) (-1) → smem M' r X en ((o, q) :: σ) (-1) s c pe → K M') : em_W_openBody (40 * (r : Int) + (o : Int)) q M K := by
  obtain ⟨⟨a1, ⟨a2, a2'⟩, a3, a4⟩, -⟩ := id hA
  obtain ⟨b1, b2, b3⟩ := id hB
  show e_W_openBody (40 * (r : Int) + (o : Int)) q M K
  unfold e_W_openBody
  refine y_isSign a1.1 (by omega) (fun _ => ⟨fun w => absurd w (by decide), fun _ => ⟨fun w => absurd w (by omega), fun _ M2 e2 _ => ?_⟩⟩) (fun w => absurd hk w)
  have y2 : eqy (opW r σ.length) M M2 := by rw [e2]; exact (eqy.rfl' M).wi (Or.inl ⟨rfl, rfl⟩)
  have g28 : (gi M2 353 28).toNat = r := by rw [y2.i (by unfold opW; omega), a2]; omega
  have g37 : gi M2 353 37 = (σ.length : Int) + 1 := by rw [e2, gi_at (inr_z (by omega) (by omega)), b1]
  have h73 : ∀ z, e_W_openBody_73 (40 * (r : Int) + (o : Int)) q (gi M2 353 28) z M2 K := by
    intro z _ M3 e3
    rw [g28] at e3
    have k3 : (gi M3 353 37).toNat = σ.length + 1 := by rw [e3, gi_of (Or.inl (by omega)), g37]; omega
    rw [k3]
    intro _ M4 e4
    have k4 : (gi M4 353 37).toNat = σ.length + 1 := by rw [e4, gi_of (Or.inl (by omega))]; exact k3
    rw [k4]
    intro _ M5 e5
    have k5 : (gi M5 353 37).toNat = σ.length + 1 := by rw [e5, gi_of (Or.inl (by omega))]; exact k4
    rw [k5]
    intro _ M6 e6
    have y6 : eqy (opW r σ.length) M M6 := by
      rw [e6, e5, e4, e3]
      exact (((y2.wi (Or.inr (Or.inl ⟨rfl, rfl⟩))).wi (Or.inr (Or.inr ⟨by omega, rfl⟩))).wi (Or.inr (Or.inr ⟨by omega, rfl⟩))).wi (Or.inr (Or.inr ⟨by omega, rfl⟩))
    have hA6 : sA T r M0 M6 i s c u := hA.eq y6 (fun a k z => by unfold opW at z; unfold teW; omega) (fun a k z => by unfold opW; omega)
    refine y_next hA6.1.1 (kd_lt (by show ¬ κT T i = 0; omega)) (fun M7 y7 m7 => kk M7 (hA6.nx y7 m7) ⟨?_, ?_, ?_, ?_, ?_, ?_⟩ ((hm.eq y6 (fun b k z => by unfold opW; omega)).nx y7))
    · rw [y7.i (by unfold nxw; omega), e6, gi_of (Or.inl (by omega)), e5, gi_of (Or.inl (by omega)), e4, gi_of (Or.inl (by omega)), e3, gi_of (Or.inl (by omega)), g37, List.length_cons]; omega
    · rw [List.length_cons]; omega
    · rw [y7.i (by unfold nxw; omega), e6, gi_of (Or.inl (by omega)), e5, gi_of (Or.inl (by omega)), e4, gi_at (inr_z (by omega) (by omega))]
      show _ = lf r (o : Int)
      rw [lf_nat]; omega
    · rw [y7.i (by unfold nxw; omega), e6, gi_of (Or.inl (by omega)), e5, gi_at (inr_z (by omega) (by omega))]
    · rw [y7.i (by unfold nxw; omega), e6, gi_at (inr_z (by omega) (by omega)), lf_neg (by omega)]
    · exact b3.eq (fun b k z1 z2 z3 => (y7.i (by unfold nxw; omega)).trans (y6.i (by unfold opW; omega)))
  exact ⟨fun _ _ => h73 _, fun _ => h73 _⟩
theorem getD_l {c : cdT} {q : Int × Int} {m : Nat} (h : m < c.length) : (c ++ [q]).getD m (0, 0) = c.getD m (0, 0) := by
  rw [List.getD_eq_getElem?_getD, List.getD_eq_getElem?_getD, List.getElem?_append_left h]
theorem getD_r {c : cdT} {q : Int × Int} : (c ++ [q]).getD c.length (0, 0) = q := by
  rw [List.getD_eq_getElem?_getD, List.getElem?_append_right (Nat.le_refl _), Nat.sub_self]
  rfl
theorem getD_m {c : cdT} {m : Nat} (h : m < c.length) : c.getD m (0, 0) ∈ c := by
  rw [List.getD_eq_getElem?_getD, List.getElem?_eq_getElem h]
  exact List.getElem_mem h
theorem scod.app {cd : cdT} (h : scod M r X c) (h7 : rcq M (200 * r + c) (cd ++ [(4, 0)])) (d2 : cat_ X c (cd ++ [(0, 0)])) (hd : hdc cd) : scod M r X (c + cd.length + 1) := fun k hk => by
  by_cases e : k < c
  · exact h k e
  · obtain ⟨m, rfl⟩ : ∃ m, k = c + m := ⟨k - c, by omega⟩
    have l1 : m < (cd ++ [((4 : Int), (0 : Int))]).length := by simp; omega
    have l2 : m < (cd ++ [((0 : Int), (0 : Int))]).length := by simp; omega
    obtain ⟨a1, a2, a3⟩ := h7 m l1
    obtain ⟨b1, b2⟩ := d2 m l2
    rw [Nat.add_assoc] at a1 a2 a3
    by_cases em : m < cd.length
    · rw [getD_l em] at a1 a2 a3 b1 b2
      have nz := hd.1 _ (getD_m em)
      rw [a1, b1, b2]
      refine ⟨(if_neg nz).symm, a2, a3⟩
    · have em' : m = cd.length := by omega
      subst em'
      rw [getD_r] at a1 a2 a3 b1 b2
      rw [a1, b1]
      exact ⟨rfl, fun w => absurd w (by show ¬ ((0 : Int) = 2); decide), fun w => absurd w (by show ¬ ((0 : Int) = 1); decide)⟩
theorem srec.xp {x : Nat} {p1 p2 p3 p4 p5 q5 : Prop} (h : srec M r X p1 p2 p3 p4 p5 x) (e : ∀ b, 360 ≤ b → b ≤ 367 → b ≠ 364 → gi M' b (40 * r + x) = gi M b (40 * r + x)) (h4 : gi M' 364 (40 * r + x) = 200 * (r : Int) + X.1 2 x) (hx : kxp (X.1 0 x)) (hq : ¬ q5) : srec M' r X p1 p2 p3 p4 q5 x := by
  unfold srec at h ⊢
  rw [e 360 (by omega) (by omega) (by omega), e 361 (by omega) (by omega) (by omega), e 362 (by omega) (by omega) (by omega), e 363 (by omega) (by omega) (by omega), e 365 (by omega) (by omega) (by omega), e 366 (by omega) (by omega) (by omega), e 367 (by omega) (by omega) (by omega)]
  obtain ⟨a, -, b⟩ := h
  exact ⟨a, ⟨fun _ => h4, fun w => absurd ⟨hx, hq⟩ w⟩, b⟩
theorem smem.pne {p : Nat} (h : smem M r X en σ l (p + 1) c p) (hx : ¬ kxp (X.1 0 p)) : smem M r X en σ l (p + 1) c (p + 1) := by
  obtain ⟨h1, h2, h3⟩ := h
  refine ⟨h1, fun x hx' => ?_, h3⟩
  have R := h2 x hx'
  by_cases e : x = p
  · subst e
    obtain ⟨a, b, d⟩ := R
    exact ⟨a, ⟨fun w => absurd w.1 hx, fun _ => b.2 (fun w => hx w.1)⟩, d⟩
  · exact R.cg Iff.rfl Iff.rfl Iff.rfl Iff.rfl ⟨fun w => absurd w (by omega), fun w => absurd w e⟩
theorem y_exps {v : Int} {ir : Bool} {p j c' du : Nat} {σB : skT} {lB : Int} (hv : v = 0 ↔ ir = false) (hA : sA T r M0 M i (p + 1) c u) (hB : sB M r σB lB) (hm : smem M r X en σ l (p + 1) c p) (hp : p < 40) (hx : kxp (X.1 0 p)) (h2 : X.1 2 p = (c : Int)) (hd : dEx (κT T) (νT T) ir X i c j c' du) (hu : u + du ≤ 60) (hj : κT T j = 59 ∨ κT T j = 41)
    (kb : ∀ M', sfl r M0 M' → K M') (kk : ∀ M', sA T r M0 M' j (p + 1) c' (u + du) → sB M' r σB lB → smem M' r X en σ l (p + 1) c' (p + 1) → K M') : em_W_exp v M (fun (z1 : Int) (M1 : rf_M) => (0 ≤ (40 * (r : Int) + (p : Int)) ∧ (40 * (r : Int) + (p : Int)) < 480 → (∀ M2 : rf_M, M2 = wi M1 364 (40 * (r : Int) + (p : Int)).toNat z1 → K M2))) := by
  obtain ⟨⟨a1, ⟨a2, a2'⟩, a3, a4⟩, b1, b2, b3, b4⟩ := id hA
  obtain ⟨cd, d1, d2, d3⟩ := hd
  have en' : (40 * (r : Int) + (p : Int)).toNat = 40 * r + p := by omega
  rw [en']
  refine y_exp (r := r) (c0 := c) (u0 := u) hv a1 a2 a2' a4 b2 (by omega) b3 b4 (fun M1 hx1 _ M2 e2 => ?_)
  have y2 : eqy (fun a k => a = 364 ∧ k = 40 * r + p) M1 M2 := by rw [e2]; exact (eqy.rfl' _).wi ⟨rfl, rfl⟩
  rcases xpq_d hx1 d1 hu hj with f | ⟨f1, f2, f3, f4, f5, f6, f7⟩
  · refine kb M2 ⟨(a3.trans (f.1.mono (fun a k z => by unfold exW at z; unfold teW; omega))).trans (y2.mono (fun a k z => by unfold teW; omega)), ?_⟩
    rw [y2.i (by omega)]
    exact f.2.2.1
  · have g : ∀ b k, ¬ exW r c b k → ¬ (b = 364 ∧ k = 40 * r + p) → gi M2 b k = gi M b k := fun b k z1 z2 => (y2.i z2).trans (f1.i z1)
    refine kk M2 ⟨⟨f4.eq y2 (fun a k z => by omega), ⟨(y2.i (by omega)).trans f2.1, a2'⟩, (a3.trans (f1.mono (fun a k z => by unfold exW at z; unfold teW; omega))).trans (y2.mono (fun a k z => by unfold teW; omega)), (y2.i (by omega)).trans f3⟩, (g _ _ (by unfold exW; omega) (by omega)).trans b1, (y2.i (by omega)).trans f5, ?_, by omega⟩ ((hB.eq f1 (fun b k z => by unfold exW; omega)).eq y2 (fun b k z => by omega)) ⟨?_, fun x hx' => ?_, ?_⟩
    · rw [y2.i (by omega), f6.1, d3]
    · rw [g _ _ (by unfold exW; omega) (by omega)]
      exact hm.1
    · have R := hm.2.1 x hx'
      by_cases e : x = p
      · subst e
        refine R.xp (fun b z1 z2 z3 => g _ _ (by unfold exW; omega) (by omega)) ?_ hx (by omega)
        rw [e2, gi_at (inr_z (by omega) (by omega)), h2]
      · exact (R.eq (fun b z1 z2 => g _ _ (by unfold exW; omega) (by omega))).cg Iff.rfl Iff.rfl Iff.rfl Iff.rfl ⟨fun w => absurd w (by omega), fun w => absurd w e⟩
    · rw [d3]
      exact (((hm.2.2.eq f1 (fun b k z1 z2 z3 z4 => by unfold exW; omega))).app f7 d2 (dE_hd (dU_hd 8) _ _ _ _ d1)).eq y2 (fun b k z1 z2 z3 z4 => by omega)
end WS2
/-! THE REFERENCE'S STATEMENTS: readStatement() -/
def sst (T : tK) (r : Nat) (M0 : rf_M) (X : txT) (en : Int) (S C : Nat) (M : rf_M) : Prop := ∃ σ l i s c u, sA T r M0 M i s c u ∧ sB M r σ l ∧ (okz σ l ∧ l < (s : Int) ∧ zow σ < (s : Int)) ∧ smem M r X en σ l s c s ∧ zr (κT T) (νT T) X en S C σ l i s c u
theorem okz_last : ∀ {σ : skT} {l l' : Int}, okz σ l → zow σ < l' → -1 ≤ l' → okz σ l'
  | [], _, _, _, _, h => h
  | _ :: _, _, _, h, h', _ => ⟨Or.inr h', h.2⟩
section WS3
variable {M M' M0 : rf_M} {T : tK} {r i s c u : Nat} {X : txT} {en l : Int} {σ : skT} {S C : Nat} {K : rf_M → Prop}
theorem y_rs0 (ht : gi M 353 4 = 2 ∨ gi M 353 4 = 10 ∨ gi M 353 4 = 12 ∨ gi M 353 4 = 13 ∨ gi M 353 4 = 14 ∨ gi M 353 4 = 15 ∨ gi M 353 4 = 17 ∨ gi M 353 4 = 19) (h : e_W_readStatement_57 (gi M 353 4 - 10) 1 M K) : em_W_readStatement M K := by
  have hi : inr (gi M 353 4 - 10) := inr_z (by omega) (by omega)
  exact ⟨fun _ => ⟨hi, h⟩, fun q1 => ⟨hi, ⟨fun _ => h, fun q2 => ⟨fun _ => h, fun q3 => ⟨fun _ => h, fun q4 => ⟨fun _ => h, fun q5 => ⟨fun _ => h, fun q6 => ⟨fun _ => h, fun q7 => ⟨fun _ => h, fun q8 => absurd ht (by omega)⟩⟩⟩⟩⟩⟩⟩⟩⟩
theorem f231 {z : Int} (hb : ¬ gi M 353 9 = 0) (k : K M) : e_W_readStatement_231 z M K := by
  have f256 : e_W_readStatement_256 z M K := ⟨fun w => absurd w hb, fun _ => k⟩
  have f250 : e_W_readStatement_250 z M K := y_take_f hb f256
  exact fun _ => ⟨fun _ => f250, fun _ _ => ⟨fun _ => f250, fun _ => f256⟩⟩
theorem q231 {z v : Int} {a : Nat} (ea : z.toNat = a) (h : gi M 360 a = v) (h1 : v = 0 ∨ v = 2 → e_W_readStatement_250 z M K) (h2 : v ≠ 0 → v ≠ 2 → e_W_readStatement_256 z M K) : e_W_readStatement_231 z M K := by
  unfold e_W_readStatement_231
  rw [ea, h]
  exact fun _ => ⟨fun w => h1 (Or.inl w), fun w0 _ => ⟨fun w => h1 (Or.inr w), fun w => h2 w0 w⟩⟩
theorem q167 {z v : Int} {a : Nat} (ea : z.toNat = a) (h9 : gi M 353 9 = 0) (h : gi M 360 a = v) (h1 : v = 3 ∨ v = 5 ∨ v = 7 → e_W_readStatement_231 z M K) (h2 : v = 9 → e_W_readStatement_227 z z 1 M K) (h3 : v ≠ 3 → v ≠ 5 → v ≠ 7 → v ≠ 9 → e_W_readStatement_227 z z 0 M K) : e_W_readStatement_167 z M K := by
  unfold e_W_readStatement_167
  rw [ea, h]
  exact ⟨fun _ _ => ⟨fun w => h1 (Or.inl w), fun w3 _ => ⟨fun w => h1 (Or.inr (Or.inl w)), fun w5 _ => ⟨fun w => h1 (Or.inr (Or.inr w)), fun w7 _ => ⟨fun w => h2 w, fun w => h3 w3 w5 w7 w⟩⟩⟩⟩, fun w => absurd h9 w⟩
theorem q256 {z v : Int} {a : Nat} (ea : z.toNat = a) (h9 : gi M 353 9 = 0) (h : gi M 360 a = v) (h1 : v = 0 ∨ v = 2 ∨ v = 5 ∨ v = 7 → e_W_readStatement_304 z M K) (h2 : v ≠ 0 → v ≠ 2 → v ≠ 5 → v ≠ 7 → em_W_take 59 M K) : e_W_readStatement_256 z M K := by
  unfold e_W_readStatement_256
  rw [ea, h]
  exact ⟨fun _ _ => ⟨fun w => h1 (Or.inl w), fun w0 _ => ⟨fun w => h1 (Or.inr (Or.inl w)), fun w2 _ => ⟨fun w => h1 (Or.inr (Or.inr (Or.inl w))), fun w5 _ => ⟨fun w => h1 (Or.inr (Or.inr (Or.inr w))), fun w7 => h2 w0 w2 w5 w7⟩⟩⟩⟩, fun w => absurd h9 w⟩
theorem y_head {σ' : skT} {l' : Int} (hA : sA T r M0 M i s c u) (hB : sB M r σ l) (ho : okz σ l) (hl : l < (s : Int)) (hw : zow σ < (s : Int)) (hs : s < 40) (hlk : lkq X en σ l (s : Int)) (hm : smem M r X en σ l s c s) (hk : knd (κT T i)) (x0 : X.1 0 s = κT T i) (x3 : X.1 3 s = zow σ) (x4 : X.1 4 s = zpt σ) (x1 : κT T i = 1 → X.1 1 s = νT T i) (hsel : (σ' = σ ∧ l' = (s : Int) ∧ X.1 7 s = -1 ∧ X.1 8 s = -1 ∧ κT T i ≠ 17) ∨ (σ' = (s, 0) :: σ ∧ l' = -1))
    (kk : ∀ M', sA T r M0 M' (i + 1) (s + 1) c u → sB M' r σ (s : Int) → smem M' r X en σ' l' (s + 1) c s → (κT T i = 1 → em_W_take 61 M' (fun M3 => e_W_readStatement_167 (40 * (r : Int) + (s : Int)) M3 K)) ∧ (κT T i = 10 ∨ κT T i = 12 → e_W_readStatement_161 (40 * (r : Int) + (s : Int)) M' K) ∧ (¬ κT T i = 1 → ¬ κT T i = 10 → ¬ κT T i = 12 → e_W_readStatement_167 (40 * (r : Int) + (s : Int)) M' K)) : em_W_readStatement M K := by
  obtain ⟨⟨a1, ⟨a2, a2'⟩, a3, a4⟩, b1, b2, b3, b4⟩ := id hA
  obtain ⟨t0, t2, tw, tl⟩ := tok4 a1.1
  have en' : (40 * (r : Int) + (s : Int)).toNat = 40 * r + s := by omega
  have w1 : ¬ κT T i = 1 → gi M 353 4 = κT T i := fun w => (tw _ (by unfold knd at hk; omega) (by unfold knd at hk; omega)).mpr rfl
  have ht : gi M 353 4 = 2 ∨ gi M 353 4 = 10 ∨ gi M 353 4 = 12 ∨ gi M 353 4 = 13 ∨ gi M 353 4 = 14 ∨ gi M 353 4 = 15 ∨ gi M 353 4 = 17 ∨ gi M 353 4 = 19 := by
    by_cases w : κT T i = 1
    · exact Or.inl (t2.mpr w)
    · rw [w1 w]
      unfold knd at hk
      omega
  have e0 : (gi M 353 28).toNat = r := by rw [a2]; omega
  have kfi : inr (kf (κT T i)) := by
    unfold knd at hk
    unfold kf
    split
    · exact inr_z (by omega) (by omega)
    · exact inr_z (by omega) (by omega)
  refine y_rs0 ht ⟨fun w => absurd w (by decide), fun _ _ => ?_⟩
  rw [e0, b1]
  refine ⟨fun w => absurd w (by omega), fun _ => y_new a2 a2' b1 hs hB ho hl hw hlk hm (fun M1 y1 f1 hB1 ff hm1 => ?_)⟩
  obtain ⟨g1, g2, g3, g4, g5, g6⟩ := ff
  have q4 : gi M1 353 4 = gi M 353 4 := y1.i (by unfold nwW; omega)
  have q6 : gi M1 353 6 = gi M 353 6 := y1.i (by unfold nwW; omega)
  have h127 : ∀ M2 zl, M2 = wi M1 360 (40 * r + s) (kf (κT T i)) → (κT T i = 1 → zl = νT T i) → inr zl → e_W_readStatement_127 (gi M 353 4 - 10) (40 * (r : Int) + (s : Int)) (40 * (r : Int) + (s : Int)) zl M2 K := by
    intro M2 zl e2 hzl iz _ M3 e3
    rw [en'] at e3
    have y3 : eqy (fun a k => (a = 360 ∨ a = 367) ∧ k = 40 * r + s) M1 M3 := by rw [e3, e2]; exact ((eqy.rfl' _).wi ⟨Or.inl rfl, rfl⟩).wi ⟨Or.inr rfl, rfl⟩
    have hA3 : sA T r M0 M3 i (s + 1) c u := by
      refine ⟨⟨(a1.eq y1 (fun a k z => by unfold nwW; omega)).eq y3 (fun a k z => by omega), ⟨?_, a2'⟩, (a3.trans (y1.mono (fun a k z => by unfold nwW at z; unfold teW; omega))).trans (y3.mono (fun a k z => by unfold teW; omega)), ?_⟩, ?_, ?_, ?_, b4⟩
      · rw [y3.i (by omega), y1.i (by unfold nwW; omega)]; exact a2
      · rw [y3.i (by omega), y1.i (by unfold nwW; omega)]; exact a4
      · rw [y3.i (by omega), f1]; omega
      · rw [y3.i (by omega), y1.i (by unfold nwW; omega)]; exact b2
      · rw [y3.i (by omega), y1.i (by unfold nwW; omega)]; exact b3
    have hm3 := hm1.eq y3 (fun b k z => by omega)
    have f60 : gi M3 360 (40 * r + s) = kf (κT T i) := by rw [e3, gi_of (Or.inl (by omega)), e2, gi_at kfi]
    have f67 : gi M3 367 (40 * r + s) = zl := by rw [e3, gi_at iz]
    have hs3 : smem M3 r X en σ' l' (s + 1) c s := by
      rcases hsel with ⟨e1, e2', x7, x8, n17⟩ | ⟨e1, e2'⟩
      · rw [e1, e2']
        refine ⟨⟨fun w => absurd w.2 (by omega), fun _ => hm3.1.2 (fun w => absurd w.2 (by omega))⟩, fun x hx => ?_, hm3.2.2⟩
        by_cases e : x = s
        · subst e
          refine ⟨⟨by rw [x0]; exact f60, ?_, ?_, by rw [x0]; exact hk⟩, ⟨fun w => absurd rfl w.2, fun _ => (y3.i (by omega)).trans g4⟩, ⟨fun _ => (y3.i (by omega)).trans g1, fun w => absurd (Or.inr rfl) w⟩, ⟨fun _ => (y3.i (by omega)).trans g5, fun _ => ?_⟩, ⟨fun _ => (y3.i (by omega)).trans g6, fun _ => ?_⟩, fun w => ?_⟩
          · rw [y3.i (by omega), g2, x3]
          · rw [y3.i (by omega), g3, x4]
          · rw [y3.i (by omega), g5, x7]; exact (lf_neg (by omega)).symm
          · rw [y3.i (by omega), g6, x8]; exact (lf_neg (by omega)).symm
          · rcases w with w | ⟨w, -⟩
            · rw [f67, x1 (x0.symm.trans w)]; exact hzl (x0.symm.trans w)
            · exact absurd (x0.symm.trans w) n17
        · exact hm3.2.1 x (by omega)
      · rw [e1, e2']
        refine ⟨⟨fun w => (by cases w.1), fun _ => hm3.1.2 (fun w => absurd w.2 (by omega))⟩, fun x hx => ?_, hm3.2.2⟩
        by_cases e : x = s
        · subst e
          refine ⟨⟨by rw [x0]; exact f60, ?_, ?_, by rw [x0]; exact hk⟩, ⟨fun w => absurd rfl w.2, fun _ => (y3.i (by omega)).trans g4⟩, ⟨fun _ => (y3.i (by omega)).trans g1, fun w => absurd (Or.inl (Or.inl rfl)) w⟩, ⟨fun _ => (y3.i (by omega)).trans g5, fun w => absurd ⟨⟨rfl, rfl⟩, rfl⟩ w⟩, ⟨fun _ => (y3.i (by omega)).trans g6, fun w => absurd (Or.inl (Or.inl ⟨rfl, rfl⟩)) w⟩, fun w => ?_⟩
          · rw [y3.i (by omega), g2, x3]
          · rw [y3.i (by omega), g3, x4]
          · rcases w with w | ⟨-, w⟩
            · rw [f67, x1 (x0.symm.trans w)]; exact hzl (x0.symm.trans w)
            · exact absurd (Or.inl ⟨rfl, rfl⟩) w
        · refine (hm3.2.1 x (by omega)).cg ?_ ?_ ?_ ?_ Iff.rfl
          · exact ⟨fun w => Or.inl ((w.resolve_right (by omega)).resolve_left e), fun w => Or.inl (Or.inr (w.resolve_right (by omega)))⟩
          · exact ⟨fun w => absurd w.1.1 (by show ¬ ((x : Int) = (s : Int)); omega), fun w => absurd w.2 (by omega)⟩
          · exact ⟨fun w => Or.inl ((w.resolve_right (fun w => absurd w.1.2 (by show ¬ ((0 : Int) = 1); decide))).resolve_left (fun w => e w.1)), fun w => Or.inl (Or.inr (w.resolve_right (fun w => absurd w.2 (by omega))))⟩
          · exact ⟨fun w => w.resolve_left (fun w => e w.1), fun w => Or.inr w⟩
    refine y_next hA3.1.1 (kd_lt (by show ¬ κT T i = 0; unfold knd at hk; omega)) (fun M4 y4 m4 _ => ?_)
    obtain ⟨k1, k2, k3⟩ := kk M4 (hA3.nx y4 m4) ((hB1.eq y3 (fun b k z => by omega)).nx y4) (hs3.nx y4)
    have f60' : gi M4 360 (40 * r + s) = kf (κT T i) := (y4.i (by unfold nxw; omega)).trans f60
    have ki := kf_iff hk
    rw [en', f60']
    refine ⟨fun q => k1 (ki.2.2.2.2.2.2.2.mp q), fun q => ?_⟩
    have n1 : ¬ κT T i = 1 := fun w => q (ki.2.2.2.2.2.2.2.mpr w)
    rw [w1 n1]
    exact ⟨fun q0 => k2 (Or.inl (by omega)), fun q0 => ⟨fun q2 => k2 (Or.inr (by omega)), fun q2 => k3 n1 (by omega) (by omega)⟩⟩
  have h105 : ∀ zz, zz = kf (κT T i) → e_W_readStatement_105 (gi M 353 4 - 10) (40 * (r : Int) + (s : Int)) (40 * (r : Int) + (s : Int)) zz M1 K := by
    intro zz ez _ M2 e2
    rw [ez, en'] at e2
    have k4 : gi M2 353 4 = gi M 353 4 := by rw [e2, gi_of (Or.inl (by omega))]; exact q4
    have k6 : gi M2 353 6 = gi M 353 6 := by rw [e2, gi_of (Or.inl (by omega))]; exact q6
    exact ⟨fun q => h127 M2 _ e2 (fun w => k6.trans (tl w).1) (inr_gi _ _ _), fun q => h127 M2 (-1) e2 (fun w => absurd (k4.trans (t2.mpr w)) q) (inr_z (by omega) (by omega))⟩
  by_cases w : κT T i = 1
  · exact ⟨fun _ => h105 20 (by rw [w]; rfl), fun q => absurd (q4.trans (t2.mpr w)) q⟩
  · refine ⟨fun q => absurd (t2.mp (q4.symm.trans q)) w, fun _ => h105 _ ?_⟩
    rw [w1 w]
    unfold kf
    rw [if_neg w]
theorem y_readStatement (hS : S ≤ 40) (hA : sA T r M0 M i s c u) (hB : sB M r σ l) (ho : okz σ l) (hl : l < (s : Int)) (hw : zow σ < (s : Int)) (hm : smem M r X en σ l s c s) (hz : zr (κT T) (νT T) X en S C σ l i s c u) (hk1 : ¬ (κT T i = 0 ∧ σ = [])) (hk2 : ¬ (κT T i = 125 ∧ σ ≠ [])) (kb : ∀ M', sfl r M0 M' → K M') (kk : ∀ M', sst T r M0 X en S C M' → K M') : em_W_readStatement M K := by
  obtain ⟨j1, s1, c1, u1, hd, hlk, hz'⟩ := zr_step hz hk1 hk2
  have hkd := dT_kd hd
  have hb := zr_le _ _ _ _ _ _ hz'
  have hc := (dT.congr (X' := X) (dB.congr _) hd).1
  obtain ⟨⟨x0, x2, x3, x4, x5⟩, hd⟩ := hd
  have hs : s < 40 := by omega
  have ea : (40 * (r : Int) + (s : Int)).toNat = 40 * r + s := by omega
  have F : ∀ {N : rf_M} {σ' : skT} {l' : Int} {c' pe : Nat}, smem N r X en σ' l' (s + 1) c' pe → gi N 360 (40 * r + s) = kf (κT T i) := fun h => by rw [← x0]; exact (h.2.1 s (by omega)).1.1
  have os : okz σ (s : Int) := okz_last ho hw (by omega)
  have kb' : ∀ M', sfl r M0 M' → e_W_readStatement_231 (40 * (r : Int) + (s : Int)) M' K := fun M' h => f231 h.2 (kb M' h)
  have simp1 : ∀ N c' u' j, sA T r M0 N j (s + 1) c' u' → sB N r σ (s : Int) → smem N r X en σ (s : Int) (s + 1) c' (s + 1) → κT T j = 59 → (kf (κT T i) ≠ 0 ∧ kf (κT T i) ≠ 2 ∧ kf (κT T i) ≠ 5 ∧ kf (κT T i) ≠ 7) → zr (κT T) (νT T) X en S C σ (s : Int) (j + 1) (s + 1) c' u' → e_W_readStatement_256 (40 * (r : Int) + (s : Int)) N K := by
    intro N c' u' j hA' hB' hm' hj hv hz2
    refine q256 ea hA'.1.2.2.2 (F hm') (fun w => absurd hv (by omega)) (fun _ _ _ _ => ?_)
    exact y_take hA'.1.2.2.2 hA'.1.1 (by omega) hj (fun N' y m => kk N' ⟨σ, (s : Int), j + 1, s + 1, c', u', hA'.nx y m, hB'.nx y, ⟨os, by omega, by omega⟩, hm'.nx y, hz2⟩)
  have comp : ∀ N c' u' j, sA T r M0 N j (s + 1) c' u' → sB N r σ (s : Int) → smem N r X en ((s, 0) :: σ) (-1) (s + 1) c' (s + 1) → (kf (κT T i) = 0 ∨ kf (κT T i) = 2 ∨ kf (κT T i) = 5 ∨ kf (κT T i) = 7) → (κT T j = 123 ∧ σ.length < 8 ∧ zr (κT T) (νT T) X en S C ((s, 0) :: σ) (-1) (j + 1) (s + 1) c' u') → e_W_readStatement_256 (40 * (r : Int) + (s : Int)) N K := by
    intro N c' u' j hA' hB' hm' hv hz2
    refine q256 ea hA'.1.2.2.2 (F hm') (fun _ => ?_) (fun w0 w2 w5 w7 => absurd hv (by omega))
    exact y_opn hA' hB' hm' hz2.1 hz2.2.1 (Or.inl rfl) hs (fun N' a b d => kk N' ⟨(s, 0) :: σ, -1, j + 1, s + 1, c', u', a, b, ⟨⟨Or.inl rfl, Or.inl rfl, os⟩, by omega, by show (s : Int) < ((s + 1 : Nat) : Int); omega⟩, d, hz2.2.2⟩)
  rcases hd with ⟨k, k1, ⟨z1, z7, z8⟩, rfl, j2, d, e1, rfl⟩ | ⟨k, ⟨z7, z8⟩, rfl, j2, d, e1, rfl⟩ | ⟨k, ⟨z7, z8⟩, rfl, j2, d, e1, rfl⟩ | ⟨k, ⟨z7, z8⟩, e1, rfl, rfl, rfl, rfl⟩ | ⟨k, k1, z8, j2, c2, u2, u3, d, e1, e2, rfl⟩ | ⟨k, k1, j2, c2, u2, j3, s3, c3, u3, d, e1, e2, e3⟩ | ⟨k, j2, s2, c2, u2, u3, e1, e2, e3, rfl⟩ | ⟨k, j2, s2, c2, u2, u3, e1, e2, ⟨l1, l2, l3⟩, e3, rfl⟩
  · have kv : kf (κT T i) = 20 := by rw [k]; rfl
    refine y_head (σ' := σ) (l' := (s : Int)) hA hB ho hl hw hs hlk hm hkd x0 x3 x4 (fun _ => z1) (Or.inl ⟨rfl, rfl, z7, z8, by omega⟩) (fun M1 hA1 hB1 hm1 => ⟨fun _ => ?_, fun w => absurd w (by omega), fun w => absurd k w⟩)
    refine y_take hA1.1.2.2.2 hA1.1.1 (by omega) k1 (fun M2 y2 m2 => ?_)
    have hA2 := hA1.nx y2 m2
    refine q167 ea hA2.1.2.2.2 (F (hm1.nx y2)) (fun w => absurd w (by omega)) (fun w => absurd w (by omega)) (fun _ _ _ _ => ?_)
    exact y_exps (K := fun N => e_W_readStatement_231 (40 * (r : Int) + (s : Int)) N K) (ir := false) (by simp) hA2 (hB1.nx y2) (hm1.nx y2) hs (by rw [x0, k]; unfold kxp; omega) x2 d (by omega) (Or.inl e1) kb' (fun M3 hA3 hB3 hm3 => q231 ea (F hm3) (fun w => absurd w (by omega)) (fun _ _ => simp1 M3 _ _ _ hA3 hB3 hm3 e1 (by omega) hz'))
  · have kv : kf (κT T i) = 4 := by rw [k]; rfl
    refine y_head (σ' := σ) (l' := (s : Int)) hA hB ho hl hw hs hlk hm hkd x0 x3 x4 (fun w => absurd w (by omega)) (Or.inl ⟨rfl, rfl, z7, z8, by omega⟩) (fun M1 hA1 hB1 hm1 => ⟨fun w => absurd w (by omega), fun w => absurd w (by omega), fun _ _ _ => ?_⟩)
    refine q167 ea hA1.1.2.2.2 (F hm1) (fun w => absurd w (by omega)) (fun w => absurd w (by omega)) (fun _ _ _ _ => ?_)
    exact y_exps (K := fun N => e_W_readStatement_231 (40 * (r : Int) + (s : Int)) N K) (ir := false) (by simp) hA1 hB1 hm1 hs (by rw [x0, k]; unfold kxp; omega) x2 d (by omega) (Or.inl e1) kb' (fun M3 hA3 hB3 hm3 => q231 ea (F hm3) (fun w => absurd w (by omega)) (fun _ _ => simp1 M3 _ _ _ hA3 hB3 hm3 e1 (by omega) hz'))
  · have kv : kf (κT T i) = 9 := by rw [k]; rfl
    refine y_head (σ' := σ) (l' := (s : Int)) hA hB ho hl hw hs hlk hm hkd x0 x3 x4 (fun w => absurd w (by omega)) (Or.inl ⟨rfl, rfl, z7, z8, by omega⟩) (fun M1 hA1 hB1 hm1 => ⟨fun w => absurd w (by omega), fun w => absurd w (by omega), fun _ _ _ => ?_⟩)
    refine q167 ea hA1.1.2.2.2 (F hm1) (fun w => absurd w (by omega)) (fun _ => ?_) (fun _ _ _ w => absurd kv w)
    exact y_exps (K := fun N => e_W_readStatement_231 (40 * (r : Int) + (s : Int)) N K) (ir := true) (by simp) hA1 hB1 hm1 hs (by rw [x0, k]; unfold kxp; omega) x2 d (by omega) (Or.inl e1) kb' (fun M3 hA3 hB3 hm3 => q231 ea (F hm3) (fun w => absurd w (by omega)) (fun _ _ => simp1 M3 _ _ _ hA3 hB3 hm3 e1 (by omega) hz'))
  · have kv : kf (κT T i) = 3 := by rw [k]; rfl
    refine y_head (σ' := σ) (l' := (s : Int)) hA hB ho hl hw hs hlk hm hkd x0 x3 x4 (fun w => absurd w (by omega)) (Or.inl ⟨rfl, rfl, z7, z8, by omega⟩) (fun M1 hA1 hB1 hm1 => ⟨fun w => absurd w (by omega), fun w => absurd w (by omega), fun _ _ _ => ?_⟩)
    have hm1' := hm1.pne (by rw [x0, k]; unfold kxp; omega)
    refine q167 ea hA1.1.2.2.2 (F hm1) (fun _ => ?_) (fun w => absurd w (by omega)) (fun w _ _ _ => absurd kv w)
    exact q231 ea (F hm1) (fun w => absurd w (by omega)) (fun _ _ => simp1 M1 _ _ _ hA1 hB1 hm1' e1 (by omega) hz')
  · have kv : kf (κT T i) = 2 := by rw [k]; rfl
    refine y_head (σ' := (s, 0) :: σ) (l' := -1) hA hB ho hl hw hs hlk hm hkd x0 x3 x4 (fun w => absurd w (by omega)) (Or.inr ⟨rfl, rfl⟩) (fun M1 hA1 hB1 hm1 => ⟨fun w => absurd w (by omega), fun _ => ?_, fun _ _ w => absurd k w⟩)
    refine y_take hA1.1.2.2.2 hA1.1.1 (by omega) k1 (fun M2 y2 m2 => ?_)
    have hA2 := hA1.nx y2 m2
    refine q167 ea hA2.1.2.2.2 (F (hm1.nx y2)) (fun w => absurd w (by omega)) (fun w => absurd w (by omega)) (fun _ _ _ _ => ?_)
    refine y_exps (K := fun N => e_W_readStatement_231 (40 * (r : Int) + (s : Int)) N K) (ir := false) (by simp) hA2 (hB1.nx y2) (hm1.nx y2) hs (by rw [x0, k]; unfold kxp; omega) x2 d (by omega) (Or.inr e1) kb' (fun M3 hA3 hB3 hm3 => q231 ea (F hm3) (fun _ => ?_) (fun _ w => absurd kv w))
    refine y_take hA3.1.2.2.2 hA3.1.1 (by omega) e1 (fun M4 y4 m4 => ?_)
    refine comp M4 _ _ _ (hA3.nx y4 m4) (hB3.nx y4) (hm3.nx y4) (by omega) (zr_open e2 (Or.inl ⟨rfl, rfl⟩) (Or.inr ⟨rfl, Or.inl ⟨x0.trans k, z8, ?_⟩⟩))
    rw [Nat.add_assoc]
    exact hz'
  · have kv : kf (κT T i) = 0 := by rw [k]; rfl
    have hu2 : u2 + u3 ≤ u1 := by
      rcases e3 with ⟨-, -, -, -, -, e⟩ | ⟨-, u4, -, e⟩ <;> omega
    refine y_head (σ' := (s, 0) :: σ) (l' := -1) hA hB ho hl hw hs hlk hm hkd x0 x3 x4 (fun w => absurd w (by omega)) (Or.inr ⟨rfl, rfl⟩) (fun M1 hA1 hB1 hm1 => ⟨fun w => absurd w (by omega), fun _ => ?_, fun _ w _ => absurd k w⟩)
    refine y_take hA1.1.2.2.2 hA1.1.1 (by omega) k1 (fun M2 y2 m2 => ?_)
    have hA2 := hA1.nx y2 m2
    refine q167 ea hA2.1.2.2.2 (F (hm1.nx y2)) (fun w => absurd w (by omega)) (fun w => absurd w (by omega)) (fun _ _ _ _ => ?_)
    refine y_exps (K := fun N => e_W_readStatement_231 (40 * (r : Int) + (s : Int)) N K) (ir := false) (by simp) hA2 (hB1.nx y2) (hm1.nx y2) hs (by rw [x0, k]; unfold kxp; omega) x2 d (by omega) (Or.inr e1) kb' (fun M3 hA3 hB3 hm3 => q231 ea (F hm3) (fun _ => ?_) (fun w _ => absurd kv w))
    refine y_take hA3.1.2.2.2 hA3.1.1 (by omega) e1 (fun M4 y4 m4 => ?_)
    refine comp M4 _ _ _ (hA3.nx y4 m4) (hB3.nx y4) (hm3.nx y4) (by omega) (zr_open e2 (Or.inl ⟨rfl, rfl⟩) (Or.inr ⟨rfl, Or.inr ?_⟩))
    rcases e3 with ⟨n11, z8, rfl, rfl, rfl, rfl⟩ | ⟨y11, u4, e4, rfl⟩
    · refine Or.inl ⟨x0.trans k, n11, z8, ?_⟩
      rw [Nat.add_assoc]
      exact hz'
    · refine Or.inr (Or.inl ⟨x0.trans k, y11, _, _, _, _, e4, ?_⟩)
      rw [Nat.add_assoc, Nat.add_assoc, ← Nat.add_assoc u2]
      exact hz'
  · have kv : kf (κT T i) = 5 := by rw [k]; rfl
    refine y_head (σ' := (s, 0) :: σ) (l' := -1) hA hB ho hl hw hs hlk hm hkd x0 x3 x4 (fun w => absurd w (by omega)) (Or.inr ⟨rfl, rfl⟩) (fun M1 hA1 hB1 hm1 => ⟨fun w => absurd w (by omega), fun w => absurd w (by omega), fun _ _ _ => ?_⟩)
    have hm1' := hm1.pne (by rw [x0, k]; unfold kxp; omega)
    refine q167 ea hA1.1.2.2.2 (F hm1) (fun _ => ?_) (fun w => absurd w (by omega)) (fun _ w _ _ => absurd kv w)
    refine q231 ea (F hm1) (fun w => absurd w (by omega)) (fun _ _ => comp M1 _ _ _ hA1 hB1 hm1' (by omega) (zr_open e1 (Or.inl ⟨rfl, rfl⟩) (Or.inr ⟨rfl, Or.inr (Or.inr (Or.inr (Or.inl ⟨x0.trans k, e2, _, _, _, _, e3, ?_⟩)))⟩)))
    rw [Nat.add_assoc]
    exact hz'
  · have kv : kf (κT T i) = 7 := by rw [k]; rfl
    refine y_head (σ' := (s, 0) :: σ) (l' := -1) hA hB ho hl hw hs hlk hm hkd x0 x3 x4 (fun w => absurd w (by omega)) (Or.inr ⟨rfl, rfl⟩) (fun M1 hA1 hB1 hm1 => ⟨fun w => absurd w (by omega), fun w => absurd w (by omega), fun _ _ _ => ?_⟩)
    have hm1' := hm1.pne (by rw [x0, k]; unfold kxp; omega)
    refine q167 ea hA1.1.2.2.2 (F hm1) (fun _ => ?_) (fun w => absurd w (by omega)) (fun _ _ w _ => absurd kv w)
    refine q231 ea (F hm1) (fun w => absurd w (by omega)) (fun _ _ => comp M1 _ _ _ hA1 hB1 hm1' (by omega) (zr_open e1 (Or.inl ⟨rfl, rfl⟩) (Or.inr ⟨rfl, Or.inr (Or.inr (Or.inr (Or.inr ⟨x0.trans k, e2, ⟨l1, l2, l3⟩, _, _, _, _, e3, ?_⟩)))⟩)))
    rw [Nat.add_assoc]
    exact hz'
end WS3
/-! THE REFERENCE'S STATEMENTS: closeBody(), readText() -/
section WS4
variable {M M' M0 : rf_M} {T : tK} {r i s c u pe : Nat} {X : txT} {en l : Int} {σ : skT} {S C : Nat} {K : rf_M → Prop}
theorem srec.all {x : Nat} {p1 p2 p3 p4 p5 q1 q2 q3 q4 : Prop} (h : srec M r X p1 p2 p3 p4 p5 x) (h1 : (q1 → gi M 361 (40 * r + x) = -1) ∧ (¬ q1 → gi M 361 (40 * r + x) = lf r (X.1 6 x))) (h2 : (q2 → gi M 365 (40 * r + x) = -1) ∧ (¬ q2 → gi M 365 (40 * r + x) = lf r (X.1 7 x))) (h3 : (q3 → gi M 366 (40 * r + x) = -1) ∧ (¬ q3 → gi M 366 (40 * r + x) = lf r (X.1 8 x))) (h4 : X.1 0 x = 17 → ¬ q4 → gi M 367 (40 * r + x) = X.1 1 x) : srec M r X q1 q2 q3 q4 p5 x := by
  obtain ⟨a, b, -, -, -, g⟩ := h
  exact ⟨a, b, h1, h2, h3, fun w => w.elim (fun w => g (Or.inl w)) (fun w => h4 w.1 w.2)⟩
theorem smem.cl {o : Nat} {q : Int} {ρ σ' : skT} {l' : Int} (h : smem M r X en ((o, q) :: ρ) l s c pe) (ho : okz ((o, q) :: ρ) l) (hlk : lkq X en ((o, q) :: ρ) l (-1)) (h17 : q = 0 → X.1 0 o = 17 → gi M 367 (40 * r + o) = X.1 1 o) (hsel : (σ' = ρ ∧ l' = (o : Int) ∧ (q = 0 → X.1 8 o = -1)) ∨ (σ' = (o, 1) :: ρ ∧ l' = -1 ∧ q = 0)) : smem M r X en σ' l' s c pe := by
  obtain ⟨o1, o2, o3⟩ := ho
  have o1 : l = -1 ∨ (o : Int) < l := o1
  have o2 : q = 0 ∨ q = 1 := o2
  have nA : ∀ x, pnA ρ x → x < o := fun x w => by
    have := pnA_lt ρ _ _ o3 w
    have e : ((o, q).1 : Int) = (o : Int) := rfl
    rw [e] at this
    omega
  have n0 : ∀ x, pn0 ρ x → x < o := fun x w => nA x (pn0_A _ _ w)
  have k6 : l ≠ -1 → X.1 6 l.toNat = -1 := hlk.1
  have k78 := fun w => (hlk.2 w).2 (o, q) ρ rfl
  have k7 : l = -1 → q = 0 → X.1 7 o = -1 := fun w => (k78 w).1
  have k8 : l = -1 → q = 1 → X.1 8 o = -1 := fun w => (k78 w).2
  have E : ¬ (σ' = [] ∧ l' = -1) := by
    rcases hsel with ⟨e1, e2, -⟩ | ⟨e1, e2, -⟩
    · exact fun w => absurd (e2.symm.trans w.2) (by omega)
    · exact fun w => absurd (e1.symm.trans w.1) (by simp)
  have P1 : ∀ x : Nat, (pnA σ' x ∨ (x : Int) = l') ↔ (x = o ∨ pnA ρ x) := by
    intro x
    rcases hsel with ⟨e1, e2, -⟩ | ⟨e1, e2, -⟩
    · rw [e1, e2]
      exact ⟨fun w => w.elim Or.inr (fun w => Or.inl (by omega)), fun w => w.elim (fun w => Or.inr (by omega)) Or.inl⟩
    · rw [e1, e2]
      exact ⟨fun w => w.elim id (fun w => absurd w (by omega)), fun w => Or.inl w⟩
  have P2 : ∀ x : Nat, ¬ (ptp 0 σ' x ∧ l' = -1) := by
    intro x
    rcases hsel with ⟨e1, e2, -⟩ | ⟨e1, e2, -⟩
    · exact fun w => absurd (e2.symm.trans w.2) (by omega)
    · rw [e1]
      exact fun w => absurd w.1.2 (by show ¬ ((1 : Int) = 0); decide)
  have P3 : ∀ x : Nat, (pn0 σ' x ∨ (ptp 1 σ' x ∧ l' = -1)) ↔ (pn0 ρ x ∨ (x = o ∧ l' = -1)) := by
    intro x
    rcases hsel with ⟨e1, e2, -⟩ | ⟨e1, e2, -⟩
    · rw [e1, e2]
      exact ⟨fun w => w.elim Or.inl (fun w => absurd w.2 (by omega)), fun w => w.elim Or.inl (fun w => absurd w.2 (by omega))⟩
    · rw [e1, e2]
      refine ⟨fun w => w.elim (fun w => w.elim (fun w => absurd w.2 (by show ¬ ((1 : Int) = 0); decide)) Or.inl) (fun w => Or.inr ⟨?_, rfl⟩), fun w => w.elim (fun w => Or.inl (Or.inr w)) (fun w => Or.inr ⟨⟨?_, rfl⟩, rfl⟩)⟩
      · have := w.1.1
        have : (x : Int) = (o : Int) := this
        omega
      · show (x : Int) = (o : Int)
        rw [w.1]
  have P4 : ∀ x : Nat, pn0 σ' x ↔ pn0 ρ x := by
    intro x
    rcases hsel with ⟨e1, e2, -⟩ | ⟨e1, e2, -⟩
    · rw [e1]
    · rw [e1]
      exact ⟨fun w => w.elim (fun w => absurd w.2 (by show ¬ ((1 : Int) = 0); decide)) id, Or.inr⟩
  have B1 : l' = -1 → q = 0 := by
    rcases hsel with ⟨-, e2, -⟩ | ⟨-, -, e3⟩
    · exact fun w => absurd (e2.symm.trans w) (by omega)
    · exact fun _ => e3
  have B2 : ¬ l' = -1 → q = 0 → X.1 8 o = -1 := by
    rcases hsel with ⟨-, -, e3⟩ | ⟨-, e2, -⟩
    · exact fun _ => e3
    · exact fun w => absurd e2 w
  clear hsel
  refine ⟨⟨fun w => absurd w E, fun _ => h.1.2 (fun w => by cases w.1)⟩, fun x hx => ?_, h.2.2⟩
  have R := h.2.1 x hx
  have lm1 : lf r (-1) = -1 := lf_neg (by omega)
  by_cases exo : x = o
  · subst exo
    have nn : ¬ pn0 ρ x := fun w => absurd (n0 x w) (by omega)
    refine R.all ⟨fun _ => R.2.2.1.1 (Or.inl (Or.inl rfl)), fun w => absurd ((P1 x).mpr (Or.inl rfl)) w⟩ ⟨fun w => absurd w (P2 x), fun _ => ?_⟩ ⟨fun w => ?_, fun w => ?_⟩ (fun w _ => ?_)
    · by_cases a : q = 0 ∧ l = -1
      · rw [R.2.2.2.1.1 ⟨⟨rfl, a.1⟩, a.2⟩, k7 a.2 a.1, lm1]
      · exact R.2.2.2.1.2 (fun w => a ⟨w.1.2, w.2⟩)
    · have b := ((P3 x).mp w).resolve_left nn
      exact R.2.2.2.2.1.1 (Or.inl (Or.inl ⟨rfl, B1 b.2⟩))
    · have nb : ¬ l' = -1 := fun b => w ((P3 x).mpr (Or.inr ⟨rfl, b⟩))
      by_cases a : q = 0
      · rw [R.2.2.2.2.1.1 (Or.inl (Or.inl ⟨rfl, a⟩)), B2 nb a, lm1]
      · by_cases b : l = -1
        · have q1 : q = 1 := by omega
          rw [R.2.2.2.2.1.1 (Or.inr ⟨⟨rfl, q1⟩, b⟩), k8 b q1, lm1]
        · exact R.2.2.2.2.1.2 (fun w => w.elim (fun w => w.elim (fun w => a w.2) nn) (fun w => b w.2))
    · by_cases a : q = 0
      · exact h17 a w
      · exact R.2.2.2.2.2 (Or.inr ⟨w, fun w => w.elim (fun w => a w.2) nn⟩)
  · by_cases exl : (x : Int) = l
    · have nl : l ≠ -1 := by omega
      have nn : ¬ pnA ρ x := fun w => absurd (nA x w) (by omega)
      have nn0 : ¬ pn0 ρ x := fun w => nn (pn0_A _ _ w)
      have k6' := k6 nl
      rw [← exl, tn_] at k6'
      refine R.all ⟨fun w => absurd ((P1 x).mp w) (fun w => w.elim exo nn), fun _ => ?_⟩ ⟨fun w => absurd w (P2 x), fun _ => R.2.2.2.1.2 (fun w => nl w.2)⟩ ⟨fun w => absurd ((P3 x).mp w) (fun w => w.elim nn0 (fun w => exo w.1)), fun _ => R.2.2.2.2.1.2 (fun w => w.elim (fun w => w.elim (fun w => exo w.1) nn0) (fun w => nl w.2))⟩ (fun w _ => R.2.2.2.2.2 (Or.inr ⟨w, fun w => w.elim (fun w => exo w.1) nn0⟩))
      rw [R.2.2.1.1 (Or.inr exl), k6', lm1]
    · refine R.cg ?_ ?_ ?_ ?_ Iff.rfl
      · exact (P1 x).trans ⟨fun w => Or.inl w, fun w => w.resolve_right exl⟩
      · exact ⟨fun w => absurd w (P2 x), fun w => absurd w.1.1 (by show ¬ ((x : Int) = (o : Int)); omega)⟩
      · exact (P3 x).trans ⟨fun w => Or.inl (Or.inr (w.resolve_right (fun w => exo w.1))), fun w => Or.inl ((w.resolve_right (fun w => absurd w.1.1 (by show ¬ ((x : Int) = (o : Int)); omega))).resolve_left (fun w => exo w.1))⟩
      · exact (P4 x).trans ⟨Or.inr, fun w => w.resolve_left (fun w => exo w.1)⟩
theorem smem.lt {o : Nat} (h : smem M r X en σ l s c pe) (y : eqy (fun a k => a = 367 ∧ k = 40 * r + o) M M') (h17 : X.1 0 o = 17) (hp : pn0 σ o) : smem M' r X en σ l s c pe := by
  refine ⟨?_, fun x hx => ?_, h.2.2.eq y (fun b k z1 z2 z3 z4 => by omega)⟩
  · rw [y.i (by omega)]; exact h.1
  · have R := h.2.1 x hx
    by_cases e : x = o
    · subst e
      unfold srec at R ⊢
      rw [y.i (a := 360) (by omega), y.i (a := 361) (by omega), y.i (a := 362) (by omega), y.i (a := 363) (by omega), y.i (a := 364) (by omega), y.i (a := 365) (by omega), y.i (a := 366) (by omega)]
      exact ⟨R.1, R.2.1, R.2.2.1, R.2.2.2.1, R.2.2.2.2.1, fun w => w.elim (fun w => absurd (h17.symm.trans w) (by decide)) (fun w => absurd hp w.2)⟩
    · exact R.eq (fun b z1 z2 => y.i (by omega))
theorem smem.fin (h : smem M r X en [] l S C S) (hlk : lkq X en [] l (-1)) : rtx M r X S C en := by
  obtain ⟨h1, h2, h3⟩ := h
  have lm1 : lf r (-1) = -1 := lf_neg (by omega)
  refine ⟨?_, fun x hx => ?_, h3⟩
  · by_cases e : l = -1
    · rw [h1.1 ⟨rfl, e⟩, (hlk.2 e).1 rfl, lm1]
    · exact h1.2 (fun w => e w.2)
  · obtain ⟨⟨a1, a2, a3, a4⟩, b, d, e, f, g⟩ := h2 x hx
    have nt : ∀ q, ¬ ptp q [] x := fun q w => absurd w.1 (by show ¬ ((x : Int) = -1); omega)
    have np : ¬ x = S := by omega
    refine ⟨a1, ?_, a2, a3, fun w => b.1 ⟨w, np⟩, fun w => b.2 (fun z => w z.1), e.2 (fun w => nt 0 w.1), f.2 (fun w => w.elim id (fun w => nt 1 w.1)), fun w => g (w.elim Or.inl (fun w => Or.inr ⟨w, id⟩))⟩
    by_cases exl : (x : Int) = l
    · have k6 := hlk.1 (by omega)
      rw [← exl, tn_] at k6
      rw [d.1 (Or.inr exl), k6, lm1]
    · exact d.2 (fun w => w.elim id exl)
theorem y_closeBody {e : Nat × Int} {ρ : skT} (hS : S ≤ 40) (hA : sA T r M0 M i s c u) (hB : sB M r (e :: ρ) l) (ho : okz (e :: ρ) l) (hl : l < (s : Int)) (hw : zow (e :: ρ) < (s : Int)) (hm : smem M r X en (e :: ρ) l s c s) (hz : zr (κT T) (νT T) X en S C (e :: ρ) l i s c u) (hk : κT T i = 125) (kk : ∀ M', sst T r M0 X en S C M' → K M') : em_W_closeBody M K := by
  obtain ⟨o, q⟩ := e
  obtain ⟨hlk, hzc⟩ := zr_close hz hk
  obtain ⟨⟨a1, ⟨a2, a2'⟩, a3, a4⟩, b1, b2, b3, b4⟩ := id hA
  obtain ⟨d1, d2, d3⟩ := id hB
  have hw' : (o : Int) < (s : Int) := hw
  have hso : o < s := by omega
  have sS := (zr_le _ _ _ _ _ _ hz).1
  rw [List.length_cons] at d1 d2
  have e37 : (gi M 353 37).toNat = ρ.length + 1 := by rw [d1]; omega
  have t3 : gi M 373 (ρ.length + 1) = ((40 * r + o : Nat) : Int) := d3.1.trans (lf_nat r o)
  have t4 : gi M 374 (ρ.length + 1) = q := d3.2.1
  have ec : ((40 * r + o : Nat) : Int) = 40 * (r : Int) + (o : Int) := by omega
  show e_W_closeBody M K
  unfold e_W_closeBody
  rw [e37, t3, t4, tn_]
  intro _ _ M1 e1
  have y1 : eqy (fun a k => a = 353 ∧ k = 37) M M1 := by rw [e1]; exact (eqy.rfl' _).wi ⟨rfl, rfl⟩
  have hA1 := hA.eq y1 (fun a k z => by unfold teW; omega) (fun a k z => by omega)
  refine y_next hA1.1.1 (kd_lt (by show ¬ κT T i = 0; omega)) (fun M2 y2 m2 => ?_)
  have hA2 := hA1.nx y2 m2
  have oo : okz ρ (o : Int) := ho.2.2
  have zw : zow ρ < (o : Int) := by
    cases ρ with
    | nil => show (-1 : Int) < (o : Int); omega
    | cons e' ρ' =>
      have := oo.1
      show (e'.1 : Int) < (o : Int)
      omega
  have hB2 : sB M2 r ρ (o : Int) := by
    refine ⟨?_, by omega, d3.2.2.2.eq (fun b k z1 z2 z3 => (y2.i (by unfold nxw; omega)).trans (y1.i (by omega)))⟩
    rw [y2.i (by unfold nxw; omega), e1, gi_at (inr_z (by omega) (by omega)), d1]
    omega
  have hm2 : smem M2 r X en ((o, q) :: ρ) l s c s := (hm.eq y1 (fun b k z => by omega)).nx y2
  have f60 : gi M2 360 (40 * r + o) = kf (X.1 0 o) := (hm2.2.1 o hso).1.1
  have hko : knd (X.1 0 o) := (hm2.2.1 o hso).1.2.2.2
  have ki := kf_iff hko
  have tw := (tok4 hA2.1.1.1).2.2.1
  have back : (q = 0 → X.1 8 o = -1) → (q = 0 → X.1 0 o ≠ 17) → zr (κT T) (νT T) X en S C ρ (o : Int) (i + 1) s c u → K M2 := fun z8 n17 hz1 => kk M2 ⟨ρ, (o : Int), i + 1, s, c, u, hA2, hB2, ⟨oo, by omega, by omega⟩, hm2.cl ho hlk (fun w1 w2 => absurd w2 (n17 w1)) (Or.inl ⟨rfl, rfl, z8⟩), hz1⟩
  have open1 : ∀ N j, sA T r M0 N j s c u → sB N r ρ (o : Int) → smem N r X en ((o, 1) :: ρ) (-1) s c s → zb (κT T) (νT T) X ρ.length (zr (κT T) (νT T) X en S C ρ (o : Int)) o j s c u → em_W_openBody ((40 * r + o : Nat) : Int) 1 N K := by
    rintro N j hA' hB' hm' ⟨j', s', c', u', g1, g2⟩
    obtain ⟨w1, w2, w3⟩ := zr_open (en := en) (S := S) (C := C) (u := u) g1 (Or.inr ⟨rfl, rfl⟩) (Or.inl ⟨rfl, g2⟩)
    rw [ec]
    exact y_opn hA' hB' hm' w1 w2 (Or.inr rfl) (by omega) (fun N' a b d => kk N' ⟨(o, 1) :: ρ, -1, j + 1, s, c, u, a, b, ⟨⟨Or.inl rfl, Or.inr rfl, oo⟩, by omega, hw'⟩, d, w3⟩)
  rw [f60]
  rcases hzc with ⟨q1, hz1⟩ | ⟨q0, hzc⟩
  · have q1 : q = 1 := q1
    exact ⟨fun _ => back (fun w => absurd w (by omega)) (fun w => absurd w (by omega)) hz1, fun w => absurd q1 w⟩
  · have q0 : q = 0 := q0
    refine ⟨fun w => absurd w (by omega), fun _ _ => ?_⟩
    rcases hzc with ⟨k, z8, hz1⟩ | ⟨k, n11, z8, hz1⟩ | ⟨k, y11, hb⟩ | ⟨k, y16, hb⟩ | ⟨k, y18, ⟨l1, l2, l3⟩, hb⟩
    · have k : X.1 0 o = 12 := k
      exact ⟨fun _ => back (fun _ => z8) (fun _ => by omega) hz1, fun w => absurd (ki.2.1.mpr k) w⟩
    · have k : X.1 0 o = 10 := k
      refine ⟨fun w => absurd (ki.2.1.mp w) (by omega), fun _ _ => ⟨fun _ => ⟨fun w => absurd ((tw 11 (by omega) (by omega)).mp w) n11, fun _ => back (fun _ => z8) (fun _ => by omega) hz1⟩, fun w => absurd (ki.1.mpr k) w⟩⟩
    · have k : X.1 0 o = 10 := k
      refine ⟨fun w => absurd (ki.2.1.mp w) (by omega), fun _ _ => ⟨fun _ => ⟨fun _ => ?_, fun w => absurd ((tw 11 (by omega) (by omega)).mpr y11) w⟩, fun w => absurd (ki.1.mpr k) w⟩⟩
      refine y_next hA2.1.1 (kd_lt (by show ¬ κT T (i + 1) = 0; omega)) (fun M3 y3 m3 => ?_)
      exact open1 M3 _ (hA2.nx y3 m3) (hB2.nx y3) ((hm2.cl ho hlk (fun _ w2 => absurd w2 (by omega)) (Or.inr ⟨rfl, rfl, q0⟩)).nx y3) hb
    · have k : X.1 0 o = 15 := k
      refine ⟨fun w => absurd (ki.2.1.mp w) (by omega), fun _ _ => ⟨fun w => absurd (ki.1.mp w) (by omega), fun _ _ => ⟨fun _ => ?_, fun w => absurd (ki.2.2.2.2.1.mpr k) w⟩⟩⟩
      refine y_takeWord hA2.1.2.2.2 hA2.1.1 (by omega) y16 (fun M3 y3 m3 _ => ?_)
      rw [tn_, (y3.i (by unfold nxw; omega) : gi M3 360 (40 * r + o) = gi M2 360 (40 * r + o)), f60]
      have hA3 := hA2.nx y3 m3
      exact ⟨fun w => absurd (ki.2.2.2.2.2.1.mp w) (by omega), fun _ => ⟨fun _ => open1 M3 _ hA3 (hB2.nx y3) ((hm2.cl ho hlk (fun _ w2 => absurd w2 (by omega)) (Or.inr ⟨rfl, rfl, q0⟩)).nx y3) hb, fun w => absurd hA3.1.2.2.2 w⟩⟩
    · have k : X.1 0 o = 17 := k
      refine ⟨fun w => absurd (ki.2.1.mp w) (by omega), fun _ _ => ⟨fun w => absurd (ki.1.mp w) (by omega), fun _ _ => ⟨fun w => absurd (ki.2.2.2.2.1.mp w) (by omega), fun _ => ?_⟩⟩⟩
      refine y_takeWord hA2.1.2.2.2 hA2.1.1 (by omega) y18 (fun M3 y3 m3 _ => ?_)
      rw [tn_, (y3.i (by unfold nxw; omega) : gi M3 360 (40 * r + o) = gi M2 360 (40 * r + o)), f60]
      have hA3 := hA2.nx y3 m3
      obtain ⟨-, t2, -, tl⟩ := tok4 hA3.1.1.1
      have tl := tl l1
      refine ⟨fun _ => ⟨fun _ => ⟨fun _ => ⟨fun _ _ M4 e4 => ?_, fun w => absurd (by rw [tl.1]; exact l2) w⟩, fun w => absurd (t2.mpr l1) w⟩, fun w => absurd hA3.1.2.2.2 w⟩, fun w => absurd (ki.2.2.2.2.2.1.mpr k) w⟩
      have y4 : eqy (fun a k => a = 367 ∧ k = 40 * r + o) M3 M4 := by rw [e4]; exact (eqy.rfl' _).wi ⟨rfl, rfl⟩
      have f67 : gi M4 367 (40 * r + o) = X.1 1 o := by rw [e4, gi_at (inr_gi _ _ _), tl.1]; exact l3.symm
      have hA4 := hA3.eq y4 (fun a k z => by unfold teW; omega) (fun a k z => by omega)
      have hB4 := (hB2.nx y3).eq y4 (fun b k z => by omega)
      have hm4 : smem M4 r X en ((o, q) :: ρ) l s c s := (hm2.nx y3).lt y4 k (Or.inl ⟨rfl, q0⟩)
      have hm4' : smem M4 r X en ((o, 1) :: ρ) (-1) s c s := hm4.cl ho hlk (fun _ _ => f67) (Or.inr ⟨rfl, rfl, q0⟩)
      refine y_next hA4.1.1 (kd_lt (by show ¬ κT T (i + 1 + 1) = 0; omega)) (fun M5 y5 m5 => ?_)
      have hA5 := hA4.nx y5 m5
      exact ⟨fun _ => open1 M5 _ hA5 (hB4.nx y5) (hm4'.nx y5) hb, fun w => absurd hA5.1.2.2.2 w⟩
theorem y_loop (hS : S ≤ 40) (h : sfl r M0 M ∨ sst T r M0 X en S C M) (kb : ∀ M', sfl r M0 M' → K M') (kk : ∀ M', eqy (teW r) M0 M' → gi M' 353 9 = 0 → rtx M' r X S C en → K M') : e_W_readText_40 M K := by
  refine ⟨fun M => sfl r M0 M ∨ sst T r M0 X en S C M, h, ?_⟩
  rintro M (h | ⟨σ, l, i, s, c, u, hA, hB, ⟨ho, hl, hw⟩, hm, hz⟩)
  · exact ⟨fun w => absurd w h.2, fun _ => kb M h⟩
  · have t0 := (tok4 hA.1.1.1).1
    have n37 : gi M 353 37 = 0 ↔ σ = [] := by
      rw [hB.1]
      cases σ with
      | nil => exact ⟨fun _ => rfl, fun _ => rfl⟩
      | cons e ρ => exact ⟨fun w => absurd w (by rw [List.length_cons]; omega), fun w => by cases w⟩
    have h84 : e_W_readText_84 M (fun M => sfl r M0 M ∨ sst T r M0 X en S C M) K := y_mis (fun M' y q => Or.inl (hA.fl y q))
    have h61 : ¬ (κT T i = 0 ∧ σ = []) → e_W_readText_61 M (fun M => sfl r M0 M ∨ sst T r M0 X en S C M) K := by
      intro hn
      have h91 : ¬ (κT T i = 125 ∧ σ = []) → e_W_readText_91 M (fun M => sfl r M0 M ∨ sst T r M0 X en S C M) K := by
        intro hn2
        unfold e_W_readText_91
        refine y_isSign hA.1.1.1 (by omega) (fun w => ⟨fun z => absurd z (by decide), fun _ => ?_⟩) (fun w => ⟨fun _ => ?_, fun z => absurd rfl z⟩)
        · cases σ with
          | nil => exact absurd ⟨w, rfl⟩ hn2
          | cons e ρ => exact y_closeBody hS hA hB ho hl hw hm hz w (fun M' h => Or.inr h)
        · exact y_readStatement hS hA hB ho hl hw hm hz hn (fun z => w z.1) (fun M' h => Or.inl h) (fun M' h => Or.inr h)
      refine ⟨fun _ => h84, fun _ => ?_⟩
      refine y_isSign hA.1.1.1 (by omega) (fun w => ⟨fun z => absurd z (by decide), fun _ => ⟨fun _ => h84, fun z => h91 (fun w => z (n37.mpr w.2))⟩⟩) (fun w => ⟨fun _ => h91 (fun z => w z.1), fun z => absurd rfl z⟩)
    refine ⟨fun _ => ⟨fun w4 => ⟨fun w37 => ?_, fun w37 => h61 (fun w => w37 (n37.mpr w.2))⟩, fun w4 => h61 (fun w => w4 (t0.mpr w.1))⟩, fun w => absurd hA.1.2.2.2 w⟩
    obtain rfl := n37.mp w37
    obtain ⟨rfl, rfl, hlk⟩ := zr_end hz (t0.mp w4)
    exact kk M hA.1.2.2.1 hA.1.2.2.2 (hm.fin hlk)
end WS4
/-! THE REFERENCE'S readText(), whatever the text: what it leaves alone -/
def okO (M : rf_M) (r d : Nat) : Prop := ∀ k, k ≤ d → (gi M 373 k < 0 ∨ 40 * (r : Int) ≤ gi M 373 k) ∧ (gi M 375 k < 0 ∨ 40 * (r : Int) ≤ gi M 375 k)
def sF (T : tK) (r : Nat) (M0 M : rf_M) (s : Nat) : Prop := ∃ i c u d : Nat, sA T r M0 M i s c u ∧ u ≤ 60 ∧ gi M 353 37 = (d : Int) ∧ d ≤ 8 ∧ okO M r d
section WFR
variable {M M' M0 : rf_M} {T : tK} {r i s c u : Nat} {P : Nat → Nat → Prop} {K : rf_M → Prop}
theorem sF.fr (h : sF T r M0 M s) (e : eqy P M M') (q1 : ∀ a k, P a k → teW r a k) (q2 : ∀ a k, (a = 353 ∧ (k = 2 ∨ (3 ≤ k ∧ k ≤ 9) ∨ k = 28 ∨ k = 37)) ∨ a = 354 ∨ ((a = 355 ∨ a = 356 ∨ a = 359) ∧ k = r) ∨ a = 373 ∨ a = 375 → ¬ P a k) : sF T r M0 M' s := by
  obtain ⟨i, c, u, d, hA, hu, h37, hd, ho⟩ := h
  exact ⟨i, c, u, d, hA.eq e q1 (fun a k z => q2 a k (by omega)), hu, (e.i (q2 _ _ (by omega))).trans h37, hd, fun k hk => by rw [e.i (q2 373 k (by omega)), e.i (q2 375 k (by omega))]; exact ho k hk⟩
theorem F_next (h : sF T r M0 M s) (kk : ∀ M', sF T r M0 M' s → K M') : em_W_next M K := by
  obtain ⟨i, c, u, d, hA, hu, h37, hd, ho⟩ := h
  exact y_next0 hA.1.1.1.1 (fun M' y m => kk M' ⟨_, c, u, d, hA.nx y m, hu, (y.i (by unfold nxw; omega)).trans h37, hd, fun k hk => by rw [y.i (a := 373) (by unfold nxw; omega), y.i (a := 375) (by unfold nxw; omega)]; exact ho k hk⟩)
theorem F_mis (h : sF T r M0 M s) (kb : ∀ M', sfl r M0 M' → K M') : em_W_misplaced M K := by
  obtain ⟨i, c, u, d, hA, -⟩ := h
  exact y_mis (fun M' y q => kb M' (hA.fl y q))
theorem F_take {ch : Int} (h : sF T r M0 M s) (hc : 20 ≤ ch) (kb : ∀ M', sfl r M0 M' → K M') (kk : ∀ M', sF T r M0 M' s → K M') : em_W_take ch M K := by
  have h' := h
  obtain ⟨i, c, u, d, hA, -⟩ := h'
  show e_W_take ch M K
  unfold e_W_take
  exact y_isSign hA.1.1.1 hc (fun _ => ⟨fun w => absurd w (by decide), fun _ => ⟨fun _ => F_next h kk, fun w => absurd hA.1.2.2.2 w⟩⟩) (fun _ => ⟨fun _ => F_mis h (fun M' q => ⟨fun w => absurd w q.2, fun _ => kb M' q⟩), fun w => absurd rfl w⟩)
theorem F_takeWord {w : Int} (h : sF T r M0 M s) (hw : 0 ≤ w ∧ w ≤ 9) (kb : ∀ M', sfl r M0 M' → K M') (kk : ∀ M', sF T r M0 M' s → K M') : em_W_takeWord w M K := by
  have h' := h
  obtain ⟨i, c, u, d, hA, -⟩ := h'
  show e_W_takeWord w M K
  unfold e_W_takeWord
  exact ⟨inr_z (by omega) (by omega), fun _ => ⟨fun _ => F_next h kk, fun q => absurd hA.1.2.2.2 q⟩, fun _ => F_mis h (fun M' q => ⟨fun w => absurd w q.2, fun _ => kb M' q⟩)⟩
theorem F_open {v q : Int} (h : sF T r M0 M s) (hv : 40 * (r : Int) ≤ v) (iv : inr v) (hq : q = 0 ∨ q = 1) (kb : ∀ M', sfl r M0 M' → K M') (kk : ∀ M', sF T r M0 M' s → K M') : em_W_openBody v q M K := by
  have h' := h
  obtain ⟨i, c, u, d, hA, hu, h37, hd, ho⟩ := h'
  obtain ⟨⟨a1, ⟨a2, a2'⟩, a3, a4⟩, -⟩ := id hA
  have bad : e_W_openBody_18 M K := F_mis h kb
  show e_W_openBody v q M K
  unfold e_W_openBody
  refine y_isSign a1.1 (by omega) (fun _ => ⟨fun w => absurd w (by decide), fun _ => ⟨fun _ => bad, fun n8 M2 e2 _ => ?_⟩⟩) (fun _ => ⟨fun _ => bad, fun w => absurd rfl w⟩)
  have d8 : d < 8 := by omega
  have y2 : eqy (opW r d) M M2 := by rw [e2]; exact (eqy.rfl' M).wi (Or.inl ⟨rfl, rfl⟩)
  have g28 : (gi M2 353 28).toNat = r := by rw [y2.i (by unfold opW; omega), a2]; omega
  have g37 : gi M2 353 37 = (d : Int) + 1 := by rw [e2, gi_at (inr_z (by omega) (by omega)), h37]
  have h73 : ∀ z, e_W_openBody_73 v q (gi M2 353 28) z M2 K := by
    intro z _ M3 e3
    rw [g28] at e3
    have k3 : (gi M3 353 37).toNat = d + 1 := by rw [e3, gi_of (Or.inl (by omega)), g37]; omega
    rw [k3]
    intro _ M4 e4
    have k4 : (gi M4 353 37).toNat = d + 1 := by rw [e4, gi_of (Or.inl (by omega))]; exact k3
    rw [k4]
    intro _ M5 e5
    have k5 : (gi M5 353 37).toNat = d + 1 := by rw [e5, gi_of (Or.inl (by omega))]; exact k4
    rw [k5]
    intro _ M6 e6
    have y6 : eqy (opW r d) M M6 := by
      rw [e6, e5, e4, e3]
      exact (((y2.wi (Or.inr (Or.inl ⟨rfl, rfl⟩))).wi (Or.inr (Or.inr ⟨by omega, rfl⟩))).wi (Or.inr (Or.inr ⟨by omega, rfl⟩))).wi (Or.inr (Or.inr ⟨by omega, rfl⟩))
    refine F_next (s := s) ⟨i, c, u, d + 1, hA.eq y6 (fun a k z => by unfold opW at z; unfold teW; omega) (fun a k z => by unfold opW; omega), hu, ?_, d8, fun k hk => ?_⟩ kk
    · rw [e6, gi_of (Or.inl (by omega)), e5, gi_of (Or.inl (by omega)), e4, gi_of (Or.inl (by omega)), e3, gi_of (Or.inl (by omega)), g37]; omega
    · by_cases ek : k = d + 1
      · have j1 : gi M6 373 k = v := by rw [ek, e6, gi_of (Or.inl (by omega)), e5, gi_of (Or.inl (by omega)), e4, gi_at iv]
        have j2 : gi M6 375 k = -1 := by rw [ek, e6, gi_at (inr_z (by omega) (by omega))]
        rw [j1, j2]
        exact ⟨Or.inr hv, Or.inl (by omega)⟩
      · rw [y6.i (a := 373) (by unfold opW; omega), y6.i (a := 375) (by unfold opW; omega)]
        exact ho k (by omega)
  exact ⟨fun _ _ => h73 _, fun _ => h73 _⟩
theorem F_new {K : Int → rf_M → Prop} (hs : s < 40) (h : sF T r M0 M s) (kk : ∀ M', sF T r M0 M' (s + 1) → K (40 * (r : Int) + (s : Int)) M') : em_W_newStatement M K := by
  obtain ⟨i, c, u, d, hA, hu, h37, hd, ho⟩ := h
  obtain ⟨⟨a1, ⟨a2, a2'⟩, a3, a4⟩, b1, b2, b3, b4⟩ := id hA
  have e0 : (gi M 353 28).toNat = r := by rw [a2]; omega
  have en' : (40 * (r : Int) + (s : Int)).toNat = 40 * r + s := by omega
  have iS : inr (40 * (r : Int) + (s : Int)) := inr_z (by omega) (by omega)
  show e_W_newStatement M K
  unfold e_W_newStatement
  rw [e0, a2, b1, en']
  intro _ _ _ M1 e1
  refine ⟨iS, fun hb M2 e2 _ _ M3 e3 _ _ M4 e4 _ M5 e5 _ M6 e6 _ M7 e7 _ M8 e8 _ _ => ?_⟩
  have y1 : eqy (nw8 r s) M M1 := by rw [e1]; exact (eqy.rfl' M).wi (Or.inl ⟨rfl, rfl⟩)
  have y2 : eqy (nw8 r s) M M2 := by rw [e2]; exact y1.wi (Or.inr ⟨by omega, rfl⟩)
  have y3 : eqy (nw8 r s) M M3 := by rw [e3]; exact y2.wi (Or.inr ⟨by omega, rfl⟩)
  have y4 : eqy (nw8 r s) M M4 := by rw [e4]; exact y3.wi (Or.inr ⟨by omega, rfl⟩)
  have y5 : eqy (nw8 r s) M M5 := by rw [e5]; exact y4.wi (Or.inr ⟨by omega, rfl⟩)
  have y6 : eqy (nw8 r s) M M6 := by rw [e6]; exact y5.wi (Or.inr ⟨by omega, rfl⟩)
  have y7 : eqy (nw8 r s) M M7 := by rw [e7]; exact y6.wi (Or.inr ⟨by omega, rfl⟩)
  have y8 : eqy (nw8 r s) M M8 := by rw [e8]; exact y7.wi (Or.inr ⟨by omega, rfl⟩)
  have f0 : gi M8 355 r = (s : Int) + 1 := by rw [e8, gi_of (Or.inl (by omega)), e7, gi_of (Or.inl (by omega)), e6, gi_of (Or.inl (by omega)), e5, gi_of (Or.inl (by omega)), e4, gi_of (Or.inl (by omega)), e3, gi_of (Or.inl (by omega)), e2, gi_of (Or.inl (by omega)), e1, gi_at (inr_z (by omega) (by omega))]
  have g37 : (gi M8 353 37).toNat = d := by rw [y8.i (by unfold nw8; omega), h37]; omega
  have e28 : (gi M8 353 28).toNat = r := by rw [y8.i (by unfold nw8; omega)]; exact e0
  have o8 : ∀ k, k ≤ d → (gi M8 373 k < 0 ∨ 40 * (r : Int) ≤ gi M8 373 k) ∧ (gi M8 375 k < 0 ∨ 40 * (r : Int) ≤ gi M8 375 k) := fun k hk => by
    rw [y8.i (a := 373) (by unfold nw8; omega), y8.i (a := 375) (by unfold nw8; omega)]
    exact ho k hk
  have o8d := o8 d (Nat.le_refl _)
  have fin : ∀ M9, eqy (fun a k => (a = 358 ∧ k = r) ∨ ((a = 361 ∨ a = 365 ∨ a = 366) ∧ 40 * r ≤ k)) M8 M9 → e_W_newStatement_176 (40 * (r : Int) + (s : Int)) M9 K := by
    intro M9 y9 _ M' e'
    have q37 : (gi M9 353 37).toNat = d := by rw [y9.i (by omega)]; exact g37
    rw [q37] at e'
    have y' : eqy (fun a k => a = 375 ∧ k = d) M9 M' := by rw [e']; exact (eqy.rfl' _).wi ⟨rfl, rfl⟩
    have yy : eqy (nwW r d) M M' := ((y8.mono (fun a k z => by unfold nw8 at z; unfold nwW; omega)).trans (y9.mono (fun a k z => by unfold nwW; omega))).trans (y'.mono (fun a k z => by unfold nwW; omega))
    refine kk M' ⟨i, c, u, d, ⟨⟨a1.eq yy (fun a k z => by unfold nwW; omega), ⟨(yy.i (by unfold nwW; omega)).trans a2, a2'⟩, a3.trans (yy.mono (fun a k z => by unfold nwW at z; unfold teW; omega)), (yy.i (by unfold nwW; omega)).trans a4⟩, ?_, (yy.i (by unfold nwW; omega)).trans b2, (yy.i (by unfold nwW; omega)).trans b3, b4⟩, hu, (yy.i (by unfold nwW; omega)).trans h37, hd, fun k hk => ?_⟩
    · rw [y'.i (by omega), y9.i (by omega), f0]; omega
    · by_cases ek : k = d
      · have j1 : gi M' 375 k = 40 * (r : Int) + (s : Int) := by rw [ek, e', gi_at iS]
        rw [j1, y'.i (a := 373) (by omega), y9.i (a := 373) (by omega)]
        exact ⟨(o8 k hk).1, Or.inr (by omega)⟩
      · rw [y'.i (a := 373) (by omega), y9.i (a := 373) (by omega), y'.i (a := 375) (by omega), y9.i (a := 375) (by omega)]
        exact o8 k hk
  rw [g37, e28]
  refine ⟨fun _ => ⟨fun w0 _ => ⟨fun _ _ M10 e10 => fin M10 ?_, fun _ _ M10 e10 => fin M10 ?_⟩, fun _ _ M10 e10 => fin M10 ?_⟩, fun w0 _ M10 e10 => fin M10 ?_⟩
  · rw [e10]; exact (eqy.rfl' _).wi (Or.inr ⟨by omega, by omega⟩)
  · rw [e10]; exact (eqy.rfl' _).wi (Or.inr ⟨by omega, by omega⟩)
  · rw [e10]; exact (eqy.rfl' _).wi (Or.inl ⟨rfl, rfl⟩)
  · rw [e10]; exact (eqy.rfl' _).wi (Or.inr ⟨by omega, by omega⟩)
theorem F_exp {v z : Int} (hv : v = 0 ∨ v = 1) (h : sF T r M0 M s) (hz : 40 * (r : Int) ≤ z) (kb : ∀ M', sfl r M0 M' → K M') (kk : ∀ M', sF T r M0 M' s → K M') : em_W_exp v M (fun (z1 : Int) (M1 : rf_M) => (0 ≤ z ∧ z < 480 → (∀ M2 : rf_M, M2 = wi M1 364 (z).toNat z1 → K M2))) := by
  obtain ⟨i, c, u, d, hA, hu, h37, hd, ho⟩ := h
  obtain ⟨⟨a1, ⟨a2, a2'⟩, a3, a4⟩, b1, b2, b3, b4⟩ := id hA
  obtain ⟨ir, hir⟩ : ∃ ir : Bool, v = 0 ↔ ir = false := by
    rcases hv with rfl | rfl
    · exact ⟨false, by simp⟩
    · exact ⟨true, by simp⟩
  refine y_exp (r := r) (c0 := c) (u0 := u) hir a1 a2 a2' a4 b2 hu b3 b4 (fun M1 hx1 _ M2 e2 => ?_)
  have y2 : eqy (fun a k => a = 364 ∧ k = z.toNat) M1 M2 := by rw [e2]; exact (eqy.rfl' _).wi ⟨rfl, rfl⟩
  rcases hx1 with f | ⟨f1, f2, f3, i', u', π, cs, o, cd, -, -, m, q56, qu, ⟨q59, qc⟩, -⟩
  · refine kb M2 ⟨(a3.trans (f.1.mono (fun a k z => by unfold exW at z; unfold teW; omega))).trans (y2.mono (fun a k z => by unfold teW; omega)), ?_⟩
    rw [y2.i (by omega)]
    exact f.2.2.1
  · have g : ∀ b k, ¬ exW r c b k → ¬ (b = 364 ∧ k = z.toNat) → gi M2 b k = gi M b k := fun b k z1 z2 => (y2.i z2).trans (f1.i z1)
    refine kk M2 ⟨i', c + cd.length + 1, u', d, ⟨⟨m.eq y2 (fun a k z => by omega), ⟨(y2.i (by omega)).trans f2.1, a2'⟩, (a3.trans (f1.mono (fun a k z => by unfold exW at z; unfold teW; omega))).trans (y2.mono (fun a k z => by unfold teW; omega)), (y2.i (by omega)).trans f3⟩, (g _ _ (by unfold exW; omega) (by omega)).trans b1, (y2.i (by omega)).trans q56, (y2.i (by omega)).trans q59, qc⟩, qu, (g _ _ (by unfold exW; omega) (by omega)).trans h37, hd, fun k hk => ?_⟩
    rw [g 373 k (by unfold exW; omega) (by omega), g 375 k (by unfold exW; omega) (by omega)]
    exact ho k hk
theorem F_rs (hs : s ≤ 40) (h : sF T r M0 M s) (kb : ∀ M', sfl r M0 M' → K M') (kk : ∀ M' s', s' ≤ 40 → sF T r M0 M' s' → K M') : em_W_readStatement M K := by
  have h' := h
  obtain ⟨i, c, u, d, hA, -⟩ := h'
  obtain ⟨⟨a1, ⟨a2, a2'⟩, a3, a4⟩, b1, b2, b3, b4⟩ := id hA
  have bad : e_W_readStatement_76 M K := F_mis h kb
  have e0 : (gi M 353 28).toNat = r := by rw [a2]; omega
  have h57 : ∀ v1, inr v1 → e_W_readStatement_57 v1 1 M K := by
    intro v1 iv1
    refine ⟨fun w => absurd w (by decide), fun _ _ => ?_⟩
    rw [e0, b1]
    refine ⟨fun _ => bad, fun n40 => F_new (by omega) h (fun M1 h1 => ?_)⟩
    have iz : inr (40 * (r : Int) + (s : Int)) := inr_z (by omega) (by omega)
    have k256 : ∀ N, sF T r M0 N (s + 1) → e_W_readStatement_256 (40 * (r : Int) + (s : Int)) N K := by
      intro N hN
      obtain ⟨_, _, _, _, hAN, -⟩ := id hN
      have o304 : e_W_readStatement_304 (40 * (r : Int) + (s : Int)) N K := F_open hN (by omega) iz (Or.inl rfl) kb (fun M' q => kk M' (s + 1) (by omega) q)
      exact ⟨fun _ _ => ⟨fun _ => o304, fun _ _ => ⟨fun _ => o304, fun _ _ => ⟨fun _ => o304, fun _ _ => ⟨fun _ => o304, fun _ => F_take hN (by omega) kb (fun M' q => kk M' (s + 1) (by omega) q)⟩⟩⟩⟩, fun w => absurd hAN.1.2.2.2 w⟩
    have k256f : ∀ N, sfl r M0 N → e_W_readStatement_256 (40 * (r : Int) + (s : Int)) N K := fun N hN => ⟨fun w => absurd w hN.2, fun _ => kb N hN⟩
    have k231 : ∀ N, sF T r M0 N (s + 1) → e_W_readStatement_231 (40 * (r : Int) + (s : Int)) N K := by
      intro N hN
      have k250 : e_W_readStatement_250 (40 * (r : Int) + (s : Int)) N K := F_take hN (by omega) k256f k256
      exact fun _ => ⟨fun _ => k250, fun _ _ => ⟨fun _ => k250, fun _ => k256 N hN⟩⟩
    have k231f : ∀ N, sfl r M0 N → e_W_readStatement_231 (40 * (r : Int) + (s : Int)) N K := fun N hN => f231 hN.2 (kb N hN)
    have k167 : ∀ N, sF T r M0 N (s + 1) → e_W_readStatement_167 (40 * (r : Int) + (s : Int)) N K := by
      intro N hN
      obtain ⟨_, _, _, _, hAN, -⟩ := id hN
      refine ⟨fun _ _ => ⟨fun _ => k231 N hN, fun _ _ => ⟨fun _ => k231 N hN, fun _ _ => ⟨fun _ => k231 N hN, fun _ _ => ⟨fun _ => ?_, fun _ => ?_⟩⟩⟩⟩, fun w => absurd hAN.1.2.2.2 w⟩
      · exact F_exp (K := fun N => e_W_readStatement_231 (40 * (r : Int) + (s : Int)) N K) (Or.inr rfl) hN (by omega) k231f k231
      · exact F_exp (K := fun N => e_W_readStatement_231 (40 * (r : Int) + (s : Int)) N K) (Or.inl rfl) hN (by omega) k231f k231
    have k167f : ∀ N, sfl r M0 N → e_W_readStatement_167 (40 * (r : Int) + (s : Int)) N K := fun N hN => ⟨fun w => absurd w hN.2, fun _ => k231f N hN⟩
    have k127 : ∀ N zl, sF T r M0 N (s + 1) → e_W_readStatement_127 v1 (40 * (r : Int) + (s : Int)) (40 * (r : Int) + (s : Int)) zl N K := by
      intro N zl hN _ N2 e2
      have hN2 := hN.fr (P := fun a k => a = 367 ∧ k = (40 * (r : Int) + (s : Int)).toNat) (M' := N2) (by rw [e2]; exact (eqy.rfl' _).wi ⟨rfl, rfl⟩) (fun a k z => by unfold teW; omega) (fun a k z => by omega)
      refine F_next hN2 (fun N3 h3 _ => ⟨fun _ => F_take h3 (by omega) k167f k167, fun _ => ⟨fun _ => F_take h3 (by omega) k167f k167, fun _ => ⟨fun _ => F_take h3 (by omega) k167f k167, fun _ => k167 N3 h3⟩⟩⟩)
    have k105 : ∀ zz, e_W_readStatement_105 v1 (40 * (r : Int) + (s : Int)) (40 * (r : Int) + (s : Int)) zz M1 K := by
      intro zz _ N2 e2
      have hN2 := h1.fr (P := fun a k => a = 360 ∧ k = (40 * (r : Int) + (s : Int)).toNat) (M' := N2) (by rw [e2]; exact (eqy.rfl' _).wi ⟨rfl, rfl⟩) (fun a k z => by unfold teW; omega) (fun a k z => by omega)
      exact ⟨fun _ => k127 N2 _ hN2, fun _ => k127 N2 _ hN2⟩
    exact ⟨fun _ => k105 _, fun _ => k105 _⟩
  have tk := a1.1.2.2
  have hk := tkm_iff tk.2.2.2
  have h4 : 0 ≤ gi M 353 4 ∧ gi M 353 4 ≤ 125 := by
    rw [tk.1]
    have := hk.2.2.2.2.2
    unfold tkm
    split
    · omega
    split
    · omega
    split
    · omega
    split
    · omega
    split
    · omega
    · omega
  have hi : inr (gi M 353 4 - 10) := inr_z (by omega) (by omega)
  have g := h57 _ hi
  exact ⟨fun _ => ⟨hi, g⟩, fun q1 => ⟨hi, ⟨fun _ => g, fun q2 => ⟨fun _ => g, fun q3 => ⟨fun _ => g, fun q4 => ⟨fun _ => g, fun q5 => ⟨fun _ => g, fun q6 => ⟨fun _ => g, fun q7 => ⟨fun _ => g, fun q8 => ⟨fun _ => bad, fun w => absurd rfl w⟩⟩⟩⟩⟩⟩⟩⟩⟩⟩
theorem F_close (h : sF T r M0 M s) (hp : 1 ≤ gi M 353 37) (kb : ∀ M', sfl r M0 M' → K M') (kk : ∀ M', sF T r M0 M' s → K M') : em_W_closeBody M K := by
  obtain ⟨i, c, u, d, hA, hu, h37, hd, ho⟩ := h
  obtain ⟨⟨a1, ⟨a2, a2'⟩, a3, a4⟩, b1, b2, b3, b4⟩ := id hA
  have e37 : (gi M 353 37).toNat = d := by rw [h37]; omega
  have od := (ho d (Nat.le_refl _)).1
  show e_W_closeBody M K
  unfold e_W_closeBody
  rw [e37]
  intro _ _ M1 e1
  have y1 : eqy (fun a k => a = 353 ∧ k = 37) M M1 := by rw [e1]; exact (eqy.rfl' _).wi ⟨rfl, rfl⟩
  have h1 : sF T r M0 M1 s := ⟨i, c, u, d - 1, hA.eq y1 (fun a k z => by unfold teW; omega) (fun a k z => by omega), hu, by rw [e1, gi_at (inr_z (by omega) (by omega)), h37]; omega, by omega, fun k hk => by rw [y1.i (a := 373) (by omega), y1.i (a := 375) (by omega)]; exact ho k (by omega)⟩
  refine F_next h1 (fun M2 h2 => ⟨fun _ => kk M2 h2, fun _ hb => ?_⟩)
  have hv : 40 * (r : Int) ≤ gi M 373 d := by omega
  have iv : inr (gi M 373 d) := inr_gi _ _ _
  have k154 : ∀ N, sF T r M0 N s → e_W_closeBody_154 (gi M 373 d) N K := by
    intro N hN
    obtain ⟨_, _, _, _, hAN, -⟩ := id hN
    exact ⟨fun _ => F_open hN hv iv (Or.inr rfl) kb kk, fun w => absurd hAN.1.2.2.2 w⟩
  have k154f : ∀ N, sfl r M0 N → e_W_closeBody_154 (gi M 373 d) N K := fun N hN => ⟨fun w => absurd w hN.2, fun _ => kb N hN⟩
  have k97 : ∀ w, 0 ≤ w ∧ w ≤ 9 → e_W_closeBody_97 (gi M 373 d) w M2 K := by
    intro w hw
    refine F_takeWord h2 hw (fun N hN _ => ⟨fun _ => ⟨fun z => absurd z hN.2, fun _ => k154f N hN⟩, fun _ => k154f N hN⟩) (fun N hN _ => ⟨fun _ => ?_, fun _ => k154 N hN⟩)
    obtain ⟨_, _, _, _, hAN, -⟩ := id hN
    have bad : e_W_closeBody_135 N K := F_mis hN kb
    refine ⟨fun _ => ⟨fun _ => ⟨fun _ _ N2 e2 => ?_, fun _ => bad⟩, fun _ => bad⟩, fun z => absurd hAN.1.2.2.2 z⟩
    have hN2 := hN.fr (P := fun a k => a = 367 ∧ k = (gi M 373 d).toNat) (M' := N2) (by rw [e2]; exact (eqy.rfl' _).wi ⟨rfl, rfl⟩) (fun a k z => by unfold teW; omega) (fun a k z => by omega)
    exact F_next hN2 (fun N3 h3 => k154 N3 h3)
  exact ⟨fun _ => kk M2 h2, fun _ _ => ⟨fun _ => ⟨fun _ => F_next h2 (fun M3 h3 => F_open h3 hv iv (Or.inr rfl) kb kk), fun _ => kk M2 h2⟩, fun _ _ => ⟨fun _ => k97 6 (by omega), fun _ => k97 8 (by omega)⟩⟩⟩
theorem F_loop (h : sfl r M0 M ∨ ∃ s, s ≤ 40 ∧ sF T r M0 M s) (kk : ∀ M', eqy (teW r) M0 M' → K M') : e_W_readText_40 M K := by
  refine ⟨fun M => sfl r M0 M ∨ ∃ s, s ≤ 40 ∧ sF T r M0 M s, h, ?_⟩
  rintro M (h | ⟨s, hs, h⟩)
  · exact ⟨fun w => absurd w h.2, fun _ => kk M h.1⟩
  · obtain ⟨i, c, u, d, hA, hu, h37, hd, ho⟩ := id h
    have h84 : e_W_readText_84 M (fun M => sfl r M0 M ∨ ∃ s, s ≤ 40 ∧ sF T r M0 M s) K := F_mis h (fun M' q => Or.inl q)
    have h91 : (κT T i = 125 → ¬ gi M 353 37 = 0) → e_W_readText_91 M (fun M => sfl r M0 M ∨ ∃ s, s ≤ 40 ∧ sF T r M0 M s) K := by
      intro hn
      unfold e_W_readText_91
      refine y_isSign hA.1.1.1 (by omega) (fun w => ⟨fun z => absurd z (by decide), fun _ => ?_⟩) (fun w => ⟨fun _ => ?_, fun z => absurd rfl z⟩)
      · have := hn w
        exact F_close h (by omega) (fun M' q => Or.inl q) (fun M' q => Or.inr ⟨s, hs, q⟩)
      · exact F_rs hs h (fun M' q => Or.inl q) (fun M' s' hs' q => Or.inr ⟨s', hs', q⟩)
    have h61 : e_W_readText_61 M (fun M => sfl r M0 M ∨ ∃ s, s ≤ 40 ∧ sF T r M0 M s) K := by
      refine ⟨fun _ => h84, fun _ => ?_⟩
      exact y_isSign hA.1.1.1 (by omega) (fun w => ⟨fun z => absurd z (by decide), fun _ => ⟨fun _ => h84, fun z => h91 (fun _ => z)⟩⟩) (fun w => ⟨fun _ => h91 (fun z => absurd z w), fun z => absurd rfl z⟩)
    exact ⟨fun _ => ⟨fun w4 => ⟨fun w37 => kk M hA.1.2.2.1, fun _ => h61⟩, fun _ => h61⟩, fun w => absurd hA.1.2.2.2 w⟩
end WFR
/-! THE REFERENCE'S text() -/
def txW (r a k : Nat) : Prop := teW r a k ∨ (a = 353 ∧ (k = 0 ∨ k = 2 ∨ k = 11 ∨ k = 28))
section WTX
variable {M M' N : rf_M} {T : tK} {r n : Nat} {X : txT} {en : Int} {S C : Nat} {b : Nat → Int32}
theorem y_rt0 {K : rf_M → Prop} (h28 : gi N 353 28 = (r : Int)) (hnx : nxk N T 0) (kk : ∀ M6, eqy (fun a k => (a = 353 ∧ k = 37) ∨ ((373 ≤ a ∧ a ≤ 375) ∧ k = 0) ∨ (a = 358 ∧ k = r) ∨ nxw a k) N M6 → mtv M6 T 0 → gi M6 353 37 = 0 → gi M6 373 0 = -1 → gi M6 374 0 = 0 → gi M6 375 0 = -1 → gi M6 358 r = -1 → e_W_readText_40 M6 K) : em_W_readText N K := by
  show e_W_readText N K
  intro M1 e1 _ M2 e2 _ M3 e3 _ M4 e4 _ M5 e5
  have g4 : (gi M4 353 28).toNat = r := by rw [e4, gi_of (Or.inl (by omega)), e3, gi_of (Or.inl (by omega)), e2, gi_of (Or.inl (by omega)), e1, gi_of (Or.inr (by omega)), h28]; omega
  rw [g4] at e5
  have i1 : inr (-1) := inr_z (by omega) (by omega)
  have i0 : inr 0 := inr_z (by omega) (by omega)
  have y5 : eqy (fun a k => (a = 353 ∧ k = 37) ∨ ((373 ≤ a ∧ a ≤ 375) ∧ k = 0) ∨ (a = 358 ∧ k = r) ∨ nxw a k) N M5 := by
    rw [e5, e4, e3, e2, e1]
    exact (((((eqy.rfl' N).wi (Or.inl ⟨rfl, rfl⟩)).wi (Or.inr (Or.inl ⟨by omega, rfl⟩))).wi (Or.inr (Or.inl ⟨by omega, rfl⟩))).wi (Or.inr (Or.inl ⟨by omega, rfl⟩))).wi (Or.inr (Or.inr (Or.inl ⟨rfl, rfl⟩)))
  have q : ∀ a k, (a = 353 ∧ (k = 2 ∨ (3 ≤ k ∧ k ≤ 8))) ∨ a = 354 → gi M5 a k = gi N a k := fun a k z => by
    rw [e5, gi_of (by omega), e4, gi_of (by omega), e3, gi_of (by omega), e2, gi_of (by omega), e1, gi_of (by omega)]
  refine y_next0 (hnx.eq q) (fun M6 y6 m6 => kk M6 (y5.trans (y6.mono (fun a k z => Or.inr (Or.inr (Or.inr z))))) m6 ?_ ?_ ?_ ?_ ?_)
  · rw [y6.i (by unfold nxw; omega), e5, gi_of (by omega), e4, gi_of (by omega), e3, gi_of (by omega), e2, gi_of (by omega), e1, gi_at i0]
  · rw [y6.i (by unfold nxw; omega), e5, gi_of (by omega), e4, gi_of (by omega), e3, gi_of (by omega), e2, gi_at i1]
  · rw [y6.i (by unfold nxw; omega), e5, gi_of (by omega), e4, gi_of (by omega), e3, gi_at i0]
  · rw [y6.i (by unfold nxw; omega), e5, gi_of (by omega), e4, gi_at i1]
  · rw [y6.i (by unfold nxw; omega), e5, gi_at i1]
theorem y_readText {K : rf_M → Prop} (h28 : gi N 353 28 = (r : Int)) (hr : r < 12) (h9 : gi N 353 9 = 0) (h55 : gi N 355 r = 0) (h56 : gi N 356 r = 0) (h59 : gi N 359 r = 0) (hnx : nxk N T 0) (hS : S ≤ 40) (hz : zr (κT T) (νT T) X en S C [] (-1) 0 0 0 0) (kk : ∀ N', eqy (teW r) N N' → (gi N' 353 9 = 0 → rtx N' r X S C en) → K N') : em_W_readText N K := by
  refine y_rt0 h28 hnx (fun M6 y6 m6 q37 q73 q74 q75 q58 => ?_)
  refine y_loop (M0 := N) hS (Or.inr ⟨[], -1, 0, 0, 0, 0, ⟨⟨m6, ⟨(y6.i (by unfold nxw; omega)).trans h28, hr⟩, y6.mono (fun a k z => by unfold nxw at z; unfold teW; omega), (y6.i (by unfold nxw; omega)).trans h9⟩, (y6.i (by unfold nxw; omega)).trans h55, (y6.i (by unfold nxw; omega)).trans h56, (y6.i (by unfold nxw; omega)).trans h59, by omega⟩, ⟨q37, Nat.zero_le _, q73, q74, q75.trans (lf_neg (by omega)).symm⟩, ⟨by show (-1 : Int) ≤ -1; omega, by omega, by show (-1 : Int) < ((0 : Nat) : Int); omega⟩, ⟨⟨fun _ => q58, fun w => absurd ⟨rfl, rfl⟩ w⟩, fun x hx => absurd hx (by omega), fun k hk => absurd hk (by omega)⟩, hz⟩) (fun M' h => kk M' h.1 (fun w => absurd w h.2)) (fun M' a b d => kk M' a (fun _ => d))
theorem F_readText {K : rf_M → Prop} (h28 : gi N 353 28 = (r : Int)) (hr : r < 12) (h9 : gi N 353 9 = 0) (h55 : gi N 355 r = 0) (h56 : gi N 356 r = 0) (h59 : gi N 359 r = 0) (hnx : nxk N T 0) (kk : ∀ N', eqy (teW r) N N' → K N') : em_W_readText N K := by
  refine y_rt0 h28 hnx (fun M6 y6 m6 q37 q73 q74 q75 q58 => ?_)
  refine F_loop (M0 := N) (T := T) (Or.inr ⟨0, by omega, 0, 0, 0, 0, ⟨⟨m6, ⟨(y6.i (by unfold nxw; omega)).trans h28, hr⟩, y6.mono (fun a k z => by unfold nxw at z; unfold teW; omega), (y6.i (by unfold nxw; omega)).trans h9⟩, (y6.i (by unfold nxw; omega)).trans h55, (y6.i (by unfold nxw; omega)).trans h56, (y6.i (by unfold nxw; omega)).trans h59, by omega⟩, by omega, q37, by omega, fun k hk => ?_⟩) kk
  obtain rfl : k = 0 := by omega
  rw [q73, q75]
  exact ⟨Or.inl (by omega), Or.inl (by omega)⟩
theorem y_text0 {K : Int → rf_M → Prop} {Q : rf_M → Prop} (h11 : gi M 353 11 = (r : Int)) (hr : r ≤ 12) (htp : tp M n b) (hQ : ∀ N N', Q N → eqy (fun a k => a = 353 ∧ (k = 2 ∨ k = 11)) N N' → Q N')
    (hRT : r < 12 → ∀ (N : rf_M) (K' : rf_M → Prop), gi N 353 28 = (r : Int) → gi N 353 9 = 0 → gi N 355 r = 0 → gi N 356 r = 0 → gi N 359 r = 0 → nxk N (p_T b n) 0 → (∀ N', eqy (teW r) N N' → (gi N' 353 9 = 0 → Q N') → K' N') → em_W_readText N K')
    (kk : ∀ z M', eqy (txW r) M M' → ((z = -1 ∨ z = -2) ∧ gi M' 353 11 = (r : Int)) ∨ (z = (r : Int) ∧ r < 12 ∧ gi M' 353 11 = (r : Int) + 1 ∧ Q M') → K z M') : em_W_text M K := by
  show e_W_text M K
  intro M1 e1
  have i1 : inr (-1) := inr_z (by omega) (by omega)
  have i0 : inr 0 := inr_z (by omega) (by omega)
  have y1 : eqy (txW r) M M1 := by rw [e1]; exact (eqy.rfl' M).wi (Or.inr ⟨rfl, Or.inl rfl⟩)
  have k11 : gi M1 353 11 = (r : Int) := by rw [e1, gi_of (Or.inr (by omega)), h11]
  refine ⟨fun _ => kk (-1) M1 y1 (Or.inl ⟨Or.inl rfl, k11⟩), fun n12 M2 e2 M3 e3 => ?_⟩
  have hr12 : r < 12 := by omega
  have k28 : gi M3 353 28 = (r : Int) := by rw [e3, gi_at (inr_gi _ _ _), e2, gi_of (Or.inr (by omega)), k11]
  have k3 : (gi M3 353 28).toNat = r := by rw [k28]; omega
  rw [k3]
  intro _ M4 e4
  have k4 : (gi M4 353 28).toNat = r := by rw [e4, gi_of (Or.inl (by omega))]; exact k3
  rw [k4]
  intro _ M5 e5
  have k5 : (gi M5 353 28).toNat = r := by rw [e5, gi_of (Or.inl (by omega))]; exact k4
  rw [k5]
  intro _ M6 e6
  have k6 : (gi M6 353 28).toNat = r := by rw [e6, gi_of (Or.inl (by omega))]; exact k5
  rw [k6]
  intro _ M7 e7 M8 e8 M9 e9
  have y9 : eqy (txW r) M M9 := by
    rw [e9, e8, e7, e6, e5, e4, e3, e2]
    exact (((((((y1.wi (by unfold txW teW; omega)).wi (by unfold txW teW; omega)).wi (by unfold txW teW; omega)).wi (by unfold txW teW; omega)).wi (by unfold txW teW; omega)).wi (by unfold txW teW; omega)).wi (by unfold txW teW; omega)).wi (by unfold txW teW; omega)
  have c11 : gi M9 353 11 = (r : Int) := by rw [e9, gi_of (by omega), e8, gi_of (by omega), e7, gi_of (by omega), e6, gi_of (by omega), e5, gi_of (by omega), e4, gi_of (by omega), e3, gi_of (by omega), e2, gi_of (by omega), k11]
  have c28 : gi M9 353 28 = (r : Int) := by rw [e9, gi_of (by omega), e8, gi_of (by omega), e7, gi_of (by omega), e6, gi_of (by omega), e5, gi_of (by omega), e4, gi_of (by omega), k28]
  have c2 : gi M9 353 2 = gi M 353 2 := by rw [e9, gi_of (by omega), e8, gi_of (by omega), e7, gi_of (by omega), e6, gi_of (by omega), e5, gi_of (by omega), e4, gi_of (by omega), e3, gi_of (by omega), e2, gi_of (by omega), e1, gi_of (by omega)]
  have c54 : ∀ k, gi M9 354 k = gi M 354 k := fun k => by rw [e9, gi_of (by omega), e8, gi_of (by omega), e7, gi_of (by omega), e6, gi_of (by omega), e5, gi_of (by omega), e4, gi_of (by omega), e3, gi_of (by omega), e2, gi_of (by omega), e1, gi_of (by omega)]
  have c3 : gi M9 353 3 = ((0 : Nat) : Int) := by rw [e9, gi_of (by omega), e8, gi_at i0]; rfl
  have htp9 : tp M9 n b := ⟨c2.trans htp.1, htp.2.1, fun k hk => by rw [c54 k]; exact htp.2.2 k hk⟩
  refine hRT hr12 M9 _ c28 (by rw [e9, gi_at i0]) ?_ ?_ ?_ ⟨n, b, 0, 800, htp9, c3, Nat.zero_le _, by have := htp.2.1; omega, by rw [List.drop_zero]; rfl, Nat.zero_le _⟩ (fun M10 y10 q10 M11 e11 => ?_)
  · rw [e9, gi_of (by omega), e8, gi_of (by omega), e7, gi_of (by omega), e6, gi_of (by omega), e5, gi_of (by omega), e4, gi_at i0]
  · rw [e9, gi_of (by omega), e8, gi_of (by omega), e7, gi_of (by omega), e6, gi_of (by omega), e5, gi_at i0]
  · rw [e9, gi_of (by omega), e8, gi_of (by omega), e7, gi_at i0]
  have y11 : eqy (txW r) M M11 := by
    rw [e11]
    exact ((y9.trans (y10.mono (fun a k z => Or.inl z))).wi (Or.inr ⟨rfl, Or.inr (Or.inl rfl)⟩))
  have d11 : gi M11 353 11 = (r : Int) := by rw [e11, gi_of (by omega), y10.i (by unfold teW; omega), c11]
  have d9 : gi M11 353 9 = gi M10 353 9 := by rw [e11, gi_of (by omega)]
  refine ⟨fun q9 M12 e12 => ?_, fun _ => kk (-2) M11 y11 (Or.inl ⟨Or.inr rfl, d11⟩)⟩
  have f11 : gi M12 353 11 = (r : Int) + 1 := by rw [e12, gi_at (by rw [d11]; exact inr_z (by omega) (by omega)), d11]
  rw [f11]
  have ez : (r : Int) + 1 - 1 = (r : Int) := by omega
  rw [ez]
  refine ⟨inr_z (by omega) (by omega), kk (r : Int) M12 ?_ (Or.inr ⟨rfl, hr12, f11, hQ M10 M12 (q10 (d9.symm.trans q9)) ?_⟩)⟩
  · rw [e12]; exact y11.wi (Or.inr ⟨rfl, by omega⟩)
  · rw [e12, e11]; exact ((eqy.rfl' _).wi ⟨rfl, Or.inl rfl⟩).wi ⟨rfl, Or.inr rfl⟩
theorem y_text {K : Int → rf_M → Prop} (h11 : gi M 353 11 = (r : Int)) (hr : r ≤ 12) (htp : tp M n b) (hS : S ≤ 40) (hz : zr (κT (p_T b n)) (νT (p_T b n)) X en S C [] (-1) 0 0 0 0)
    (kk : ∀ z M', eqy (txW r) M M' → ((z = -1 ∨ z = -2) ∧ gi M' 353 11 = (r : Int)) ∨ (z = (r : Int) ∧ r < 12 ∧ gi M' 353 11 = (r : Int) + 1 ∧ rtx M' r X S C en) → K z M') : em_W_text M K :=
  y_text0 (Q := fun N => rtx N r X S C en) h11 hr htp (fun N N' h e => h.eq e (fun b k z1 z2 => by omega)) (fun hr12 N K' a1 a2 a3 a4 a5 a6 k' => y_readText a1 hr12 a2 a3 a4 a5 a6 hS hz k') kk
theorem F_text {K : Int → rf_M → Prop} (h11 : gi M 353 11 = (r : Int)) (hr : r ≤ 12) (htp : tp M n b)
    (kk : ∀ z M', eqy (txW r) M M' → ((z = -1 ∨ z = -2) ∧ gi M' 353 11 = (r : Int)) ∨ (z = (r : Int) ∧ r < 12 ∧ gi M' 353 11 = (r : Int) + 1) → K z M') : em_W_text M K :=
  y_text0 (Q := fun _ => True) h11 hr htp (fun _ _ h _ => h) (fun hr12 N K' a1 a2 a3 a4 a5 a6 k' => F_readText a1 hr12 a2 a3 a4 a5 a6 (fun N' y => k' N' y (fun _ => trivial))) (fun z M' y q => kk z M' y (q.imp id (fun w => ⟨w.1, w.2.1, w.2.2.1⟩)))
end WTX
/-! WHAT THE GRAMMAR SAYS IS WELL MADE -/
def cgd (X : txT) (c c' : Nat) : Prop := ∀ k, c ≤ k → k < c' → opk (X.2.1 k) ∧ (X.2.1 k = 2 → 0 ≤ X.2.2 k ∧ X.2.2 k < 26)
def gdX (X : txT) (S C s s' c c' u : Nat) : Prop := cgd X c c' ∧ psh X.2.1 c' ≤ psh X.2.1 c + u ∧ ∀ x, s ≤ x → x < s' → wst X S C x
def fsX (X : txT) (par part : Int) (s s' : Nat) (first : Int) : Prop := first = -1 ∨ ∃ x : Nat, first = (x : Int) ∧ s ≤ x ∧ x < s' ∧ X.1 3 x = par ∧ X.1 4 x = part
section WFX
variable {κ ν : Nat → Int} {X : txT} {S C : Nat} {B : bxT} {par part dep : Int}
theorem psh_cat : ∀ (c : cdT) (cc : Nat), cat_ X cc c → psh X.2.1 (cc + c.length) = psh X.2.1 cc + lfs c
  | [], cc, _ => rfl
  | q :: c, cc, h => by
    have h0 := h 0 (by simp)
    have e0 : X.2.1 cc = q.1 := h0.1
    have ih := psh_cat c (cc + 1) (fun k hk => by
      have := h (k + 1) (by simpa using hk)
      rw [show cc + (k + 1) = cc + 1 + k by omega] at this
      simpa using this)
    rw [List.length_cons, show cc + (c.length + 1) = cc + 1 + c.length by omega, ih]
    show psh X.2.1 cc + (if X.2.1 cc = 1 ∨ X.2.1 cc = 2 then 1 else 0) + lfs c = psh X.2.1 cc + ((if q.1 = 1 ∨ q.1 = 2 then 1 else 0) + lfs c)
    rw [e0]; omega
theorem dEx_gd {ir : Bool} {i cc j cc' u : Nat} (hl : ∀ i, κ i = 1 → 0 ≤ ν i ∧ ν i < 26) (h : dEx κ ν ir X i cc j cc' u) (hu : u ≤ 60) (hC : cc' ≤ C) : cgd X cc cc' ∧ psh X.2.1 cc' ≤ psh X.2.1 cc + u ∧ cdo X C (cc : Int) := by
  obtain ⟨c, h1, h2, h3⟩ := h
  obtain ⟨g1, g2, g3⟩ := dE_gd (dU_gd 8) _ _ _ _ h1
  obtain ⟨k1, q, c', rfl, k2⟩ := dE_hd (dU_hd 8) _ _ _ _ h1
  refine ⟨fun k ka kb => ?_, ?_, ?_⟩
  · obtain ⟨m, rfl⟩ : ∃ m, k = cc + m := ⟨k - cc, by omega⟩
    obtain ⟨b1, b2⟩ := h2 m (by rw [List.length_append, List.length_singleton]; omega)
    by_cases em : m < (q :: c').length
    · rw [getD_l em] at b1 b2
      obtain ⟨o1, o2⟩ := g3 _ (getD_m em)
      rw [b1, b2]
      refine ⟨o1, fun w => ?_⟩
      obtain ⟨i', i1, i2⟩ := o2 w
      rw [i2]
      exact hl i' i1
    · obtain rfl : m = (q :: c').length := by omega
      rw [getD_r] at b1 b2
      rw [b1]
      exact ⟨Or.inl rfl, fun w => absurd w (by show ¬ ((0 : Int) = 2); decide)⟩
  · have := psh_cat _ _ h2
    rw [List.length_append, List.length_singleton, ← Nat.add_assoc, ← h3, lfs_app] at this
    have z : lfs [((0 : Int), (0 : Int))] = 0 := rfl
    omega
  · refine ⟨by omega, ?_, (q :: c').length, by omega, ?_, ?_⟩
    · have b1 := (h2 0 (by simp)).1
      have e : ((q :: c') ++ [((0 : Int), (0 : Int))]).getD 0 (0, 0) = q := rfl
      rw [e] at b1
      rw [tn_]
      have b1 : X.2.1 cc = q.1 := b1
      rw [b1]; exact k2
    · have b1 := (h2 (q :: c').length (by rw [List.length_append, List.length_singleton]; omega)).1
      rw [getD_r] at b1
      rw [tn_]; exact b1
    · rw [tn_]; omega
theorem fsX.lnk {s s' : Nat} {first : Int} (h : fsX X par part s s' first) (hs : s' ≤ S) : lnk S first (fun x => X.1 3 x = par ∧ X.1 4 x = part) := by
  rcases h with h | ⟨x, h1, h2, h3, h4, h5⟩
  · exact Or.inl h
  · exact Or.inr ⟨x, h1, by omega, h4, h5⟩
theorem cgd.app {c1 c2 c3 : Nat} (h : cgd X c1 c2) (h' : cgd X c2 c3) : cgd X c1 c3 := fun k ka kb => by
  by_cases e : k < c2
  · exact h k ka e
  · exact h' k (by omega) kb
theorem gdX.app {s1 s2 s3 c1 c2 c3 u1 u2 : Nat} (h : gdX X S C s1 s2 c1 c2 u1) (h' : gdX X S C s2 s3 c2 c3 u2) : gdX X S C s1 s3 c1 c3 (u1 + u2) := by
  refine ⟨h.1.app h'.1, by have := h.2.1; have := h'.2.1; omega, fun x xa xb => ?_⟩
  by_cases e : x < s2
  · exact h.2.2 x xa e
  · exact h'.2.2 x (by omega) xb
theorem cgd_nil (c : Nat) : cgd X c c := fun k ka kb => absurd kb (by omega)
theorem dT_wf {f : Nat} {i s cc j s' cc' u : Nat} (hl : ∀ i, κ i = 1 → 0 ≤ ν i ∧ ν i < 26) (hd : 0 ≤ dep ∧ dep ≤ 8) (hB : ∀ o pt i s0 c0 j s1 c1 first u, B o pt i s0 c0 j s1 c1 first u → dep ≤ 7 ∧ (s0 ≤ s1 ∧ c0 ≤ c1) ∧ fsX X (o : Int) pt s0 s1 first ∧ (o < S → X.1 5 o = dep → pt = 0 ∨ pt = 1 → s1 ≤ S → c1 ≤ C → u ≤ 60 → gdX X S C s0 s1 c0 c1 u)) (hp : (par = -1 ∧ dep = 0) ∨ ∃ p : Nat, par = (p : Int) ∧ p < S ∧ dep = X.1 5 p + 1) (hpt : part = 0 ∨ part = 1) (h : dT κ ν X B par part dep i s cc j s' cc' u) (hss : s < s') (hs : s' ≤ S) (hc : cc' ≤ C) (hu : u ≤ 60) (h6 : lnk S (X.1 6 s) (fun x => X.1 3 x = par ∧ X.1 4 x = part)) : gdX X S C s s' cc cc' u := by
  have hkd := dT_kd h
  obtain ⟨⟨x0, x2, x3, x4, x5⟩, h⟩ := h
  have W : lnk S (X.1 7 s) (fun x => X.1 3 x = (s : Int) ∧ X.1 4 x = 0) → lnk S (X.1 8 s) (fun x => X.1 3 x = (s : Int) ∧ X.1 4 x = 1) → (κ i = 15 ∨ κ i = 17 → dep ≤ 7) → (κ i = 17 → 16 ≤ X.1 1 s ∧ X.1 1 s < 26) → (κ i = 1 → 0 ≤ X.1 1 s ∧ X.1 1 s < 26) → (kxp (κ i) → cdo X C (cc : Int)) → wst X S C s := by
    intro w7 w8 wd w17 w1 wx
    unfold wst
    rw [x0, x2, x3, x4, x5]
    exact ⟨hp, hpt, hd, h6, w7, w8, hkd, wd, w17, w1, wx⟩
  have one : ∀ {c1 u1 : Nat}, wst X S C s → cgd X cc c1 → psh X.2.1 c1 ≤ psh X.2.1 cc + u1 → gdX X S C s (s + 1) cc c1 u1 := fun w g p => ⟨g, p, fun x xa xb => by obtain rfl : x = s := (by omega); exact w⟩
  have sS : s < S := by omega
  have ln : ∀ z : Int, z = -1 → ∀ P, lnk S z P := fun z w P => Or.inl w
  rcases h with ⟨k, k1, ⟨b1, b2, b3⟩, rfl, j1, d, e1, e2⟩ | ⟨k, ⟨b2, b3⟩, rfl, j1, d, e1, e2⟩ | ⟨k, ⟨b2, b3⟩, rfl, j1, d, e1, e2⟩ | ⟨k, ⟨b2, b3⟩, e1, e2, rfl, e3, e4⟩ | ⟨k, k1, b3, j1, c1, u1, u2, d, e1, e2, e3⟩ | ⟨k, k1, j1, c1, u1, j2, s2, c2, u2, d, e1, e2, e3⟩ | ⟨k, j2, s2, c2, u2, u3, e1, e2, e3, e4⟩ | ⟨k, j2, s2, c2, u2, u3, e1, e2, ⟨l1, l2, l3⟩, e3, e4⟩
  · obtain ⟨g1, g2, g3⟩ := dEx_gd hl d hu hc
    exact one (W (ln _ b2 _) (ln _ b3 _) (fun w => absurd w (by omega)) (fun w => absurd w (by omega)) (fun w => by rw [b1]; exact hl i w) (fun _ => g3)) g1 g2
  · obtain ⟨g1, g2, g3⟩ := dEx_gd hl d hu hc
    exact one (W (ln _ b2 _) (ln _ b3 _) (fun w => absurd w (by omega)) (fun w => absurd w (by omega)) (fun w => absurd w (by omega)) (fun _ => g3)) g1 g2
  · obtain ⟨g1, g2, g3⟩ := dEx_gd hl d hu hc
    exact one (W (ln _ b2 _) (ln _ b3 _) (fun w => absurd w (by omega)) (fun w => absurd w (by omega)) (fun w => absurd w (by omega)) (fun _ => g3)) g1 g2
  · subst e3
    exact one (W (ln _ b2 _) (ln _ b3 _) (fun w => absurd w (by omega)) (fun w => absurd w (by omega)) (fun w => absurd w (by omega)) (fun w => absurd w (by unfold kxp; omega))) (cgd_nil _) (by omega)
  · obtain ⟨d7, ⟨m1, m2⟩, f1, g⟩ := hB _ _ _ _ _ _ _ _ _ _ e2
    obtain ⟨g1, g2, g3⟩ := dEx_gd (C := C) hl d (by omega) (by omega)
    rw [e3]
    exact (one (W (f1.lnk hs) (ln _ b3 _) (fun w => absurd w (by omega)) (fun w => absurd w (by omega)) (fun w => absurd w (by omega)) (fun _ => g3)) g1 g2).app (g sS x5 (Or.inl rfl) hs hc (by omega))
  · obtain ⟨d7, ⟨m1, m2⟩, f1, g⟩ := hB _ _ _ _ _ _ _ _ _ _ e2
    rcases e3 with ⟨n11, b3, q1, q2, q3, q4⟩ | ⟨y11, u3, e4, q4⟩
    · subst q2; subst q3
      obtain ⟨g1, g2, g3⟩ := dEx_gd (C := C) hl d (by omega) (by omega)
      rw [q4]
      exact (one (W (f1.lnk hs) (ln _ b3 _) (fun w => absurd w (by omega)) (fun w => absurd w (by omega)) (fun w => absurd w (by omega)) (fun _ => g3)) g1 g2).app (g sS x5 (Or.inl rfl) hs hc (by omega))
    · obtain ⟨-, ⟨m3, m4⟩, f2, g'⟩ := hB _ _ _ _ _ _ _ _ _ _ e4
      obtain ⟨g1, g2, g3⟩ := dEx_gd (C := C) hl d (by omega) (by omega)
      rw [q4]
      exact ((one (W (f1.lnk (by omega)) (f2.lnk hs) (fun w => absurd w (by omega)) (fun w => absurd w (by omega)) (fun w => absurd w (by omega)) (fun _ => g3)) g1 g2).app (g sS x5 (Or.inl rfl) (by omega) (by omega) (by omega))).app (g' sS x5 (Or.inr rfl) hs hc (by omega))
  · obtain ⟨d7, ⟨m1, m2⟩, f1, g⟩ := hB _ _ _ _ _ _ _ _ _ _ e1
    obtain ⟨-, ⟨m3, m4⟩, f2, g'⟩ := hB _ _ _ _ _ _ _ _ _ _ e3
    have hh := ((one (u1 := 0) (W (f1.lnk (by omega)) (f2.lnk hs) (fun _ => d7) (fun w => absurd w (by omega)) (fun w => absurd w (by omega)) (fun w => absurd w (by unfold kxp; omega))) (cgd_nil cc) (by omega)).app (g sS x5 (Or.inl rfl) (by omega) (by omega) (by omega))).app (g' sS x5 (Or.inr rfl) hs hc (by omega))
    rw [Nat.zero_add] at hh
    rw [e4]
    exact hh
  · obtain ⟨d7, ⟨m1, m2⟩, f1, g⟩ := hB _ _ _ _ _ _ _ _ _ _ e1
    obtain ⟨-, ⟨m3, m4⟩, f2, g'⟩ := hB _ _ _ _ _ _ _ _ _ _ e3
    have hh := ((one (u1 := 0) (W (f1.lnk (by omega)) (f2.lnk hs) (fun _ => d7) (fun _ => by rw [l3]; exact ⟨l2, (hl _ l1).2⟩) (fun w => absurd w (by omega)) (fun w => absurd w (by unfold kxp; omega))) (cgd_nil cc) (by omega)).app (g sS x5 (Or.inl rfl) (by omega) (by omega) (by omega))).app (g' sS x5 (Or.inr rfl) hs hc (by omega))
    rw [Nat.zero_add] at hh
    rw [e4]
    exact hh
theorem dSs_fs {n i s cc j s' cc' u : Nat} {first : Int} (hb : bok X X B B) (h : dSs κ ν X B par part dep n i s cc j s' cc' first u) : fsX X par part s s' first := by
  cases n with
  | zero => exact Or.inl h.2.2.2.1
  | succ n =>
    obtain ⟨h1, j1, s1, c1, u1, f2, u2, d1, d2, d3, d4⟩ := h
    have a := (dT.congr (X' := X) hb d1).1.1
    have b := (dSs.congr (X' := X) hb _ _ _ _ _ _ _ _ _ d2).1.1
    exact Or.inr ⟨s, h1, Nat.le_refl _, by omega, d1.1.2.2.1, d1.1.2.2.2.1⟩
theorem dSs_wf (hl : ∀ i, κ i = 1 → 0 ≤ ν i ∧ ν i < 26) (hd : 0 ≤ dep ∧ dep ≤ 8) (hb : bok X X B B) (hB : ∀ o pt i s0 c0 j s1 c1 first u, B o pt i s0 c0 j s1 c1 first u → dep ≤ 7 ∧ (s0 ≤ s1 ∧ c0 ≤ c1) ∧ fsX X (o : Int) pt s0 s1 first ∧ (o < S → X.1 5 o = dep → pt = 0 ∨ pt = 1 → s1 ≤ S → c1 ≤ C → u ≤ 60 → gdX X S C s0 s1 c0 c1 u)) (hp : (par = -1 ∧ dep = 0) ∨ ∃ p : Nat, par = (p : Int) ∧ p < S ∧ dep = X.1 5 p + 1) (hpt : part = 0 ∨ part = 1) : ∀ (n i s cc j s' cc' : Nat) (first : Int) (u : Nat), dSs κ ν X B par part dep n i s cc j s' cc' first u → s' ≤ S → cc' ≤ C → u ≤ 60 → gdX X S C s s' cc cc' u
  | 0, i, s, cc, j, s', cc', first, u, h, hs, hc, hu => by
    obtain ⟨-, rfl, rfl, -, rfl⟩ := h
    exact ⟨cgd_nil _, by omega, fun x xa xb => absurd xb (by omega)⟩
  | n + 1, i, s, cc, j, s', cc', first, u, h, hs, hc, hu => by
    obtain ⟨h1, j1, s1, c1, u1, f2, u2, d1, d2, d3, d4⟩ := h
    have a := (dT.congr (X' := X) hb d1).1
    have b := (dSs.congr (X' := X) hb _ _ _ _ _ _ _ _ _ d2).1
    have ff := (dSs_fs hb d2).lnk hs
    rw [← d3] at ff
    rw [d4]
    exact (dT_wf (f := 0) hl hd hB hp hpt d1 a.1 (by omega) (by omega) (by omega) ff).app (dSs_wf hl hd hb hB hp hpt n _ _ _ _ _ _ _ _ d2 hs hc (by omega))
theorem dB_wf (hl : ∀ i, κ i = 1 → 0 ≤ ν i ∧ ν i < 26) : ∀ f, f ≤ 8 → ∀ o pt i s0 c0 j s1 c1 first u, dB κ ν X f o pt i s0 c0 j s1 c1 first u → (8 - (f : Int)) ≤ 7 ∧ (s0 ≤ s1 ∧ c0 ≤ c1) ∧ fsX X (o : Int) pt s0 s1 first ∧ (o < S → X.1 5 o = 8 - (f : Int) → pt = 0 ∨ pt = 1 → s1 ≤ S → c1 ≤ C → u ≤ 60 → gdX X S C s0 s1 c0 c1 u)
  | 0, _, o, pt, i, s0, c0, j, s1, c1, first, u, h => h.elim
  | f + 1, hf, o, pt, i, s0, c0, j, s1, c1, first, u, h => by
    obtain ⟨h1, n, j1, h2, h3, h4⟩ := h
    have m := (dSs.congr (X' := X) (dB.congr f) _ _ _ _ _ _ _ _ _ h2).1
    refine ⟨by omega, m, dSs_fs (dB.congr f) h2, fun oS o5 hpt hs hc hu => ?_⟩
    exact dSs_wf (dep := 8 - (f : Int)) hl (by omega) (dB.congr f) (dB_wf hl f (by omega)) (Or.inr ⟨o, rfl, oS, by rw [o5]; omega⟩) hpt _ _ _ _ _ _ _ _ _ h2 hs hc hu
/-- a text that the grammar takes is well made -/
theorem wfx_of {n j u : Nat} {first : Int} (hl : ∀ i, κ i = 1 → 0 ≤ ν i ∧ ν i < 26) (h : dSs κ ν X (dB κ ν X 8) (-1) 0 0 n 0 0 0 j S C first u) (hS : S ≤ 40) (hC : C ≤ 2 * u) (hu : u ≤ 60) : wfx X S C first := by
  obtain ⟨g1, g2, g3⟩ := dSs_wf (S := S) (C := C) hl (by omega) (dB.congr 8) (dB_wf hl 8 (by omega)) (Or.inl ⟨rfl, rfl⟩) (Or.inl rfl) _ _ _ _ _ _ _ _ _ h (Nat.le_refl _) (Nat.le_refl _) hu
  refine ⟨hS, by omega, ?_, fun i hi => g1 i (by omega) hi, ?_, fun s hs => g3 s (by omega) hs⟩
  · have : psh X.2.1 0 = 0 := rfl
    omega
  · rcases dSs_fs (dB.congr 8) h with w | ⟨x, h1, h2, h3, h4, h5⟩
    · exact Or.inl w
    · exact Or.inr ⟨x, h1, h3, h4⟩
end WFX
theorem sp_scan_le {b : Nat → Int32} {n : Nat} : ∀ (f p : Nat), ∀ e ∈ sp_scan b n f p, e.1.toInt = 1 → e.2.2.toInt < 26
  | 0, _, e, he, _ => by cases he
  | f + 1, p, e, he, h1 => by
    unfold sp_scan at he
    split at he
    · split at he
      · exact sp_scan_le f (p + 1) e he h1
      · rcases List.mem_cons.mp he with z | z
        · subst z
          dsimp only at h1 ⊢
          unfold sp_tok at h1 ⊢
          split
          · rename_i hl
            rw [if_pos hl] at h1
            have hl' : 97 ≤ (b p).toInt ∧ (b p).toInt ≤ 122 := by
              unfold sp_l at hl
              simp at hl
              exact hl
            split
            · show (b p - 97).toInt < 26
              rw [Int32.toInt_sub, show (97 : Int32).toInt = 97 from rfl, Int.bmod_eq_of_le (by omega) (by omega)]
              omega
            · show (0 : Int32).toInt < 26
              decide
          · rename_i hl
            rw [if_neg hl] at h1
            split
            · rename_i hd
              rw [if_pos hd] at h1
              split at h1
              · exact absurd (show (3 : Int32).toInt = 1 from h1) (by decide)
              · exact absurd (show (2 : Int32).toInt = 1 from h1) (by decide)
            · show (0 : Int32).toInt < 26
              decide
        · exact sp_scan_le f _ e z h1
    · cases he
theorem p_T_l (b : Nat → Int32) (n : Nat) : ∀ i, κT (p_T b n) i = 1 → 0 ≤ νT (p_T b n) i ∧ νT (p_T b n) i < 26 := by
  intro i h
  refine ⟨p_T_let b n i h, ?_⟩
  unfold κT kd at h
  unfold νT nb
  cases ht : (p_T b n)[i]? with
  | none => rw [ht] at h; exact absurd h (by decide)
  | some e =>
    rw [ht] at h
    exact sp_scan_le 800 0 e (List.mem_of_getElem? ht) h
/-! the program's text() as formulas, for lx (printed by wip/tools/vl.py) -/
def e_M_text (Pr : Nat → Int → Nat → rf_M → (Int → rf_M → Prop) → Prop) (M : rf_M) (K : Int → rf_M → Prop) : Prop := ((gi M 22 3) < 12 → ((0 ≤ (gi M 22 3) ∧ (gi M 22 3) < 12 → (Pr 23 (gi M 22 1) (pgA (gi M 22 3)) M (fun (z1 : Int) (M1 : rf_M) => ∀ M2 : rf_M, M2 = wi M1 22 4 z1 → (∀ M3 : rf_M, M3 = wi M2 22 1 0 → (((gi M3 22 4) = (-1) → (∀ M4 : rf_M, M4 = wi M3 22 3 ((gi M3 22 3) + 1) → (inr ((gi M4 22 3) - 1) ∧ (K ((gi M4 22 3) - 1) M4)))) ∧ (¬ ((gi M3 22 4) = (-1)) → (K (-2) M3))))))))) ∧ (¬ ((gi M 22 3) < 12) → (K (-1) M))
theorem E_M_text {fz : Bool} {S : gS} {B : rf_M} {M : rf_M} {ls : rf_L} {n0 : Nat} {Pr : Nat → Int → Nat → rf_M → (Int → rf_M → Prop) → Prop} {K : Int → rf_M → Prop} (hS : rl S) (hR : fl 22 353 B M) (hPr : ∀ n', n' < n0 → ∀ (x0 : Nat) (x1 : Int) (x2 : Nat) (M : rf_M) (K : Int → rf_M → Prop), fl 22 353 B M → pa fz S x0 .int 800 → inr x1 → x2 ∈ k1 → Pr x0 x1 x2 M K → lx (cx0 fz) n' 17 0 (lv_args 0 [.ref 169, .ref x0, zv x1, .ref x2]) [] (M, S) (vl_i 22 353 B S K)) (a0 : rf_ld ls 0 = some (.ref 22)) (h : e_M_text Pr M K) : lx (cx0 fz) n0 16 0 ls [] (M, S) (vl_i 22 353 B S K) := by
  unfold e_M_text at h
  rcases Nat.eq_zero_or_pos n0 with e0 | hp
  · rw [e0]; exact lx_zero
  refine l1 (n := 1) rfl rfl rfl (la_of a0) ?_
  refine l_gi rfl (ko_0 hS (List.Mem.head _)) rfl (fun _ => rfl) ?_
  refine l_bi rfl (by decide) ?_
  refine l_ic rfl (inr_gi _ _ _) ⟨by decide, by decide⟩ (fun c => ?_) (fun c => ?_)
  · replace h := h.1 c
    refine l1 (n := 1) rfl rfl rfl (la_of a0) ?_
    refine l1 (n := 1) rfl rfl rfl (la_of a0) ?_
    refine l_gr rfl (ko_0 hS (List.Mem.head _)) rfl (fun _ => rfl) (kf_0_5 hR.2 (List.Mem.head _)) ?_
    refine l1 (n := 1) rfl rfl rfl (la_of a0) ?_
    refine l_gr rfl (ko_0 hS (List.Mem.head _)) rfl (fun _ => rfl) (kf_0_0 hR.2 (List.Mem.head _)) ?_
    refine l1 (n := 1) rfl rfl rfl (la_of a0) ?_
    refine l_gi rfl (ko_0 hS (List.Mem.head _)) rfl (fun _ => rfl) ?_
    refine l1 (n := 1) rfl rfl rfl (la_of a0) ?_
    refine l_gr rfl (ko_0 hS (List.Mem.head _)) rfl (fun _ => rfl) (kf_0_2 hR.2 (List.Mem.head _)) ?_
    refine l1 (n := 1) rfl rfl rfl (la_of a0) ?_
    refine l_gi rfl (ko_0 hS (List.Mem.head _)) rfl (fun _ => rfl) ?_
    refine b_aa rfl (kc_24 (fz := fz) hS).1 (Nat.le_of_ble_eq_true rfl) (inr_gi _ _ _) (fun q1 => ⟨pgA_ref hR.2 q1, ?_⟩)
    replace h := h q1
    refine b_iv (c := 169) (as := [.ref 23, zv (gi M 22 1), .ref (pgA (gi M 22 3))]) (rest := [.ref 22]) rfl (by decide) (ko_2 hS (List.Mem.head _)) rfl rfl (Nat.le_of_ble_eq_true rfl) (fun hq => ?_)
    refine lx_mono (hPr _ (by omega) _ _ _ _ _ hR (kc_23 (fz := fz) hS) (inr_gi _ _ _) (pgA_mem q1) h) ?_
    rintro _ _ ⟨z1, M1, rfl, rfl, r1, iz1, h⟩
    refine l_pi rfl (ko_0 (fz := fz) hS (List.Mem.head _)) rfl (fun _ _ => rfl) (fun M2 e => ?_)
    replace h := h M2 e
    have r2 := r1.wi (ko_0 (fz := fz) hS (List.Mem.head _)).1 (kl_0 (List.Mem.head _)) e
    refine l1 (n := 1) rfl rfl rfl (la_of a0) ?_
    refine l1 (n := 1) rfl rfl rfl rfl ?_
    refine l_pi rfl (ko_0 (fz := fz) hS (List.Mem.head _)) rfl (fun _ _ => rfl) (fun M3 e => ?_)
    replace h := h M3 e
    have r3 := r2.wi (ko_0 (fz := fz) hS (List.Mem.head _)).1 (kl_0 (List.Mem.head _)) e
    refine l1 (n := 1) rfl rfl rfl (la_of a0) ?_
    refine l_gi rfl (ko_0 hS (List.Mem.head _)) rfl (fun _ => rfl) ?_
    refine l1 (n := 1) rfl rfl rfl rfl ?_
    refine l_ic rfl (inr_gi _ _ _) ⟨by decide, by decide⟩ (fun c => ?_) (fun c => ?_)
    · replace h := h.1 c
      refine l1 (n := 1) rfl rfl rfl (la_of a0) ?_
      refine l0 rfl rfl rfl ?_
      refine l_gi rfl (ko_0 hS (List.Mem.head _)) rfl (fun _ => rfl) ?_
      refine l1 (n := 1) rfl rfl rfl rfl ?_
      refine l_add rfl ?_
      refine l_pi rfl (ko_0 (fz := fz) hS (List.Mem.head _)) rfl (fun _ _ => rfl) (fun M4 e => ?_)
      replace h := h M4 e
      have r4 := r3.wi (ko_0 (fz := fz) hS (List.Mem.head _)).1 (kl_0 (List.Mem.head _)) e
      refine l1 (n := 1) rfl rfl rfl (la_of a0) ?_
      refine l_gi rfl (ko_0 hS (List.Mem.head _)) rfl (fun _ => rfl) ?_
      refine l1 (n := 1) rfl rfl rfl rfl ?_
      refine l_sub rfl ?_
      obtain ⟨i1, h⟩ := h
      exact l_ri rfl rfl i1 r4 h
    · replace h := h.2 c
      refine l_bi rfl (by decide) ?_
      exact l_ri rfl rfl ⟨by decide, by decide⟩ r3 h
  · replace h := h.2 c
    refine l1 (n := 1) rfl rfl rfl rfl ?_
    exact l_ri rfl rfl ⟨by decide, by decide⟩ hR h
def em_M_text (Pr : Nat → Int → Nat → rf_M → (Int → rf_M → Prop) → Prop) (M : rf_M) (K : Int → rf_M → Prop) : Prop := e_M_text Pr  M K
theorem E_M_text_m {fz : Bool} {S : gS} {B : rf_M} {M : rf_M} {n0 : Nat} {Pr : Nat → Int → Nat → rf_M → (Int → rf_M → Prop) → Prop} {K : Int → rf_M → Prop} (hS : rl S) (hR : fl 22 353 B M) (hPr : ∀ n', n' < n0 → ∀ (x0 : Nat) (x1 : Int) (x2 : Nat) (M : rf_M) (K : Int → rf_M → Prop), fl 22 353 B M → pa fz S x0 .int 800 → inr x1 → x2 ∈ k1 → Pr x0 x1 x2 M K → lx (cx0 fz) n' 17 0 (lv_args 0 [.ref 169, .ref x0, zv x1, .ref x2]) [] (M, S) (vl_i 22 353 B S K)) (h : em_M_text Pr  M K) : lx (cx0 fz) n0 16 0 (lv_args 0 [.ref 22]) [] (M, S) (vl_i 22 353 B S K) :=
  E_M_text hS hR hPr rfl h
