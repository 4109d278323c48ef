/-! THE OTHER PAIRS; the beginning -/
theorem rg_lo : (List.range 329).all (fun i => decide (2 ≤ xk_rg (i + 24))) = true := by decide +kernel
theorem rfF_ok : rfF.all (fun q => decide (24 ≤ q.1) || (decide (q.1 = 22) && !(decide (q.2.1 = 1)))) = true := by decide +kernel
def qmd (md : List (Nat × Nat)) : Bool := md.all (fun q => decide (q = (0, 2)) || decide (q = (1, 0)))
section QTP
variable {fz : Bool} {L : Nat} {xs : Nat → Int32} {jx jm : Nat} {as : List Value} {b : Bool}
theorem sq_fl {M M' : rf_M} {md : List (Nat × Nat)} (hm : qmd md = true) (hf : sx_fr (xk_W fz L xs) md M M') (hk : kfr M) : fl 22 353 M M' ∧ M'.1 22 3 = M.1 22 3 ∧ ∀ a k, 24 ≤ a → sx_same M M' a k := by
  have hq : ∀ q ∈ md, q = (0, 2) ∨ q = (1, 0) := fun q h => by
    have := List.all_eq_true.mp hm q h
    simpa using this
  have s22 : ∀ k, k ≠ 1 → sx_same M M' 22 k := fun k hk1 => by
    refine hf 22 k (Or.inr ?_)
    show (xk_rg 22, 0) ∉ md ∧ (xk_rg 22, k + 1) ∉ md
    have e : xk_rg 22 = 0 := rfl
    rw [e]
    constructor
    · intro h
      rcases hq _ h with w | w <;> (injection w with w1 w2; omega)
    · intro h
      rcases hq _ h with w | w <;> (injection w with w1 w2; omega)
  have s24 : ∀ a k, 24 ≤ a → sx_same M M' a k := fun a k ha => by
    refine hf a k (Or.inr ?_)
    show (xk_rg a, 0) ∉ md ∧ (xk_rg a, k + 1) ∉ md
    have h2 : 2 ≤ xk_rg a := by
      by_cases h : a < 353
      · have := List.all_eq_true.mp rg_lo (a - 24) (List.mem_range.mpr (by omega))
        rw [decide_eq_true_eq, show a - 24 + 24 = a by omega] at this
        exact this
      · rw [rg_far (by omega)]; decide
    constructor
    · intro h
      rcases hq _ h with w | w <;> (injection w with w1 w2; omega)
    · intro h
      rcases hq _ h with w | w <;> (injection w with w1 w2; omega)
  refine ⟨⟨fun a k q => ?_, fun q hq' => ?_⟩, (s22 3 (by decide)).1, s24⟩
  · by_cases h : a < 22
    · have := hf a k (Or.inl h)
      exact ⟨this.1, this.2.1, this.2.2⟩
    · have := s24 a k (by omega)
      exact ⟨this.1, this.2.1, this.2.2⟩
  · have h := List.all_eq_true.mp rfF_ok q hq'
    have e : M'.2.2 q.1 q.2.1 = M.2.2 q.1 q.2.1 := by
      rw [Bool.or_eq_true, Bool.and_eq_true, decide_eq_true_eq, decide_eq_true_eq, Bool.not_eq_true', decide_eq_false_iff_not] at h
      rcases h with h | ⟨h1, h2⟩
      · exact (s24 _ _ h).2.2
      · rw [h1]; exact (s22 _ h2).2.2
    exact e.trans (hk q hq')
theorem up_QI {md : List (Nat × Nat)} (hmd : qmd md = true) (hQ : lw_I (cx0 fz) (HK fz L xs).2 xs (JJ fz L xs) b jx jm as)
    (hc : ∀ {M : rf_M}, sx_in (xk_W fz L xs) M → gx (cx0 fz) (2000, 80000) jx 0 (lv_args 0 (.ref 22 :: as)) [] (M, (HK fz L xs).2) (fun r h' => ∃ (z : Int32) (M' : rf_M), r = some (.int z) ∧ h' = (M', (HK fz L xs).2) ∧ sx_in (xk_W fz L xs) M' ∧ sx_fr (xk_W fz L xs) md M M'))
    (hm : ∀ M Ts c S n n0, SI Ts c S → RRS M Ts c S → gi M 353 2 = ((n : Nat) : Int) → n ≤ 800 → kfr M → lx (cx0 fz) n0 jm 0 (lv_args 0 (.ref 353 :: as)) [] (M, (HK fz L xs).2) (vl_i 353 406 M (HK fz L xs).2 (fun _ M' => RRS M' Ts c S))) : lw_I (cx0 fz) (HK fz L xs).2 xs (JF fz L xs) false jx jm as := by
  refine up_I (P := fun M z M1 => ∃ Ts c S, ∃ n : Nat, (SI Ts c S ∧ RRS M Ts c S ∧ gi M 353 2 = (n : Int) ∧ n ≤ 800) ∧ M1.1 22 3 = nI c ∧ RPS M1 Ts c S ∧ RPL M1 Ts c) (R := fun M z M1 z' M2 => ∃ Ts c S, SI Ts c S ∧ M1.1 22 3 = nI c ∧ RPS M1 Ts c S ∧ RPL M1 Ts c ∧ RRS M2 Ts c S) hQ ?_ ?_ ?_
  · intro M hJ n0
    obtain ⟨⟨n, c', hc', hm'⟩, hk, Ts, c, S, e22, e11, hS, hP, hR, hL⟩ := hJ
    have h12 := hS.1.1
    refine lx_mono (lx_gx (hc hc'.1) n0) ?_
    rintro r h' ⟨z, M1, rfl, rfl, -, fr⟩
    obtain ⟨f, f22, f24⟩ := sq_fl hmd fr hk
    refine ⟨z.toInt, M1, by rw [zv_i], rfl, f, inr_ti z, Ts, c, S, n, ⟨hS, hR, hm'.2.1.1, hm'.2.1.2.1⟩, f22.trans e22, hP.fr hS (fun b k hb => ?_), hL.fr (fun b k hb => ?_)⟩
    · have := f24 b k (by omega)
      exact ⟨this.1, this.2.1, this.2.2⟩
    · have := f24 b k (by omega)
      exact ⟨this.1, this.2.2⟩
  · rintro M z M1 hJ ⟨Ts, c, S, n, ⟨hS, hR, e2, hn⟩, e22, q2, q3⟩ f n0
    have hR1 : RRS M1 Ts c S := hR.fr hS (fun b k hb => ⟨(f.1 b k (by omega)).1, (f.1 b k (by omega)).2.1⟩)
    have g2 : gi M1 353 2 = (n : Int) := (congrArg Int32.toInt (f.1 353 2 (by omega)).1).trans e2
    refine lx_mono (hm M1 Ts c S n n0 hS hR1 g2 hn f.2) ?_
    rintro r h' ⟨z', M2, e1, e2, f2, iz, p2⟩
    exact ⟨z', M2, e1, e2, f2, iz, Ts, c, S, hS, e22, q2, q3, p2⟩
  · rintro M z M1 z' M2 hJ - f1 ⟨Ts, c, S, hS, e22, q2, q3, p2⟩ f2 ⟨n2, c2, hc2, hm2⟩
    have h12 := hS.1.1
    have e22' : M2.1 22 3 = nI c := (f2.1 22 3 (by omega)).1.trans e22
    have ec : c2 = c := nI_inj (by have := JJ.c12 hc2; omega) (by omega) (hc2.2.2.2.1.symm.trans e22')
    subst ec
    exact ⟨⟨Ts, c2, _, e22', hm2.1.2.1, hS, q2.fr hS (fun b k hb => f2.1 b k (by omega)), p2, q3.fr (fun b k hb => ⟨(f2.1 b k (by omega)).1, (f2.1 b k (by omega)).2.2⟩)⟩, fun w => absurd w (by decide)⟩
end QTP
theorem RRS.tape {M M' : rf_M} {Ts : tsT} {c0 : Nat} {S : syT} (hS : SI Ts c0 S) (h : RRS M Ts c0 S) (e : eqy (fun a k => (a = 353 ∧ (k = 0 ∨ k = 2)) ∨ a = 354) M M') : RRS M' Ts c0 S := h.eq hS e (fun b k z => by unfold pvR at z; omega)
section GQ
variable (fz : Bool) (L : Nat) (xs : Nat → Int32)
theorem G_feed (a0 a1 a2 a3 a4 : Int32) : lw_I (cx0 fz) (HK fz L xs).2 xs (JF fz L xs) false 13 128 [.int a0, .int a1, .int a2, .int a3, .int a4] :=
  up_QI (md := xk_c_1.2.2.2.1) (by decide +kernel) (Q_feed fz L xs a0 a1 a2 a3 a4) (fun h => cl_feed fz L xs h a0 a1 a2 a3 a4)
    (fun M Ts c S n n0 hS hR e2 hn hk => by rw [← zv_i a0, ← zv_i a1, ← zv_i a2, ← zv_i a3, ← zv_i a4]; exact E_W_feed_m (rl_HK fz L xs) (fl.rfl' hk) (inr_ti a0) (inr_ti a1) (inr_ti a2) (inr_ti a3) (inr_ti a4) (y_feed e2 hn (fun z M' y => hR.tape hS y)))
theorem G_end (a0 : Int32) : lw_I (cx0 fz) (HK fz L xs).2 xs (JF fz L xs) false 15 129 [.int a0] :=
  up_QI (md := xk_c_2.2.2.2.1) (by decide +kernel) (Q_end fz L xs a0) (fun h => cl_end fz L xs h a0)
    (fun M Ts c S n n0 hS hR e2 hn hk => by rw [← zv_i a0]; exact E_W_end_m (rl_HK fz L xs) (fl.rfl' hk) (inr_ti a0) (y_endc (fun z M' y => hR.tape hS y)))
theorem G_place : lw_I (cx0 fz) (HK fz L xs).2 xs (JF fz L xs) false 56 152 [] :=
  up_QI (md := xk_c_4.2.2.2.1) (by decide +kernel) (Q_place fz L xs) (fun h => cl_place fz L xs h)
    (fun M Ts c S n n0 hS hR e2 hn hk => E_W_place_m (rl_HK fz L xs) (fl.rfl' hk) (y_placec (fun z M' y => hR.tape hS y)))
theorem G_told (a0 a1 : Int32) : lw_I (cx0 fz) (HK fz L xs).2 xs (JF fz L xs) false 57 153 [.int a0, .int a1] :=
  up_QI (md := xk_c_5.2.2.2.1) (by decide +kernel) (Q_told fz L xs a0 a1) (fun h => cl_told fz L xs h a0 a1)
    (fun M Ts c S n n0 hS hR e2 hn hk => by rw [← zv_i a0, ← zv_i a1]; exact E_W_told_m (rl_HK fz L xs) (fl.rfl' hk) (inr_ti a0) (inr_ti a1) (y_toldc (fun z M' y => hR.tape hS y)))
theorem G_client (a0 a1 : Int32) : lw_I (cx0 fz) (HK fz L xs).2 xs (JF fz L xs) false 109 188 [.int a0, .int a1] :=
  up_QI (md := xk_c_12.2.2.2.1) (by decide +kernel) (Q_client fz L xs a0 a1) (fun h => cl_client fz L xs h a0 a1)
    (fun M Ts c S n n0 hS hR e2 hn hk => by rw [← zv_i a0, ← zv_i a1]; exact E_W_client_m (rl_HK fz L xs) (fl.rfl' hk) (inr_ti a0) (inr_ti a1) (y_client hS hR (fun z M' h => h)))
theorem G_text : lw_I (cx0 fz) (HK fz L xs).2 xs (JF fz L xs) false 16 130 [] := by
  refine up_I (P := fun M z M1 => ∃ Ts c S, ∃ n : Nat, (SI Ts c S ∧ RPS M Ts c S ∧ RRS M Ts c S ∧ RPL M Ts c ∧ gi M 353 11 = (c : Int) ∧ tp M n (M.1 23)) ∧ txF c M M1 ∧ (gi M1 22 3 = (c : Int) ∨ (c < 12 ∧ gi M1 22 3 = (c : Int) + 1 ∧ txA (p_T (M.1 23) n) c M1)))
    (R := fun M z M1 z' M2 => ∃ Ts c S, (SI Ts c S ∧ RPS M1 Ts c S ∧ RPL M1 Ts c ∧ RRS M2 Ts c S) ∧ (gi M1 22 3 = (c : Int) ∨ (c < 12 ∧ gi M1 22 3 = (c : Int) + 1 ∧ ∃ Y : txT × Nat × Nat × Int, wfx Y.1 Y.2.1 Y.2.2.1 Y.2.2.2 ∧ ptx M1 (25 + 12 * c) Y.1 Y.2.1 Y.2.2.1 Y.2.2.2 ∧ (gi M2 353 11 = (c : Int) ∨ rtx M2 c Y.1 Y.2.1 Y.2.2.1 Y.2.2.2)))) (Q_text fz L xs) ?_ ?_ ?_
  · intro M hJ n0
    obtain ⟨⟨n, c', hc', hm'⟩, hk, Ts, c, S, e22, e11, hS, hP, hR, hL⟩ := hJ
    have h12 := hS.1.1
    have h8 := hc'.2.2.1.2
    have g22 : gi M 22 3 = (c : Int) := by show (M.1 22 3).toInt = _; rw [e22, nI_int (by omega)]
    have g21 : gi M 22 1 = (n : Int) := by show (M.1 22 1).toInt = _; rw [hc'.2.2.1.1, nI_int (by omega)]
    have htq := (cJ_tq hc').2.2.2 0 (by omega)
    refine l_text (rl_HK fz L xs) (fl.rfl' hk) (x_text g21 h8 g22 h12 htq.1.2.1 htq.2.2 (fun z M1 tf q => ?_)) n0
    refine ⟨Ts, c, S, n, ⟨hS, hP, hR, hL, e11, hm'.2.1⟩, tf, ?_⟩
    rcases q with ⟨-, q⟩ | ⟨-, q1, q2, q3⟩
    · exact Or.inl q
    · exact Or.inr ⟨q1, q2, q3⟩
  · rintro M z M1 hJ ⟨Ts, c, S, n, ⟨hS, hP, hR, hL, e11, htp⟩, tf, q⟩ f n0
    have h12 := hS.1.1
    have hR1 : RRS M1 Ts c S := hR.fr hS (fun b k hb => ⟨(f.1 b k (by omega)).1, (f.1 b k (by omega)).2.1⟩)
    have gf : ∀ b k, 353 ≤ b → gi M1 b k = gi M b k := fun b k hb => congrArg Int32.toInt (f.1 b k (by omega)).1
    have g11 : gi M1 353 11 = (c : Int) := (gf _ _ (by omega)).trans e11
    have htp1 : tp M1 n (M.1 23) := ⟨(gf _ _ (by omega)).trans htp.1, htp.2.1, fun k hk => by rw [gf 354 k (by omega)]; exact htp.2.2 k hk⟩
    have hP1 : RPS M1 Ts c S := hP.fr hS (fun b k hb => ⟨(tf.1 b k (by omega) (by omega) (by omega)).1, (tf.1 b k (by omega) (by omega) (by omega)).2, tf.2 b k (by omega) (by omega)⟩)
    have hL1 : RPL M1 Ts c := hL.fr (fun b k hb => ⟨(tf.1 b k (by omega) (by omega) (by omega)).1, tf.2 b k (by omega) (by omega)⟩)
    rcases q with q | ⟨q1, q2, n', j, s, cc, u, first, d1, d2, d3, d4, d5, d6⟩
    · exact E_W_text_m (rl_HK fz L xs) (fl.rfl' f.2) (F_text g11 h12 htp1 (fun z' M2 y _ => ⟨Ts, c, S, ⟨hS, hP1, hL1, hR1.tx hS (Nat.le_refl _) y⟩, Or.inl q⟩))
    · refine E_W_text_m (rl_HK fz L xs) (fl.rfl' f.2) (y_text (X := XP M1 (25 + 12 * c)) (en := first) (S := s) (C := cc) g11 h12 htp1 d4 ⟨n', j, first, u, d1, ⟨fun w => absurd rfl w, fun _ => ⟨fun _ => rfl, fun e ρ he => by cases he⟩⟩, d2, by omega⟩ (fun z' M2 y q' => ⟨Ts, c, S, ⟨hS, hP1, hL1, hR1.tx hS (Nat.le_refl _) y⟩, Or.inr ⟨q1, q2, (XP M1 (25 + 12 * c), s, cc, first), wfx_of (p_T_l _ _) d1 d4 d5 d6, d3, ?_⟩⟩))
      rcases q' with ⟨-, q'⟩ | ⟨-, -, -, q'⟩
      · exact Or.inl q'
      · exact Or.inr q'
  · rintro M z M1 z' M2 hJ - f1 ⟨Ts, c, S, ⟨hS, q2, q3, p2⟩, q⟩ f2 ⟨n2, c2, hc2, hm2⟩
    have h12 := hS.1.1
    have c12 := JJ.c12 hc2
    have g2 : gi M1 22 3 = (c2 : Int) := by
      have e : gi M2 22 3 = gi M1 22 3 := congrArg Int32.toInt (f2.1 22 3 (by omega)).1
      rw [← e]
      show (M2.1 22 3).toInt = _
      rw [hc2.2.2.2.1, nI_int (by omega)]
    have P2 : RPS M2 Ts c S := q2.fr hS (fun b k hb => f2.1 b k (by omega))
    have L2 : RPL M2 Ts c := q3.fr (fun b k hb => ⟨(f2.1 b k (by omega)).1, (f2.1 b k (by omega)).2.2⟩)
    refine ⟨?_, fun w => absurd w (by decide)⟩
    rcases q with q | ⟨q1, q4, Y, hY, hp, hr⟩
    · have ec : c2 = c := by omega
      subst ec
      exact ⟨Ts, c2, S, hc2.2.2.2.1, hm2.1.2.1, hS, P2, p2, L2⟩
    · have ec : c2 = c + 1 := by omega
      subst ec
      have g11 := hm2.1.2.1
      rcases hr with hr | hr
      · rw [hr] at g11
        omega
      · have hp2 : ptx M2 (25 + 12 * c) Y.1 Y.2.1 Y.2.2.1 Y.2.2.2 := by
          have y : eqy (fun b _ => 353 ≤ b) M1 (M2.1, M2.2.1, M1.2.2) := ⟨fun b k q => ⟨(f2.1 b k (by omega)).1, (f2.1 b k (by omega)).2.1⟩, rfl⟩
          have q := hp.eq y (fun b k z1 z2 => by omega)
          exact q
        exact ⟨exT Ts c Y, c + 1, S, hc2.2.2.2.1, g11, SI_ext hS q1 hY, RPS_ext hS P2 hp2, RRS_ext hS p2 hr, RPL_ext L2⟩
end GQ
