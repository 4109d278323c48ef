/-! a statement of the program says what the grammar says -/
def stqx (κ ν : Nat → Int) (L p : Nat) (par part d : Int) (M : rf_M) (i s cc un : Nat) (z : Int) (M' : rf_M) : Prop := eqy (stF p) M M' ∧ gi M' 169 4 = 0 ∧ (gi M' 169 3 = -1 → z = (s : Int) ∧ ∃ j s1 c1 u, dT κ ν (XP M' p) (dB κ ν (XP M' p) (8 - d.toNat)) par part d i s cc j s1 c1 u ∧ (XP M' p).1 6 s = -1 ∧ ptt p L M' j s1 c1 (un + u) ∧ kep p M M' s cc)
section PST
variable {κ ν : Nat → Int} {L p : Nat} {M M3 N : rf_M} {i s cc un : Nat} {par part d lt a b : Int} {D : dT0} {K : rf_M → Prop} {Bd : Int → Int → Int → rf_M → (Int → rf_M → Prop) → Prop}
theorem stqx_fin (h : mdS L p M s cc (κ i) par part d 0 D lt a b N) (H : ∀ X j s' c' u', hds X s (κ i) cc par part d lt a b → D X j s' c' u' → ∃ u, u' = un + u ∧ dT κ ν X (dB κ ν X (8 - d.toNat)) par part d i s cc j s' c' u) : stqx κ ν L p par part d M i s cc un (s : Int) N := ⟨h.1, h.2.1, fun q => by
  obtain ⟨j, s', c', u', a1, a2, a3, a4⟩ := h.2.2 q
  obtain ⟨u, e, b1⟩ := H _ _ _ _ _ a3 a4
  subst e
  exact ⟨rfl, j, s', c', u, b1, a3.2.1, a1, a2⟩⟩
theorem x_k1 (hL : L ≤ 800) (hκ : κ L = 0) (hp : p ∈ k1) (hk : 25 ≤ p ∧ p ≤ 157) (hM : M.2.2 169 1 = some p) (tM : tkM κ ν L M) (e : κ i = 1) (h3 : mdS L p M s cc (κ i) par part d 0 (d0 (i + 1) s cc un) (ν i) (-1) (-1) M3) (kk : ∀ N, stqx κ ν L p par part d M i s cc un (s : Int) N → K N) : em_Q_expect 61 M3 (fun M4 => em_Q_closedExp (Esp κ ν L p) Bd M4 K) := by
  refine m_expect hL hκ hk tM (by decide) h3 (fun N1 h1 => m_closed hL hκ hp hk hM tM (ir := false) (by decide) (by decide) (dst_Q dst_0) h1 (fun N2 h2 => kk N2 (stqx_fin h2 (fun X j s' c' u' hh q => ?_))))
  obtain ⟨i', c0, u0, v, j1, ⟨i1, ⟨rfl, e61⟩, rfl, rfl, rfl, rfl⟩, b2, b3, rfl, rfl⟩ := q
  exact ⟨v, rfl, ⟨hh.1.1, hh.1.2.2⟩, Or.inl ⟨e, e61, ⟨hh.1.2.1, hh.2.2.1, hh.2.2.2⟩, rfl, j1, b2, b3, rfl⟩⟩
theorem x_k13 (hL : L ≤ 800) (hκ : κ L = 0) (hk : 25 ≤ p ∧ p ≤ 157) (tM : tkM κ ν L M) (e : κ i = 13) (h3 : mdS L p M s cc (κ i) par part d 0 (d0 (i + 1) s cc un) (ν i) (-1) (-1) M3) (kk : ∀ N, stqx κ ν L p par part d M i s cc un (s : Int) N → K N) : em_Q_expect 59 M3 K := by
  refine m_expect hL hκ hk tM (by decide) h3 (fun N1 h1 => kk N1 (stqx_fin h1 (fun X j s' c' u' hh q => ?_)))
  obtain ⟨i1, ⟨rfl, e59⟩, rfl, rfl, rfl, rfl⟩ := q
  exact ⟨0, rfl, ⟨hh.1.1, hh.1.2.2⟩, Or.inr (Or.inr (Or.inr (Or.inl ⟨e, ⟨hh.2.2.1, hh.2.2.2⟩, e59, rfl, rfl, rfl, rfl⟩)))⟩
theorem x_k14 (hL : L ≤ 800) (hκ : κ L = 0) (hp : p ∈ k1) (hk : 25 ≤ p ∧ p ≤ 157) (hM : M.2.2 169 1 = some p) (tM : tkM κ ν L M) (e : κ i = 14) (h3 : mdS L p M s cc (κ i) par part d 0 (d0 (i + 1) s cc un) (ν i) (-1) (-1) M3) (kk : ∀ N, stqx κ ν L p par part d M i s cc un (s : Int) N → K N) : em_Q_closedExp (Esp κ ν L p) Bd M3 K := by
  refine m_closed hL hκ hp hk hM tM (ir := false) (by decide) (by decide) dst_0 h3 (fun N2 h2 => kk N2 (stqx_fin h2 (fun X j s' c' u' hh q => ?_)))
  obtain ⟨i', c0, u0, v, j1, ⟨rfl, rfl, rfl, rfl⟩, b2, b3, rfl, rfl⟩ := q
  exact ⟨v, rfl, ⟨hh.1.1, hh.1.2.2⟩, Or.inr (Or.inl ⟨e, ⟨hh.2.2.1, hh.2.2.2⟩, rfl, j1, b2, b3, rfl⟩)⟩
theorem x_k19 (hL : L ≤ 800) (hκ : κ L = 0) (hp : p ∈ k1) (hk : 25 ≤ p ∧ p ≤ 157) (hM : M.2.2 169 1 = some p) (tM : tkM κ ν L M) (e : κ i = 19) (h3 : mdS L p M s cc (κ i) par part d 0 (d0 (i + 1) s cc un) (ν i) (-1) (-1) M3) (kk : ∀ N, stqx κ ν L p par part d M i s cc un (s : Int) N → K N) : ∀ M8 : rf_M, M8 = wi M3 169 4 1 → em_Q_closedExp (Esp κ ν L p) Bd M8 (fun M9 => ∀ M10 : rf_M, M10 = wi M9 169 4 0 → K M10) := by
  intro M8 e8
  have h8 : mdS L p M s cc (κ i) par part d 1 (d0 (i + 1) s cc un) (ν i) (-1) (-1) M8 := h3.go hk (by rw [e8]; exact (eqy.rfl' _).wi ⟨rfl, Or.inr rfl⟩) (by rw [e8, gi_at (inr_z (by omega) (by omega))]) (fun _ i' s' c' u' w1 w2 w3 => ⟨i', by rw [e8, gi_of (Or.inr (by omega))]; exact w2, w3, w1⟩)
  refine m_closed hL hκ hp hk hM tM (ir := true) (by decide) (by decide) dst_0 h8 (fun M9 h9 M10 e10 => ?_)
  have h10 : mdS L p M s cc (κ i) par part d 0 (dX κ ν true 59 (d0 (i + 1) s cc un)) (ν i) (-1) (-1) M10 := h9.go hk (by rw [e10]; exact (eqy.rfl' _).wi ⟨rfl, Or.inr rfl⟩) (by rw [e10, gi_at ir_0]) (fun _ i' s' c' u' w1 w2 w3 => ⟨i', by rw [e10, gi_of (Or.inr (by omega))]; exact w2, w3, w1⟩)
  refine kk M10 (stqx_fin h10 (fun X j s' c' u' hh q => ?_))
  obtain ⟨i', c0, u0, v, j1, ⟨rfl, rfl, rfl, rfl⟩, b2, b3, rfl, rfl⟩ := q
  exact ⟨v, rfl, ⟨hh.1.1, hh.1.2.2⟩, Or.inr (Or.inr (Or.inl ⟨e, ⟨hh.2.2.1, hh.2.2.2⟩, rfl, j1, b2, b3, rfl⟩))⟩
theorem x_comp (hL : L ≤ 800) (hκ : κ L = 0) (hi : ∀ k, inr (κ k) ∧ inr (ν k)) (hν : ∀ k, κ k = 1 → 0 ≤ ν k) (hp : p ∈ k1) (hk : 25 ≤ p ∧ p ≤ 157) (hM : M.2.2 169 1 = some p) (tM : tkM κ ν L M) (hd : 0 ≤ d ∧ d ≤ 8) (hb : κ i = 10 ∨ κ i = 12 ∨ κ i = 15 ∨ κ i = 17) (h3 : mdS L p M s cc (κ i) par part d 0 (d0 (i + 1) s cc un) (ν i) (-1) (-1) M3) (kk : ∀ N, stqx κ ν L p par part d M i s cc un (s : Int) N → K N) : em_Q_compound (Esp κ ν L p) (Bsp κ ν L p) (κ i) (s : Int) d M3 K := by
  have e89 : κ i ≠ 15 → κ i ≠ 17 → ∀ N, K N → e_Q_compound_89 (Esp κ ν L p) (Bsp κ ν L p) (κ i) (s : Int) d N K := fun a b N k => ⟨fun q => absurd q a, fun _ => ⟨fun q => absurd q b, fun _ => k⟩⟩
  refine ⟨fun e10 => ?_, fun n10 => ⟨fun e12 => ?_, fun n12 => ?_⟩⟩
  · -- if
    refine m_expect hL hκ hk tM (by decide) h3 (fun N1 h1 => m_closed hL hκ hp hk hM tM (ir := false) (by decide) (by decide) (dst_Q dst_0) h1 (fun N2 h2 => m_b0 hp hk hM tM hd (dst_X (dst_Q dst_0)) h2 (fun z N3 h4 => ⟨fun _ => ?_, fun q => absurd e10 q⟩)))
    refine m_at hk tM h4 (fun hf hy => ⟨fun q => absurd q (by decide), fun _ => ?_⟩) (fun hn => ⟨fun _ => e89 (by omega) (by omega) N3 (kk N3 (stqx_fin hn (fun X j s' c' u' hh q => ?_))), fun q => absurd rfl q⟩)
    · refine m_adv hL hκ hk tM hy (fun X i' s' c' u' q => ?_) (fun N4 h5 => m_b1 hp hk hM tM hd (dst_Q (dst_Q (dst_Y (dst_X (dst_Q dst_0))))) h5 (fun z' N5 h6 => e89 (by omega) (by omega) N5 (kk N5 (stqx_fin h6 (fun X j s' c' u' hh q => ?_)))))
      · obtain ⟨_, ⟨_, w⟩, _⟩ := q
        rw [w]; decide
      · obtain ⟨i5, s5, c5, u5, v5, ⟨i4, rfl, i3, ⟨rfl, e11⟩, i2, s2, c2, u2, v2, ⟨i1, c1, u1, v1, j1, ⟨i0, ⟨rfl, e40⟩, rfl, rfl, rfl, rfl⟩, x1, x2, rfl, rfl⟩, y1, rfl⟩, y2, rfl⟩ := q
        exact ⟨v1 + v2 + v5, by omega, ⟨hh.1.1, hh.1.2.2⟩, Or.inr (Or.inr (Or.inr (Or.inr (Or.inr (Or.inl ⟨e10, e40, j1, c2, v1, i3, s5, c5, v2, x1, x2, by rw [hh.2.2.1]; exact y1, Or.inr ⟨e11, v5, by rw [hh.2.2.2]; exact y2, rfl⟩⟩)))))⟩
    · obtain ⟨i3, ⟨rfl, n11⟩, i2, s2, c2, u2, v2, ⟨i1, c1, u1, v1, j1, ⟨i0, ⟨rfl, e40⟩, rfl, rfl, rfl, rfl⟩, x1, x2, rfl, rfl⟩, y1, rfl⟩ := q
      exact ⟨v1 + v2, by omega, ⟨hh.1.1, hh.1.2.2⟩, Or.inr (Or.inr (Or.inr (Or.inr (Or.inr (Or.inl ⟨e10, e40, j1, c2, v1, i3, s', c', v2, x1, x2, by rw [hh.2.2.1]; exact y1, Or.inl ⟨n11, hh.2.2.2, rfl, rfl, rfl, rfl⟩⟩)))))⟩
  · -- while
    refine m_expect hL hκ hk tM (by decide) h3 (fun N1 h1 => m_closed hL hκ hp hk hM tM (ir := false) (by decide) (by decide) (dst_Q dst_0) h1 (fun N2 h2 => m_b0 hp hk hM tM hd (dst_X (dst_Q dst_0)) h2 (fun z N3 h4 => ⟨fun q => absurd q n10, fun _ => e89 (by omega) (by omega) N3 (kk N3 (stqx_fin h4 (fun X j s' c' u' hh q => ?_)))⟩)))
    obtain ⟨i2, s2, c2, u2, v2, ⟨i1, c1, u1, v1, j1, ⟨i0, ⟨rfl, e40⟩, rfl, rfl, rfl, rfl⟩, x1, x2, rfl, rfl⟩, y1, rfl⟩ := q
    exact ⟨v1 + v2, by omega, ⟨hh.1.1, hh.1.2.2⟩, Or.inr (Or.inr (Or.inr (Or.inr (Or.inl ⟨e12, e40, hh.2.2.2, j1, c2, v1, v2, x1, x2, by rw [hh.2.2.1]; exact y1, rfl⟩))))⟩
  · refine m_b0 hp hk hM tM hd dst_0 h3 (fun z N1 h1 => ⟨fun q => absurd q n10, fun _ => ⟨fun e15 => ?_, fun n15 => ⟨fun e17 => ?_, fun n17 => absurd hb (by omega)⟩⟩⟩)
    · refine m_expect hL hκ hk tM (by decide) h1 (fun N2 h2 => m_b1 hp hk hM tM hd (dst_Q (dst_Y dst_0)) h2 (fun z' N3 h4 => ⟨fun q => absurd q (by omega), fun _ => kk N3 (stqx_fin h4 (fun X j s' c' u' hh q => ?_))⟩))
      obtain ⟨i3, s3, c3, u3, v3, ⟨i2, ⟨rfl, e16⟩, i1, s1, c1, u1, v1, ⟨rfl, rfl, rfl, rfl⟩, y1, rfl⟩, y2, rfl⟩ := q
      exact ⟨v1 + v3, by omega, ⟨hh.1.1, hh.1.2.2⟩, Or.inr (Or.inr (Or.inr (Or.inr (Or.inr (Or.inr (Or.inl ⟨e15, i2, s3, c3, v1, v3, by rw [hh.2.2.1]; exact y1, e16, by rw [hh.2.2.2]; exact y2, rfl⟩))))))⟩
    · refine m_expect hL hκ hk tM (by decide) h1 (fun N2 h2 => ?_)
      have ip2 := isPk (h2.ref hM) hp
      refine ⟨ip2.1, m_local hL hκ hi hν hk tM h2 (fun z2 N3 iz h4 _ N4 e4 => ?_)⟩
      rw [ip2.2, tn_] at e4
      subst e4
      have h5 := m_w (f := 1) hk (Or.inl rfl) iz (dst_Q (dst_Q (dst_Y dst_0))) h4
      have h6 : mdS L p M s cc (κ i) par part d 0 (dQ (fun i' j => j = i' + 1 ∧ κ i' = 1 ∧ 16 ≤ ν i' ∧ ν i' = z2) (dQ (fun i' j => j = i' + 1 ∧ κ i' = 18) (dY κ ν (8 - d.toNat) s 0 z (d0 (i + 1) s cc un)))) z2 z (-1) (wi N3 (p + 2) s z2) := h5
      refine m_b1 hp hk hM tM hd (dst_Q (dst_Q (dst_Y dst_0))) h6 (fun z' N5 h7 => kk N5 (stqx_fin h7 (fun X j s' c' u' hh q => ?_)))
      obtain ⟨i4, s4, c4, u4, v4, ⟨i3, ⟨rfl, l1, l2, l3⟩, i2, ⟨rfl, e18⟩, i1, s1, c1, u1, v1, ⟨rfl, rfl, rfl, rfl⟩, y1, rfl⟩, y2, rfl⟩ := q
      exact ⟨v1 + v4, by omega, ⟨hh.1.1, hh.1.2.2⟩, Or.inr (Or.inr (Or.inr (Or.inr (Or.inr (Or.inr (Or.inr ⟨e17, i2, s4, c4, v1, v4, by rw [hh.2.2.1]; exact y1, e18, ⟨l1, l2, hh.1.2.1.trans l3.symm⟩, by rw [hh.2.2.2]; exact y2, rfl⟩))))))⟩
theorem x_statement {K : Int → rf_M → Prop} (hL : L ≤ 800) (hκ : κ L = 0) (hi : ∀ k, inr (κ k) ∧ inr (ν k)) (hν : ∀ k, κ k = 1 → 0 ≤ ν k) (hp : p ∈ k1) (hM : M.2.2 169 1 = some p) (tM : tkM κ ν L M) (hd : 0 ≤ d ∧ d ≤ 8) (ipar : inr par) (ipart : inr part) (h4 : gi M 169 4 = 0) (hf : gi M 169 3 = -1) (hpt : ptt p L M i s cc un) (kk : ∀ z M', stqx κ ν L p par part d M i s cc un z M' → K z M') : em_Q_statement (Esp κ ν L p) (Bsp κ ν L p) par part d M K := by
  have hk1 := k1_or hp
  have hk : 25 ≤ p ∧ p ≤ 157 := by omega
  clear hk1
  have ip := isPk hM hp
  obtain ⟨⟨pa1, pa2, pa3, pa4, pa5⟩, pb, pc, pe⟩ := id hpt
  refine fun _ => ?_
  rw [pa1, tn_, (tM.2 i pa2).1]
  have no : e_Q_statement_30 (Esp κ ν L p) (Bsp κ ν L p) d (κ i) (-1) M K := ⟨fun _ => x_Qref tM (fun _ => ⟨i, pa1, pa2⟩) (fun M' y q => kk (-1) M' ⟨y.mono (fun b k w => by unfold stF; omega), (y.i (by omega)).trans h4, fun w => absurd w q⟩), fun q => absurd rfl q⟩
  have opn : (κ i = 1 ∨ κ i = 10 ∨ κ i = 12 ∨ κ i = 13 ∨ κ i = 14 ∨ κ i = 15 ∨ κ i = 17 ∨ κ i = 19) → isP M 169 1 ∧ em_P_open (gr M 169 1) (κ i) par part d M (fun z3 M3 => e_Q_statement_30 (Esp κ ν L p) (Bsp κ ν L p) d (κ i) z3 M3 K) := fun hb => by
    refine ⟨ip.1, ?_⟩
    rw [ip.2]
    refine x_open hp pb pc pa3 (by omega) (hi i).1 ipar ipart (inr_z (by omega) (by omega)) no (fun M1 hs y1 e0 fl => ?_)
    refine ⟨fun q => absurd q (by omega), fun _ => ?_⟩
    have ip1 := isPk (M := M1) (a := 169) (k := 1) (by rw [y1.2]; exact hM) hp
    refine ⟨ip1.1, fun _ => ?_⟩
    have a1 : gi M1 169 2 = (i : Int) := (y1.i (by omega)).trans pa1
    have t1 : tkM κ ν L M1 := tM.eq y1 (fun b k q => by omega)
    rw [a1, ip1.2, tn_, tn_, (t1.2 i pa2).2.1]
    intro _ M2 e2
    have y2 : eqy (fun b k => b = p + 2 ∧ k = s) M1 M2 := by rw [e2]; exact (eqy.rfl' M1).wi ⟨rfl, rfl⟩
    have h2 : mdS L p M s cc (κ i) par part d 0 (d0 i s cc un) (ν i) (-1) (-1) M2 := by
      refine ⟨(y1.mono (fun b k w => by unfold stF; omega)).trans (y2.mono (fun b k w => by unfold stF; omega)), (y2.i (by omega)).trans ((y1.i (by omega)).trans h4), fun _ => ⟨i, s + 1, cc, un, ⟨⟨(y2.i (by omega)).trans a1, pa2, (y2.i (by omega)).trans ((y1.i (by omega)).trans pa3), (y2.i (by omega)).trans ((y1.i (by omega)).trans pa4), pa5⟩, (y2.i (by omega)).trans e0, by omega, pe⟩, ⟨fun f x h9 hx => (y2.i (by omega)).trans (y1.i (by omega)), fun k hk' => ⟨(y2.i (by omega)).trans (y1.i (by omega)), (y2.i (by omega)).trans (y1.i (by omega))⟩⟩, ?_, rfl, rfl, rfl, rfl⟩⟩
      obtain ⟨f0, f2, f3, f4, f5, f6, f7, f8⟩ := fl
      refine ⟨⟨(XP_f (by decide)).trans ((y2.i (by omega)).trans f0), (XP_f (by decide)).trans ?_, (XP_f (by decide)).trans ((y2.i (by omega)).trans f2), (XP_f (by decide)).trans ((y2.i (by omega)).trans f3), (XP_f (by decide)).trans ((y2.i (by omega)).trans f4), (XP_f (by decide)).trans ((y2.i (by omega)).trans f5)⟩, (XP_f (by decide)).trans ((y2.i (by omega)).trans f6), (XP_f (by decide)).trans ((y2.i (by omega)).trans f7), (XP_f (by decide)).trans ((y2.i (by omega)).trans f8)⟩
      rw [e2]
      exact gi_at (hi i).2
    refine m_adv hL hκ hk tM h2 (fun X i' s' c' u' q => ?_) (fun M3 h3' => ?_)
    · obtain ⟨rfl, _⟩ := q
      omega
    have h3 : mdS L p M s cc (κ i) par part d 0 (d0 (i + 1) s cc un) (ν i) (-1) (-1) M3 := h3'.mono (fun X j s' c' u' q => by
      obtain ⟨i', w, rfl, w2, w3, w4⟩ := q
      exact ⟨w.symm, w2, w3, w4⟩)
    have fin : ∀ N, stqx κ ν L p par part d M i s cc un (s : Int) N → K (s : Int) N := fun N q => kk _ N q
    exact ⟨fun e => x_k1 hL hκ hp hk hM tM e h3 fin, fun e => x_k13 hL hκ hk tM e h3 fin, fun e => x_k14 hL hκ hp hk hM tM e h3 fin, fun e => x_k19 hL hκ hp hk hM tM e h3 fin, fun e => x_comp hL hκ hi hν hp hk hM tM hd (by omega) h3 fin⟩
  exact ⟨fun e => ⟨fun q => absurd q (by decide), fun _ => opn (by omega)⟩, fun e => ⟨fun q => absurd q (by decide), fun _ => opn (by omega)⟩, fun e => ⟨fun q => absurd q (by decide), fun _ => opn (by omega)⟩, fun e => ⟨fun q => absurd q (by decide), fun _ => opn (by omega)⟩, fun e => ⟨fun q => absurd q (by decide), fun _ => opn (by omega)⟩, fun e => ⟨fun q => absurd q (by decide), fun _ => opn (by omega)⟩, fun e => ⟨fun q => absurd q (by decide), fun _ => opn (by omega)⟩, fun e => ⟨fun q => absurd q (by decide), fun _ => opn (by omega)⟩, fun e => ⟨fun _ => no, fun q => absurd rfl q⟩⟩
end PST
