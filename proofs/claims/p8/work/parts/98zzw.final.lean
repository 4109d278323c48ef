/-! BOTH, EXACTLY: what holds between two calls -/
def EXJ (M : rf_M) : Prop := ∃ (Ts : tsT) (c : Nat) (S : syT), M.1 22 3 = nI c ∧ gi M 353 11 = (c : Int) ∧ SI Ts c S ∧ RPS M Ts c S ∧ RRS M Ts c S ∧ RPL M Ts c
def JF (fz : Bool) (L : Nat) (xs : Nat → Int32) (M : rf_M) : Prop := JJ fz L xs M ∧ kfr M ∧ EXJ M
theorem nI_inj {a b : Nat} (ha : a ≤ 100000) (hb : b ≤ 100000) (h : nI a = nI b) : a = b := by
  have := congrArg Int32.toInt h
  rw [nI_int ha, nI_int hb] at this
  omega
theorem rl_HK (fz : Bool) (L : Nat) (xs : Nat → Int32) : rl (HK fz L xs).2 := ⟨by rw [HK_n]; decide, fun a h1 h2 => by rw [HK_shp fz L xs h1, K2_shp fz h1 h2]⟩
theorem lx_and {cx : rf_C} {n i pc : Nat} {ls : rf_L} {st : List Value} {h : rf_H} {Q Q' : Option Value → rf_H → Prop} (k : lx cx n i pc ls st h Q) (k' : lx cx n i pc ls st h Q') : lx cx n i pc ls st h (fun r h' => Q r h' ∧ Q' r h') := fun m hm d r h' he => ⟨k m hm d r h' he, k' m hm d r h' he⟩
theorem fl.up {B M : rf_M} (h : fl 22 331 B M) : fl 22 353 B M := ⟨fun a k q => h.1 a k (fun w => q ⟨w.1, by omega⟩), h.2⟩
section UPF
variable {fz : Bool} {L : Nat} {xs : Nat → Int32} {jx jm : Nat} {as : List Value} {b b' : Bool}
theorem up_I {P : rf_M → Int → rf_M → Prop} {R : rf_M → Int → rf_M → Int → rf_M → Prop} (hQ : lw_I (cx0 fz) (HK fz L xs).2 xs (JJ fz L xs) b jx jm as)
    (hP : ∀ M, JF fz L xs M → ∀ n0, lx (cx0 fz) n0 jx 0 (lv_args 0 (.ref 22 :: as)) [] (M, (HK fz L xs).2) (vl_i 22 353 M (HK fz L xs).2 (P M)))
    (hR : ∀ M z M1, JF fz L xs M → P M z M1 → fl 22 353 M M1 → ∀ n0, lx (cx0 fz) n0 jm 0 (lv_args 0 (.ref 353 :: as)) [] (M1, (HK fz L xs).2) (vl_i 353 406 M1 (HK fz L xs).2 (R M z M1)))
    (hF : ∀ M z M1 z' M2, JF fz L xs M → P M z M1 → fl 22 353 M M1 → R M z M1 z' M2 → fl 353 406 M1 M2 → JJ fz L xs M2 → EXJ M2 ∧ (b' = true → z = z')) : lw_I (cx0 fz) (HK fz L xs).2 xs (JF fz L xs) b' jx jm as := by
  intro M hJ
  refine gx_mono (gx_lx (hQ M hJ.1) (fun n0 => hP M hJ n0)) ?_
  rintro r h' ⟨⟨z, M1, rfl, rfl, c1, g⟩, z0, M1', e1, e2, f1, i1, p1⟩
  obtain rfl : M1 = M1' := (Prod.mk.inj e2).1
  have e1' : Value.int z = Value.int (Int32.ofInt z0) := Option.some.inj e1
  have ez : z = Int32.ofInt z0 := by injection e1'
  refine ⟨z, M1, rfl, rfl, c1, gx_mono (gx_lx g (fun n0 => hR M z0 M1 hJ p1 f1 n0)) ?_⟩
  rintro r' h'' ⟨⟨z', M2, rfl, rfl, j2, -⟩, z0', M2', e3, e4, f2, i2, p2⟩
  obtain rfl : M2 = M2' := (Prod.mk.inj e4).1
  have e3' : Value.int z' = Value.int (Int32.ofInt z0') := Option.some.inj e3
  have ez' : z' = Int32.ofInt z0' := by injection e3'
  obtain ⟨hE, hz⟩ := hF M z0 M1 z0' M2 hJ p1 f1 p2 f2 j2
  exact ⟨z', M2, rfl, rfl, ⟨j2, f2.2, hE⟩, fun w => by rw [ez, ez', hz w]⟩
theorem up_L {P : rf_M → Int64 → rf_M → Prop} {R : rf_M → Int64 → rf_M → Int64 → rf_M → Prop} (hQ : lw_L (cx0 fz) (HK fz L xs).2 xs (JJ fz L xs) b jx jm as)
    (hP : ∀ M, JF fz L xs M → ∀ n0, lx (cx0 fz) n0 jx 0 (lv_args 0 (.ref 22 :: as)) [] (M, (HK fz L xs).2) (vl_l 22 353 M (HK fz L xs).2 (P M)))
    (hR : ∀ M z M1, JF fz L xs M → P M z M1 → fl 22 353 M M1 → ∀ n0, lx (cx0 fz) n0 jm 0 (lv_args 0 (.ref 353 :: as)) [] (M1, (HK fz L xs).2) (vl_l 353 406 M1 (HK fz L xs).2 (R M z M1)))
    (hF : ∀ M z M1 z' M2, JF fz L xs M → P M z M1 → fl 22 353 M M1 → R M z M1 z' M2 → fl 353 406 M1 M2 → JJ fz L xs M2 → EXJ M2 ∧ (b' = true → z = z')) : lw_L (cx0 fz) (HK fz L xs).2 xs (JF fz L xs) b' jx jm as := by
  intro M hJ
  refine gx_mono (gx_lx (hQ M hJ.1) (fun n0 => hP M hJ n0)) ?_
  rintro r h' ⟨⟨z, M1, rfl, rfl, c1, g⟩, z0, M1', e1, e2, f1, p1⟩
  obtain rfl : M1 = M1' := (Prod.mk.inj e2).1
  have e1' : Value.long z = Value.long z0 := Option.some.inj e1
  have ez : z = z0 := by injection e1'
  refine ⟨z, M1, rfl, rfl, c1, gx_mono (gx_lx g (fun n0 => hR M z0 M1 hJ p1 f1 n0)) ?_⟩
  rintro r' h'' ⟨⟨z', M2, rfl, rfl, j2, -⟩, z0', M2', e3, e4, f2, p2⟩
  obtain rfl : M2 = M2' := (Prod.mk.inj e4).1
  have e3' : Value.long z' = Value.long z0' := Option.some.inj e3
  have ez' : z' = z0' := by injection e3'
  obtain ⟨hE, hz⟩ := hF M z0 M1 z0' M2 hJ p1 f1 p2 f2 j2
  exact ⟨z', M2, rfl, rfl, ⟨j2, f2.2, hE⟩, fun w => by rw [ez, ez', hz w]⟩
theorem up_FI (F : tsT → Nat → syT → Int × syT) (hQ : lw_I (cx0 fz) (HK fz L xs).2 xs (JJ fz L xs) b jx jm as) (hSI : ∀ Ts c S, SI Ts c S → SI Ts c (F Ts c S).2)
    (hc : ∀ {M : rf_M} {n c : Nat}, cJ fz L xs M n c → gx (cx0 fz) (2000, 80000) jx 0 (lv_args 0 (.ref 22 :: as)) [] (M, (HK fz L xs).2) (fun r h' => ∃ (z : Int32) (M' : rf_M), r = some (.int z) ∧ h' = (M', (HK fz L xs).2) ∧ cJ fz L xs M' n c ∧ (∀ k, M'.1 23 k = M.1 23 k) ∧ (∀ i k, i < 12 → M'.1 (25 + 12 * i) k = M.1 (25 + 12 * i) k) ∧ ∀ a k, 353 ≤ a → sx_same M M' a k))
    (hx : ∀ M Ts c S n0, SI Ts c S → RPS M Ts c S → RPL M Ts c → gi M 22 3 = (c : Int) → rvw c S.2.2.2 → kfr M → lx (cx0 fz) n0 jx 0 (lv_args 0 (.ref 22 :: as)) [] (M, (HK fz L xs).2) (vl_i 22 353 M (HK fz L xs).2 (fun z M' => (b' = true → z = (F Ts c S).1) ∧ RPS M' Ts c (F Ts c S).2 ∧ RPL M' Ts c)))
    (hm : ∀ M Ts c S n0, SI Ts c S → RRS M Ts c S → gi M 353 11 = (c : Int) → rvw c S.2.2.2 → kfr M → lx (cx0 fz) n0 jm 0 (lv_args 0 (.ref 353 :: as)) [] (M, (HK fz L xs).2) (vl_i 353 406 M (HK fz L xs).2 (fun z M' => (b' = true → z = (F Ts c S).1) ∧ RRS M' Ts c (F Ts c S).2))) : lw_I (cx0 fz) (HK fz L xs).2 xs (JF fz L xs) b' jx jm as := by
  refine up_I (P := fun M z M1 => ∃ Ts c S, (SI Ts c S ∧ RRS M Ts c S ∧ gi M 353 11 = (c : Int) ∧ rvw c S.2.2.2) ∧ M1.1 22 3 = nI c ∧ (b' = true → z = (F Ts c S).1) ∧ RPS M1 Ts c (F Ts c S).2 ∧ RPL M1 Ts c) (R := fun M z M1 z' M2 => ∃ Ts c S, SI Ts c S ∧ M1.1 22 3 = nI c ∧ (b' = true → z = (F Ts c S).1) ∧ RPS M1 Ts c (F Ts c S).2 ∧ RPL M1 Ts c ∧ (b' = true → z' = (F Ts c S).1) ∧ RRS M2 Ts c (F Ts c S).2) hQ ?_ ?_ ?_
  · intro M hJ n0
    obtain ⟨⟨n, c', hc', hm'⟩, hk, Ts, c, S, e22, e11, hS, hP, hR, hL⟩ := hJ
    have h12 := hS.1.1
    have ec : c' = c := nI_inj (by have := JJ.c12 hc'; omega) (by omega) (hc'.2.2.2.1.symm.trans e22)
    subst ec
    have g22 : gi M 22 3 = (c' : Int) := by show (M.1 22 3).toInt = _; rw [e22, nI_int (by omega)]
    have hV := rvw_of hR hm'.1
    refine lx_mono (lx_and (lx_gx (hc hc') n0) (hx M Ts c' S n0 hS hP hL g22 hV hk)) ?_
    rintro r h' ⟨⟨z, M1, rfl, rfl, cj, -⟩, z0, M1', e1, e2, f, iz, q1, q2, q3⟩
    obtain rfl : M1 = M1' := (Prod.mk.inj e2).1
    exact ⟨z0, M1, e1, rfl, f, iz, Ts, c', S, ⟨hS, hR, e11, hV⟩, cj.2.2.2.1, q1, q2, q3⟩
  · rintro M z M1 hJ ⟨Ts, c, S, ⟨hS, hR, e11, hV⟩, e22, q1, q2, q3⟩ f n0
    have hR1 : RRS M1 Ts c S := hR.fr hS (fun b k hb => ⟨(f.1 b k (by omega)).1, (f.1 b k (by omega)).2.1⟩)
    have g11 : gi M1 353 11 = (c : Int) := (congrArg Int32.toInt (f.1 353 11 (by omega)).1).trans e11
    refine lx_mono (hm M1 Ts c S n0 hS hR1 g11 hV f.2) ?_
    rintro r h' ⟨z', M2, e1, e2, f2, iz, p1, p2⟩
    exact ⟨z', M2, e1, e2, f2, iz, Ts, c, S, hS, e22, q1, q2, q3, p1, p2⟩
  · rintro M z M1 z' M2 hJ - f1 ⟨Ts, c, S, hS, e22, q1, q2, q3, p1, p2⟩ f2 ⟨n2, c2, hc2, hm2⟩
    have hS' := hSI Ts c S hS
    have h12 := hS.1.1
    have e22' : M2.1 22 3 = nI c := (f2.1 22 3 (by omega)).1.trans e22
    have ec : c2 = c := nI_inj (by have := JJ.c12 hc2; omega) (by omega) (hc2.2.2.2.1.symm.trans e22')
    subst ec
    exact ⟨⟨Ts, c2, _, e22', hm2.1.2.1, hS', q2.fr hS' (fun b k hb => f2.1 b k (by omega)), p2, q3.fr (fun b k hb => ⟨(f2.1 b k (by omega)).1, (f2.1 b k (by omega)).2.2⟩)⟩, fun w => (q1 w).trans (p1 w).symm⟩
theorem up_FL (F : syT → Int64) (hQ : lw_L (cx0 fz) (HK fz L xs).2 xs (JJ fz L xs) b jx jm as)
    (hc : ∀ {M : rf_M} {n c : Nat}, cJ fz L xs M n c → gx (cx0 fz) (2000, 80000) jx 0 (lv_args 0 (.ref 22 :: as)) [] (M, (HK fz L xs).2) (fun r h' => ∃ (z : Int64) (M' : rf_M), r = some (.long z) ∧ h' = (M', (HK fz L xs).2) ∧ cJ fz L xs M' n c ∧ (∀ k, M'.1 23 k = M.1 23 k) ∧ (∀ i k, i < 12 → M'.1 (25 + 12 * i) k = M.1 (25 + 12 * i) k) ∧ ∀ a k, 353 ≤ a → sx_same M M' a k))
    (hx : ∀ M Ts c S n0, SI Ts c S → RPS M Ts c S → RPL M Ts c → kfr M → lx (cx0 fz) n0 jx 0 (lv_args 0 (.ref 22 :: as)) [] (M, (HK fz L xs).2) (vl_l 22 353 M (HK fz L xs).2 (fun z M' => z = F S ∧ RPS M' Ts c S ∧ RPL M' Ts c)))
    (hm : ∀ M Ts c S n0, SI Ts c S → RRS M Ts c S → kfr M → lx (cx0 fz) n0 jm 0 (lv_args 0 (.ref 353 :: as)) [] (M, (HK fz L xs).2) (vl_l 353 406 M (HK fz L xs).2 (fun z M' => z = F S ∧ RRS M' Ts c S))) : lw_L (cx0 fz) (HK fz L xs).2 xs (JF fz L xs) b' jx jm as := by
  refine up_L (P := fun M z M1 => ∃ Ts c S, (SI Ts c S ∧ RRS M Ts c S) ∧ M1.1 22 3 = nI c ∧ z = F S ∧ RPS M1 Ts c S ∧ RPL M1 Ts c) (R := fun M z M1 z' M2 => ∃ Ts c S, SI Ts c S ∧ M1.1 22 3 = nI c ∧ z = F S ∧ RPS M1 Ts c S ∧ RPL M1 Ts c ∧ z' = F S ∧ RRS M2 Ts c S) hQ ?_ ?_ ?_
  · intro M hJ n0
    obtain ⟨⟨n, c', hc', hm'⟩, hk, Ts, c, S, e22, e11, hS, hP, hR, hL⟩ := hJ
    have h12 := hS.1.1
    have ec : c' = c := nI_inj (by have := JJ.c12 hc'; omega) (by omega) (hc'.2.2.2.1.symm.trans e22)
    subst ec
    refine lx_mono (lx_and (lx_gx (hc hc') n0) (hx M Ts c' S n0 hS hP hL hk)) ?_
    rintro r h' ⟨⟨z, M1, rfl, rfl, cj, -⟩, z0, M1', e1, e2, f, q1, q2, q3⟩
    obtain rfl : M1 = M1' := (Prod.mk.inj e2).1
    exact ⟨z0, M1, e1, rfl, f, Ts, c', S, ⟨hS, hR⟩, cj.2.2.2.1, q1, q2, q3⟩
  · rintro M z M1 hJ ⟨Ts, c, S, ⟨hS, hR⟩, e22, q1, q2, q3⟩ f n0
    have hR1 : RRS M1 Ts c S := hR.fr hS (fun b k hb => ⟨(f.1 b k (by omega)).1, (f.1 b k (by omega)).2.1⟩)
    refine lx_mono (hm M1 Ts c S n0 hS hR1 f.2) ?_
    rintro r h' ⟨z', M2, e1, e2, f2, p1, p2⟩
    exact ⟨z', M2, e1, e2, f2, Ts, c, S, hS, e22, q1, q2, q3, p1, p2⟩
  · rintro M z M1 z' M2 hJ - f1 ⟨Ts, c, S, hS, e22, q1, q2, q3, p1, p2⟩ f2 ⟨n2, c2, hc2, hm2⟩
    have h12 := hS.1.1
    have e22' : M2.1 22 3 = nI c := (f2.1 22 3 (by omega)).1.trans e22
    have ec : c2 = c := nI_inj (by have := JJ.c12 hc2; omega) (by omega) (hc2.2.2.2.1.symm.trans e22')
    subst ec
    exact ⟨⟨Ts, c2, _, e22', hm2.1.2.1, hS, q2.fr hS (fun b k hb => f2.1 b k (by omega)), p2, q3.fr (fun b k hb => ⟨(f2.1 b k (by omega)).1, (f2.1 b k (by omega)).2.2⟩)⟩, fun _ => q1.trans p1.symm⟩
theorem hx31 {M : rf_M} {Ts : tsT} {c n0 : Nat} {S' : syT} {a : Int} {ls : rf_L} {Sg : gS} (hl : RPL M Ts c) (h : lx (cx0 fz) n0 jx 0 ls [] (M, Sg) (vl_i 22 331 M Sg (fun z M' => z = a ∧ RPS M' Ts c S'))) : lx (cx0 fz) n0 jx 0 ls [] (M, Sg) (vl_i 22 353 M Sg (fun z M' => (b' = true → z = a) ∧ RPS M' Ts c S' ∧ RPL M' Ts c)) := by
  refine lx_mono h ?_
  rintro r h' ⟨z, M', e1, e2, f, iz, q1, q2⟩
  exact ⟨z, M', e1, e2, f.up, iz, fun _ => q1, q2, hl.fr (fun b k hb => ⟨(f.1 b k (by omega)).1, (f.1 b k (by omega)).2.2⟩)⟩
theorem hx31L {M : rf_M} {Ts : tsT} {c n0 : Nat} {S' : syT} {a : Int64} {ls : rf_L} {Sg : gS} (hl : RPL M Ts c) (h : lx (cx0 fz) n0 jx 0 ls [] (M, Sg) (vl_l 22 331 M Sg (fun z M' => z = a ∧ RPS M' Ts c S'))) : lx (cx0 fz) n0 jx 0 ls [] (M, Sg) (vl_l 22 353 M Sg (fun z M' => z = a ∧ RPS M' Ts c S' ∧ RPL M' Ts c)) := by
  refine lx_mono h ?_
  rintro r h' ⟨z, M', e1, e2, f, q1, q2⟩
  exact ⟨z, M', e1, e2, f.up, q1, q2, hl.fr (fun b k hb => ⟨(f.1 b k (by omega)).1, (f.1 b k (by omega)).2.2⟩)⟩
end UPF
