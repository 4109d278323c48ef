/-! THE REFERENCE'S WALK: a step -/
def bfm (M : rf_M) (c : Nat) : Prop := c ≤ 12 ∧ ∀ t, t < c → txo M t
def g16 (M : rf_M) (c : Nat) (z : Int) : Prop := ∃ e t cc : Nat, z = (e : Int) ∧ t < c ∧ gi M 359 t = (cc : Int) ∧ cc ≤ 160 ∧ cod M t cc 16 e
/-- the code cells -/
def cdc (a : Nat) : Prop := 355 ≤ a ∧ a ≤ 369
theorem bfm.eq {M M' : rf_M} {c : Nat} (h : bfm M c) (q : ∀ a k, cdc a → gi M' a k = gi M a k) : bfm M' c := ⟨h.1, fun t ht => (h.2 t ht).eq (fun a k z => q a k (by unfold txk at z; unfold cdc; omega))⟩
theorem g16.eq {M M' : rf_M} {c : Nat} {z : Int} (h : g16 M c z) (q : ∀ a k, cdc a → gi M' a k = gi M a k) : g16 M' c z := by
  obtain ⟨e, t, cc, h1, h2, h3, h4, h5⟩ := h
  exact ⟨e, t, cc, h1, h2, (q _ _ (by unfold cdc; omega)).trans h3, h4, h5.eq (Nat.le_refl _) (fun k _ => ⟨q _ _ (by unfold cdc; omega), q _ _ (by unfold cdc; omega)⟩)⟩
def Wk (M : rf_M) (c t n h : Nat) : Prop := t < c ∧ gi M 355 t = (n : Int) ∧ (∀ j, j < h → g16 M c (gi M 393 j)) ∧ ∃ a : Nat, gi M 353 58 = (a : Int) ∧ a ≤ h
def stw (a k : Nat) : Prop := (a = 353 ∧ (k = 52 ∨ k = 55 ∨ k = 58 ∨ k = 60 ∨ k = 65)) ∨ a = 390 ∨ a = 393 ∨ a = 394 ∨ a = 397
section WC
variable {M M' : rf_M} {c t n h x : Nat} {K : Int → rf_M → Prop}
theorem twx_of (hb : bfm M c) (hW : Wk M c t n h) : twx M t n := by
  obtain ⟨n', c', h1, h2, -, -, h5, -⟩ := hb.2 t hW.1
  have : n' = n := by have := hW.2.1; omega
  subst this
  have := hb.1
  have := hW.1
  exact ⟨by omega, h2, fun x x1 x2 => (h5 x x1 x2).1⟩
theorem st_of (hb : bfm M c) (hW : Wk M c t n h) (k : kbs M t n h x) : ∃ cc : Nat, cc ≤ 160 ∧ gi M 359 t = (cc : Int) ∧ zs1 M t n x ∧ zs2 M t cc x ∧ (gi M 360 x = 7 → 16 ≤ gi M 367 x ∧ gi M 367 x ≤ 25) := by
  obtain ⟨n', c', h1, h2, h3, h4, h5, -⟩ := hb.2 t hW.1
  have : n' = n := by have := hW.2.1; omega
  subst this
  exact ⟨c', h4, h3, h5 x k.val.1 k.val.2⟩
theorem Wk.eq (hW : Wk M c t n h) (q : ∀ a k, cdc a ∨ a = 393 ∨ (a = 353 ∧ k = 58) → gi M' a k = gi M a k) : Wk M' c t n h := by
  obtain ⟨h1, h2, h3, a, h4, h5⟩ := hW
  refine ⟨h1, (q _ _ (Or.inl (by unfold cdc; omega))).trans h2, fun j hj => ?_, a, (q _ _ (by omega)).trans h4, h5⟩
  rw [q 393 j (by omega)]
  exact (h3 j hj).eq (fun a k z => q a k (Or.inl z))
theorem plc.eq {z : Int} {h' : Nat} (p : plc M t n h z) (hh : h ≤ h') (q : ∀ a y, (a = 360 ∨ a = 362 ∨ a = 363 ∨ a = 397) → gi M' a y = gi M a y) : plc M' t n h' z := p.imp id (fun ⟨y, y1, y2⟩ => ⟨y, y1, y2.eq hh q⟩)
theorem plc_lnk {z : Int} {w : Int} (k : kbs M t n h x) (l : zlk z (fun y => x < y ∧ y < 40 * t + n ∧ gi M 362 y = (x : Int) ∧ gi M 363 y = w)) (hw : w = 0 → (gi M 360 x = 5 ∨ gi M 360 x = 7) → ∃ q : Nat, gi M 397 x = (q : Int) ∧ q ≤ h) : plc M t n h z := by
  exact Or.imp id (fun ⟨y, y1, y2, y3, y4, y5⟩ => ⟨y, y1, k.kid ⟨by have := k.val; omega, y3⟩ y4 (fun e => hw (y5.symm.trans e))⟩) l
/-- what a step leaves -/
def stq (M : rf_M) (c t n h : Nat) (M' : rf_M) : Prop := eqx stw M M' ∧ Wk M' c t n h ∧ plc M' t n h (gi M' 353 60)
theorem s_pos {z : Int} (hb : bfm M c) (hW : Wk M c t n h) (hz : plc M t n h z) : stq M c t n h (wi M 353 60 z) := by
  have hx := twx_of hb hW
  have iz := hz.inr hx.1 hx.2.1
  refine ⟨(eqx.rfl' M).wi (Or.inl ⟨rfl, by omega⟩), hW.eq (fun a k w => gi_of (by unfold cdc at w; omega)), ?_⟩
  rw [gi_at iz]
  exact hz.eq (Nat.le_refl _) (fun a y w => gi_of (by omega))
theorem stq.trans' {M1 : rf_M} (hx : eqx stw M M1) (h2 : stq M1 c t n h M') : stq M c t n h M' := ⟨hx.trans h2.1, h2.2⟩
/-- out of an either or a try: its second body -/
theorem s_back {p : Nat} {M2 : rf_M} {K : rf_M → Prop} (hb : bfm M c) (hW : Wk M c t n h) (kp : kbs M t n h p) (hq : ∃ q : Nat, gi M 397 p = (q : Int) ∧ q ≤ h) (e2 : eqx (fun a k => a = 353 ∧ (k = 55 ∨ k = 58)) M M2) (e3 : gi M2 353 58 = gi M 397 p) (kk : ∀ M', stq M c t n h M' → K M') : wm_goIn (p : Int) (gi M2 366 p) M2 K := by
  have q2 : ∀ a k, ¬ (a = 353 ∧ (k = 55 ∨ k = 58)) → gi M2 a k = gi M a k := fun a k z => e2 a k z
  have hb2 : bfm M2 c := hb.eq (fun a k z => q2 a k (by unfold cdc at z; omega))
  have hW2 : Wk M2 c t n h := by
    obtain ⟨h1, h2, h3, -⟩ := hW
    obtain ⟨q, q1, q2'⟩ := hq
    refine ⟨h1, (q2 _ _ (by omega)).trans h2, fun j hj => ?_, q, e3.trans q1, q2'⟩
    rw [q2 393 j (by omega)]
    exact (h3 j hj).eq (fun a k z => q2 a k (by unfold cdc at z; omega))
  have kp2 : kbs M2 t n h p := kp.eq (Nat.le_refl _) (fun a y z => q2 a y (by omega))
  obtain ⟨cc, -, -, s1, -⟩ := st_of hb2 hW2 kp2
  refine s_goIn (twx_of hb2 hW2) kp2 (plc_lnk kp2 s1.2.2.2.2 (fun z => absurd z (by decide))) (fun z M' hz e => kk M' ?_)
  rw [e]
  exact (s_pos hb2 hW2 hz).trans' (M1 := M2) (e2.mono (fun a k z => Or.inl ⟨z.1, by have := z.2; omega⟩)) |> fun w => w
theorem s_throwFrom (hb : bfm M c) (hW : Wk M c t n h) (kx : kbs M t n h x) (k2 : K 2 M) (kk : ∀ M', stq M c t n h M' → K 0 M') : wm_throwFrom (x : Int) M K := by
  have hT := twx_of hb hW
  refine s_around hT kx (Or.inr rfl) ⟨inr_z (by omega) (by omega), fun z => absurd z (by omega), fun _ => k2⟩ (fun p kp p1 hq => ?_)
  have hv := kp.val
  have ht := hT.1
  have hn := hT.2.1
  have tn : ((p : Nat) : Int).toNat = p := by omega
  refine ⟨inr_z (by omega) (by omega), fun _ => s_bringBack (by omega) (fun M2 e2 e3 => ?_), fun z => absurd (by omega) z⟩
  obtain ⟨cc, -, -, -, -, hl⟩ := st_of hb hW kp
  have hl := hl p1
  have q2 : ∀ a k, ¬ (a = 353 ∧ (k = 55 ∨ k = 58)) → gi M2 a k = gi M a k := fun a k z => e2 a k z
  rw [tn, q2 367 p (by omega)]
  refine ⟨⟨by omega, by omega⟩, ⟨by omega, by omega⟩, fun M3 e4 => ⟨⟨by omega, by omega⟩, ?_⟩⟩
  have g3 : ∀ a k, gi M3 a k = gi M2 a k := fun a k => by rw [e4]; rfl
  exact s_back hb hW kp hq (M2 := M3) (fun a k z => (g3 a k).trans (e2 a k z)) ((g3 _ _).trans e3) kk
theorem s_retryFrom (hb : bfm M c) (hW : Wk M c t n h) (kx : kbs M t n h x) (k3 : K 3 M) (kk : ∀ M', stq M c t n h M' → K 0 M') : wm_retryFrom (x : Int) M K := by
  have hT := twx_of hb hW
  refine s_around hT kx (Or.inl rfl) ⟨inr_z (by omega) (by omega), fun z => absurd z (by omega), fun _ => k3⟩ (fun p kp p1 hq => ?_)
  have hv := kp.val
  have ht := hT.1
  have hn := hT.2.1
  have tn : ((p : Nat) : Int).toNat = p := by omega
  refine ⟨inr_z (by omega) (by omega), fun _ => s_bringBack (by omega) (fun M2 e2 e3 => ?_), fun z => absurd (by omega) z⟩
  rw [tn]
  exact ⟨⟨by omega, by omega⟩, s_back hb hW kp hq e2 e3 kk⟩
/-- the step of a statement whose exp is worked -/
theorem s_step51 {s0 : Int64} (hb : bfm M c) (hW : Wk M c t n h) (kx : kbs M t n h x) (hp : plc M t n h (gi M 353 60)) (hh : h < 400) (kk : ∀ z M' h', h' ≤ h + 1 → 0 ≤ z → z ≤ 4 → stq M c t n h' M' → K z M') : w_step_51 (x : Int) s0 M K := by
  have hT := twx_of hb hW
  have hv := kx.val
  have ht := hT.1
  have hn := hT.2.1
  have tn : ((x : Nat) : Int).toNat = x := by omega
  obtain ⟨cc, cc1, cc2, s1, s2, s3⟩ := st_of hb hW kx
  have here : stq M c t n h M := ⟨eqx.rfl' M, hW, hp⟩
  have thr : ∀ M1 : rf_M, si M M1 → wm_throwFrom (x : Int) M1 (fun z M' => K z M') := by
    intro M1 hs
    refine s_throwFrom (c := c) (t := t) (n := n) (h := h) (hb.eq (fun a k _ => hs a k)) (hW.eq (fun a k _ => hs a k)) (kx.eq (Nat.le_refl _) (fun a y _ => hs a y)) ?_ (fun M' hq => kk 0 M' h (by omega) (by omega) (by omega) (hq.trans' (fun a k _ => hs a k)))
    exact kk 2 M1 h (by omega) (by omega) (by omega) ⟨fun a k _ => hs a k, hW.eq (fun a k _ => hs a k), by rw [hs 353 60]; exact hp.eq (Nat.le_refl _) (fun a y _ => hs a y)⟩
  have k346 : ∀ M', stq M c t n h M' → w_step_346 M' K := fun M' hq => kk 0 M' h (by omega) (by omega) (by omega) hq
  have pos : ∀ z M', plc M t n h z → M' = wi M 353 60 z → w_step_346 M' K := fun z M' hz e => by rw [e]; exact k346 _ (s_pos hb hW hz)
  have l5 : plc M t n h (gi M 365 x) ∨ (gi M 360 x = 5 ∨ gi M 360 x = 7) := by
    by_cases w : gi M 360 x = 5 ∨ gi M 360 x = 7
    · exact Or.inr w
    · exact Or.inl (plc_lnk kx s1.2.2.2.1 (fun _ w2 => absurd w2 w))
  have l6 : plc M t n h (gi M 366 x) := plc_lnk kx s1.2.2.2.2 (fun z => absurd z (by decide))
  unfold w_step_51 w_step_198
  rw [tn]
  refine ⟨fun _ => kk 1 M h (by omega) (by omega) (by omega) here, fun _ => ⟨fun _ => thr M (fun _ _ => rfl), fun _ => ⟨⟨by omega, by omega⟩, fun z => ?_, fun z => ?_, fun z => ?_, fun z => ?_, fun z => ?_, fun z => ?_, fun z => ?_⟩⟩⟩
  · have l5' := l5.resolve_right (by omega)
    exact ⟨fun _ => ⟨⟨by omega, by omega⟩, s_goIn hT kx l6 pos⟩, fun _ => ⟨⟨by omega, by omega⟩, s_goIn hT kx l5' pos⟩⟩
  · have l5' := l5.resolve_right (by omega)
    exact ⟨fun _ => s_behind hT kx (fun z hz M4 e4 => pos z M4 hz e4), fun _ => ⟨⟨by omega, by omega⟩, s_goIn hT kx l5' pos⟩⟩
  · exact s_retryFrom hb hW kx (kk 3 M h (by omega) (by omega) (by omega) here) (fun M' hq => kk 0 M' h (by omega) (by omega) (by omega) hq)
  · intro M7 e7
    exact thr M7 (fun a k => by rw [e7]; rfl)
  · -- always
    obtain ⟨e, e1, e2⟩ := s2.2.2.2 z
    obtain ⟨h1, h2, h3, a, h4, h5⟩ := hW
    rw [h4, e1]
    refine ⟨⟨by omega, by omega⟩, ⟨by omega, by omega⟩, fun M9 f9 M10 f10 => ?_⟩
    rw [show ((a : Nat) : Int).toNat = a by omega] at f9
    have g9 : gi M9 353 58 = (a : Int) := by rw [f9, gi_of (by omega)]; exact h4
    rw [g9] at f10
    have q10 : ∀ a' k, ¬ (a' = 393 ∧ k = a) → ¬ (a' = 353 ∧ k = 58) → gi M10 a' k = gi M a' k := fun a' k z1 z2 => by rw [f10, gi_of (by omega), f9, gi_of (by omega)]
    have f58 : gi M10 353 58 = ((a + 1 : Nat) : Int) := by rw [f10, gi_at (inr_z (by omega) (by omega))]; omega
    have e2400 : (e : Int) ≤ 2400 := by
      obtain ⟨k, k1, k2, -⟩ := e2
      omega
    have f393 : gi M10 393 a = (e : Int) := by rw [f10, gi_of (by omega), f9, gi_at (inr_z (by omega) (by omega))]
    have hb10 : bfm M10 c := hb.eq (fun a' k z => q10 a' k (by unfold cdc at z; omega) (by unfold cdc at z; omega))
    obtain ⟨h', hh', hW10⟩ : ∃ h', (h ≤ h' ∧ h' ≤ h + 1) ∧ Wk M10 c t n h' := by
      refine ⟨max h (a + 1), by omega, h1, (q10 _ _ (by omega) (by omega)).trans h2, fun j hj => ?_, a + 1, f58, by omega⟩
      by_cases hja : j = a
      · rw [hja, f393]
        exact ⟨e, t, cc, rfl, h1, (q10 _ _ (by omega) (by omega)).trans cc2, cc1, e2.eq (Nat.le_refl _) (fun k _ => ⟨q10 _ _ (by omega) (by omega), q10 _ _ (by omega) (by omega)⟩)⟩
      · rw [q10 393 j (by omega) (by omega)]
        exact (h3 j (by omega)).eq (fun a' k z => q10 a' k (by unfold cdc at z; omega) (by unfold cdc at z; omega))
    have kx10 : kbs M10 t n h' x := kx.eq hh'.1 (fun a' y z => q10 a' y (by omega) (by omega))
    refine s_behind (twx_of hb10 hW10) kx10 (fun z hz M12 f12 => kk 0 M12 h' (by omega) (by omega) (by omega) ?_)
    rw [f12]
    refine (s_pos hb10 hW10 hz).trans' ?_
    rw [f10, f9]
    exact ((eqx.rfl' M).wi (Or.inr (Or.inr (Or.inl rfl)))).wi (Or.inl ⟨rfl, by omega⟩)
  · -- set
    have hl := s2.2.1 z
    refine ⟨⟨by omega, by omega⟩, fun z2 => ⟨⟨by omega, by omega⟩, ⟨by omega, by omega⟩, fun M13 f13 => ⟨⟨by omega, by omega⟩, fun M14 f14 => ?_⟩⟩, fun z2 => ⟨⟨by omega, by omega⟩, ⟨by omega, by omega⟩, fun M15 f15 => ?_⟩⟩
    · have q14 : ∀ a k, ¬ (a = 353 ∧ k = 55) → gi M14 a k = gi M a k := fun a k w => by rw [f14, gi_of (by omega), f13]; rfl
      have hb14 : bfm M14 c := hb.eq (fun a k w => q14 a k (by unfold cdc at w; omega))
      have hW14 : Wk M14 c t n h := hW.eq (fun a k w => q14 a k (by unfold cdc at w; omega))
      refine s_behind (twx_of hb14 hW14) (kx.eq (Nat.le_refl _) (fun a y w => q14 a y (by omega))) (fun z hz M2 f2 => k346 M2 ?_)
      rw [f2]
      exact (s_pos hb14 hW14 hz).trans' (fun a k w => q14 a k (fun w2 => w (Or.inl ⟨w2.1, by have := w2.2; omega⟩)))
    · have q15 : ∀ a k, gi M15 a k = gi M a k := fun a k => by rw [f15]; rfl
      have hb15 : bfm M15 c := hb.eq (fun a k w => q15 a k)
      have hW15 : Wk M15 c t n h := hW.eq (fun a k w => q15 a k)
      refine s_behind (twx_of hb15 hW15) (kx.eq (Nat.le_refl _) (fun a y w => q15 a y)) (fun z hz M2 f2 => k346 M2 ?_)
      rw [f2]
      exact (s_pos hb15 hW15 hz).trans' (fun a k w => q15 a k)
  · -- either, try
    have hk : gi M 360 x = 5 ∨ gi M 360 x = 7 := by
      have := s2.1
      unfold kk8 at this
      omega
    refine s_keep (by omega) (fun M16 e16 f16 => ⟨⟨by omega, by omega⟩, ?_⟩)
    have q16 : ∀ a k, ¬ ((a = 394 ∨ a = 397) ∧ k = x) → gi M16 a k = gi M a k := fun a k w => e16 a k w
    have hb16 : bfm M16 c := hb.eq (fun a k w => q16 a k (by unfold cdc at w; omega))
    have hW16 : Wk M16 c t n h := hW.eq (fun a k w => q16 a k (by unfold cdc at w; omega))
    obtain ⟨a, h4, h5⟩ := hW.2.2.2
    have kx16 : kbs M16 t n h x := by
      obtain ⟨A, a1, a2⟩ := kx
      refine ⟨A, a1, fun y hy => ⟨(a2 y hy).1, fun p hp' => ?_⟩⟩
      rw [q16 362 y (by omega)] at hp'
      obtain ⟨b1, b2⟩ := (a2 y hy).2 p hp'
      refine ⟨b1, fun z1 z2 => ?_⟩
      by_cases hpx : p = x
      · rw [hpx, f16]; exact ⟨a, h4, h5⟩
      · rw [q16 363 y (by omega)] at z1
        rw [q16 360 p (by omega)] at z2
        obtain ⟨r, r1, r2⟩ := b2 z1 z2
        exact ⟨r, (q16 397 p (by omega)).trans r1, r2⟩
    have hp16 : plc M16 t n h (gi M16 365 x) := by
      refine plc_lnk (w := 0) kx16 ?_ (fun _ _ => by rw [f16]; exact ⟨a, h4, h5⟩)
      rw [q16 365 x (by omega)]
      exact s1.2.2.2.1.imp (fun y hy => by rw [q16 362 y (by omega), q16 363 y (by omega)]; exact hy)
    refine s_goIn (twx_of hb16 hW16) kx16 hp16 (fun z M' hz e => k346 M' ?_)
    rw [e]
    refine (s_pos hb16 hW16 hz).trans' (e16.mono (fun a k w => ?_))
    rcases w.1 with w | w
    · exact Or.inr (Or.inr (Or.inr (Or.inl w)))
    · exact Or.inr (Or.inr (Or.inr (Or.inr w)))
/-- what is known within a walk of k steps over text t -/
def wkk (M : rf_M) (c t k : Nat) : Prop := ∃ n h : Nat, h ≤ k ∧ Wk M c t n h ∧ plc M t n h (gi M 353 60)
theorem s_step {k : Nat} (hb : bfm M c) (hw : gi M 353 42 = 0 ∨ gi M 353 42 = 1) (hk : wkk M c t k) (hk4 : k < 400) (kk : ∀ z M', 0 ≤ z → z ≤ 4 → eqx stw M M' → wkk M' c t (k + 1) → K z M') : wm_step M K := by
  obtain ⟨n, h, hh, hW, hp⟩ := hk
  have hT := twx_of hb hW
  have ht := hT.1
  have hn := hT.2.1
  have fin : ∀ z M' h', h' ≤ h + 1 → 0 ≤ z → z ≤ 4 → stq M c t n h' M' → K z M' := fun z M' h' hh' z1 z2 hq => kk z M' z1 z2 hq.1 ⟨n, h', by omega, hq.2.1, hq.2.2⟩
  rcases hp with hp1 | ⟨x, hx, kx⟩
  · refine ⟨fun z => absurd z (by omega), fun _ => fin 4 M h (by omega) (by omega) (by omega) ⟨eqx.rfl' M, hW, Or.inl hp1⟩⟩
  · have hv := kx.val
    have tn : ((x : Nat) : Int).toNat = x := by omega
    show w_step M K
    unfold w_step
    rw [hx, tn]
    refine ⟨fun _ M1 e1 => ?_, fun z => absurd (by omega) z⟩
    have q1 : ∀ a k, ¬ (a = 353 ∧ k = 65) → gi M1 a k = gi M a k := fun a k w => by rw [e1, gi_of (by omega)]
    have x1 : eqx stw M M1 := fun a k w => q1 a k (fun w2 => w (Or.inl ⟨w2.1, by have := w2.2; omega⟩))
    have hb1 : bfm M1 c := hb.eq (fun a k w => q1 a k (by unfold cdc at w; omega))
    have hW1 : Wk M1 c t n h := hW.eq (fun a k w => q1 a k (by unfold cdc at w; omega))
    have kx1 : kbs M1 t n h x := kx.eq (Nat.le_refl _) (fun a y w => q1 a y (by omega))
    have hp1 : plc M1 t n h (gi M1 353 60) := Or.inr ⟨x, (q1 _ _ (by omega)).trans hx, kx1⟩
    have st : w_step_51 (x : Int) (Int64.ofNat 0) M1 K := s_step51 hb1 hW1 kx1 hp1 (by omega) (fun z M' h' h1 h2 h3 hq => fin z M' h' h1 h2 h3 (hq.trans' x1))
    obtain ⟨cc, cc1, cc2, s1, s2, s3⟩ := st_of hb1 hW1 kx1
    refine ⟨⟨by omega, by omega⟩, fun _ => st, fun z1 => ⟨⟨by omega, by omega⟩, fun _ => st, fun z2 => ⟨⟨by omega, by omega⟩, ?_⟩⟩⟩
    rcases s2.2.2.1 z2 with w | ⟨e, w1, w2⟩
    · omega
    · rw [w1]
      refine s_work (t := t) (c := cc) (Or.inl ⟨rfl, rfl⟩) w2 (by omega) (by rw [q1 353 42 (by omega)]; exact hw) (fun z M2 x2 => ?_)
      have q2 : ∀ a k, ¬ ((a = 353 ∧ (k = 52 ∨ k = 65)) ∨ a = 390) → gi M2 a k = gi M1 a k := fun a k w => x2 a k w
      have x2' : eqx stw M M2 := x1.trans (x2.mono (fun a k w => by
        rcases w with w | w
        · exact Or.inl ⟨w.1, by have := w.2; omega⟩
        · exact Or.inr (Or.inl w)))
      have kx2 : kbs M2 t n h x := kx1.eq (Nat.le_refl _) (fun a y w => q2 a y (by omega))
      exact s_step51 (hb1.eq (fun a k w => q2 a k (by unfold cdc at w; omega))) (hW1.eq (fun a k w => q2 a k (by unfold cdc at w; omega))) kx2 (Or.inr ⟨x, (q2 _ _ (by omega)).trans ((q1 _ _ (by omega)).trans hx), kx2⟩) (by omega) (fun z M' h' h1 h2 h3 hq => fin z M' h' h1 h2 h3 (hq.trans' x2'))
end WC
