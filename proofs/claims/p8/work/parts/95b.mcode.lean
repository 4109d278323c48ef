/-! THE REFERENCE'S WALK: pieces -/
section WA
variable {M M' : rf_M} {K : Int → rf_M → Prop}
theorem s_isChanged (hw : gi M 353 42 = 0 ∨ gi M 353 42 = 1) (k0 : K 0 M) (k1 : K 1 M) : wm_isChanged M K := by
  refine ⟨fun m v1 M' => M' = M ∧ ∃ j : Nat, v1 = (j : Int) ∧ j ≤ 16 ∧ m = 16 - j, ⟨16, rfl, 0, rfl, by omega, rfl⟩, ?_⟩
  rintro m v1 M' ⟨rfl, j, rfl, h1, h2⟩
  have nx : ¬ 16 ≤ (j : Int) → ∃ m', m' < m ∧ (M' = M' ∧ ∃ j' : Nat, (j : Int) + 1 = (j' : Int) ∧ j' ≤ 16 ∧ m' = 16 - j') := fun z => ⟨16 - (j + 1), by omega, rfl, j + 1, by omega, by omega, rfl⟩
  refine ⟨inr_z (by omega) (by omega), fun _ => k0, fun z => ⟨fun _ => ⟨⟨by omega, by omega⟩, ⟨by omega, by omega⟩, fun _ => nx z, fun _ => k1⟩, fun _ => nx z⟩⟩
def vww (a k : Nat) : Prop := (a = 353 ∧ (k = 52 ∨ k = 65)) ∨ a = 390
theorem s_valueOf {l : Int} {K : Int64 → rf_M → Prop} (hl : 0 ≤ l ∧ l ≤ 25) (hw : gi M 353 42 = 0 ∨ gi M 353 42 = 1) (kk : ∀ z M', eqx vww M M' → K z M') : wm_valueOf l M K := by
  refine ⟨inr_z (by omega) (by omega), fun z => ⟨fun _ => ⟨⟨by omega, by omega⟩, kk _ M (eqx.rfl' M)⟩, fun _ => ⟨fun _ => ?_, fun _ => ⟨⟨by omega, by omega⟩, kk _ M (eqx.rfl' M)⟩⟩⟩, fun z => ⟨⟨by omega, by omega⟩, kk _ M (eqx.rfl' M)⟩⟩
  refine s_isChanged hw ⟨inr_z (by omega) (by omega), fun _ M2 e2 => ?_, fun w => absurd rfl w⟩ ⟨inr_z (by omega) (by omega), fun w => absurd w (by decide), fun _ M5 e5 => ?_⟩
  · have w2 : gi M2 353 42 = gi M 353 42 := by rw [e2, gi_of (by omega)]
    refine ⟨⟨by omega, by omega⟩, ⟨by omega, by omega⟩, fun M3 e3 => ?_⟩
    have w3 : gi M3 353 42 = gi M 353 42 := by rw [e3]; exact w2
    refine ⟨⟨by omega, by omega⟩, ⟨by omega, by omega⟩, fun M4 e4 => ⟨⟨by omega, by omega⟩, kk _ M4 ?_⟩⟩
    rw [e4, e3, e2]
    exact (((eqx.rfl' M).wi (Or.inl ⟨rfl, Or.inl rfl⟩)).wl).wi (Or.inr rfl)
  · refine kk _ M5 ?_
    rw [e5]
    exact (eqx.rfl' M).wi (Or.inl ⟨rfl, Or.inr rfl⟩)
theorem lg_nz {y : Int64} (h : ¬ (lg_cmp y (Int64.ofNat 0)).toInt = 0) : ¬ y = 0 := by
  intro e
  apply h
  rw [e]
  decide
theorem s_two {op : Int} {x y : Int64} {K : Int64 → rf_M → Prop} (ho : inr op) (kk : ∀ z M', eqx vww M M' → K z M') : wm_two op x y M K := by
  have k0 : ∀ z, K z M := fun z => kk z M (eqx.rfl' M)
  refine ⟨ho, fun _ => ⟨fun _ => k0 _, fun _ => k0 _⟩, fun _ => k0 _, fun _ => k0 _, fun _ => k0 _, fun _ => ⟨fun _ => k0 _, fun _ => k0 _⟩, fun _ => ⟨fun _ => k0 _, fun _ => k0 _⟩, fun _ => ⟨fun _ M1 e1 M2 e2 => kk _ M2 ?_, fun h => ⟨ho, fun _ => ⟨fun _ => k0 _, fun _ => ⟨lg_nz h, k0 _⟩⟩, fun _ => ⟨fun _ => k0 _, fun _ => ⟨lg_nz h, k0 _⟩⟩⟩⟩⟩
  rw [e2, e1]
  exact ((eqx.rfl' M).wi (Or.inl ⟨rfl, Or.inr rfl⟩)).wl
theorem stp_le {lim a b : Int} {d d' : Nat} (h : stp lim a b d = some d') (hd : d ≤ 63) : d' ≤ 63 := by
  unfold stp at h
  split at h
  · split at h
    · cases h; omega
    · cases h
  · split at h
    · split at h
      · rename_i z; cases h; omega
      · cases h
    · split at h
      · split at h
        · cases h; exact hd
        · cases h
      · split at h
        · cases h
        · split at h
          · cases h; omega
          · cases h
theorem wd_pre {A B : Nat → Int} {lim : Int} {s : Nat} : ∀ {k d : Nat}, wd A B lim s k = some d → ∀ j, j ≤ k → ∃ d', wd A B lim s j = some d' ∧ d' ≤ 63
  | 0, d, h, j, hj => by
    have : j = 0 := by omega
    subst this
    exact ⟨0, rfl, by omega⟩
  | k + 1, d, h, j, hj => by
    have h' : (wd A B lim s k).bind (fun d => stp lim (A (s + k)) (B (s + k)) d) = some d := h
    obtain ⟨d0, h1, h2⟩ := Option.bind_eq_some_iff.mp h'
    by_cases hjk : j = k + 1
    · subst hjk
      obtain ⟨d1, e1, e2⟩ := wd_pre h1 k (Nat.le_refl _)
      rw [h1] at e1
      cases e1
      exact ⟨d, h, stp_le h2 e2⟩
    · exact wd_pre h1 j (by omega)
theorem s_work {t c e : Nat} {rule lim : Int} {K : Int64 → rf_M → Prop} (hr : (rule = 0 ∧ lim = 26) ∨ (rule = 1 ∧ lim = 16)) (hc : cod M t c lim e) (hb : 200 * t + c ≤ 2400) (hw : gi M 353 42 = 0 ∨ gi M 353 42 = 1) (kk : ∀ z M', eqx vww M M' → K z M') : wm_work (e : Int) rule M K := by
  obtain ⟨k, k1, k2, k3, k4⟩ := hc
  refine ⟨fun m v2 v3 v4 M' => v2 = rule ∧ eqx vww M M' ∧ ∃ j d : Nat, v4 = ((e + j : Nat) : Int) ∧ j ≤ k ∧ wd (gi M 368) (gi M 369) lim e j = some d ∧ v3 = (d : Int) ∧ m = k - j, ⟨k, rfl, eqx.rfl' M, 0, 0, rfl, Nat.zero_le _, rfl, rfl, rfl⟩, ?_⟩
  rintro m v2 v3 v4 M' ⟨rfl, hx, j, d, rfl, j1, j2, rfl, j3⟩
  have q : ∀ a k, ¬ ((a = 353 ∧ (k = 52 ∨ k = 65)) ∨ a = 390) → gi M' a k = gi M a k := fun a k z => hx a k z
  have tn : (((e + j : Nat) : Int)).toNat = e + j := by omega
  have hw' : gi M' 353 42 = 0 ∨ gi M' 353 42 = 1 := by rw [q 353 42 (by omega)]; exact hw
  have hin : 0 ≤ ((e + j : Nat) : Int) ∧ ((e + j : Nat) : Int) < 2400 := ⟨by omega, by omega⟩
  have hv2 : inr v2 := by rcases hr with z | z <;> exact inr_z (by omega) (by omega)
  have fin : w_work_168 M' K := ⟨fun _ => ⟨⟨by omega, by omega⟩, kk _ M' hx⟩, fun _ => kk _ M' hx⟩
  show w_work_5b v2 (d : Int) ((e + j : Nat) : Int) M' _ K
  unfold w_work_5b
  rw [tn, q 368 (e + j) (by omega), q 369 (e + j) (by omega)]
  refine ⟨hin, fun _ => fin, fun n4 => ⟨fun _ => ?_, fun _ => fin⟩⟩
  have hjk : j < k := by
    rcases Nat.lt_or_ge j k with z | z
    · exact z
    · exact absurd (by rw [show j = k by omega]; exact k4) n4
  obtain ⟨d', w1, w2⟩ := wd_pre k3 (j + 1) (by omega)
  obtain ⟨dd, w3, w4⟩ := wd_pre k3 j (by omega)
  rw [j2] at w3
  cases w3
  have w1' : (wd (gi M 368) (gi M 369) lim e j).bind (fun d => stp lim (gi M 368 (e + j)) (gi M 369 (e + j)) d) = some d' := w1
  rw [j2] at w1'
  have w5 : stp lim (gi M 368 (e + j)) (gi M 369 (e + j)) d = some d' := w1'
  have nx : ∀ (M2 : rf_M) (x : Int), eqx vww M M2 → x = (d' : Int) → ∃ m', m' < m ∧ (v2 = v2 ∧ eqx vww M M2 ∧ ∃ j' d'' : Nat, ((e + j : Nat) : Int) + 1 = ((e + j' : Nat) : Int) ∧ j' ≤ k ∧ wd (gi M 368) (gi M 369) lim e j' = some d'' ∧ x = (d'' : Int) ∧ m' = k - j') := fun M2 x h2 e2 => ⟨k - (j + 1), by omega, rfl, h2, j + 1, d', by omega, by omega, w1, e2, rfl⟩
  unfold stp at w5
  refine ⟨hin, fun z1 => ⟨hin, ?_⟩, fun z1 => ⟨fun z2 => ⟨hv2, fun z3 => ⟨hin, ?_⟩, fun z3 => ⟨hin, ?_⟩⟩, fun z2 => ⟨fun z3 => ?_, fun z3 => ?_⟩⟩⟩
  · rw [if_pos z1] at w5
    split at w5
    · cases w5
      exact ⟨⟨by omega, by omega⟩, fun M5 e5 => nx M5 _ (by rw [e5]; exact hx.wl) (by omega)⟩
    · cases w5
  · rw [if_neg z1, if_pos z2] at w5
    split at w5
    · rename_i z4
      cases w5
      have hl : lim = 26 := by rcases hr with z | z <;> omega
      refine s_valueOf ⟨z4.1, by omega⟩ hw' (fun z M4 h4 => ⟨⟨by omega, by omega⟩, fun M5 e5 => nx M5 _ (by rw [e5]; exact (hx.trans h4).wl) (by omega)⟩)
    · cases w5
  · rw [if_neg z1, if_pos z2] at w5
    split at w5
    · rename_i z4
      cases w5
      have hl : lim = 16 := by rcases hr with z | z <;> omega
      exact ⟨⟨by omega, by omega⟩, ⟨by omega, by omega⟩, fun M5 e5 => nx M5 _ (by rw [e5]; exact hx.wl) (by omega)⟩
    · cases w5
  · rw [if_neg z1, if_neg z2, if_pos z3] at w5
    split at w5
    · cases w5
      exact ⟨⟨by omega, by omega⟩, ⟨by omega, by omega⟩, fun M3 e3 => nx M3 _ (by rw [e3]; exact hx.wl) rfl⟩
    · cases w5
  · rw [if_neg z1, if_neg z2, if_neg z3, if_neg n4] at w5
    split at w5
    · cases w5
      refine ⟨⟨by omega, by omega⟩, ⟨by omega, by omega⟩, s_two (inr_gi _ _ _) (fun z M1 h1 => ⟨⟨by omega, by omega⟩, fun M2 e2 => nx M2 _ (by rw [e2]; exact (hx.trans h1).wl) (by omega)⟩)⟩
    · cases w5
end WA
/-- statement x, and the first bodies of eithers and trys that it lies in have kept at most h -/
def kbs (M : rf_M) (t n h x : Nat) : Prop := ∃ A : Nat → Prop, A x ∧ ∀ y, A y → (40 * t ≤ y ∧ y < 40 * t + n) ∧ ∀ p : Nat, gi M 362 y = (p : Int) → A p ∧ (gi M 363 y = 0 → (gi M 360 p = 5 ∨ gi M 360 p = 7) → ∃ q : Nat, gi M 397 p = (q : Int) ∧ q ≤ h)
section WB
variable {M M' : rf_M} {t n h x : Nat}
theorem kbs.val (k : kbs M t n h x) : 40 * t ≤ x ∧ x < 40 * t + n := by
  obtain ⟨A, a1, a2⟩ := k
  exact (a2 x a1).1
theorem kbs.up {p : Nat} (k : kbs M t n h x) (hp : gi M 362 x = (p : Int)) : kbs M t n h p ∧ (gi M 363 x = 0 → (gi M 360 p = 5 ∨ gi M 360 p = 7) → ∃ q : Nat, gi M 397 p = (q : Int) ∧ q ≤ h) := by
  obtain ⟨A, a1, a2⟩ := k
  have := (a2 x a1).2 p hp
  exact ⟨⟨A, this.1, a2⟩, this.2⟩
theorem kbs.ins {y : Nat} (k : kbs M t n h x) (hy : 40 * t ≤ y ∧ y < 40 * t + n) (hp : ∀ p : Nat, gi M 362 y = (p : Int) → kbs M t n h p ∧ (gi M 363 y = 0 → (gi M 360 p = 5 ∨ gi M 360 p = 7) → ∃ q : Nat, gi M 397 p = (q : Int) ∧ q ≤ h)) : kbs M t n h y := by
  refine ⟨fun z => z = y ∨ kbs M t n h z, Or.inl rfl, fun z hz => ?_⟩
  rcases hz with rfl | hz
  · exact ⟨hy, fun p hp' => ⟨Or.inr (hp p hp').1, (hp p hp').2⟩⟩
  · exact ⟨hz.val, fun p hp' => ⟨Or.inr (hz.up hp').1, (hz.up hp').2⟩⟩
theorem kbs.sib {y : Nat} (k : kbs M t n h x) (hy : 40 * t ≤ y ∧ y < 40 * t + n) (e1 : gi M 362 y = gi M 362 x) (e2 : gi M 363 y = gi M 363 x) : kbs M t n h y := k.ins hy (fun p hp => by
  rw [e1] at hp
  rw [e2]
  exact k.up hp)
theorem kbs.kid {y : Nat} (k : kbs M t n h x) (hy : 40 * t ≤ y ∧ y < 40 * t + n) (e1 : gi M 362 y = (x : Int)) (e2 : gi M 363 y = 0 → (gi M 360 x = 5 ∨ gi M 360 x = 7) → ∃ q : Nat, gi M 397 x = (q : Int) ∧ q ≤ h) : kbs M t n h y := k.ins hy (fun p hp => by
  rw [e1] at hp
  have : p = x := by omega
  subst this
  exact ⟨k, e2⟩)
theorem kbs.eq {h' : Nat} (k : kbs M t n h x) (hh : h ≤ h') (q : ∀ a y, (a = 360 ∨ a = 362 ∨ a = 363 ∨ a = 397) → gi M' a y = gi M a y) : kbs M' t n h' x := by
  obtain ⟨A, a1, a2⟩ := k
  refine ⟨A, a1, fun y hy => ⟨(a2 y hy).1, fun p hp => ?_⟩⟩
  rw [q 362 y (by omega)] at hp
  obtain ⟨b1, b2⟩ := (a2 y hy).2 p hp
  refine ⟨b1, fun z1 z2 => ?_⟩
  rw [q 363 y (by omega)] at z1
  rw [q 360 p (by omega)] at z2
  obtain ⟨r, r1, r2⟩ := b2 z1 z2
  exact ⟨r, (q 397 p (by omega)).trans r1, by omega⟩
/-- a place: none, or a statement -/
def plc (M : rf_M) (t n h : Nat) (z : Int) : Prop := z = -1 ∨ ∃ y : Nat, z = (y : Int) ∧ kbs M t n h y
theorem plc.inr {z : Int} (k : plc M t n h z) (ht : t < 12) (hn : n ≤ 40) : inr z := by
  rcases k with z | ⟨y, y1, y2⟩
  · exact inr_z (by omega) (by omega)
  · have := y2.val
    exact inr_z (by omega) (by omega)
/-- the statements of a text, as the walk needs them -/
def twx (M : rf_M) (t n : Nat) : Prop := t < 12 ∧ n ≤ 40 ∧ ∀ x, 40 * t ≤ x → x < 40 * t + n → zs1 M t n x
theorem s_behind {K : Int → rf_M → Prop} (hT : twx M t n) (k : kbs M t n h x) (kk : ∀ z, plc M t n h z → K z M) : wm_behind (x : Int) M K := by
  obtain ⟨ht, hn, hs⟩ := hT
  refine ⟨fun m v M' => M' = M ∧ ((v = -1 ∧ m = 0) ∨ ∃ y : Nat, v = (y : Int) ∧ kbs M t n h y ∧ m = y + 1), ⟨x + 1, rfl, Or.inr ⟨x, rfl, k, rfl⟩⟩, ?_⟩
  rintro m v M' ⟨rfl, ⟨rfl, rfl⟩ | ⟨y, rfl, ky, rfl⟩⟩
  · exact ⟨inr_z (by omega) (by omega), fun _ => ⟨inr_z (by omega) (by omega), fun z => absurd z (by omega), fun _ => kk _ (Or.inl rfl)⟩, fun z => absurd (by omega) z⟩
  · have hv := ky.val
    obtain ⟨s1, s2, s3, s4, s5⟩ := hs y hv.1 hv.2
    have tn : ((y : Nat) : Int).toNat = y := by omega
    have iy : inr (y : Int) := inr_z (by omega) (by omega)
    have b2 : ∀ p : Nat, gi M' 362 y = (p : Int) → p < y := by
      intro p hp
      rcases s1 with z | ⟨p', p1, p2⟩
      · omega
      · omega
    show w_behind_2b (y : Int) M' _ K
    unfold w_behind_2b w_behind_38
    rw [tn]
    refine ⟨iy, fun z => absurd z (by omega), fun _ => ⟨⟨by omega, by omega⟩, fun z => ⟨iy, fun _ => ⟨⟨by omega, by omega⟩, ?_⟩, fun w => absurd (by omega) w⟩, fun z => ⟨⟨by omega, by omega⟩, fun z2 => ?_, fun z2 => ?_⟩⟩⟩
    · rcases s3 with w | ⟨y', y1, y2, y3, y4, y5⟩
      · omega
      · show K (gi M' 361 y) M'
        rw [y1]
        exact kk _ (Or.inr ⟨y', rfl, ky.sib ⟨by omega, y3⟩ y4 y5⟩)
    · rcases s1 with w | ⟨p, p1, p2⟩
      · exact ⟨0, by omega, rfl, Or.inl ⟨w, rfl⟩⟩
      · omega
    · rcases s1 with w | ⟨p, p1, p2⟩
      · omega
      · rw [p1, show ((p : Nat) : Int).toNat = p by omega]
        exact ⟨⟨by omega, by omega⟩, fun _ => kk _ (Or.inr ⟨p, rfl, (ky.up p1).1⟩), fun _ => ⟨p + 1, by omega, rfl, Or.inr ⟨p, rfl, (ky.up p1).1, rfl⟩⟩⟩
theorem s_around {kind : Int} {K : Int → rf_M → Prop} (hT : twx M t n) (k : kbs M t n h x) (hk : kind = 5 ∨ kind = 7) (k0 : K (-1) M) (kk : ∀ p : Nat, kbs M t n h p → gi M 360 p = kind → (∃ q : Nat, gi M 397 p = (q : Int) ∧ q ≤ h) → K (p : Int) M) : wm_around (x : Int) kind M K := by
  obtain ⟨ht, hn, hs⟩ := hT
  refine ⟨fun m v2 v M' => M' = M ∧ v2 = kind ∧ ((v = -1 ∧ m = 0) ∨ ∃ y : Nat, v = (y : Int) ∧ kbs M t n h y ∧ m = y + 1), ⟨x + 1, rfl, rfl, Or.inr ⟨x, rfl, k, rfl⟩⟩, ?_⟩
  rintro m v2 v M' ⟨rfl, rfl, ⟨rfl, rfl⟩ | ⟨y, rfl, ky, rfl⟩⟩
  · exact ⟨inr_z (by omega) (by omega), fun _ => k0, fun z => absurd (by omega) z⟩
  · have hv := ky.val
    obtain ⟨s1, s2, s3, s4, s5⟩ := hs y hv.1 hv.2
    have tn : ((y : Nat) : Int).toNat = y := by omega
    show w_around_2b v2 (y : Int) M' _ K
    unfold w_around_2b w_around_42
    rw [tn]
    refine ⟨inr_z (by omega) (by omega), fun z => absurd z (by omega), fun _ => ⟨⟨by omega, by omega⟩, fun z2 => ?_, fun z2 => ?_⟩⟩
    · rcases s1 with w | ⟨p, p1, p2⟩
      · exact ⟨0, by omega, rfl, rfl, Or.inl ⟨w, rfl⟩⟩
      · omega
    · rcases s1 with w | ⟨p, p1, p2⟩
      · omega
      · have up := ky.up p1
        have nx : ∃ m', m' < y + 1 ∧ (M' = M' ∧ v2 = v2 ∧ (((p : Nat) : Int) = -1 ∧ m' = 0 ∨ ∃ y : Nat, ((p : Nat) : Int) = (y : Int) ∧ kbs M' t n h y ∧ m' = y + 1)) := ⟨p + 1, by omega, rfl, rfl, Or.inr ⟨p, rfl, up.1, rfl⟩⟩
        rw [p1, show ((p : Nat) : Int).toNat = p by omega]
        refine ⟨⟨by omega, by omega⟩, inr_z (by omega) (by omega), fun z3 => ⟨⟨by omega, by omega⟩, fun z4 => kk p up.1 z3 (up.2 z4 (hk.imp (fun e => z3.trans e) (fun e => z3.trans e))), fun _ => nx⟩, fun _ => nx⟩
theorem s_goIn {v2 : Int} {K : rf_M → Prop} (hT : twx M t n) (k : kbs M t n h x) (h2 : plc M t n h v2) (kk : ∀ z M', plc M t n h z → M' = wi M 353 60 z → K M') : wm_goIn (x : Int) v2 M K := by
  have hv := k.val
  have ht := hT.1
  have hn := hT.2.1
  refine ⟨h2.inr ht hn, fun z => ⟨⟨by omega, by omega⟩, fun _ M1 e1 => kk _ M1 (Or.inr ⟨x, rfl, k⟩) e1, fun _ => s_behind hT k (fun z hz M1 e1 => kk z M1 hz e1)⟩, fun z M1 e1 => kk v2 M1 h2 e1⟩
/-- all ints are the same -/
def si (M M' : rf_M) : Prop := ∀ a k, gi M' a k = gi M a k
theorem s_keep {K : rf_M → Prop} (hx : x < 480) (kk : ∀ M', eqx (fun a k => (a = 394 ∨ a = 397) ∧ k = x) M M' → gi M' 397 x = gi M 353 58 → K M') : wm_keep (x : Int) M K := by
  have tn : ((x : Nat) : Int).toNat = x := by omega
  show w_keep (x : Int) M K
  unfold w_keep
  rw [tn]
  refine ⟨⟨by omega, by omega⟩, fun M1 e1 => ⟨⟨by omega, by omega⟩, fun M2 e2 => ?_⟩⟩
  have fin : ∀ M', si M2 M' → K M' := fun M' hs => kk M' (fun a k z => by rw [hs, e2, gi_of (by omega), e1, gi_of (by omega)]) (by rw [hs, e2, gi_at (inr_gi _ _ _), e1, gi_of (by omega)])
  refine ⟨fun m v1 v2 M' => v1 = (x : Int) ∧ si M2 M' ∧ ∃ j : Nat, v2 = (j : Int) ∧ j ≤ 16 ∧ m = 16 - j, ⟨16, rfl, fun _ _ => rfl, 0, rfl, by omega, rfl⟩, ?_⟩
  rintro m v1 v2 M3 ⟨rfl, h3, j, rfl, j1, j2⟩
  refine ⟨inr_z (by omega) (by omega), fun _ => ?_, fun z => ⟨⟨by omega, by omega⟩, ⟨by omega, by omega⟩, fun M4 e4 => ⟨16 - (j + 1), by omega, rfl, fun a k => by rw [e4]; exact h3 a k, j + 1, by omega, by omega, rfl⟩⟩⟩
  refine ⟨fun m v1 v2 M' => v1 = (x : Int) ∧ si M2 M' ∧ ∃ j : Nat, v2 = (j : Int) ∧ j ≤ 10 ∧ m = 10 - j, ⟨10, rfl, h3, 0, rfl, by omega, rfl⟩, ?_⟩
  rintro m v1 v2 M5 ⟨rfl, h5, i, rfl, i1, i2⟩
  exact ⟨inr_z (by omega) (by omega), fun _ => fin M5 h5, fun z => ⟨⟨by omega, by omega⟩, ⟨by omega, by omega⟩, fun M4 e4 => ⟨10 - (i + 1), by omega, rfl, fun a k => by rw [e4]; exact h5 a k, i + 1, by omega, by omega, rfl⟩⟩⟩
theorem s_bringBack {K : rf_M → Prop} (hx : x < 480) (kk : ∀ M', eqx (fun a k => a = 353 ∧ (k = 55 ∨ k = 58)) M M' → gi M' 353 58 = gi M 397 x → K M') : wm_bringBack (x : Int) M K := by
  have tn : ((x : Nat) : Int).toNat = x := by omega
  show w_bringBack (x : Int) M K
  unfold w_bringBack
  rw [tn]
  refine ⟨⟨by omega, by omega⟩, fun M1 e1 => ⟨⟨by omega, by omega⟩, fun M2 e2 => ?_⟩⟩
  have fin : ∀ M', si M2 M' → K M' := fun M' hs => kk M' (fun a k z => by rw [hs, e2, gi_of (by omega), e1, gi_of (by omega)]) (by rw [hs, e2, gi_at (inr_gi _ _ _), e1, gi_of (by omega)])
  refine ⟨fun m v1 v2 M' => v1 = (x : Int) ∧ si M2 M' ∧ ∃ j : Nat, v2 = (j : Int) ∧ j ≤ 16 ∧ m = 16 - j, ⟨16, rfl, fun _ _ => rfl, 0, rfl, by omega, rfl⟩, ?_⟩
  rintro m v1 v2 M3 ⟨rfl, h3, j, rfl, j1, j2⟩
  refine ⟨inr_z (by omega) (by omega), fun _ => ?_, fun z => ⟨⟨by omega, by omega⟩, ⟨by omega, by omega⟩, fun M4 e4 => ⟨16 - (j + 1), by omega, rfl, fun a k => by rw [e4]; exact h3 a k, j + 1, by omega, by omega, rfl⟩⟩⟩
  refine ⟨fun m v1 v2 M' => v1 = (x : Int) ∧ si M2 M' ∧ ∃ j : Nat, v2 = (j : Int) ∧ j ≤ 10 ∧ m = 10 - j, ⟨10, rfl, h3, 0, rfl, by omega, rfl⟩, ?_⟩
  rintro m v1 v2 M5 ⟨rfl, h5, i, rfl, i1, i2⟩
  exact ⟨inr_z (by omega) (by omega), fun _ => fin M5 h5, fun z => ⟨⟨by omega, by omega⟩, ⟨by omega, by omega⟩, fun M4 e4 => ⟨10 - (i + 1), by omega, rfl, fun a k => by rw [e4]; exact h5 a k, i + 1, by omega, by omega, rfl⟩⟩⟩
end WB
