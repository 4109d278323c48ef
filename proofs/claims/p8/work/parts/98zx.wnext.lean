/-! the reference's next(), anew: what is known of it (88b) in the other kind of formula, and a number's value -/
/-- the byte at k -/
def Bt (M : rf_M) (k : Nat) : Int := (Int32.ofInt (gi M 354 k) &&& Int32.ofInt 255).toInt
def lv64 (B : Nat → Int) (q : Nat) : Nat → Int64
  | 0 => Int64.ofNat 0
  | k + 1 => (((Int64.ofNat 10) * lv64 B q k) + (Int32.ofInt (B (q + k))).toInt64) - (Int64.ofNat 48)
/-- no number, or its value lies there -/
def nmv (M0 M' : rf_M) : Prop := gi M' 353 4 ≠ 3 ∨ ∃ q k : Nat, gi M' 353 5 = (q : Int) ∧ gi M' 353 3 = ((q + k : Nat) : Int) ∧ (48 ≤ Bt M0 q ∧ Bt M0 q ≤ 57) ∧ gl M' 353 7 = lv64 (Bt M0) q (min k 9)
/-- what byteAt may answer -/
def bta (M : rf_M) (v z : Int) : Prop := (gi M 353 2 ≤ v ∧ z = -1) ∨ (¬ gi M 353 2 ≤ v ∧ (0 ≤ v ∧ v < 800) ∧ z = Bt M v.toNat)
section WNX
variable {M M0 : rf_M} {v1 v2 s0 s1 : Int} {v3 : Int64} {b0 b0' : rf_M → Prop} {b79 b79' : Int → Int → Int64 → rf_M → Prop} {b202 b202' : Int → rf_M → Prop} {K K' : rf_M → Prop}
theorem Bt_eq (y : eqy nxw M0 M) (k : Nat) : Bt M k = Bt M0 k := by
  unfold Bt
  rw [y.i (by unfold nxw; omega)]
theorem we_byteAt {v : Int} {K K' : Int → rf_M → Prop} (h : wm_byteAt v M K) (k : ∀ z, bta M v z → K z M → K' z M) : em_W_byteAt v M K' := ⟨fun q => k _ (Or.inl ⟨q, rfl⟩) (h.2.1 q), fun q r => k _ (Or.inr ⟨q, r, rfl⟩) (h.2.2 q).2⟩
theorem we_isSmall {v : Int} {K K' : Int → rf_M → Prop} (h : wm_isSmall v M K) (k : ∀ z, K z M → K' z M) : em_W_isSmall v M K' := ⟨fun q => ⟨Or.inl rfl, k _ (h.2.1 q).2⟩, fun q => ⟨fun q1 => ⟨Or.inl rfl, k _ (((h.2.2 q).2.1 q1).2)⟩, fun q1 => ⟨Or.inr rfl, k _ (((h.2.2 q).2.2 q1).2)⟩⟩⟩
theorem we_isFigure {v : Int} {K K' : Int → rf_M → Prop} (h : wm_isFigure v M K) (k : ∀ z, (z = 0 ∨ (48 ≤ v ∧ v ≤ 57)) → K z M → K' z M) : em_W_isFigure v M K' := ⟨fun q => ⟨Or.inl rfl, k _ (Or.inl rfl) (h.2.1 q).2⟩, fun q => ⟨fun q1 => ⟨Or.inl rfl, k _ (Or.inl rfl) (((h.2.2 q).2.1 q1).2)⟩, fun q1 => ⟨Or.inr rfl, k _ (Or.inr ⟨by omega, by omega⟩) (((h.2.2 q).2.2 q1).2)⟩⟩⟩
theorem we_isSignByte {v : Int} {K K' : Int → rf_M → Prop} (h : wm_isSignByte v M K) (k : ∀ z, K z M → K' z M) : em_W_isSignByte v M K' := ⟨fun q => k _ (h.2.1 q), fun q => k _ (h.2.2.1 q), fun q => k _ (h.2.2.2.1 q), fun q => k _ (h.2.2.2.2.1 q), fun q => k _ (h.2.2.2.2.2.1 q), fun q => k _ (h.2.2.2.2.2.2.1 q), fun q => k _ (h.2.2.2.2.2.2.2.1 q), fun q => k _ (h.2.2.2.2.2.2.2.2.1 q), fun q => k _ (h.2.2.2.2.2.2.2.2.2.1 q), fun q => k _ (h.2.2.2.2.2.2.2.2.2.2.1 q), fun q => k _ (h.2.2.2.2.2.2.2.2.2.2.2.1 q), fun q => k _ (h.2.2.2.2.2.2.2.2.2.2.2.2.1 q), fun q => k _ (h.2.2.2.2.2.2.2.2.2.2.2.2.2.1 q), fun q => k _ (h.2.2.2.2.2.2.2.2.2.2.2.2.2.2 q)⟩
theorem we_wordOf {v : Int64} {K K' : Int → rf_M → Prop} (h : wm_wordOf v M K) (k : ∀ z : Int, z ≤ 9 → K z M → K' z M) : em_W_wordOf v M K' := ⟨fun p0 => k _ (by decide) ((h).1 p0), fun q0 => ⟨fun p1 => k _ (by decide) (((h).2 q0).1 p1), fun q1 => ⟨fun p2 => k _ (by decide) ((((h).2 q0).2 q1).1 p2), fun q2 => ⟨fun p3 => k _ (by decide) (((((h).2 q0).2 q1).2 q2).1 p3), fun q3 => ⟨fun p4 => k _ (by decide) ((((((h).2 q0).2 q1).2 q2).2 q3).1 p4), fun q4 => ⟨fun p5 => k _ (by decide) (((((((h).2 q0).2 q1).2 q2).2 q3).2 q4).1 p5), fun q5 => ⟨fun p6 => k _ (by decide) ((((((((h).2 q0).2 q1).2 q2).2 q3).2 q4).2 q5).1 p6), fun q6 => ⟨fun p7 => k _ (by decide) (((((((((h).2 q0).2 q1).2 q2).2 q3).2 q4).2 q5).2 q6).1 p7), fun q7 => ⟨fun p8 => k _ (by decide) ((((((((((h).2 q0).2 q1).2 q2).2 q3).2 q4).2 q5).2 q6).2 q7).1 p8), fun q8 => ⟨fun p9 => k _ (by decide) (((((((((((h).2 q0).2 q1).2 q2).2 q3).2 q4).2 q5).2 q6).2 q7).2 q8).1 p9), fun q9 => k _ (by decide) (((((((((((h).2 q0).2 q1).2 q2).2 q3).2 q4).2 q5).2 q6).2 q7).2 q8).2 q9)⟩⟩⟩⟩⟩⟩⟩⟩⟩⟩
theorem byteAt_some {v : Int} {K : Int → rf_M → Prop} (h : wm_byteAt v M K) : ∃ z, K z M := by
  by_cases q : gi M 353 2 ≤ v
  · exact ⟨_, h.2.1 q⟩
  · exact ⟨_, (h.2.2 q).2⟩
theorem isSmall_some {v : Int} {K : Int → rf_M → Prop} (h : wm_isSmall v M K) : K 0 M ∨ K 1 M := by
  by_cases q : v < 97
  · exact Or.inl (h.2.1 q).2
  · by_cases q1 : 122 < v
    · exact Or.inl ((h.2.2 q).2.1 q1).2
    · exact Or.inr ((h.2.2 q).2.2 q1).2
theorem isFigure_some {v : Int} {K : Int → rf_M → Prop} (h : wm_isFigure v M K) : K 0 M ∨ K 1 M := by
  by_cases q : v < 48
  · exact Or.inl (h.2.1 q).2
  · by_cases q1 : 57 < v
    · exact Or.inl ((h.2.2 q).2.1 q1).2
    · exact Or.inr ((h.2.2 q).2.2 q1).2
theorem i_79b (h : w_next_79b v1 v2 v3 M b79 K) : inr v2 := by
  obtain ⟨z, h1⟩ := byteAt_some h
  rcases isSmall_some h1 with g | g
  · exact (g.2.1 rfl _ rfl).1
  · exact (g.2.2 (by decide)).1
theorem i_202b (h : w_next_202b v2 M b202 K) : inr v2 := by
  obtain ⟨z, h1⟩ := byteAt_some h
  rcases isFigure_some h1 with g | g
  · exact (g.2.1 rfl).1
  · exact (g.2.2 (by decide)).1
theorem we_182 (y : eqy nxw M0 M) (hK : ∀ M', K M' → eqy nxw M0 M' → nmv M0 M' → K' M') (i1 : inr s1) (n1 : s1 ≠ 3) (h : w_next_182 s1 M K) : e_W_next_182 s1 M K' := fun M1 e1 => hK M1 (h M1 e1) (by rw [e1]; exact y.wi ⟨rfl, by omega, by omega⟩) (Or.inl (by rw [e1, gi_at i1]; exact n1))
theorem we_283 (y : eqy nxw M0 M) (hK : ∀ M', K M' → eqy nxw M0 M' → nmv M0 M' → K' M') (n1 : ∀ M1, M1 = wi M 353 4 s1 → nmv M0 M1) (h : w_next_283 s1 M K) : e_W_next_283 s1 M K' := fun M1 e1 => hK M1 (h M1 e1) (by rw [e1]; exact y.wi ⟨rfl, by omega, by omega⟩) (n1 M1 e1)
theorem we_307 (y : eqy nxw M0 M) (hK : ∀ M', K M' → eqy nxw M0 M' → nmv M0 M' → K' M') (i1 : inr s1) (n1 : s1 ≠ 3) (h : w_next_307 s1 M K) : e_W_next_307 s1 M K' := fun M1 e1 M2 e2 => hK M2 (h M1 e1 M2 e2) (by rw [e2, e1]; exact (y.wi ⟨rfl, by omega, by omega⟩).wi ⟨rfl, by omega, by omega⟩) (Or.inl (by rw [e2, gi_of (Or.inr (by omega)), e1, gi_at i1]; exact n1))
theorem we_156 (y : eqy nxw M0 M) (hK : ∀ M', K M' → eqy nxw M0 M' → nmv M0 M' → K' M') (hs : s0 ≤ 9) (h : w_next_156 v2 s0 M K) : e_W_next_156 v2 s0 M K' := ⟨fun q => we_182 y hK (inr_z (by omega) (by omega)) (by decide) (h.2.1 q), fun q => ⟨fun q1 => ⟨inr_z (by omega) (by omega), we_182 y hK (inr_z (by omega) (by omega)) (by omega) ((h.2.2 q).2.1 q1)⟩, fun q1 => we_182 y hK (inr_z (by omega) (by omega)) (by decide) ((h.2.2 q).2.2 q1)⟩⟩
theorem we_117 (y : eqy nxw M0 M) (hI : ∀ v1 v2 v3 M1, b79 v1 v2 v3 M1 → inr v2) (hb : ∀ v1 v2 v3 M1, b79 v1 v2 v3 M1 → eqy nxw M0 M1 → b79' v1 v2 v3 M1) (h : w_next_117 v1 v2 v3 M b79 K) : e_W_next_117 v1 v2 v3 M b79' K' := fun M1 e1 => ⟨hI _ _ _ _ (h M1 e1), hb _ _ _ _ (h M1 e1) (by rw [e1]; exact y.wi ⟨rfl, by omega, by omega⟩)⟩
theorem we_79b (y : eqy nxw M0 M) (hK : ∀ M', K M' → eqy nxw M0 M' → nmv M0 M' → K' M') (hI : ∀ v1 v2 v3 M1, b79 v1 v2 v3 M1 → inr v2) (hb : ∀ v1 v2 v3 M1, b79 v1 v2 v3 M1 → eqy nxw M0 M1 → b79' v1 v2 v3 M1) (h : w_next_79b v1 v2 v3 M b79 K) : e_W_next_79b v1 v2 v3 M b79' K' := by
  refine we_byteAt h (fun z1 _ h1 => we_isSmall h1 (fun z2 h2 => ⟨fun q M3 e3 => ?_, fun q => ?_⟩))
  · have g := h2.2.1 q M3 e3
    have y3 : eqy nxw M0 M3 := by rw [e3]; exact y.wi ⟨rfl, by omega, by omega⟩
    exact ⟨fun q7 => we_156 y3 hK (by decide) (g.2.1 q7), fun q7 => we_wordOf (g.2.2 q7) (fun z4 b4 h4 => we_156 y3 hK b4 h4)⟩
  · have g := h2.2.2 q
    exact ⟨fun q7 => we_117 y hI hb (g.2.1 q7), fun q7 => we_byteAt (g.2.2 q7) (fun z5 _ h5 => we_117 y hI hb h5)⟩
theorem we_79 (y : eqy nxw M0 M) (hK : ∀ M', K M' → eqy nxw M0 M' → nmv M0 M' → K' M') (h : w_next_79 v1 v2 v3 M K) : e_W_next_79 v1 v2 v3 M K' := by
  obtain ⟨Inv, h0, hs⟩ := h
  refine ⟨fun v1 v2 v3 M' => (∃ m, Inv m v1 v2 v3 M') ∧ eqy nxw M0 M', ⟨h0, y⟩, ?_⟩
  rintro v1 v2 v3 M' - - ⟨⟨m, hm⟩, y'⟩
  refine we_79b y' hK ?_ ?_ (hs m v1 v2 v3 M' hm)
  · rintro w1 w2 w3 M1 ⟨m', -, hm'⟩
    exact i_79b (hs m' _ _ _ _ hm')
  · rintro w1 w2 w3 M1 ⟨m', -, hm'⟩ y1
    exact ⟨⟨m', hm'⟩, y1⟩
/-- within a number -/
def wiN (M0 : rf_M) (v2 : Int) (M : rf_M) : Prop := ∃ q k : Nat, v2 = (k : Int) ∧ gi M 353 5 = (q : Int) ∧ gi M 353 3 = ((q + k : Nat) : Int) ∧ (48 ≤ Bt M0 q ∧ Bt M0 q ≤ 57) ∧ gl M 353 7 = lv64 (Bt M0) q (min k 9)
theorem we_252 (y : eqy nxw M0 M) (hp : gi M 353 3 < gi M 353 2) {k q : Nat} (e5 : gi M 353 5 = (q : Int)) (e3 : gi M 353 3 = ((q + k : Nat) : Int)) (hv : v2 = (k : Int)) (hq : 48 ≤ Bt M0 q ∧ Bt M0 q ≤ 57) (hx : v3 = lv64 (Bt M0) q (min (k + 1) 9)) (hI : ∀ v2 M1, b202 v2 M1 → inr v2) (hb : ∀ v2 M1, b202 v2 M1 → eqy nxw M0 M1 → wiN M0 v2 M1 → b202' v2 M1) (h : w_next_252 v2 v3 M b202 K) : e_W_next_252 v2 v3 M b202' K' := fun M1 e1 M2 e2 => by
  refine ⟨hI _ _ (h M1 e1 M2 e2), hb _ _ (h M1 e1 M2 e2) (by rw [e2, e1]; exact (y.wl ⟨rfl, by omega, by omega⟩).wi ⟨rfl, by omega, by omega⟩) ⟨q, k + 1, by omega, ?_, ?_, hq, ?_⟩⟩
  · rw [e2, gi_of (Or.inr (by omega)), e1, gi_wl]; exact e5
  · have g1 : gi M1 353 3 = gi M 353 3 := by rw [e1, gi_wl]
    have i2 := inr_gi M 353 2
    rw [e2, gi_at ⟨by rw [g1]; omega, by rw [g1]; have := i2.2; omega⟩, g1, e3]
    omega
  · rw [e2, gl_wi, e1, gl_at]; exact hx
theorem we_202b (y : eqy nxw M0 M) (hK : ∀ M', K M' → eqy nxw M0 M' → nmv M0 M' → K' M') (hw : wiN M0 v2 M) (hI : ∀ v2 M1, b202 v2 M1 → inr v2) (hb : ∀ v2 M1, b202 v2 M1 → eqy nxw M0 M1 → wiN M0 v2 M1 → b202' v2 M1) (h : w_next_202b v2 M b202 K) : e_W_next_202b v2 M b202' K' := by
  obtain ⟨q, k, w1, w2, w3, w4, w5⟩ := hw
  refine we_byteAt h (fun z1 a1 h1 => we_isFigure h1 (fun z2 a2 h2 => ⟨fun q0 => ?_, fun q0 => ?_⟩))
  · have g := h2.2.1 q0
    refine ⟨fun q7 => we_283 y hK (fun M1 e1 => Or.inr ⟨q, k, ?_, ?_, w4, ?_⟩) (g.2.1 q7), fun q7 => we_283 y hK (fun M1 e1 => Or.inl ?_) (g.2.2 q7)⟩
    · rw [e1, gi_of (Or.inr (by omega))]; exact w2
    · rw [e1, gi_of (Or.inr (by omega))]; exact w3
    · rw [e1, gl_wi]; exact w5
    · rw [e1, gi_at (inr_z (by omega) (by omega))]; decide
  · have g := h2.2.2 q0
    have hp : gi M 353 3 < gi M 353 2 := by
      rcases a1 with ⟨_, z⟩ | ⟨z, _⟩
      · omega
      · omega
    refine ⟨fun q7 => we_252 y hp w2 w3 w1 w4 (by rw [w5, show min (k + 1) 9 = min k 9 by omega]) hI hb (g.2.1 q7), fun q7 => we_byteAt (g.2.2 q7) (fun z5 a5 h5 => we_252 y hp w2 w3 w1 w4 ?_ hI hb h5)⟩
    have hz : z5 = Bt M0 (q + k) := by
      rcases a5 with ⟨z, _⟩ | ⟨_, _, z⟩
      · omega
      · rw [z, w3, tn_, Bt_eq y]
    rw [show min (k + 1) 9 = k + 1 by omega, hz, w5, show min k 9 = k by omega]
    rfl
theorem we_202 (y : eqy nxw M0 M) (hK : ∀ M', K M' → eqy nxw M0 M' → nmv M0 M' → K' M') (hw : wiN M0 v2 M) (h : w_next_202 v2 M K) : e_W_next_202 v2 M K' := by
  obtain ⟨Inv, h0, hs⟩ := h
  refine ⟨fun v2 M' => (∃ m, Inv m v2 M') ∧ eqy nxw M0 M' ∧ wiN M0 v2 M', ⟨h0, y, hw⟩, ?_⟩
  rintro v2 M' - ⟨⟨m, hm⟩, y', hw'⟩
  refine we_202b y' hK hw' ?_ ?_ (hs m v2 M' hm)
  · rintro w2 M1 ⟨m', -, hm'⟩
    exact i_202b (hs m' _ _ hm')
  · rintro w2 M1 ⟨m', -, hm'⟩ y1 hw1
    exact ⟨⟨m', hm'⟩, y1, hw1⟩
theorem we_26 (y : eqy nxw M0 M) (hb : ∀ M1, b0 M1 → eqy nxw M0 M1 → b0' M1) (h : w_next_26 M b0 K) : e_W_next_26 M b0' K' := fun M1 e1 => hb M1 (h M1 e1) (by rw [e1]; exact y.wi ⟨rfl, by omega, by omega⟩)
theorem we_0b (y : eqy nxw M0 M) (hK : ∀ M', K M' → eqy nxw M0 M' → nmv M0 M' → K' M') (hb : ∀ M1, b0 M1 → eqy nxw M0 M1 → b0' M1) (h : w_next_0b M b0 K) : e_W_next_0b M b0' K' := by
  refine we_byteAt h (fun z1 _ h1 => ⟨fun q => we_26 y hb (h1.2.1 q), fun q => we_byteAt (h1.2.2 q) (fun z2 _ h2 => ⟨fun q2 => we_26 y hb (h2.2.1 q2), fun q2 M3 e3 => ?_⟩)⟩)
  have y3 : eqy nxw M0 M3 := by rw [e3]; exact y.wi ⟨rfl, by omega, by omega⟩
  have p3 : gi M3 353 3 = gi M 353 3 := by rw [e3, gi_of (Or.inr (by omega))]
  have p5 : gi M3 353 5 = gi M 353 3 := by rw [e3, gi_at (inr_gi _ _ _)]
  refine we_byteAt (h2.2.2 q2 M3 e3) (fun z4 a4 h4 => ⟨fun q4 => we_isSmall (h4.2.1 q4) (fun z5 h5 => ⟨fun q5 => we_isFigure (h5.2.1 q5) (fun z6 a6 h6 => ⟨fun q6 M7 e7 => ?_, fun q6 M9 e9 => ?_⟩), fun q5 => we_79 y3 hK (h5.2.2 q5)⟩), fun q4 M10 e10 => hK M10 (h4.2.2 q4 M10 e10) (by rw [e10]; exact y3.wi ⟨rfl, by omega, by omega⟩) (Or.inl (by rw [e10, gi_at ir_0]; decide))⟩)
  · have y7 : eqy nxw M0 M7 := by rw [e7]; exact y3.wi ⟨rfl, by omega, by omega⟩
    exact we_isSignByte (h6.2.1 q6 M7 e7) (fun z8 h8 => ⟨fun q8 => we_307 y7 hK (inr_z (by omega) (by omega)) (by decide) (h8.2.1 q8), fun q8 => we_307 y7 hK (inr_z (by omega) (by omega)) (by decide) (h8.2.2 q8)⟩)
  · have y9 : eqy nxw M0 M9 := by rw [e9]; exact y3.wl ⟨rfl, by omega, by omega⟩
    rcases a4 with ⟨_, z⟩ | ⟨_, z1, z2⟩
    · exact absurd q4 (by omega)
    refine we_202 y9 hK ⟨(gi M 353 3).toNat, 0, rfl, ?_, ?_, ?_, ?_⟩ (h6.2.2 q6 M9 e9)
    · rw [e9, gi_wl, p5]; omega
    · rw [e9, gi_wl, p3]; omega
    · rw [p3, Bt_eq y3] at z2
      omega
    · rw [e9, gl_at]; rfl
theorem we_next (hK : ∀ M', K M' → eqy nxw M M' → nmv M M' → K' M') (h : wm_next M K) : em_W_next M K' := by
  obtain ⟨Inv, h0, hs⟩ := h
  refine ⟨fun M' => (∃ m, Inv m M') ∧ eqy nxw M M', ⟨h0, eqy.rfl' M⟩, ?_⟩
  rintro M' ⟨⟨m, hm⟩, y'⟩
  refine we_0b y' hK ?_ (hs m M' hm)
  rintro M1 ⟨m', -, hm'⟩ y1
  exact ⟨⟨m', hm'⟩, y1⟩
/-- the next token -/
theorem x_next {T : tK} {i : Nat} (h : nxk M T i) (kk : ∀ M', eqy nxw M M' → nmv M M' → mtk M' T i → K M') : em_W_next M K := we_next (K := fun M' => mtk M' T i) (fun M' a b c => kk M' b c a) (s_next h (fun M' _ q => q))
end WNX
