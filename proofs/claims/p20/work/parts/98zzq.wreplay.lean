/-! THE REFERENCE'S replays() leaves all as it was -/
def rvw (c0 : Nat) (rows : List rwT) : Prop := ∀ i, i < rows.length → ∃ x : Nat, (rows.getD i ((0, 0, 0, 0, 0), 0)).1.2.2.1 = (x : Int) ∧ (((rows.getD i ((0, 0, 0, 0, 0), 0)).1.1 = 0 ∧ x < 16) ∨ (¬ (rows.getD i ((0, 0, 0, 0, 0), 0)).1.1 = 0 ∧ x < c0))
def rpI (M : rf_M) (Ts : tsT) (c0 : Nat) (S : syT) : Prop := RRS M Ts c0 S ∧ gi M 353 42 = 1 ∧ ∃ rs, rrs M Ts 1 rs ∧ (∀ q ∈ rs, q.1 < c0 ∧ vld (Ts q.1).1 (Ts q.1).2.1 q.2) ∧ rs.length ≤ 32
section WRP
variable {M M' : rf_M} {c0 : Nat} {K : Int → rf_M → Prop} {Ts : tsT} {S : syT} {P : Nat → Nat → Prop}
theorem rpI.eq (hS : SI Ts c0 S) (h : rpI M Ts c0 S) (e : eqy P M M') (q : ∀ b k, pvR b k ∨ (b = 353 ∧ k = 42) ∨ (b = 378 ∧ k = 1) ∨ b = 379 → ¬ P b k) : rpI M' Ts c0 S := by
  obtain ⟨h1, h2, rs, h3, h4, h5⟩ := h
  refine ⟨h1.eq hS e (fun b k z => q b k (Or.inl z)), (e.i (q _ _ (Or.inr (Or.inl ⟨rfl, rfl⟩)))).trans h2, rs, ⟨(e.i (q _ _ (Or.inr (Or.inr (Or.inl ⟨rfl, rfl⟩))))).trans h3.1, fun j hj => (e.i (q _ _ (Or.inr (Or.inr (Or.inr rfl))))).trans (h3.2 j hj)⟩, h4, h5⟩
theorem rvw_of (h : RRS M Ts c0 S) (hI : mIn M c0) : rvw c0 S.2.2.2 := by
  obtain ⟨r, r1, r2, r3⟩ := hI.2.2.2.2.2
  obtain ⟨-, -, -, -, w1, w2⟩ := h
  intro i hi
  obtain ⟨x, x1, x2⟩ := r3 i (by omega)
  obtain ⟨a1, -, a3, -⟩ := w2 i hi
  refine ⟨x, a3.symm.trans x1, ?_⟩
  rw [← a1]
  exact x2
theorem ocW_le (o : Nat) : 0 ≤ ocW o ∧ ocW o ≤ 4 := by
  unfold ocW
  split
  · omega
  split
  · omega
  split
  · omega
  split
  · omega
  · omega
theorem wq_rfl (w : wdT) : weq w w := fun _ _ => ⟨rfl, rfl⟩
theorem y_cts {i : Nat} (hS : SI Ts c0 S) (hV : rvw c0 S.2.2.2) (hi : i < S.2.2.2.length) (h : rpI M Ts c0 S) (kk : ∀ z M', (z = 0 ∨ z = 1) → rpI M' Ts c0 S → K z M') : em_W_comesToSame (i : Int) M K := by
  obtain ⟨x, hx, hk⟩ := hV i hi
  obtain ⟨a1, -, a3, -⟩ := h.1.2.2.2.2.2 i hi
  have e402 : gi M 402 i = (x : Int) := a3.trans hx
  have h12 := hS.1.1
  show e_W_comesToSame (i : Int) M K
  unfold e_W_comesToSame
  rw [tn_, e402]
  intro _
  refine ⟨fun k0 _ _ => ?_, fun k1 _ => ?_⟩
  · have x16 : x < 16 := by
      rcases hk with w | w
      · exact w.2
      · exact absurd (a1.symm.trans k0) w.1
    refine ⟨inr_z (by omega) (by omega), fun _ M2 e2 _ => ?_⟩
    have f402 : gi M2 402 i = (x : Int) := by rw [e2, gi_wl]; exact e402
    rw [f402]
    refine ⟨inr_z (by omega) (by omega), fun _ _ M3 e3 => kk 1 M3 (Or.inr rfl) (h.eq hS (P := fun b k => (b = 376 ∨ b = 377) ∧ 16 ≤ k) ?_ (fun b k z => by unfold pvR at z; omega))⟩
    rw [e3, e2]
    exact ((eqy.rfl' M).wl ⟨Or.inl rfl, by omega⟩).wi ⟨Or.inr rfl, by omega⟩
  · have hxc : x < c0 := by
      rcases hk with w | w
      · exact absurd (a1.trans w.1) k1
      · exact w.2
    have hX := hS.1.2 x hxc
    intro M1 e1
    have y1 : eqy (fun b k => b = 353 ∧ k = 52) M M1 := by rw [e1]; exact (eqy.rfl' M).wi ⟨rfl, rfl⟩
    have h1 : rpI M1 Ts c0 S := h.eq hS y1 (fun b k z => by unfold pvR at z; omega)
    have r1 : req rd0 (rR M1) := by
      refine ⟨?_, fun l _ b => ?_⟩
      · refine Int32.toInt_inj.mp ?_
        show gi M1 353 52 = _
        rw [e1, gi_at (inr_z (by omega) (by omega))]
        rfl
      · have : bt 0 l = true := b
        rw [bt_0] at this
        cases this
    refine y_beginWalk (t := x) (by omega) hX (h1.1.1 x hxc) r1 (fun M2 y2 R2 => ?_)
    have h2 : rpI M2 Ts c0 S := h1.eq hS y2 (fun b k z => by unfold pvR at z; omega)
    refine ⟨fun v1 v2 v3 N => v1 = (i : Int) ∧ (∃ k : Nat, v2 = (k : Int) ∧ k ≤ 300 ∧ ∃ g r, rnW N x (Ts x).1 (Ts x).2.1 (Ts x).2.2.1 (Ts x).2.2.2 g r ∧ gvl (Ts x).1 (Ts x).2.1 k g) ∧ rpI N Ts c0 S ∧ (0 ≤ v3 ∧ v3 ≤ 4), ⟨rfl, ⟨0, rfl, by omega, _, _, R2, gvl_0 hX⟩, h2, by omega⟩, ?_⟩
    rintro v1 v2 v3 N - - - ⟨rfl, ⟨k, rfl, hk3, g, r, R, G⟩, hN, hv⟩
    have h165 : ∀ (v2 v4 : Int) (v5 : Int64) (N' : rf_M), rpI N' Ts c0 S → e_W_comesToSame_165 (i : Int) v2 v4 v5 N' K := by
      intro v2 v4 v5 N' hN'
      have k1 : e_W_comesToSame_215 N' K := ⟨Or.inr rfl, kk 1 N' (Or.inr rfl) hN'⟩
      have k0 : e_W_comesToSame_219 N' K := ⟨Or.inl rfl, kk 0 N' (Or.inl rfl) hN'⟩
      exact fun _ => ⟨fun _ => ⟨fun _ _ => ⟨fun _ => k1, fun _ => k0⟩, fun _ _ => ⟨fun _ _ => ⟨fun _ => k1, fun _ => k0⟩, fun _ => k0⟩⟩, fun _ => k0⟩
    have h154 : ∀ N', rpI N' Ts c0 S → e_W_comesToSame_154 N' K := fun N' hN' => kk 0 N' (Or.inl rfl) hN'
    have h156 : ∀ (v2 : Int) (v5 : Int64) (N' : rf_M), rpI N' Ts c0 S → e_W_comesToSame_156 (i : Int) v2 1 v5 N' K := fun v2 v5 N' hN' => ⟨fun w => absurd w (by decide), fun _ => h165 v2 1 v5 N' hN'⟩
    have fin : e_W_comesToSame_85 (i : Int) (k : Int) v3 N K := by
      refine ⟨fun z2 => ⟨fun w => absurd w (by omega), fun _ => ⟨fun w => absurd w (by omega), fun _ => ⟨fun w => absurd w (by omega), fun _ => ⟨fun w => absurd w (by omega), fun _ => h156 _ _ N hN⟩⟩⟩⟩, fun z2 => ⟨fun _ => ⟨inr_z (by omega) (by omega), h156 _ _ N hN⟩, fun z0 => ⟨fun z4 => ?_, fun z4 => ⟨fun _ => h154 N hN, fun z3 => ⟨fun _ => h154 N hN, fun z1 => absurd hv (by omega)⟩⟩⟩⟩⟩
      obtain ⟨hw, GG⟩ := R.2.2.2.1
      obtain ⟨cn, hcn⟩ : ∃ c : Nat, g.2.1.2.2.2 = (c : Int) := ⟨g.2.1.2.2.2.toNat, by have := GG.2.1; omega⟩
      have hcnw : cn ≤ hw := by have := GG.2.1.2; omega
      obtain ⟨gp, ghw, ghk, g2, g3, g4⟩ := G
      obtain ⟨hR0, h42, rs, hrs, hmem, h32⟩ := id hN
      have hro : rok Ts c0 rs := fun j hj => hmem (rs.getD j (0, 0)) (by rw [gD_ hj]; exact List.getElem_mem hj)
      have hrl : ∀ j, j < cn → gi N 393 j = rex Ts (x, g.2.2.1 j) := fun j hj => GG.2.2.1 j (by omega)
      have hvl : ∀ j, j < cn → vld (Ts x).1 (Ts x).2.1 (g.2.2.1 j) := fun j hj => g3 j (by omega)
      refine y_isWell (S := (wR N 1, rs, S.2.2)) (g := g) (d := 1) (c := cn) (t := x) hS.1 hxc hR0.1 (by rw [h42]; rfl) (by omega) (wq_rfl _) hrs hro h32 GG.1 hcn (by omega) hrl hvl (fun N3 y3 => ?_)
      have nw : ∀ b k, ¬ (b = 353 ∧ (k = 52 ∨ k = 65 ∨ k = 66)) → ¬ (b = 389 ∨ b = 390 ∨ b = 398 ∨ b = 399) → ¬ wwW b k := fun b k h1 h2 => by unfold wwW wkW; omega
      have hN3 : rpI N3 Ts c0 S := hN.eq hS y3 (fun b k a => by unfold pvR at a; unfold wwW wkW; omega)
      by_cases hwel : wel Ts (wR N 1, rs, S.2.2) x g = true
      · rw [if_pos hwel]
        refine ⟨fun w => absurd w (by decide), fun _ => ⟨fun w => absurd w (by omega), fun _ => ⟨fun w => absurd w (by omega), fun _ => ⟨fun _ => ?_, fun w => absurd rfl w⟩⟩⟩⟩
        have hwl := hwel
        unfold wel at hwl
        rw [Bool.and_eq_true, decide_eq_true_eq] at hwl
        have h32' : rs.length + cn ≤ 32 := by
          have : rs.length + g.2.1.2.2.2.toNat ≤ 32 := hwl.2
          omega
        have hrs3 : rrs N3 Ts 1 rs := ⟨(y3.i (nw _ _ (by omega) (by omega))).trans hrs.1, fun j hj => (y3.i (nw _ _ (by omega) (by omega))).trans (hrs.2 j hj)⟩
        refine y_bringIn (S := (wR N3 1, rs, S.2.2)) (g := g) (d := 1) (c := cn) (t := x) hS.1 hxc (by rw [hN3.2.1]; rfl) (by omega) (wq_rfl _) hrs3 (GG.1.eqR y3 (fun b k h => nw b k (by omega) (by omega))) hcn (fun j hj => (y3.i (nw _ _ (by omega) (by omega))).trans (hrl j hj)) hvl h32' (fun M4 y4 w4 r4 => h165 _ _ _ M4 ⟨hN3.1.eq hS y4 (fun b k a => by unfold pvR at a; omega), (y4.i (by omega)).trans hN3.2.1, rs ++ nru x g, r4, fun q hq => ?_, ?_⟩)
        · rcases List.mem_append.mp hq with hq | hq
          · exact hmem q hq
          · unfold nru at hq
            obtain ⟨j, hj, rfl⟩ := List.mem_map.mp hq
            have hj' := List.mem_range.mp hj
            exact ⟨hxc, hvl j (by omega)⟩
        · rw [List.length_append]
          unfold nru
          rw [List.length_map, List.length_range]
          omega
      · rw [if_neg hwel]
        exact ⟨fun _ => h156 _ _ N3 hN3, fun w => absurd rfl w⟩
    refine ⟨fun _ => ⟨fun _ => fin, fun h300 => ?_⟩, fun _ => fin⟩
    refine y_rstep (d := 1) (w := wR N 1) (by omega) hX R (by rw [hN.2.1]; rfl) (by omega) (wq_rfl _) (fun N' yN RN _ => ⟨inr_z (by omega) (by omega), rfl, ⟨k + 1, by omega, by omega, _, _, RN, gvl_step hX G⟩, hN.eq hS yN (fun b k z => by unfold pvR at z; unfold stW; omega), ocW_le _⟩)
theorem y_replays (hS : SI Ts c0 S) (hV : rvw c0 S.2.2.2) (h : RRS M Ts c0 S) (kk : ∀ z M', RRS M' Ts c0 S → K z M') : em_W_replays M K := by
  have hrl := hS.2.2.1
  have i0 : inr 0 := inr_z (by omega) (by omega)
  have i1 : inr 1 := inr_z (by omega) (by omega)
  intro M1 e1
  have h1 : RRS M1 Ts c0 S := h.code hS e1
  have k211 : ∀ v1 N, rpI N Ts c0 S → e_W_replays_211 v1 N K := by
    intro v1 N hN N1 f1
    have hN1 : RRS N1 Ts c0 S := hN.1.eq hS (P := fun b k => b = 353 ∧ k = 42) (by rw [f1]; exact (eqy.rfl' _).wi ⟨rfl, rfl⟩) (fun b k z => by unfold pvR at z; omega)
    exact ⟨fun _ => kk 0 N1 hN1, fun _ => kk 1 N1 hN1⟩
  have k164 : ∀ s0 N, rpI N Ts c0 S → e_W_replays_164 s0 N K := by
    intro s0 N hN
    refine ⟨fun _ _ N => rpI N Ts c0 S, hN, ?_⟩
    rintro v1 v2 N - - hN
    refine fun _ => ⟨fun _ => k211 v1 N hN, fun _ => ⟨fun _ => k211 v1 N hN, fun _ hb => ⟨inr_z (by omega) (by omega), fun _ => ⟨fun _ => ⟨inr_z (by omega) (by omega), hN⟩, fun _ => ⟨inr_z (by omega) (by omega), hN⟩⟩⟩⟩⟩
  have k140 : ∀ v1 N, rpI N Ts c0 S → e_W_replays_140 v1 N K := fun v1 N hN => ⟨fun _ => k164 0 N hN, fun _ _ _ => ⟨fun _ => k164 1 N hN, fun _ => k164 0 N hN⟩⟩
  have k79 : ∀ v1 N, rpI N Ts c0 S → e_W_replays_79 v1 N K := by
    intro v1 N hN
    refine ⟨fun _ _ N => rpI N Ts c0 S, hN, ?_⟩
    rintro v1 v2 N - - hN
    have k0 : 0 ≤ v2 ∧ v2 < 32 → ∀ s0, e_W_replays_133 v2 s0 N (fun _ _ N => rpI N Ts c0 S) K := fun hb s0 => ⟨inr_z (by omega) (by omega), hN⟩
    exact ⟨fun _ => k140 v1 N hN, fun _ => ⟨fun _ => k140 v1 N hN, fun _ hb => ⟨inr_z (by omega) (by omega), fun _ => ⟨fun _ _ => ⟨inr_z (by omega) (by omega), fun _ => ⟨fun _ => k0 hb 1, fun _ => k0 hb 0⟩⟩, fun _ => k0 hb 0⟩⟩⟩⟩
  refine ⟨fun v1 N => (0 ≤ v1 ∧ v1 ≤ 16) ∧ RRS N Ts c0 S, ⟨by omega, h1⟩, ?_⟩
  rintro v1 N - ⟨hv, hN⟩
  refine ⟨fun _ _ N1 f1 N2 f2 => ?_, fun h16 => ⟨inr_z (by omega) (by omega), fun _ N3 f3 => ⟨inr_z (by omega) (by omega), fun _ N4 f4 => ⟨inr_z (by omega) (by omega), by omega, ?_⟩⟩⟩⟩
  · have y2 : eqy (fun b k => (b = 378 ∧ k = 1) ∨ (b = 353 ∧ k = 42)) N N2 := by rw [f2, f1]; exact ((eqy.rfl' _).wi (Or.inl ⟨rfl, rfl⟩)).wi (Or.inr ⟨rfl, rfl⟩)
    have hN2 : rpI N2 Ts c0 S := ⟨hN.eq hS y2 (fun b k z => by unfold pvR at z; omega), by rw [f2, gi_at i1], [], ⟨by rw [f2, gi_of (Or.inl (by omega)), f1, gi_at i0]; rfl, fun j hj => absurd hj (by show ¬ j < 0; omega)⟩, fun q hq => (by cases hq), by show 0 ≤ 32; omega⟩
    refine ⟨fun _ v2 N => 0 ≤ v2 ∧ rpI N Ts c0 S, ⟨by omega, hN2⟩, ?_⟩
    rintro v1 v2 N - - ⟨hv2, hN⟩
    refine ⟨fun _ => k79 v1 N hN, fun h69 => ⟨fun _ => k79 v1 N hN, fun _ => ?_⟩⟩
    rw [hN.1.2.2.2.2.1] at h69
    obtain ⟨i, rfl⟩ : ∃ i : Nat, v2 = (i : Int) := ⟨v2.toNat, by omega⟩
    exact y_cts hS hV (by omega) hN (fun z N' _ hN' => ⟨inr_z (by omega) (by omega), by omega, hN'⟩)
  · refine hN.eq hS (P := fun b k => (b = 376 ∨ b = 377) ∧ 16 ≤ k) ?_ (fun b k z => by unfold pvR at z; omega)
    rw [f4, f3]
    exact ((eqy.rfl' _).wl ⟨Or.inl rfl, by omega⟩).wi ⟨Or.inr rfl, by omega⟩
end WRP
