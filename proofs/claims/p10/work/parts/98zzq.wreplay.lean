/-! THE REFERENCE'S replays() leaves all as it was -/
def rvw (c0 : Nat) (rows : List rwT) : Prop := ∀ i, i < rows.length → ∃ x : Nat, (rows.getD i ((0, 0, 0, 0, 0), 0)).1.2.2.1 = (x : Int) ∧ (((rows.getD i ((0, 0, 0, 0, 0), 0)).1.1 = 0 ∧ x < 16) ∨ (¬ (rows.getD i ((0, 0, 0, 0, 0), 0)).1.1 = 0 ∧ x < c0))
def rpI (M : rf_M) (Ts : tsT) (c0 : Nat) (S : syT) : Prop := RRS M Ts c0 S ∧ gi M 353 42 = 1 ∧ ∃ rs, rrs M Ts 1 rs ∧ (∀ q ∈ rs, q.1 < c0 ∧ vld (Ts q.1).1 (Ts q.1).2.1 q.2) ∧ rs.length ≤ 32
section WRP
variable {M M' : rf_M} {c0 : Nat} {K : Int → rf_M → Prop} {Ts : tsT} {S : syT} {P : Nat → Nat → Prop}
theorem rpI.eq (hS : SI Ts c0 S) (h : rpI M Ts c0 S) (e : eqy P M M') (q : ∀ b k, pvR b k ∨ (b = 353 ∧ k = 42) ∨ (b = 378 ∧ k = 1) ∨ b = 379 → ¬ P b k) : rpI M' Ts c0 S := by
  obtain ⟨h1, h2, rs, h3, h4, h5⟩ := h
  refine ⟨h1.eq hS e (fun b k z => q b k (Or.inl z)), (e.i (q _ _ (Or.inr (Or.inl ⟨rfl, rfl⟩)))).trans h2, rs, ⟨(e.i (q _ _ (Or.inr (Or.inr (Or.inl ⟨rfl, rfl⟩))))).trans h3.1, fun j hj => (e.i (q _ _ (Or.inr (Or.inr (Or.inr rfl))))).trans (h3.2 j hj)⟩, h4, h5⟩
theorem rvw_of (h : RRS M Ts c0 S) (hI : mIn M c0) : rvw c0 S.2.2.2 := by
  obtain ⟨r, r1, r2, r3⟩ := hI.2.2.2.2.2
  obtain ⟨-, -, -, -, w1, w2⟩ := h
  intro i hi
  obtain ⟨x, x1, x2⟩ := r3 i (by omega)
  obtain ⟨a1, -, a3, -⟩ := w2 i hi
  refine ⟨x, a3.symm.trans x1, ?_⟩
  rw [← a1]
  exact x2
theorem ocW_le (o : Nat) : 0 ≤ ocW o ∧ ocW o ≤ 4 := by
  unfold ocW
  split
  · omega
  split
  · omega
  split
  · omega
  split
  · omega
  · omega
theorem wq_rfl (w : wdT) : weq w w := fun _ _ => ⟨rfl, rfl⟩
theorem y_cts {i : Nat} (hS : SI Ts c0 S) (hV : rvw c0 S.2.2.2) (hi : i < S.2.2.2.length) (h : rpI M Ts c0 S) (kk : ∀ z M', (z = 0 ∨ z = 1) → rpI M' Ts c0 S → K z M') : em_W_comesToSame (i : Int) M K := by
  obtain ⟨x, hx, hk⟩ := hV i hi
  obtain ⟨a1, -, a3, -⟩ := h.1.2.2.2.2.2 i hi
  have e402 : gi M 402 i = (x : Int) := a3.trans hx
  have h12 := hS.1.1
  show e_W_comesToSame (i : Int) M K
  unfold e_W_comesToSame
  rw [tn_, e402]
  intro _
  refine ⟨fun k0 _ _ => ?_, fun k1 _ => ?_⟩
  · have x16 : x < 16 := by
      rcases hk with w | w
      · exact w.2
      · exact absurd (a1.symm.trans k0) w.1
    refine ⟨inr_z (by omega) (by omega), fun _ M2 e2 _ => ?_⟩
    have f402 : gi M2 402 i = (x : Int) := by rw [e2, gi_wl]; exact e402
    rw [f402]
    refine ⟨inr_z (by omega) (by omega), fun _ _ M3 e3 => kk 1 M3 (Or.inr rfl) (h.eq hS (P := fun b k => (b = 376 ∨ b = 377) ∧ 16 ≤ k) ?_ (fun b k z => by unfold pvR at z; omega))⟩
    rw [e3, e2]
    exact ((eqy.rfl' M).wl ⟨Or.inl rfl, by omega⟩).wi ⟨Or.inr rfl, by omega⟩
  · have hxc : x < c0 := by
      rcases hk with w | w
      · exact absurd (a1.trans w.1) k1
      · exact w.2
    have hX := hS.1.2 x hxc
    intro M1 e1
    have y1 : eqy (fun b k => b = 353 ∧ k = 52) M M1 := by rw [e1]; exact (eqy.rfl' M).wi ⟨rfl, rfl⟩
    have h1 : rpI M1 Ts c0 S := h.eq hS y1 (fun b k z => by unfold pvR at z; omega)
    have r1 : req rd0 (rR M1) := by
      refine ⟨?_, fun l _ b => ?_⟩
      · refine Int32.toInt_inj.mp ?_
        show gi M1 353 52 = _
        rw [e1, gi_at (inr_z (by omega) (by omega))]
        rfl
      · have : bt 0 l = true := b
        rw [bt_0] at this
        cases this
    refine y_beginWalk (t := x) (by omega) hX (h1.1.1 x hxc) r1 (fun M2 y2 R2 => ?_)
    have h2 : rpI M2 Ts c0 S := h1.eq hS y2 (fun b k z => by unfold pvR at z; omega)
    refine ⟨fun v1 v2 v3 N => v1 = (i : Int) ∧ (∃ k : Nat, v2 = (k : Int) ∧ k ≤ 300 ∧ ∃ g r, rnW N x (Ts x).1 (Ts x).2.1 (Ts x).2.2.1 (Ts x).2.2.2 g r ∧ gvl (Ts x).1 (Ts x).2.1 k g) ∧ rpI N Ts c0 S ∧ (0 ≤ v3 ∧ v3 ≤ 4), ⟨rfl, ⟨0, rfl, by omega, _, _, R2, gvl_0 hX⟩, h2, by omega⟩, ?_⟩
    rintro v1 v2 v3 N - - - ⟨rfl, ⟨k, rfl, hk3, g, r, R, G⟩, hN, hv⟩
    have h165 : ∀ (v2 v4 : Int) (v5 : Int64) (N' : rf_M), rpI N' Ts c0 S → e_W_comesToSame_165 (i : Int) v2 v4 v5 N' K := by
      intro v2 v4 v5 N' hN'
      have k1 : e_W_comesToSame_215 N' K := ⟨Or.inr rfl, kk 1 N' (Or.inr rfl) hN'⟩
      have k0 : e_W_comesToSame_219 N' K := ⟨Or.inl rfl, kk 0 N' (Or.inl rfl) hN'⟩
      exact fun _ => ⟨fun _ => ⟨fun _ _ => ⟨fun _ => k1, fun _ => k0⟩, fun _ _ => ⟨fun _ _ => ⟨fun _ => k1, fun _ => k0⟩, fun _ => k0⟩⟩, fun _ => k0⟩
    have h154 : ∀ N', rpI N' Ts c0 S → e_W_comesToSame_154 N' K := fun N' hN' => kk 0 N' (Or.inl rfl) hN'
    have h156 : ∀ (v2 : Int) (v5 : Int64) (N' : rf_M), rpI N' Ts c0 S → e_W_comesToSame_156 (i : Int) v2 1 v5 N' K := fun v2 v5 N' hN' => ⟨fun w => absurd w (by decide), fun _ => h165 v2 1 v5 N' hN'⟩
    have fin : e_W_comesToSame_85 (i : Int) (k : Int) v3 N K := by
      refine ⟨fun z2 => ⟨fun w => absurd w (by omega), fun _ => ⟨fun w => absurd w (by omega), fun _ => ⟨fun w => absurd w (by omega), fun _ => ⟨fun w => absurd w (by omega), fun _ => h156 _ _ N hN⟩⟩⟩⟩, fun z2 => ⟨fun _ => ⟨inr_z (by omega) (by omega), h156 _ _ N hN⟩, fun z0 => ⟨fun z4 => ?_, fun z4 => ⟨fun _ => h154 N hN, fun z3 => ⟨fun _ => h154 N hN, fun z1 => absurd hv (by omega)⟩⟩⟩⟩⟩
      obtain ⟨hw, GG⟩ := R.2.2.2.1
      obtain ⟨cn, hcn⟩ : ∃ c : Nat, g.2.1.2.2.2 = (c : Int) := ⟨g.2.1.2.2.2.toNat, by have := GG.2.1; omega⟩
      have hcnw : cn ≤ hw := by have := GG.2.1.2; omega
      obtain ⟨gp, ghw, ghk, g2, g3, g4⟩ := G
      obtain ⟨hR0, h42, rs, hrs, hmem, h32⟩ := id hN
      have hro : rok Ts c0 rs := fun j hj => hmem (rs.getD j (0, 0)) (by rw [gD_ hj]; exact List.getElem_mem hj)
      have hrl : ∀ j, j < cn → gi N 393 j = rex Ts (x, g.2.2.1 j) := fun j hj => GG.2.2.1 j (by omega)
      have hvl : ∀ j, j < cn → vld (Ts x).1 (Ts x).2.1 (g.2.2.1 j) := fun j hj => g3 j (by omega)
      refine y_isWell (S := (wR N 1, rs, S.2.2)) (g := g) (d := 1) (c := cn) (t := x) hS.1 hxc hR0.1 (by rw [h42]; rfl) (by omega) (wq_rfl _) hrs hro h32 GG.1 hcn (by omega) hrl hvl (fun N3 y3 => ?_)
      have nw : ∀ b k, ¬ (b = 353 ∧ (k = 52 ∨ k = 65 ∨ k = 66)) → ¬ (b = 389 ∨ b = 390 ∨ b = 398 ∨ b = 399) → ¬ wwW b k := fun b k h1 h2 => by unfold wwW wkW; omega
      have hN3 : rpI N3 Ts c0 S := hN.eq hS y3 (fun b k a => by unfold pvR at a; unfold wwW wkW; omega)
      by_cases hwel : wel Ts (wR N 1, rs, S.2.2) x g = true
      · rw [if_pos hwel]
        refine ⟨fun w => absurd w (by decide), fun _ => ⟨fun w => absurd w (by omega), fun _ => ⟨fun w => absurd w (by omega), fun _ => ⟨fun _ => ?_, fun w => absurd rfl w⟩⟩⟩⟩
        have hwl := hwel
        unfold wel at hwl
        rw [Bool.and_eq_true, decide_eq_true_eq] at hwl
        have h32' : rs.length + cn ≤ 32 := by
          have : rs.length + g.2.1.2.2.2.toNat ≤ 32 := hwl.2
          omega
        have hrs3 : rrs N3 Ts 1 rs := ⟨(y3.i (nw _ _ (by omega) (by omega))).trans hrs.1, fun j hj => (y3.i (nw _ _ (by omega) (by omega))).trans (hrs.2 j hj)⟩
        refine y_bringIn (S := (wR N3 1, rs, S.2.2)) (g := g) (d := 1) (c := cn) (t := x) hS.1 hxc (by rw [hN3.2.1]; rfl) (by omega) (wq_rfl _) hrs3 (GG.1.eqR y3 (fun b k h => nw b k (by omega) (by omega))) hcn (fun j hj => (y3.i (nw _ _ (by omega) (by omega))).trans (hrl j hj)) hvl h32' (fun M4 y4 w4 r4 => h165 _ _ _ M4 ⟨hN3.1.eq hS y4 (fun b k a => by unfold pvR at a; omega), (y4.i (by omega)).trans hN3.2.1, rs ++ nru x g, r4, fun q hq => ?_, ?_⟩)
        · rcases List.mem_append.mp hq with hq | hq
          · exact hmem q hq
          · unfold nru at hq
            obtain ⟨j, hj, rfl⟩ := List.mem_map.mp hq
            have hj' := List.mem_range.mp hj
            exact ⟨hxc, hvl j (by omega)⟩
        · rw [List.length_append]
          unfold nru
          rw [List.length_map, List.length_range]
          omega
      · rw [if_neg hwel]
        exact ⟨fun _ => h156 _ _ N3 hN3, fun w => absurd rfl w⟩
    refine ⟨fun _ => ⟨fun _ => fin, fun h300 => ?_⟩, fun _ => fin⟩
    refine y_rstep (d := 1) (w := wR N 1) (by omega) hX R (by rw [hN.2.1]; rfl) (by omega) (wq_rfl _) (fun N' yN RN _ => ⟨inr_z (by omega) (by omega), rfl, ⟨k + 1, by omega, by omega, _, _, RN, gvl_step hX G⟩, hN.eq hS yN (fun b k z => by unfold pvR at z; unfold stW; omega), ocW_le _⟩)
theorem y_replays (hS : SI Ts c0 S) (hV : rvw c0 S.2.2.2) (h : RRS M Ts c0 S) (kk : ∀ z M', RRS M' Ts c0 S → K z M') : em_W_replays M K := by
  have hrl := hS.2.2.1
  have i0 : inr 0 := inr_z (by omega) (by omega)
  have i1 : inr 1 := inr_z (by omega) (by omega)
  intro M1 e1
  have h1 : RRS M1 Ts c0 S := h.code hS e1
  have k211 : ∀ v1 N, rpI N Ts c0 S → e_W_replays_211 v1 N K := by
    intro v1 N hN N1 f1
    have hN1 : RRS N1 Ts c0 S := hN.1.eq hS (P := fun b k => b = 353 ∧ k = 42) (by rw [f1]; exact (eqy.rfl' _).wi ⟨rfl, rfl⟩) (fun b k z => by unfold pvR at z; omega)
    exact ⟨fun _ => kk 0 N1 hN1, fun _ => kk 1 N1 hN1⟩
  have k164 : ∀ s0 N, rpI N Ts c0 S → e_W_replays_164 s0 N K := by
    intro s0 N hN
    refine ⟨fun _ _ N => rpI N Ts c0 S, hN, ?_⟩
    rintro v1 v2 N - - hN
    refine fun _ => ⟨fun _ => k211 v1 N hN, fun _ => ⟨fun _ => k211 v1 N hN, fun _ hb => ⟨inr_z (by omega) (by omega), fun _ => ⟨fun _ => ⟨inr_z (by omega) (by omega), hN⟩, fun _ => ⟨inr_z (by omega) (by omega), hN⟩⟩⟩⟩⟩
  have k140 : ∀ v1 N, rpI N Ts c0 S → e_W_replays_140 v1 N K := fun v1 N hN => ⟨fun _ => k164 0 N hN, fun _ _ _ => ⟨fun _ => k164 1 N hN, fun _ => k164 0 N hN⟩⟩
  have k79 : ∀ v1 N, rpI N Ts c0 S → e_W_replays_79 v1 N K := by
    intro v1 N hN
    refine ⟨fun _ _ N => rpI N Ts c0 S, hN, ?_⟩
    rintro v1 v2 N - - hN
    have k0 : 0 ≤ v2 ∧ v2 < 32 → ∀ s0, e_W_replays_133 v2 s0 N (fun _ _ N => rpI N Ts c0 S) K := fun hb s0 => ⟨inr_z (by omega) (by omega), hN⟩
    exact ⟨fun _ => k140 v1 N hN, fun _ => ⟨fun _ => k140 v1 N hN, fun _ hb => ⟨inr_z (by omega) (by omega), fun _ => ⟨fun _ _ => ⟨inr_z (by omega) (by omega), fun _ => ⟨fun _ => k0 hb 1, fun _ => k0 hb 0⟩⟩, fun _ => k0 hb 0⟩⟩⟩⟩
  refine ⟨fun v1 N => (0 ≤ v1 ∧ v1 ≤ 16) ∧ RRS N Ts c0 S, ⟨by omega, h1⟩, ?_⟩
  rintro v1 N - ⟨hv, hN⟩
  refine ⟨fun _ _ N1 f1 N2 f2 => ?_, fun h16 => ⟨inr_z (by omega) (by omega), fun _ N3 f3 => ⟨inr_z (by omega) (by omega), fun _ N4 f4 => ⟨inr_z (by omega) (by omega), by omega, ?_⟩⟩⟩⟩
  · have y2 : eqy (fun b k => (b = 378 ∧ k = 1) ∨ (b = 353 ∧ k = 42)) N N2 := by rw [f2, f1]; exact ((eqy.rfl' _).wi (Or.inl ⟨rfl, rfl⟩)).wi (Or.inr ⟨rfl, rfl⟩)
    have hN2 : rpI N2 Ts c0 S := ⟨hN.eq hS y2 (fun b k z => by unfold pvR at z; omega), by rw [f2, gi_at i1], [], ⟨by rw [f2, gi_of (Or.inl (by omega)), f1, gi_at i0]; rfl, fun j hj => absurd hj (by show ¬ j < 0; omega)⟩, fun q hq => (by cases hq), by show 0 ≤ 32; omega⟩
    refine ⟨fun _ v2 N => 0 ≤ v2 ∧ rpI N Ts c0 S, ⟨by omega, hN2⟩, ?_⟩
    rintro v1 v2 N - - ⟨hv2, hN⟩
    refine ⟨fun _ => k79 v1 N hN, fun h69 => ⟨fun _ => k79 v1 N hN, fun _ => ?_⟩⟩
    rw [hN.1.2.2.2.2.1] at h69
    obtain ⟨i, rfl⟩ : ∃ i : Nat, v2 = (i : Int) := ⟨v2.toNat, by omega⟩
    exact y_cts hS hV (by omega) hN (fun z N' _ hN' => ⟨inr_z (by omega) (by omega), by omega, hN'⟩)
  · refine hN.eq hS (P := fun b k => (b = 376 ∨ b = 377) ∧ 16 ≤ k) ?_ (fun b k z => by unfold pvR at z; omega)
    rw [f4, f3]
    exact ((eqy.rfl' _).wl ⟨Or.inl rfl, by omega⟩).wi ⟨Or.inr rfl, by omega⟩
end WRP
/-! the program without its replay: its objects and what they hold (printed by wip/tools/vl3.py) -/
abbrev pb (fz : Bool) (S : gS) (a : Nat) (ty : FieldType) (n : Nat) : Prop := ga (cx0 fz) S a ty n ∧ a < 331
def j4 : List Nat := [187]
def j5 : List Nat := [193, 210, 226, 242, 258, 274, 290, 306, 322]
def j6 : List Nat := [196, 212, 228, 244, 260, 276, 292, 308]
def j7 : List Nat := [199, 215, 231, 247, 263, 279, 295, 311]
def j8 : List Nat := [201, 217, 233, 249, 265, 281, 297, 313]
theorem j4_or {a : Nat} (h : a ∈ j4) : a = 187 := by
  simpa only [j4, List.mem_cons, List.not_mem_nil, or_false] using h
theorem jl_4 {a : Nat} (h : a ∈ j4) : a < 331 := by
  have h := j4_or h; omega
theorem jo_4 {fz : Bool} {S : gS} {a : Nat} (hS : rl S) (h : a ∈ j4) : go (cx0 fz) S a 4 := by
  have h := j4_or h
  subst h
  all_goals exact ⟨Nat.le_of_ble_eq_true rfl, by decide, Nat.lt_of_le_of_lt (Nat.le_of_ble_eq_true rfl) hS.1, hS.2 _ (Nat.le_of_ble_eq_true rfl) (Nat.le_of_ble_eq_true rfl)⟩
theorem j5_or {a : Nat} (h : a ∈ j5) : a = 193 ∨ a = 210 ∨ a = 226 ∨ a = 242 ∨ a = 258 ∨ a = 274 ∨ a = 290 ∨ a = 306 ∨ a = 322 := by
  simpa only [j5, List.mem_cons, List.not_mem_nil, or_false] using h
theorem jl_5 {a : Nat} (h : a ∈ j5) : a < 331 := by
  have h := j5_or h; omega
theorem jo_5 {fz : Bool} {S : gS} {a : Nat} (hS : rl S) (h : a ∈ j5) : go (cx0 fz) S a 5 := by
  have h := j5_or h
  rcases h with rfl | rfl | rfl | rfl | rfl | rfl | rfl | rfl | rfl
  all_goals exact ⟨Nat.le_of_ble_eq_true rfl, by decide, Nat.lt_of_le_of_lt (Nat.le_of_ble_eq_true rfl) hS.1, hS.2 _ (Nat.le_of_ble_eq_true rfl) (Nat.le_of_ble_eq_true rfl)⟩
theorem j6_or {a : Nat} (h : a ∈ j6) : a = 196 ∨ a = 212 ∨ a = 228 ∨ a = 244 ∨ a = 260 ∨ a = 276 ∨ a = 292 ∨ a = 308 := by
  simpa only [j6, List.mem_cons, List.not_mem_nil, or_false] using h
theorem jl_6 {a : Nat} (h : a ∈ j6) : a < 331 := by
  have h := j6_or h; omega
theorem jo_6 {fz : Bool} {S : gS} {a : Nat} (hS : rl S) (h : a ∈ j6) : go (cx0 fz) S a 6 := by
  have h := j6_or h
  rcases h with rfl | rfl | rfl | rfl | rfl | rfl | rfl | rfl
  all_goals exact ⟨Nat.le_of_ble_eq_true rfl, by decide, Nat.lt_of_le_of_lt (Nat.le_of_ble_eq_true rfl) hS.1, hS.2 _ (Nat.le_of_ble_eq_true rfl) (Nat.le_of_ble_eq_true rfl)⟩
theorem j7_or {a : Nat} (h : a ∈ j7) : a = 199 ∨ a = 215 ∨ a = 231 ∨ a = 247 ∨ a = 263 ∨ a = 279 ∨ a = 295 ∨ a = 311 := by
  simpa only [j7, List.mem_cons, List.not_mem_nil, or_false] using h
theorem jl_7 {a : Nat} (h : a ∈ j7) : a < 331 := by
  have h := j7_or h; omega
theorem jo_7 {fz : Bool} {S : gS} {a : Nat} (hS : rl S) (h : a ∈ j7) : go (cx0 fz) S a 7 := by
  have h := j7_or h
  rcases h with rfl | rfl | rfl | rfl | rfl | rfl | rfl | rfl
  all_goals exact ⟨Nat.le_of_ble_eq_true rfl, by decide, Nat.lt_of_le_of_lt (Nat.le_of_ble_eq_true rfl) hS.1, hS.2 _ (Nat.le_of_ble_eq_true rfl) (Nat.le_of_ble_eq_true rfl)⟩
theorem j8_or {a : Nat} (h : a ∈ j8) : a = 201 ∨ a = 217 ∨ a = 233 ∨ a = 249 ∨ a = 265 ∨ a = 281 ∨ a = 297 ∨ a = 313 := by
  simpa only [j8, List.mem_cons, List.not_mem_nil, or_false] using h
theorem jl_8 {a : Nat} (h : a ∈ j8) : a < 331 := by
  have h := j8_or h; omega
theorem jo_8 {fz : Bool} {S : gS} {a : Nat} (hS : rl S) (h : a ∈ j8) : go (cx0 fz) S a 8 := by
  have h := j8_or h
  rcases h with rfl | rfl | rfl | rfl | rfl | rfl | rfl | rfl
  all_goals exact ⟨Nat.le_of_ble_eq_true rfl, by decide, Nat.lt_of_le_of_lt (Nat.le_of_ble_eq_true rfl) hS.1, hS.2 _ (Nat.le_of_ble_eq_true rfl) (Nat.le_of_ble_eq_true rfl)⟩
theorem jl_9 {a : Nat} (h : a ∈ k9) : a < 331 := by
  have h := k9_or h; omega
theorem jt_1_5 {fz : Bool} {S : gS} {a : Nat} (hS : rl S) (h : a ∈ k1) : pb fz S (a + 1) .int 40 := by
  have h := k1_or h
  rcases h with rfl | rfl | rfl | rfl | rfl | rfl | rfl | rfl | rfl | rfl | rfl | rfl
  all_goals exact ⟨⟨Nat.le_of_ble_eq_true rfl, by decide, Nat.lt_of_le_of_lt (Nat.le_of_ble_eq_true rfl) hS.1, hS.2 _ (Nat.le_of_ble_eq_true rfl) (Nat.le_of_ble_eq_true rfl)⟩, Nat.le_of_ble_eq_true rfl⟩
theorem jt_1_6 {fz : Bool} {S : gS} {a : Nat} (hS : rl S) (h : a ∈ k1) : pb fz S (a + 2) .int 40 := by
  have h := k1_or h
  rcases h with rfl | rfl | rfl | rfl | rfl | rfl | rfl | rfl | rfl | rfl | rfl | rfl
  all_goals exact ⟨⟨Nat.le_of_ble_eq_true rfl, by decide, Nat.lt_of_le_of_lt (Nat.le_of_ble_eq_true rfl) hS.1, hS.2 _ (Nat.le_of_ble_eq_true rfl) (Nat.le_of_ble_eq_true rfl)⟩, Nat.le_of_ble_eq_true rfl⟩
theorem jt_1_7 {fz : Bool} {S : gS} {a : Nat} (hS : rl S) (h : a ∈ k1) : pb fz S (a + 3) .int 40 := by
  have h := k1_or h
  rcases h with rfl | rfl | rfl | rfl | rfl | rfl | rfl | rfl | rfl | rfl | rfl | rfl
  all_goals exact ⟨⟨Nat.le_of_ble_eq_true rfl, by decide, Nat.lt_of_le_of_lt (Nat.le_of_ble_eq_true rfl) hS.1, hS.2 _ (Nat.le_of_ble_eq_true rfl) (Nat.le_of_ble_eq_true rfl)⟩, Nat.le_of_ble_eq_true rfl⟩
theorem jt_1_8 {fz : Bool} {S : gS} {a : Nat} (hS : rl S) (h : a ∈ k1) : pb fz S (a + 4) .int 40 := by
  have h := k1_or h
  rcases h with rfl | rfl | rfl | rfl | rfl | rfl | rfl | rfl | rfl | rfl | rfl | rfl
  all_goals exact ⟨⟨Nat.le_of_ble_eq_true rfl, by decide, Nat.lt_of_le_of_lt (Nat.le_of_ble_eq_true rfl) hS.1, hS.2 _ (Nat.le_of_ble_eq_true rfl) (Nat.le_of_ble_eq_true rfl)⟩, Nat.le_of_ble_eq_true rfl⟩
theorem jt_1_9 {fz : Bool} {S : gS} {a : Nat} (hS : rl S) (h : a ∈ k1) : pb fz S (a + 5) .int 40 := by
  have h := k1_or h
  rcases h with rfl | rfl | rfl | rfl | rfl | rfl | rfl | rfl | rfl | rfl | rfl | rfl
  all_goals exact ⟨⟨Nat.le_of_ble_eq_true rfl, by decide, Nat.lt_of_le_of_lt (Nat.le_of_ble_eq_true rfl) hS.1, hS.2 _ (Nat.le_of_ble_eq_true rfl) (Nat.le_of_ble_eq_true rfl)⟩, Nat.le_of_ble_eq_true rfl⟩
theorem jt_1_10 {fz : Bool} {S : gS} {a : Nat} (hS : rl S) (h : a ∈ k1) : pb fz S (a + 6) .int 40 := by
  have h := k1_or h
  rcases h with rfl | rfl | rfl | rfl | rfl | rfl | rfl | rfl | rfl | rfl | rfl | rfl
  all_goals exact ⟨⟨Nat.le_of_ble_eq_true rfl, by decide, Nat.lt_of_le_of_lt (Nat.le_of_ble_eq_true rfl) hS.1, hS.2 _ (Nat.le_of_ble_eq_true rfl) (Nat.le_of_ble_eq_true rfl)⟩, Nat.le_of_ble_eq_true rfl⟩
theorem jt_1_11 {fz : Bool} {S : gS} {a : Nat} (hS : rl S) (h : a ∈ k1) : pb fz S (a + 7) .int 40 := by
  have h := k1_or h
  rcases h with rfl | rfl | rfl | rfl | rfl | rfl | rfl | rfl | rfl | rfl | rfl | rfl
  all_goals exact ⟨⟨Nat.le_of_ble_eq_true rfl, by decide, Nat.lt_of_le_of_lt (Nat.le_of_ble_eq_true rfl) hS.1, hS.2 _ (Nat.le_of_ble_eq_true rfl) (Nat.le_of_ble_eq_true rfl)⟩, Nat.le_of_ble_eq_true rfl⟩
theorem jt_1_12 {fz : Bool} {S : gS} {a : Nat} (hS : rl S) (h : a ∈ k1) : pb fz S (a + 8) .int 40 := by
  have h := k1_or h
  rcases h with rfl | rfl | rfl | rfl | rfl | rfl | rfl | rfl | rfl | rfl | rfl | rfl
  all_goals exact ⟨⟨Nat.le_of_ble_eq_true rfl, by decide, Nat.lt_of_le_of_lt (Nat.le_of_ble_eq_true rfl) hS.1, hS.2 _ (Nat.le_of_ble_eq_true rfl) (Nat.le_of_ble_eq_true rfl)⟩, Nat.le_of_ble_eq_true rfl⟩
theorem jt_1_13 {fz : Bool} {S : gS} {a : Nat} (hS : rl S) (h : a ∈ k1) : pb fz S (a + 9) .int 40 := by
  have h := k1_or h
  rcases h with rfl | rfl | rfl | rfl | rfl | rfl | rfl | rfl | rfl | rfl | rfl | rfl
  all_goals exact ⟨⟨Nat.le_of_ble_eq_true rfl, by decide, Nat.lt_of_le_of_lt (Nat.le_of_ble_eq_true rfl) hS.1, hS.2 _ (Nat.le_of_ble_eq_true rfl) (Nat.le_of_ble_eq_true rfl)⟩, Nat.le_of_ble_eq_true rfl⟩
theorem jt_1_14 {fz : Bool} {S : gS} {a : Nat} (hS : rl S) (h : a ∈ k1) : pb fz S (a + 10) .int 160 := by
  have h := k1_or h
  rcases h with rfl | rfl | rfl | rfl | rfl | rfl | rfl | rfl | rfl | rfl | rfl | rfl
  all_goals exact ⟨⟨Nat.le_of_ble_eq_true rfl, by decide, Nat.lt_of_le_of_lt (Nat.le_of_ble_eq_true rfl) hS.1, hS.2 _ (Nat.le_of_ble_eq_true rfl) (Nat.le_of_ble_eq_true rfl)⟩, Nat.le_of_ble_eq_true rfl⟩
theorem jt_1_15 {fz : Bool} {S : gS} {a : Nat} (hS : rl S) (h : a ∈ k1) : pb fz S (a + 11) .int 160 := by
  have h := k1_or h
  rcases h with rfl | rfl | rfl | rfl | rfl | rfl | rfl | rfl | rfl | rfl | rfl | rfl
  all_goals exact ⟨⟨Nat.le_of_ble_eq_true rfl, by decide, Nat.lt_of_le_of_lt (Nat.le_of_ble_eq_true rfl) hS.1, hS.2 _ (Nat.le_of_ble_eq_true rfl) (Nat.le_of_ble_eq_true rfl)⟩, Nat.le_of_ble_eq_true rfl⟩
theorem jf_4_0 {M : rf_M} {a : Nat} (hM : kfr M) (h : a ∈ j4) : M.2.2 a 0 = some (a + 1) := by
  have h := j4_or h
  subst h
  · exact hM (187, 0, 188) (by decide)
theorem jt_4_0 {fz : Bool} {S : gS} {a : Nat} (hS : rl S) (h : a ∈ j4) : pb fz S (a + 1) .long 16 := by
  have h := j4_or h
  subst h
  all_goals exact ⟨⟨Nat.le_of_ble_eq_true rfl, by decide, Nat.lt_of_le_of_lt (Nat.le_of_ble_eq_true rfl) hS.1, hS.2 _ (Nat.le_of_ble_eq_true rfl) (Nat.le_of_ble_eq_true rfl)⟩, Nat.le_of_ble_eq_true rfl⟩
theorem jf_4_1 {M : rf_M} {a : Nat} (hM : kfr M) (h : a ∈ j4) : M.2.2 a 1 = some (a + 2) := by
  have h := j4_or h
  subst h
  · exact hM (187, 1, 189) (by decide)
theorem jt_4_1 {fz : Bool} {S : gS} {a : Nat} (hS : rl S) (h : a ∈ j4) : pb fz S (a + 2) .int 16 := by
  have h := j4_or h
  subst h
  all_goals exact ⟨⟨Nat.le_of_ble_eq_true rfl, by decide, Nat.lt_of_le_of_lt (Nat.le_of_ble_eq_true rfl) hS.1, hS.2 _ (Nat.le_of_ble_eq_true rfl) (Nat.le_of_ble_eq_true rfl)⟩, Nat.le_of_ble_eq_true rfl⟩
theorem jf_4_3 {M : rf_M} {a : Nat} (hM : kfr M) (h : a ∈ j4) : M.2.2 a 3 = some (a + 3) := by
  have h := j4_or h
  subst h
  · exact hM (187, 3, 190) (by decide)
theorem jt_4_3 {fz : Bool} {S : gS} {a : Nat} (hS : rl S) (h : a ∈ j4) : pb fz S (a + 3) (.object "MemoryTransactions$Program") 32 := by
  have h := j4_or h
  subst h
  all_goals exact ⟨⟨Nat.le_of_ble_eq_true rfl, by decide, Nat.lt_of_le_of_lt (Nat.le_of_ble_eq_true rfl) hS.1, hS.2 _ (Nat.le_of_ble_eq_true rfl) (Nat.le_of_ble_eq_true rfl)⟩, Nat.le_of_ble_eq_true rfl⟩
theorem jf_4_4 {M : rf_M} {a : Nat} (hM : kfr M) (h : a ∈ j4) : M.2.2 a 4 = some (a + 4) := by
  have h := j4_or h
  subst h
  · exact hM (187, 4, 191) (by decide)
theorem jt_4_4 {fz : Bool} {S : gS} {a : Nat} (hS : rl S) (h : a ∈ j4) : pb fz S (a + 4) .int 32 := by
  have h := j4_or h
  subst h
  all_goals exact ⟨⟨Nat.le_of_ble_eq_true rfl, by decide, Nat.lt_of_le_of_lt (Nat.le_of_ble_eq_true rfl) hS.1, hS.2 _ (Nat.le_of_ble_eq_true rfl) (Nat.le_of_ble_eq_true rfl)⟩, Nat.le_of_ble_eq_true rfl⟩
theorem jf_4_5 {M : rf_M} {a : Nat} (hM : kfr M) (h : a ∈ j4) : M.2.2 a 5 = some (a + 5) := by
  have h := j4_or h
  subst h
  · exact hM (187, 5, 192) (by decide)
theorem jt_4_5 {fz : Bool} {S : gS} {a : Nat} (hS : rl S) (h : a ∈ j4) : pb fz S (a + 5) .long 16 := by
  have h := j4_or h
  subst h
  all_goals exact ⟨⟨Nat.le_of_ble_eq_true rfl, by decide, Nat.lt_of_le_of_lt (Nat.le_of_ble_eq_true rfl) hS.1, hS.2 _ (Nat.le_of_ble_eq_true rfl) (Nat.le_of_ble_eq_true rfl)⟩, Nat.le_of_ble_eq_true rfl⟩
theorem jf_4_6 {M : rf_M} {a : Nat} (hM : kfr M) (h : a ∈ j4) : M.2.2 a 6 = some (a + 6) := by
  have h := j4_or h
  subst h
  · exact hM (187, 6, 193) (by decide)
theorem jt_4_6 {a : Nat} (h : a ∈ j4) : (a + 6) ∈ j5 := by
  have h := j4_or h
  subst h <;> decide
theorem jf_5_0 {M : rf_M} {a : Nat} (hM : kfr M) (h : a ∈ j5) : M.2.2 a 0 = some (a + 1) := by
  have h := j5_or h
  rcases h with rfl | rfl | rfl | rfl | rfl | rfl | rfl | rfl | rfl
  · exact hM (193, 0, 194) (by decide)
  · exact hM (210, 0, 211) (by decide)
  · exact hM (226, 0, 227) (by decide)
  · exact hM (242, 0, 243) (by decide)
  · exact hM (258, 0, 259) (by decide)
  · exact hM (274, 0, 275) (by decide)
  · exact hM (290, 0, 291) (by decide)
  · exact hM (306, 0, 307) (by decide)
  · exact hM (322, 0, 323) (by decide)
theorem jt_5_0 {fz : Bool} {S : gS} {a : Nat} (hS : rl S) (h : a ∈ j5) : pb fz S (a + 1) .long 60 := by
  have h := j5_or h
  rcases h with rfl | rfl | rfl | rfl | rfl | rfl | rfl | rfl | rfl
  all_goals exact ⟨⟨Nat.le_of_ble_eq_true rfl, by decide, Nat.lt_of_le_of_lt (Nat.le_of_ble_eq_true rfl) hS.1, hS.2 _ (Nat.le_of_ble_eq_true rfl) (Nat.le_of_ble_eq_true rfl)⟩, Nat.le_of_ble_eq_true rfl⟩
theorem jf_6_3 {M : rf_M} {a : Nat} (hM : kfr M) (h : a ∈ j6) : M.2.2 a 3 = some (a + 1) := by
  have h := j6_or h
  rcases h with rfl | rfl | rfl | rfl | rfl | rfl | rfl | rfl
  · exact hM (196, 3, 197) (by decide)
  · exact hM (212, 3, 213) (by decide)
  · exact hM (228, 3, 229) (by decide)
  · exact hM (244, 3, 245) (by decide)
  · exact hM (260, 3, 261) (by decide)
  · exact hM (276, 3, 277) (by decide)
  · exact hM (292, 3, 293) (by decide)
  · exact hM (308, 3, 309) (by decide)
theorem jt_6_3 {fz : Bool} {S : gS} {a : Nat} (hS : rl S) (h : a ∈ j6) : pb fz S (a + 1) .int 16 := by
  have h := j6_or h
  rcases h with rfl | rfl | rfl | rfl | rfl | rfl | rfl | rfl
  all_goals exact ⟨⟨Nat.le_of_ble_eq_true rfl, by decide, Nat.lt_of_le_of_lt (Nat.le_of_ble_eq_true rfl) hS.1, hS.2 _ (Nat.le_of_ble_eq_true rfl) (Nat.le_of_ble_eq_true rfl)⟩, Nat.le_of_ble_eq_true rfl⟩
theorem jf_6_4 {M : rf_M} {a : Nat} (hM : kfr M) (h : a ∈ j6) : M.2.2 a 4 = some (a + 3) := by
  have h := j6_or h
  rcases h with rfl | rfl | rfl | rfl | rfl | rfl | rfl | rfl
  · exact hM (196, 4, 199) (by decide)
  · exact hM (212, 4, 215) (by decide)
  · exact hM (228, 4, 231) (by decide)
  · exact hM (244, 4, 247) (by decide)
  · exact hM (260, 4, 263) (by decide)
  · exact hM (276, 4, 279) (by decide)
  · exact hM (292, 4, 295) (by decide)
  · exact hM (308, 4, 311) (by decide)
theorem jt_6_4 {a : Nat} (h : a ∈ j6) : (a + 3) ∈ j7 := by
  have h := j6_or h
  rcases h with rfl | rfl | rfl | rfl | rfl | rfl | rfl | rfl <;> decide
theorem jf_6_7 {M : rf_M} {a : Nat} (hM : kfr M) (h : a ∈ j6) : M.2.2 a 7 = some (a + 2) := by
  have h := j6_or h
  rcases h with rfl | rfl | rfl | rfl | rfl | rfl | rfl | rfl
  · exact hM (196, 7, 198) (by decide)
  · exact hM (212, 7, 214) (by decide)
  · exact hM (228, 7, 230) (by decide)
  · exact hM (244, 7, 246) (by decide)
  · exact hM (260, 7, 262) (by decide)
  · exact hM (276, 7, 278) (by decide)
  · exact hM (292, 7, 294) (by decide)
  · exact hM (308, 7, 310) (by decide)
theorem jt_6_7 {fz : Bool} {S : gS} {a : Nat} (hS : rl S) (h : a ∈ j6) : pb fz S (a + 2) .int 16 := by
  have h := j6_or h
  rcases h with rfl | rfl | rfl | rfl | rfl | rfl | rfl | rfl
  all_goals exact ⟨⟨Nat.le_of_ble_eq_true rfl, by decide, Nat.lt_of_le_of_lt (Nat.le_of_ble_eq_true rfl) hS.1, hS.2 _ (Nat.le_of_ble_eq_true rfl) (Nat.le_of_ble_eq_true rfl)⟩, Nat.le_of_ble_eq_true rfl⟩
theorem jf_7_4 {M : rf_M} {a : Nat} (hM : kfr M) (h : a ∈ j7) : M.2.2 a 4 = some (a + 1) := by
  have h := j7_or h
  rcases h with rfl | rfl | rfl | rfl | rfl | rfl | rfl | rfl
  · exact hM (199, 4, 200) (by decide)
  · exact hM (215, 4, 216) (by decide)
  · exact hM (231, 4, 232) (by decide)
  · exact hM (247, 4, 248) (by decide)
  · exact hM (263, 4, 264) (by decide)
  · exact hM (279, 4, 280) (by decide)
  · exact hM (295, 4, 296) (by decide)
  · exact hM (311, 4, 312) (by decide)
theorem jt_7_4 {fz : Bool} {S : gS} {a : Nat} (hS : rl S) (h : a ∈ j7) : pb fz S (a + 1) .int 16 := by
  have h := j7_or h
  rcases h with rfl | rfl | rfl | rfl | rfl | rfl | rfl | rfl
  all_goals exact ⟨⟨Nat.le_of_ble_eq_true rfl, by decide, Nat.lt_of_le_of_lt (Nat.le_of_ble_eq_true rfl) hS.1, hS.2 _ (Nat.le_of_ble_eq_true rfl) (Nat.le_of_ble_eq_true rfl)⟩, Nat.le_of_ble_eq_true rfl⟩
theorem jf_7_5 {M : rf_M} {a : Nat} (hM : kfr M) (h : a ∈ j7) : M.2.2 a 5 = some (a + 2) := by
  have h := j7_or h
  rcases h with rfl | rfl | rfl | rfl | rfl | rfl | rfl | rfl
  · exact hM (199, 5, 201) (by decide)
  · exact hM (215, 5, 217) (by decide)
  · exact hM (231, 5, 233) (by decide)
  · exact hM (247, 5, 249) (by decide)
  · exact hM (263, 5, 265) (by decide)
  · exact hM (279, 5, 281) (by decide)
  · exact hM (295, 5, 297) (by decide)
  · exact hM (311, 5, 313) (by decide)
theorem jt_7_5 {a : Nat} (h : a ∈ j7) : (a + 2) ∈ j8 := by
  have h := j7_or h
  rcases h with rfl | rfl | rfl | rfl | rfl | rfl | rfl | rfl <;> decide
theorem jf_7_7 {M : rf_M} {a : Nat} (hM : kfr M) (h : a ∈ j7) : M.2.2 a 7 = some (a + 10) := by
  have h := j7_or h
  rcases h with rfl | rfl | rfl | rfl | rfl | rfl | rfl | rfl
  · exact hM (199, 7, 209) (by decide)
  · exact hM (215, 7, 225) (by decide)
  · exact hM (231, 7, 241) (by decide)
  · exact hM (247, 7, 257) (by decide)
  · exact hM (263, 7, 273) (by decide)
  · exact hM (279, 7, 289) (by decide)
  · exact hM (295, 7, 305) (by decide)
  · exact hM (311, 7, 321) (by decide)
theorem jt_7_7 {fz : Bool} {S : gS} {a : Nat} (hS : rl S) (h : a ∈ j7) : pb fz S (a + 10) .long 16 := by
  have h := j7_or h
  rcases h with rfl | rfl | rfl | rfl | rfl | rfl | rfl | rfl
  all_goals exact ⟨⟨Nat.le_of_ble_eq_true rfl, by decide, Nat.lt_of_le_of_lt (Nat.le_of_ble_eq_true rfl) hS.1, hS.2 _ (Nat.le_of_ble_eq_true rfl) (Nat.le_of_ble_eq_true rfl)⟩, Nat.le_of_ble_eq_true rfl⟩
theorem jf_7_8 {M : rf_M} {a : Nat} (hM : kfr M) (h : a ∈ j7) : M.2.2 a 8 = some (stR a) := by
  have h := j7_or h
  rcases h with rfl | rfl | rfl | rfl | rfl | rfl | rfl | rfl
  · exact hM (199, 8, 187) (by decide)
  · exact hM (215, 8, 187) (by decide)
  · exact hM (231, 8, 187) (by decide)
  · exact hM (247, 8, 187) (by decide)
  · exact hM (263, 8, 187) (by decide)
  · exact hM (279, 8, 187) (by decide)
  · exact hM (295, 8, 187) (by decide)
  · exact hM (311, 8, 187) (by decide)
theorem jt_7_8 {a : Nat} (h : a ∈ j7) : (stR a) ∈ j4 := by
  have h := j7_or h
  rcases h with rfl | rfl | rfl | rfl | rfl | rfl | rfl | rfl <;> decide
theorem jf_7_9 {M : rf_M} {a : Nat} (hM : kfr M) (h : a ∈ j7) : M.2.2 a 9 = some (a + 11) := by
  have h := j7_or h
  rcases h with rfl | rfl | rfl | rfl | rfl | rfl | rfl | rfl
  · exact hM (199, 9, 210) (by decide)
  · exact hM (215, 9, 226) (by decide)
  · exact hM (231, 9, 242) (by decide)
  · exact hM (247, 9, 258) (by decide)
  · exact hM (263, 9, 274) (by decide)
  · exact hM (279, 9, 290) (by decide)
  · exact hM (295, 9, 306) (by decide)
  · exact hM (311, 9, 322) (by decide)
theorem jt_7_9 {a : Nat} (h : a ∈ j7) : (a + 11) ∈ j5 := by
  have h := j7_or h
  rcases h with rfl | rfl | rfl | rfl | rfl | rfl | rfl | rfl <;> decide
theorem jf_8_1 {M : rf_M} {a : Nat} (hM : kfr M) (h : a ∈ j8) : M.2.2 a 1 = some (a + 1) := by
  have h := j8_or h
  rcases h with rfl | rfl | rfl | rfl | rfl | rfl | rfl | rfl
  · exact hM (201, 1, 202) (by decide)
  · exact hM (217, 1, 218) (by decide)
  · exact hM (233, 1, 234) (by decide)
  · exact hM (249, 1, 250) (by decide)
  · exact hM (265, 1, 266) (by decide)
  · exact hM (281, 1, 282) (by decide)
  · exact hM (297, 1, 298) (by decide)
  · exact hM (313, 1, 314) (by decide)
theorem jt_8_1 {fz : Bool} {S : gS} {a : Nat} (hS : rl S) (h : a ∈ j8) : pb fz S (a + 1) .long 16 := by
  have h := j8_or h
  rcases h with rfl | rfl | rfl | rfl | rfl | rfl | rfl | rfl
  all_goals exact ⟨⟨Nat.le_of_ble_eq_true rfl, by decide, Nat.lt_of_le_of_lt (Nat.le_of_ble_eq_true rfl) hS.1, hS.2 _ (Nat.le_of_ble_eq_true rfl) (Nat.le_of_ble_eq_true rfl)⟩, Nat.le_of_ble_eq_true rfl⟩
theorem jf_8_2 {M : rf_M} {a : Nat} (hM : kfr M) (h : a ∈ j8) : M.2.2 a 2 = some (a + 2) := by
  have h := j8_or h
  rcases h with rfl | rfl | rfl | rfl | rfl | rfl | rfl | rfl
  · exact hM (201, 2, 203) (by decide)
  · exact hM (217, 2, 219) (by decide)
  · exact hM (233, 2, 235) (by decide)
  · exact hM (249, 2, 251) (by decide)
  · exact hM (265, 2, 267) (by decide)
  · exact hM (281, 2, 283) (by decide)
  · exact hM (297, 2, 299) (by decide)
  · exact hM (313, 2, 315) (by decide)
theorem jt_8_2 {fz : Bool} {S : gS} {a : Nat} (hS : rl S) (h : a ∈ j8) : pb fz S (a + 2) .long 10 := by
  have h := j8_or h
  rcases h with rfl | rfl | rfl | rfl | rfl | rfl | rfl | rfl
  all_goals exact ⟨⟨Nat.le_of_ble_eq_true rfl, by decide, Nat.lt_of_le_of_lt (Nat.le_of_ble_eq_true rfl) hS.1, hS.2 _ (Nat.le_of_ble_eq_true rfl) (Nat.le_of_ble_eq_true rfl)⟩, Nat.le_of_ble_eq_true rfl⟩
theorem jf_8_4 {M : rf_M} {a : Nat} (hM : kfr M) (h : a ∈ j8) : M.2.2 a 4 = some (a + 3) := by
  have h := j8_or h
  rcases h with rfl | rfl | rfl | rfl | rfl | rfl | rfl | rfl
  · exact hM (201, 4, 204) (by decide)
  · exact hM (217, 4, 220) (by decide)
  · exact hM (233, 4, 236) (by decide)
  · exact hM (249, 4, 252) (by decide)
  · exact hM (265, 4, 268) (by decide)
  · exact hM (281, 4, 284) (by decide)
  · exact hM (297, 4, 300) (by decide)
  · exact hM (313, 4, 316) (by decide)
theorem jt_8_4 {fz : Bool} {S : gS} {a : Nat} (hS : rl S) (h : a ∈ j8) : pb fz S (a + 3) .int 300 := by
  have h := j8_or h
  rcases h with rfl | rfl | rfl | rfl | rfl | rfl | rfl | rfl
  all_goals exact ⟨⟨Nat.le_of_ble_eq_true rfl, by decide, Nat.lt_of_le_of_lt (Nat.le_of_ble_eq_true rfl) hS.1, hS.2 _ (Nat.le_of_ble_eq_true rfl) (Nat.le_of_ble_eq_true rfl)⟩, Nat.le_of_ble_eq_true rfl⟩
theorem jf_8_5 {M : rf_M} {a : Nat} (hM : kfr M) (h : a ∈ j8) : M.2.2 a 5 = some (a + 4) := by
  have h := j8_or h
  rcases h with rfl | rfl | rfl | rfl | rfl | rfl | rfl | rfl
  · exact hM (201, 5, 205) (by decide)
  · exact hM (217, 5, 221) (by decide)
  · exact hM (233, 5, 237) (by decide)
  · exact hM (249, 5, 253) (by decide)
  · exact hM (265, 5, 269) (by decide)
  · exact hM (281, 5, 285) (by decide)
  · exact hM (297, 5, 301) (by decide)
  · exact hM (313, 5, 317) (by decide)
theorem jt_8_5 {fz : Bool} {S : gS} {a : Nat} (hS : rl S) (h : a ∈ j8) : pb fz S (a + 4) .int 8 := by
  have h := j8_or h
  rcases h with rfl | rfl | rfl | rfl | rfl | rfl | rfl | rfl
  all_goals exact ⟨⟨Nat.le_of_ble_eq_true rfl, by decide, Nat.lt_of_le_of_lt (Nat.le_of_ble_eq_true rfl) hS.1, hS.2 _ (Nat.le_of_ble_eq_true rfl) (Nat.le_of_ble_eq_true rfl)⟩, Nat.le_of_ble_eq_true rfl⟩
theorem jf_8_6 {M : rf_M} {a : Nat} (hM : kfr M) (h : a ∈ j8) : M.2.2 a 6 = some (a + 5) := by
  have h := j8_or h
  rcases h with rfl | rfl | rfl | rfl | rfl | rfl | rfl | rfl
  · exact hM (201, 6, 206) (by decide)
  · exact hM (217, 6, 222) (by decide)
  · exact hM (233, 6, 238) (by decide)
  · exact hM (249, 6, 254) (by decide)
  · exact hM (265, 6, 270) (by decide)
  · exact hM (281, 6, 286) (by decide)
  · exact hM (297, 6, 302) (by decide)
  · exact hM (313, 6, 318) (by decide)
theorem jt_8_6 {fz : Bool} {S : gS} {a : Nat} (hS : rl S) (h : a ∈ j8) : pb fz S (a + 5) .long 128 := by
  have h := j8_or h
  rcases h with rfl | rfl | rfl | rfl | rfl | rfl | rfl | rfl
  all_goals exact ⟨⟨Nat.le_of_ble_eq_true rfl, by decide, Nat.lt_of_le_of_lt (Nat.le_of_ble_eq_true rfl) hS.1, hS.2 _ (Nat.le_of_ble_eq_true rfl) (Nat.le_of_ble_eq_true rfl)⟩, Nat.le_of_ble_eq_true rfl⟩
theorem jf_8_7 {M : rf_M} {a : Nat} (hM : kfr M) (h : a ∈ j8) : M.2.2 a 7 = some (a + 6) := by
  have h := j8_or h
  rcases h with rfl | rfl | rfl | rfl | rfl | rfl | rfl | rfl
  · exact hM (201, 7, 207) (by decide)
  · exact hM (217, 7, 223) (by decide)
  · exact hM (233, 7, 239) (by decide)
  · exact hM (249, 7, 255) (by decide)
  · exact hM (265, 7, 271) (by decide)
  · exact hM (281, 7, 287) (by decide)
  · exact hM (297, 7, 303) (by decide)
  · exact hM (313, 7, 319) (by decide)
theorem jt_8_7 {fz : Bool} {S : gS} {a : Nat} (hS : rl S) (h : a ∈ j8) : pb fz S (a + 6) .long 80 := by
  have h := j8_or h
  rcases h with rfl | rfl | rfl | rfl | rfl | rfl | rfl | rfl
  all_goals exact ⟨⟨Nat.le_of_ble_eq_true rfl, by decide, Nat.lt_of_le_of_lt (Nat.le_of_ble_eq_true rfl) hS.1, hS.2 _ (Nat.le_of_ble_eq_true rfl) (Nat.le_of_ble_eq_true rfl)⟩, Nat.le_of_ble_eq_true rfl⟩
theorem jf_8_8 {M : rf_M} {a : Nat} (hM : kfr M) (h : a ∈ j8) : M.2.2 a 8 = some (a + 7) := by
  have h := j8_or h
  rcases h with rfl | rfl | rfl | rfl | rfl | rfl | rfl | rfl
  · exact hM (201, 8, 208) (by decide)
  · exact hM (217, 8, 224) (by decide)
  · exact hM (233, 8, 240) (by decide)
  · exact hM (249, 8, 256) (by decide)
  · exact hM (265, 8, 272) (by decide)
  · exact hM (281, 8, 288) (by decide)
  · exact hM (297, 8, 304) (by decide)
  · exact hM (313, 8, 320) (by decide)
theorem jt_8_8 {fz : Bool} {S : gS} {a : Nat} (hS : rl S) (h : a ∈ j8) : pb fz S (a + 7) .int 8 := by
  have h := j8_or h
  rcases h with rfl | rfl | rfl | rfl | rfl | rfl | rfl | rfl
  all_goals exact ⟨⟨Nat.le_of_ble_eq_true rfl, by decide, Nat.lt_of_le_of_lt (Nat.le_of_ble_eq_true rfl) hS.1, hS.2 _ (Nat.le_of_ble_eq_true rfl) (Nat.le_of_ble_eq_true rfl)⟩, Nat.le_of_ble_eq_true rfl⟩
theorem jc_24 {fz : Bool} {S : gS} (hS : rl S) : pb fz S 24 (.object "MemoryTransactions$Program") 12 := ⟨⟨Nat.le_of_ble_eq_true rfl, by decide, Nat.lt_of_le_of_lt (Nat.le_of_ble_eq_true rfl) hS.1, hS.2 _ (Nat.le_of_ble_eq_true rfl) (Nat.le_of_ble_eq_true rfl)⟩, Nat.le_of_ble_eq_true rfl⟩
theorem jc_188 {fz : Bool} {S : gS} (hS : rl S) : pb fz S 188 .long 16 := ⟨⟨Nat.le_of_ble_eq_true rfl, by decide, Nat.lt_of_le_of_lt (Nat.le_of_ble_eq_true rfl) hS.1, hS.2 _ (Nat.le_of_ble_eq_true rfl) (Nat.le_of_ble_eq_true rfl)⟩, Nat.le_of_ble_eq_true rfl⟩
theorem jc_189 {fz : Bool} {S : gS} (hS : rl S) : pb fz S 189 .int 16 := ⟨⟨Nat.le_of_ble_eq_true rfl, by decide, Nat.lt_of_le_of_lt (Nat.le_of_ble_eq_true rfl) hS.1, hS.2 _ (Nat.le_of_ble_eq_true rfl) (Nat.le_of_ble_eq_true rfl)⟩, Nat.le_of_ble_eq_true rfl⟩
theorem jc_195 {fz : Bool} {S : gS} (hS : rl S) : pb fz S 195 (.object "MemoryTransactions$Client") 8 := ⟨⟨Nat.le_of_ble_eq_true rfl, by decide, Nat.lt_of_le_of_lt (Nat.le_of_ble_eq_true rfl) hS.1, hS.2 _ (Nat.le_of_ble_eq_true rfl) (Nat.le_of_ble_eq_true rfl)⟩, Nat.le_of_ble_eq_true rfl⟩
theorem jc_325 {fz : Bool} {S : gS} (hS : rl S) : pb fz S 325 .int 300 := ⟨⟨Nat.le_of_ble_eq_true rfl, by decide, Nat.lt_of_le_of_lt (Nat.le_of_ble_eq_true rfl) hS.1, hS.2 _ (Nat.le_of_ble_eq_true rfl) (Nat.le_of_ble_eq_true rfl)⟩, Nat.le_of_ble_eq_true rfl⟩
theorem jc_326 {fz : Bool} {S : gS} (hS : rl S) : pb fz S 326 .int 300 := ⟨⟨Nat.le_of_ble_eq_true rfl, by decide, Nat.lt_of_le_of_lt (Nat.le_of_ble_eq_true rfl) hS.1, hS.2 _ (Nat.le_of_ble_eq_true rfl) (Nat.le_of_ble_eq_true rfl)⟩, Nat.le_of_ble_eq_true rfl⟩
theorem jc_327 {fz : Bool} {S : gS} (hS : rl S) : pb fz S 327 .int 300 := ⟨⟨Nat.le_of_ble_eq_true rfl, by decide, Nat.lt_of_le_of_lt (Nat.le_of_ble_eq_true rfl) hS.1, hS.2 _ (Nat.le_of_ble_eq_true rfl) (Nat.le_of_ble_eq_true rfl)⟩, Nat.le_of_ble_eq_true rfl⟩
theorem jc_328 {fz : Bool} {S : gS} (hS : rl S) : pb fz S 328 .int 300 := ⟨⟨Nat.le_of_ble_eq_true rfl, by decide, Nat.lt_of_le_of_lt (Nat.le_of_ble_eq_true rfl) hS.1, hS.2 _ (Nat.le_of_ble_eq_true rfl) (Nat.le_of_ble_eq_true rfl)⟩, Nat.le_of_ble_eq_true rfl⟩
theorem jc_329 {fz : Bool} {S : gS} (hS : rl S) : pb fz S 329 .int 300 := ⟨⟨Nat.le_of_ble_eq_true rfl, by decide, Nat.lt_of_le_of_lt (Nat.le_of_ble_eq_true rfl) hS.1, hS.2 _ (Nat.le_of_ble_eq_true rfl) (Nat.le_of_ble_eq_true rfl)⟩, Nat.le_of_ble_eq_true rfl⟩
theorem jc_330 {fz : Bool} {S : gS} (hS : rl S) : pb fz S 330 .long 300 := ⟨⟨Nat.le_of_ble_eq_true rfl, by decide, Nat.lt_of_le_of_lt (Nat.le_of_ble_eq_true rfl) hS.1, hS.2 _ (Nat.le_of_ble_eq_true rfl) (Nat.le_of_ble_eq_true rfl)⟩, Nat.le_of_ble_eq_true rfl⟩
theorem clA_mem3 {i : Int} (h : 0 ≤ i ∧ i < 8) : clA i ∈ j6 := by
  have : ∀ n, n < 8 → 196 + 16 * n ∈ j6 := by decide
  exact this i.toNat (by omega)
theorem j7_k {a : Nat} (h : a ∈ j7) : a ∈ k7 := by
  have h := j7_or h
  rcases h with rfl | rfl | rfl | rfl | rfl | rfl | rfl | rfl <;> decide
theorem fl.wqR3 {B M M' : rf_M} {a e : Nat} (h : fl 22 331 B M) (ha : a ∈ j7) (hM : M' = wq M a 0 e) : fl 22 331 B M' := by
  subst hM
  refine h.wq' ?_ (jl_7 ha) (fun q hq => ?_)
  · have := j7_or ha; omega
  · by_cases e : q.1 = a
    · exact Or.inr (rfF_R q hq (by rw [e]; exact j7_k ha))
    · exact Or.inl e
theorem fl.wqS3 {B M M' : rf_M} {a k e : Nat} (h : fl 22 331 B M) (ha : a ∈ j4) (hM : M' = wq M (a + 3) k e) : fl 22 331 B M' := by
  subst hM
  have ho := j4_or ha
  refine h.wq' (by omega) (by omega) (fun q hq => Or.inl ?_)
  have := rfF_S q hq
  omega
