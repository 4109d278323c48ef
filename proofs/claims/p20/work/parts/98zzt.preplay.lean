/-! THE PROGRAM'S replays() leaves all as it was but for its replay -/
/-- the replay's store holds rules that are there -/
def RPL (M : rf_M) (Ts : tsT) (c0 : Nat) : Prop := (∃ rs, prs M 332 rs ∧ (∀ q ∈ rs, q.1 < c0 ∧ vld (Ts q.1).1 (Ts q.1).2.1 q.2) ∧ rs.length ≤ 32) ∧ 0 ≤ gi M 331 1 ∧ gi M 331 1 ≤ 300
section PRL
variable {M M' : rf_M} {c0 c p a n cc k hw : Nat} {X : txT} {en : Int} {K : Int → rf_M → Prop} {Ts : tsT} {S : syT} {P : Nat → Nat → Prop} {g : sgT} {r : rdT}
theorem rnR.eq4 (R : rnR M a p X n cc en g r k) (e : ∀ b k, (a ≤ b ∧ b ≤ a + 12) ∨ (p ≤ b ∧ b ≤ p + 11) → M'.1 b k = M.1 b k ∧ M'.2.1 b k = M.2.1 b k ∧ M'.2.2 b k = M.2.2 b k) : rnR M' a p X n cc en g r k := by
  obtain ⟨hk, hw, hh, r1, r2, r3, r4, r5, r6⟩ := R
  have y : eqy (fun b _ => ¬ ((a ≤ b ∧ b ≤ a + 12) ∨ (p ≤ b ∧ b ≤ p + 11))) M (M'.1, M'.2.1, M.2.2) := ⟨fun b k q => ⟨(e b k (Classical.not_not.mp q)).1, (e b k (Classical.not_not.mp q)).2.1⟩, rfl⟩
  have t2 : ptx (M'.1, M'.2.1, M.2.2) p X n cc en := r2.eq y (fun b k h1 h2 => fun q => q (Or.inr ⟨h1, h2⟩))
  have t5 : grl X (fun z => z) hw g (vP (M'.1, M'.2.1, M.2.2) a X) := by
    rw [vP_eq y (fun b k h1 h2 => fun q => q (by omega))]; exact r5
  have t6 : req r (rP (M'.1, M'.2.1, M.2.2) a) := r6.eqP y (fun b k h => fun q => q (by omega))
  exact ⟨(congrArg Int32.toInt (e a 1 (by omega)).1).trans hk, hw, hh, (e a 0 (by omega)).2.2.trans r1, t2, (congrArg Int32.toInt (e a 6 (by omega)).1).trans r3, r4, t5, t6⟩
theorem hd_c0 (hS : SI Ts c0 S) {k : Nat} (hk : k < 8) : (S.2.2.1 k).2.2.2.1 = 1 → (S.2.2.1 k).1.headD 0 < c0 := fun q => by
  have hq : (S.2.2.1 k).1.length ≠ 0 := fun z => by
    have := (hS.2.2.2.2 k hk).2.2.2.1 z
    omega
  exact (beg_ok hS hk hq).1
theorem RPS.fr (hS : SI Ts c0 S) (h : RPS M Ts c0 S) (e : ∀ b k, (25 ≤ b ∧ b < 25 + 12 * c0) ∨ (187 ≤ b ∧ b ≤ 330) → M'.1 b k = M.1 b k ∧ M'.2.1 b k = M.2.1 b k ∧ M'.2.2 b k = M.2.2 b k) : RPS M' Ts c0 S := by
  obtain ⟨h1, h2, h3, h4, h5⟩ := h
  have y : eqy (fun b _ => ¬ ((25 ≤ b ∧ b < 25 + 12 * c0) ∨ (187 ≤ b ∧ b ≤ 330))) M (M'.1, M'.2.1, M.2.2) := ⟨fun b k q => ⟨(e b k (Classical.not_not.mp q)).1, (e b k (Classical.not_not.mp q)).2.1⟩, rfl⟩
  refine ⟨fun t ht => (by have q := (h1 t ht).eq y (fun b k a1 a2 => fun q => q (by omega)); exact q), (by have q := h2.eqP y (fun b k h => fun q => q (by omega)); exact q), ⟨(y.i (a := 187) (k := 2) (fun q => q (by omega))).trans h3.1, fun j hj => ⟨(e 190 j (by omega)).2.2.trans (h3.2 j hj).1, (y.i (a := 191) (k := j) (fun q => q (by omega))).trans (h3.2 j hj).2⟩⟩, fun c hc => ?_, h5.eq (fun b k a1 a2 => ⟨(e b k (by omega)).1, (e b k (by omega)).2.1⟩)⟩
  obtain ⟨p1, p2, p3, p4⟩ := h4 c hc
  refine ⟨p1.eq (fun b k h => (e b k (by omega)).1), (congrArg Int32.toInt (e _ 0 (by omega)).1).trans p2, fun q => ?_, p4.eq (fun b k h => (e b k (by omega)).1)⟩
  have hh := hd_c0 hS hc q
  exact (p3 q).eq4 (fun b k h => e b k (by omega))
theorem RPL.fr (h : RPL M Ts c0) (e : ∀ b k, (b = 331 ∧ k = 1) ∨ (b = 332 ∧ k = 2) ∨ b = 335 ∨ b = 336 → M'.1 b k = M.1 b k ∧ M'.2.2 b k = M.2.2 b k) : RPL M' Ts c0 := by
  obtain ⟨⟨rs, h1, h2, h3⟩, h4⟩ := h
  have g : ∀ b k, (b = 331 ∧ k = 1) ∨ (b = 332 ∧ k = 2) ∨ b = 335 ∨ b = 336 → gi M' b k = gi M b k := fun b k z => congrArg Int32.toInt (e b k z).1
  refine ⟨⟨rs, ⟨(g 332 2 (by omega)).trans h1.1, fun j hj => ⟨(e 335 j (by omega)).2.trans (h1.2 j hj).1, (g 336 j (by omega)).trans (h1.2 j hj).2⟩⟩, h2, h3⟩, ?_⟩
  rw [g 331 1 (by omega)]
  exact h4
theorem x_isLike {rs1 rs2 : List (Nat × Int)} (h1 : prs M 187 rs1) (v1 : ∀ q ∈ rs1, q.1 < 12) (h2 : prs M 332 rs2) (v2 : ∀ q ∈ rs2, q.1 < 12) (k0 : K 0 M) (k1 : K 1 M) : em_S_isLike 187 332 M K := by
  refine ⟨fun he => ⟨fun a b v N => a = 187 ∧ b = 332 ∧ N = M ∧ 0 ≤ v, ⟨rfl, rfl, rfl, by omega⟩, ?_⟩, fun _ => k0⟩
  rintro a b v N - ⟨rfl, rfl, rfl, hv⟩
  refine ⟨fun _ => ?_, fun h16 _ _ => ⟨fun _ _ _ => ⟨fun _ => ⟨inr_z (by omega) (by omega), rfl, rfl, rfl, by omega⟩, fun _ => k0⟩, fun _ => k0⟩⟩
  refine ⟨fun a b v N' => a = 187 ∧ b = 332 ∧ N' = N ∧ 0 ≤ v, ⟨rfl, rfl, rfl, by omega⟩, ?_⟩
  rintro a b w N' - ⟨rfl, rfl, rfl, hw⟩
  refine ⟨fun _ => k1, fun hlt hb => ?_⟩
  have l1 : w.toNat < rs1.length := by have := h1.1; omega
  have l2 : w.toNat < rs2.length := by have := h2.1; omega
  have p1 := (isPk (h1.2 _ l1).1 (k1_mem _ (v1 _ (by rw [gD_ l1]; exact List.getElem_mem l1)))).1
  have p2 := (isPk (h2.2 _ l2).1 (k1_mem _ (v2 _ (by rw [gD_ l2]; exact List.getElem_mem l2)))).1
  exact ⟨p1, fun _ => ⟨p2, ⟨fun _ _ _ => ⟨fun _ => ⟨inr_z (by omega) (by omega), rfl, rfl, rfl, by omega⟩, fun _ => k0⟩, fun _ => k0⟩⟩⟩
theorem x_isTold {v2 v3 v4 : Int} (k0 : K 0 M) (k1 : K 1 M) : em_Y_isTold v2 v3 v4 M K := by
  have a1 : e_Y_isTold_73 M K := ⟨Or.inr rfl, k1⟩
  have a0 : e_Y_isTold_77 M K := ⟨Or.inl rfl, k0⟩
  have a51 : e_Y_isTold_51 v2 v3 M K := ⟨fun _ _ => ⟨fun _ => a1, fun _ => a0⟩, fun _ => a0⟩
  exact ⟨fun _ _ => ⟨fun _ => ⟨fun _ _ => ⟨fun _ => a1, fun _ => a51⟩, fun _ => a51⟩, fun _ => k0⟩, fun _ _ => ⟨fun _ => ⟨Or.inr rfl, k1⟩, fun _ => ⟨Or.inl rfl, k0⟩⟩⟩
/-- both hold on, whatever is done to the replay's other cells -/
theorem rp_keep (hS : SI Ts c0 S) (h : RPS M Ts c0 S ∧ RPL M Ts c0) (e : ∀ b k, b ≤ 330 ∨ (b = 331 ∧ k = 1) ∨ (b = 332 ∧ k = 2) ∨ b = 335 ∨ b = 336 → M'.1 b k = M.1 b k ∧ M'.2.1 b k = M.2.1 b k ∧ M'.2.2 b k = M.2.2 b k) : RPS M' Ts c0 S ∧ RPL M' Ts c0 := by
  have h12 := hS.1.1
  exact ⟨h.1.fr hS (fun b k z => e b k (Or.inl (by omega))), h.2.fr (fun b k z => ⟨(e b k (Or.inr z)).1, (e b k (Or.inr z)).2.2⟩)⟩
theorem eqy.t3 (y : eqy P M M') {b k : Nat} (q : ¬ P b k) : M'.1 b k = M.1 b k ∧ M'.2.1 b k = M.2.1 b k ∧ M'.2.2 b k = M.2.2 b k := ⟨(y.1 b k q).1, (y.1 b k q).2, by rw [y.2]⟩
theorem x_redo {i : Nat} {K : rf_M → Prop} (hS : SI Ts c0 S) (hV : rvw c0 S.2.2.2) (hi : i < S.2.2.2.length) (h : RPS M Ts c0 S ∧ RPL M Ts c0) (kk : ∀ M', RPS M' Ts c0 S ∧ RPL M' Ts c0 → K M') : em_Y_redo (i : Int) M K := by
  obtain ⟨x, hx, hkd⟩ := hV i hi
  have hrl := hS.2.2.1
  have h12 := hS.1.1
  intro M1 e1
  have y1 : eqy (fun b k => b = 331 ∧ k = 1) M M1 := by rw [e1]; exact (eqy.rfl' M).wi ⟨rfl, rfl⟩
  have H1 : RPS M1 Ts c0 S ∧ RPL M1 Ts c0 := by
    refine ⟨h.1.fr hS (fun b k z => y1.t3 (by omega)), ?_⟩
    obtain ⟨⟨rs, q1, q2, q3⟩, -⟩ := h.2
    refine ⟨⟨rs, ⟨(y1.i (by omega)).trans q1.1, fun j hj => ⟨by rw [y1.2]; exact (q1.2 j hj).1, (y1.i (by omega)).trans (q1.2 j hj).2⟩⟩, q2, q3⟩, ?_⟩
    rw [e1, gi_at (inr_z (by omega) (by omega))]
    omega
  refine x_Jhas hS H1.1 (fun _ => ⟨fun w => absurd w (by decide), fun _ _ _ => ?_⟩) (fun w => absurd (by omega) w)
  obtain ⟨a1, -, a3, -⟩ := H1.1.2.2.2.2.2 i hi
  have e327 : gi M1 327 i = (x : Int) := a3.trans hx
  rw [tn_, e327]
  obtain ⟨⟨rs, hrs, hmem, h32⟩, -⟩ := id H1.2
  have hro : rok Ts c0 rs := fun j hj => hmem (rs.getD j (0, 0)) (by rw [gD_ hj]; exact List.getElem_mem hj)
  refine ⟨fun k0 => ?_, fun k0 => ⟨fun w => absurd w (by omega), fun _ => ⟨fun _ _ => ?_, fun w => ?_⟩⟩⟩
  · have x16 : x < 16 := by
      rcases hkd with w | w
      · exact w.2
      · exact absurd (a1.symm.trans k0) w.1
    have k62 : ∀ (s1 : Int) (N : rf_M), (s1 = 0 ∨ s1 = 1) → RPS N Ts c0 S ∧ RPL N Ts c0 → e_Y_redo_62 (i : Int) (x : Int) s1 N K := by
      intro s1 N hs1 hN
      refine ⟨hs1, fun N1 f1 _ => ?_⟩
      have z1 : eqy (fun b k => b = 331 ∧ k = 2) N N1 := by rw [f1]; exact (eqy.rfl' N).wi ⟨rfl, rfl⟩
      have hN1 := rp_keep hS hN (fun b k z => z1.t3 (by omega))
      exact x_write (st := 332) x16 (fun N2 z2 _ _ => kk N2 (rp_keep hS hN1 (fun b k z => z2.t3 (by omega))))
    refine ⟨fun _ => k62 0 M1 (Or.inl rfl) H1, fun _ _ => ?_⟩
    refine x_allows (st := 332) (w := wS M1 332) (rs := rs) (by omega) x16 hS.1 H1.1.1 (weq.rfl' _) hrs hro h32 (fun M4 y4 => ?_)
    have H4 := rp_keep hS H1 (fun b k z => y4.t3 (by unfold alP wsP; omega))
    exact ⟨fun _ => k62 0 M4 (Or.inl rfl) H4, fun _ => k62 1 M4 (Or.inr rfl) H4⟩
  · have hxc : x < c0 := by
      rcases hkd with w | w
      · exact absurd (a1.trans w.1) k0
      · exact w.2
    have hX := hS.1.2 x hxc
    have hp1 := k1_mem x (by omega)
    have epg : pgA (x : Int) = 25 + 12 * x := by unfold pgA; rw [tn_]
    rw [epg]
    have hsr : stR 340 = 332 := rfl
    refine x_begin (a := 340) (by omega) hp1 hX (H1.1.1 x hxc) (fun M3 f3 R3 => ?_)
    have H3 := rp_keep hS H1 (fun b k z => f3 b k (by omega))
    refine ⟨fun v2 v4 v5 N => v2 = (i : Int) ∧ (∃ (k : Nat) (g : sgT) (r : rdT), k ≤ 300 ∧ rnR N 340 (25 + 12 * x) (Ts x).1 (Ts x).2.1 (Ts x).2.2.1 (Ts x).2.2.2 g r k ∧ gvl (Ts x).1 (Ts x).2.1 k g) ∧ (RPS N Ts c0 S ∧ RPL N Ts c0) ∧ (0 ≤ v5 ∧ v5 ≤ 301), ⟨rfl, ⟨0, _, _, by omega, R3, gvl_0 hX⟩, H3, by omega⟩, ?_⟩
    rintro v2 v4 v5 N - - - ⟨rfl, ⟨k, g, r, hk3, R, G⟩, hN, hv5⟩
    have k227 : ∀ (s1 : Int) (N : rf_M), (s1 = 0 ∨ s1 = 1) → RPS N Ts c0 S ∧ RPL N Ts c0 → e_Y_redo_227 s1 N K := by
      intro s1 N hs1 hN
      refine ⟨hs1, fun N1 f1 => ?_⟩
      have z1 : eqy (fun b k => b = 331 ∧ k = 2) N N1 := by rw [f1]; exact (eqy.rfl' N).wi ⟨rfl, rfl⟩
      exact kk N1 (rp_keep hS hN (fun b k z => z1.t3 (by omega)))
    have k181 : ∀ (s0 : Int) (N' : rf_M), RPS N' Ts c0 S ∧ RPL N' Ts c0 → gi N' 340 1 = (k : Int) → e_Y_redo_181 (i : Int) v4 s0 N' K := by
      intro s0 N' hN' h340
      refine ⟨fun _ => k227 0 N' (Or.inl rfl) hN', fun _ _ => ?_⟩
      rw [h340]
      refine ⟨inr_z (by omega) (by omega), fun _ => ?_, fun _ => k227 0 N' (Or.inl rfl) hN'⟩
      exact x_isTold ⟨fun _ => k227 0 N' (Or.inl rfl) hN', fun w => absurd rfl w⟩ ⟨fun w => absurd w (by decide), fun _ => k227 1 N' (Or.inr rfl) hN'⟩
    have k146 : e_Y_redo_146 (i : Int) v4 N K := by
      refine ⟨fun _ => ?_, fun _ => k181 0 N hN R.1⟩
      obtain ⟨hk1, hw, hh, R0⟩ := id R
      have ip := isPk R0.1 hp1
      refine ⟨ip.1, ?_⟩
      rw [ip.2]
      obtain ⟨⟨rs', hrs', hmem', h32'⟩, -⟩ := id hN.2
      have hro' : rok Ts c0 rs' := fun j hj => hmem' (rs'.getD j (0, 0)) (by rw [gD_ hj]; exact List.getElem_mem hj)
      have hG := R0.2.2.2.2.1
      obtain ⟨cn, hcn⟩ : ∃ c : Nat, g.2.1.2.2.2 = (c : Int) := ⟨g.2.1.2.2.2.toNat, by have := hG.2.1; omega⟩
      have hcnw : cn ≤ hw := by have := hG.2.1.2; omega
      obtain ⟨gp, ghw, ghk, g2, g3, g4⟩ := G
      have hvl : ∀ j, j < cn → vld (Ts x).1 (Ts x).2.1 (g.2.2.1 j) := fun j hj => g3 j (by omega)
      refine x_takes (st := 332) (a := 340) (t := x) (c := cn) (S := (wS N 332, rs', S.2.2)) (g := g) (by omega) (by omega) hS.1 hxc hN.1.1 (weq.rfl' _) hrs' hro' h32' hG.1 hcn (by omega) (fun j hj => hG.2.2.1 j (by omega)) hvl (fun _ M4 y4 => ?_) (fun hwel M4 f4 _ p4 => ?_)
      · have H4 := rp_keep hS hN (fun b k z => y4.t3 (by unfold alP wsP; omega))
        exact ⟨fun _ => k181 0 M4 H4 ((y4.i (by unfold alP wsP; omega)).trans R.1), fun w => absurd rfl w⟩
      · refine ⟨fun w => absurd w (by decide), fun _ => k181 1 M4 ⟨hN.1.fr hS (fun b k z => f4 b k (by omega)), ⟨rs' ++ nru x g, p4, fun q hq => ?_, ?_⟩, ?_⟩ ((congrArg Int32.toInt (f4 340 1 (by omega)).1).trans R.1)⟩
        · rcases List.mem_append.mp hq with hq | hq
          · exact hmem' q hq
          · unfold nru at hq
            obtain ⟨j, hj, rfl⟩ := List.mem_map.mp hq
            have hj' := List.mem_range.mp hj
            exact ⟨hxc, hvl j (by omega)⟩
        · have hwl := hwel
          unfold wel at hwl
          rw [Bool.and_eq_true, decide_eq_true_eq] at hwl
          rw [List.length_append, nru_len]
          exact hwl.2
        · have e3 : gi M4 331 1 = gi N 331 1 := congrArg Int32.toInt (f4 331 1 (by omega)).1
          rw [e3]
          exact hN.2.2
    refine ⟨fun _ => k146, fun h5 => ⟨fun _ => ?_, fun _ => k146⟩⟩
    by_cases h3 : k < 300
    · refine x_rstep (a := 340) (w := wS N 332) (by omega) (by rw [hsr]; omega) hp1 hX R h3 (by rw [hsr]; exact weq.rfl' _) (fun N' yN RN _ => ⟨inr_z (by omega) (by omega), rfl, ⟨_, _, _, ?_, RN, ?_⟩, rp_keep hS hN (fun b k z => yN.t3 (by omega)), by omega⟩)
      · split
        · omega
        · omega
      · split
        · exact gvl_step hX G
        · rename_i w
          rw [stepp_g _ _ _ _ w]
          exact G
    · refine ⟨fun w => absurd w (by rw [R.1]; omega), fun _ N1 f1 => ?_⟩
      have z1 : eqy (fun b k => b = 340 ∧ k = 3) N N1 := by rw [f1]; exact (eqy.rfl' N).wl ⟨rfl, rfl⟩
      obtain ⟨hk1, hw, hh, R0⟩ := id R
      exact ⟨inr_z (by omega) (by omega), rfl, ⟨k, g, r, hk3, ⟨(z1.i (by omega)).trans hk1, hw, hh, rn0.eqR (by omega) R0 z1 (fun b k h => by omega) (R0.2.2.2.2.2.eqP z1 (fun b k h => by omega))⟩, G⟩, rp_keep hS hN (fun b k z => z1.t3 (by omega)), by omega⟩
  · have hxc : x < c0 := by
      rcases hkd with w | w
      · exact absurd (a1.trans w.1) k0
      · exact w.2
    exact absurd (by omega) w
theorem x_replays (hS : SI Ts c0 S) (hV : rvw c0 S.2.2.2) (h : RPS M Ts c0 S ∧ RPL M Ts c0) (kk : ∀ z M', RPS M' Ts c0 S ∧ RPL M' Ts c0 → K z M') : em_M_replays M K := by
  have hrl := hS.2.2.1
  have h12 := hS.1.1
  refine ⟨fun v N => (0 ≤ v ∧ v ≤ 300) ∧ RPS N Ts c0 S ∧ RPL N Ts c0, ⟨h.2.2, h⟩, ?_⟩
  rintro v N - ⟨hv, hN⟩
  have e324 : gi N 324 0 = (S.2.2.2.length : Int) := hN.1.2.2.2.2.1
  refine ⟨fun _ => ⟨fun _ => kk 0 N hN, fun _ => ?_⟩, fun hlt => ?_⟩
  · obtain ⟨⟨rs, hrs, hmem, h32⟩, -⟩ := id hN.2
    exact x_isLike hN.1.2.2.1 (fun q hq => by have := (hS.2.1.2 q hq).1; omega) hrs (fun q hq => by have := (hmem q hq).1; omega) ⟨fun _ => kk 0 N hN, fun w => absurd rfl w⟩ ⟨fun w => absurd w (by decide), fun _ => kk 1 N hN⟩
  · rw [e324] at hlt
    obtain ⟨i, rfl⟩ : ∃ i : Nat, v = (i : Int) := ⟨v.toNat, by omega⟩
    exact x_redo hS hV (by omega) hN (fun N' hN' => ⟨inr_z (by omega) (by omega), by omega, hN'⟩)
end PRL
/-! A TEXT MORE; the program's text(); clear() -/
def exT (Ts : tsT) (c0 : Nat) (Y : txT × Nat × Nat × Int) : tsT := fun t => if t = c0 then Y else Ts t
section EXT
variable {M M' : rf_M} {c0 t : Nat} {Ts : tsT} {S : syT} {Y : txT × Nat × Nat × Int} {K : Int → rf_M → Prop}
theorem exT_lt (h : t < c0) : exT Ts c0 Y t = Ts t := if_neg (by omega)
theorem exT_at : exT Ts c0 Y c0 = Y := if_pos rfl
theorem SI_ext (h : SI Ts c0 S) (hc : c0 < 12) (hY : wfx Y.1 Y.2.1 Y.2.2.1 Y.2.2.2) : SI (exT Ts c0 Y) (c0 + 1) S := by
  obtain ⟨⟨h1, h2⟩, ⟨h3, h4⟩, h5, h6, h7⟩ := id h
  refine ⟨⟨by omega, fun t ht => ?_⟩, ⟨h3, fun q hq => ?_⟩, h5, h6, fun c hc' => ?_⟩
  · by_cases e : t = c0
    · rw [e, exT_at]; exact hY
    · rw [exT_lt (by omega)]; exact h2 t (by omega)
  · have := h4 q hq
    rw [exT_lt this.1]
    exact ⟨by omega, this.2⟩
  · obtain ⟨a1, a2, a3, a4, a5, a6, a7⟩ := h7 c hc'
    refine ⟨⟨a1.1, fun t ht => Nat.lt_succ_of_lt (a1.2 t ht)⟩, a2, a3, a4, a5, fun q => ?_, a7⟩
    rw [exT_lt (hd_c0 h hc' q)]
    exact a6 q
theorem RPS_ext (hS : SI Ts c0 S) (h : RPS M Ts c0 S) (hY : ptx M (25 + 12 * c0) Y.1 Y.2.1 Y.2.2.1 Y.2.2.2) : RPS M (exT Ts c0 Y) (c0 + 1) S := by
  obtain ⟨h1, h2, h3, h4, h5⟩ := h
  refine ⟨fun t ht => ?_, h2, h3, fun c hc => ?_, h5⟩
  · by_cases e : t = c0
    · rw [e, exT_at]; exact hY
    · rw [exT_lt (by omega)]; exact h1 t (by omega)
  · obtain ⟨p1, p2, p3, p4⟩ := h4 c hc
    refine ⟨p1, p2, fun q => ?_, p4⟩
    rw [exT_lt (hd_c0 hS hc q)]
    exact p3 q
theorem RPL_ext (h : RPL M Ts c0) : RPL M (exT Ts c0 Y) (c0 + 1) := by
  obtain ⟨⟨rs, h1, h2, h3⟩, h4⟩ := h
  refine ⟨⟨rs, h1, fun q hq => ?_, h3⟩, h4⟩
  have := h2 q hq
  rw [exT_lt this.1]
  exact ⟨by omega, this.2⟩
theorem RRS_ext (hS : SI Ts c0 S) (h : RRS M Ts c0 S) (hY : rtx M c0 Y.1 Y.2.1 Y.2.2.1 Y.2.2.2) : RRS M (exT Ts c0 Y) (c0 + 1) S := by
  obtain ⟨h1, h2, h3, h4, h5⟩ := h
  refine ⟨fun t ht => ?_, h2, ⟨h3.1, fun j hj => ?_⟩, h4, h5⟩
  · by_cases e : t = c0
    · rw [e, exT_at]; exact hY
    · rw [exT_lt (by omega)]; exact h1 t (by omega)
  · have hq := (hS.2.1.2 (S.2.1.getD j (0, 0)) (by rw [gD_ hj]; exact List.getElem_mem hj)).1
    have := h3.2 j hj
    unfold rex at this ⊢
    rw [exT_lt hq]
    exact this
theorem RRS.fr (hS : SI Ts c0 S) (h : RRS M Ts c0 S) (e : ∀ b k, 353 ≤ b → M'.1 b k = M.1 b k ∧ M'.2.1 b k = M.2.1 b k) : RRS M' Ts c0 S := by
  have y : eqy (fun b _ => b < 353) M (M'.1, M'.2.1, M.2.2) := ⟨fun b k q => e b k (by omega), rfl⟩
  have q := h.eq hS y (fun b k z => by unfold pvR at z; omega)
  exact q
theorem RRS.tx {r : Nat} (hS : SI Ts c0 S) (h : RRS M Ts c0 S) (hr : c0 ≤ r) (e : eqy (txW r) M M') : RRS M' Ts c0 S := by
  have h' : RRS (M'.1, M'.2.1, M'.2.2) Ts c0 S := by
    obtain ⟨h1, h2, h3, h4, h5⟩ := h
    have h32 := hS.2.1.1
    have nn : ∀ b k, 376 ≤ b → ¬ txW r b k := fun b k z => by unfold txW teW; omega
    refine ⟨fun t ht => ?_, h2.eqR e (fun b k z => nn b k (by omega)), h3.eq e (fun b k z => nn b k (by omega)), fun c hc => ?_, h5.eq e (fun b k z => by unfold txW teW; omega)⟩
    · obtain ⟨a1, a2, a3⟩ := h1 t ht
      have hw := hS.1.2 t ht
      have n40 := hw.1
      have c160 := hw.2.1
      have g : ∀ b k, 358 ≤ b → b ≤ 370 → b ≠ 359 → (b = 358 → k = t) → (360 ≤ b → b ≤ 367 → k < 40 * t + 40) → (368 ≤ b → k < 200 * t + 160) → ¬ txW r b k := fun b k z1 z2 z6 z3 z4 z5 => by
        unfold txW teW
        omega
      refine ⟨(e.i (g _ _ (by omega) (by omega) (by omega) (fun _ => rfl) (by omega) (by omega))).trans a1, fun s hs => ?_, fun i hi => ?_⟩
      · obtain ⟨b0, b1, b2, b3, b4, b5, b6, b7, b8⟩ := a2 s hs
        have gg : ∀ b, 360 ≤ b → b ≤ 367 → gi M' b (40 * t + s) = gi M b (40 * t + s) := fun b z1 z2 => e.i (g _ _ (by omega) (by omega) (by omega) (by omega) (by omega) (by omega))
        exact ⟨(gg _ (by omega) (by omega)).trans b0, (gg _ (by omega) (by omega)).trans b1, (gg _ (by omega) (by omega)).trans b2, (gg _ (by omega) (by omega)).trans b3, fun z => (gg _ (by omega) (by omega)).trans (b4 z), fun z => (gg _ (by omega) (by omega)).trans (b5 z), (gg _ (by omega) (by omega)).trans b6, (gg _ (by omega) (by omega)).trans b7, fun z => (gg _ (by omega) (by omega)).trans (b8 z)⟩
      · obtain ⟨b0, b1, b2⟩ := a3 i hi
        exact ⟨(e.i (g _ _ (by omega) (by omega) (by omega) (by omega) (by omega) (by omega))).trans b0, fun z => (e.i (g _ _ (by omega) (by omega) (by omega) (by omega) (by omega) (by omega))).trans (b1 z), fun z => (e.l (g _ _ (by omega) (by omega) (by omega) (by omega) (by omega) (by omega))).trans (b2 z)⟩
    · obtain ⟨b1, b2⟩ := h4 c hc
      have hl := (hS.2.2.2.2 c hc).1.1
      exact ⟨b1.eq hl e (fun b k z => nn b k (by omega)), b2.eq e (fun b k z => nn b k (by omega)) (fun _ z => z)⟩
  exact h'
/-- clear(): the replay begins anew -/
theorem x_clearL (kk : ∀ z M', RPL M' Ts c0 → K z M') : em_M_clear M K := by
  intro M1 e1
  refine x_Sreset (st := 187) (fun M2 y2 w2 r2 => x_Sreset (st := 332) (fun M3 y3 _ r3 M4 e4 M5 e5 => ?_))
  have k1 : gi M5 331 1 = 0 := by rw [e5, gi_of (Or.inr (by omega)), e4, gi_at (inr_z (by omega) (by omega))]
  have k2 : gi M5 332 2 = 0 := by rw [e5, gi_of (Or.inl (by omega)), e4, gi_of (Or.inl (by omega))]; exact r3
  refine ⟨fun v1 v2 M' => ∃ j : Nat, v2 = (j : Int) ∧ j ≤ 8 ∧ eqy (fun b k => (196 ≤ b ∧ b < 324)) M5 M', ⟨0, rfl, by omega, eqy.rfl' _⟩, ?_⟩
  rintro v1 v2 M6 - - ⟨j, rfl, hj, y6⟩
  refine ⟨fun h M7 e7 => ?_, fun h _ => ?_⟩
  · have y7 : eqy (fun b k => b = 22 ∧ k = 4) M6 M7 := by rw [e7]; exact (eqy.rfl' _).wi ⟨rfl, rfl⟩
    have g1 : gi M7 331 1 = 0 := (y7.i (by omega)).trans ((y6.i (by omega)).trans k1)
    have g2 : gi M7 332 2 = 0 := (y7.i (by omega)).trans ((y6.i (by omega)).trans k2)
    exact kk _ M7 ⟨⟨[], ⟨g2, fun j hj => absurd hj (by show ¬ j < 0; omega)⟩, fun q hq => (by cases hq), by show 0 ≤ 32; omega⟩, by omega, by omega⟩
  · rw [clA_]
    intro M7 e7 M8 e8 M9 e9 M10 e10
    have y10 : eqy (fun b k => b = 196 + 16 * j ∧ (k = 0 ∨ k = 5 ∨ k = 1 ∨ k = 2)) M6 M10 := by
      rw [e10, e9, e8, e7]
      exact ((((eqy.rfl' _).wi ⟨rfl, by omega⟩).wi ⟨rfl, by omega⟩).wi ⟨rfl, by omega⟩).wi ⟨rfl, by omega⟩
    exact ⟨inr_z (by omega) (by omega), j + 1, by omega, by omega, y6.trans (y10.mono (fun b k h => by omega))⟩
end EXT
/-- parse, as text() calls it -/
def Prx (fz : Bool) (Sg : gS) (x0 : Nat) (x1 : Int) (x2 : Nat) (M : rf_M) (K : Int → rf_M → Prop) : Prop := x0 = 23 ∧ x2 ∈ k1 ∧ sc_S fz Sg ∧ sc_M fz Sg (rf_wq M 170 4 (some 23)) ∧ ∃ n : Nat, x1 = (n : Int) ∧ n ≤ 800 ∧ ∀ z M', inr z → prsx x2 (p_T (M.1 23) n) M z M' → K z M'
theorem l_text {fz : Bool} {Sg : gS} {B M : rf_M} {K : Int → rf_M → Prop} (hS : rl Sg) (hR : fl 22 353 B M) (h : em_M_text (Prx fz Sg) M K) (n0 : Nat) : lx (cx0 fz) n0 16 0 (lv_args 0 [.ref 22]) [] (M, Sg) (vl_i 22 353 B Sg K) := by
  refine E_M_text_m (Pr := Prx fz Sg) hS hR (fun n' _ x0 x1 x2 M K a b c d h => ?_) h
  obtain ⟨rfl, hp, hSS, hM, n, rfl, hn, kk⟩ := h
  refine lx_mono (l_parse (K := fun z M' => prsx x2 (p_T (M.1 23) n) M z M') hS a hp hn hSS hM (fun _ _ q => q) n') ?_
  rintro r h' ⟨z, M', e1, e2, f, iz, q⟩
  exact ⟨z, M', e1, e2, f, iz, kk z M' iz q⟩
def txF (c0 : Nat) (M M' : rf_M) : Prop := (∀ a k, ¬ (25 + 12 * c0 ≤ a ∧ a ≤ 36 + 12 * c0) → ¬ (169 ≤ a ∧ a ≤ 173) → a ≠ 22 → M'.1 a k = M.1 a k ∧ M'.2.1 a k = M.2.1 a k) ∧ ∀ a k, ¬ (a = 169 ∧ k = 1) → ¬ (a = 170 ∧ k = 4) → M'.2.2 a k = M.2.2 a k
def txA (T : tK) (c0 : Nat) (M' : rf_M) : Prop := ∃ n j s c u first, dSs (κT T) (νT T) (XP M' (25 + 12 * c0)) (dB (κT T) (νT T) (XP M' (25 + 12 * c0)) 8) (-1) 0 0 n 0 0 0 j s c first u ∧ κT T j = 0 ∧ ptx M' (25 + 12 * c0) (XP M' (25 + 12 * c0)) s c first ∧ s ≤ 40 ∧ c ≤ 2 * u ∧ u ≤ 60
theorem x_text {fz : Bool} {Sg : gS} {M : rf_M} {n c0 : Nat} {K : Int → rf_M → Prop} (h1 : gi M 22 1 = (n : Int)) (hn : n ≤ 800) (h3 : gi M 22 3 = (c0 : Int)) (hc : c0 ≤ 12) (hSS : sc_S fz Sg) (hM : sc_M fz Sg (rf_wq M 170 4 (some 23))) (kk : ∀ z M', txF c0 M M' → ((z = -1 ∨ z = -2) ∧ gi M' 22 3 = (c0 : Int)) ∨ (z = (c0 : Int) ∧ c0 < 12 ∧ gi M' 22 3 = (c0 : Int) + 1 ∧ txA (p_T (M.1 23) n) c0 M') → K z M') : em_M_text (Prx fz Sg) M K := by
  have epg : pgA (gi M 22 3) = 25 + 12 * c0 := by unfold pgA; rw [h3, tn_]
  refine ⟨fun hlt _ => ?_, fun _ => kk (-1) M ⟨fun _ _ _ _ _ => ⟨rfl, rfl⟩, fun _ _ _ _ => rfl⟩ (Or.inl ⟨Or.inl rfl, h3⟩)⟩
  rw [epg]
  have hc12 : c0 < 12 := by omega
  refine ⟨rfl, k1_mem c0 hc12, hSS, hM, n, h1, hn, fun z1 M1 iz q M2 e2 M3 e3 => ?_⟩
  obtain ⟨⟨q1, q2⟩, q3⟩ := q
  have y3 : eqy (fun b k => b = 22 ∧ (k = 1 ∨ k = 4)) M1 M3 := by rw [e3, e2]; exact ((eqy.rfl' _).wi ⟨rfl, Or.inr rfl⟩).wi ⟨rfl, Or.inl rfl⟩
  have g3 : gi M3 22 3 = (c0 : Int) := (y3.i (by omega)).trans ((congrArg Int32.toInt (q1 22 3 (by omega) (by omega)).1).trans h3)
  have g4 : gi M3 22 4 = z1 := by rw [e3, gi_of (Or.inr (by omega)), e2, gi_at iz]
  have F3 : ∀ M4, eqy (fun b k => b = 22) M3 M4 → txF c0 M M4 := fun M4 y4 => by
    refine ⟨fun a k z1 z2 z3 => ?_, fun a k z1 z2 => ?_⟩
    · have a4 := y4.1 a k z3
      have a3 := y3.1 a k (by omega)
      have a1 := q1 a k (by omega) z2
      exact ⟨a4.1.trans (a3.1.trans a1.1), a4.2.trans (a3.2.trans a1.2)⟩
    · rw [y4.2, y3.2]
      exact q2 a k z1 z2
  refine ⟨fun w M4 e4 => ?_, fun _ => kk (-2) M3 (F3 M3 (eqy.rfl' _)) (Or.inl ⟨Or.inr rfl, g3⟩)⟩
  have y4 : eqy (fun b k => b = 22) M3 M4 := by rw [e4]; exact (eqy.rfl' _).wi rfl
  have g5 : gi M4 22 3 = (c0 : Int) + 1 := by rw [e4, gi_at (by rw [g3]; exact inr_z (by omega) (by omega)), g3]
  rw [g5, show (c0 : Int) + 1 - 1 = (c0 : Int) by omega]
  refine ⟨inr_z (by omega) (by omega), kk (c0 : Int) M4 (F3 M4 y4) (Or.inr ⟨rfl, hc12, g5, ?_⟩)⟩
  obtain ⟨n', j, s, c, u, first, d1, d2, d3, d4, d5, d6, d7, d8⟩ := q3 (g4.symm.trans w)
  have xx : XP M4 (25 + 12 * c0) = XP M1 (25 + 12 * c0) := (XP_same y4 (fun b k z1 z2 => by omega)).trans (XP_same y3 (fun b k z1 z2 => by omega))
  have gg : ∀ k, gi M4 (25 + 12 * c0) k = gi M1 (25 + 12 * c0) k := fun k => (y4.i (by omega)).trans (y3.i (by omega))
  refine ⟨n', j, s, c, u, first, by rw [xx]; exact d1, d2, ⟨⟨(gg 0).trans d3, (gg 3).trans d4, (gg 4).trans d5⟩, fun s _ => ⟨rfl, rfl, rfl, rfl, rfl, rfl, rfl, rfl, rfl⟩, fun i _ => ⟨rfl, rfl⟩⟩, d6, d7, d8⟩
/-! THE REFERENCE'S feed, end, place, told, client leave texts, store, clients, rows alone -/
section WFM
variable {M M' : rf_M} {c0 n : Nat} {Ts : tsT} {S : syT} {K : Int → rf_M → Prop}
theorem y_feed {v1 v2 v3 v4 v5 : Int} (h2 : gi M 353 2 = (n : Int)) (hn : n ≤ 800) (kk : ∀ z M', eqy (fun a k => (a = 353 ∧ (k = 0 ∨ k = 2)) ∨ a = 354) M M' → K z M') : em_W_feed v1 v2 v3 v4 v5 M K := by
  intro M1 e1
  have y1 : eqy (fun a k => (a = 353 ∧ (k = 0 ∨ k = 2)) ∨ a = 354) M M1 := by rw [e1]; exact (eqy.rfl' M).wi (Or.inl ⟨rfl, Or.inl rfl⟩)
  have g2 : gi M1 353 2 = (n : Int) := by rw [e1, gi_of (Or.inr (by omega)), h2]
  rw [g2]
  refine ⟨inr_z (by omega) (by omega), fun _ => ?_, fun _ => kk (-1) M1 y1⟩
  refine ⟨fun _ _ _ _ _ v6 N => (0 ≤ v6 ∧ v6 ≤ 20) ∧ eqy (fun a k => (a = 353 ∧ (k = 0 ∨ k = 2)) ∨ a = 354) M N, ⟨by omega, y1⟩, ?_⟩
  rintro v1 v2 v3 v4 v5 v6 N - - - - - - ⟨hv, yN⟩
  have k78 : ¬ 20 ≤ v6 → ∀ s0, e_W_feed_78 v1 v2 v3 v4 v5 v6 s0 N (fun _ _ _ _ _ v6 N => (0 ≤ v6 ∧ v6 ≤ 20) ∧ eqy (fun a k => (a = 353 ∧ (k = 0 ∨ k = 2)) ∨ a = 354) M N) K := by
    intro h20 s0 _ N1 f1 N2 f2
    refine ⟨inr_z (by omega) (by omega), by omega, ?_⟩
    rw [f2, f1]
    exact (yN.wi (Or.inr rfl)).wi (Or.inl ⟨rfl, Or.inr rfl⟩)
  exact ⟨fun _ => kk _ N yN, fun h20 => ⟨fun _ => k78 h20 _, fun _ => ⟨fun _ => k78 h20 _, fun _ => ⟨fun _ => k78 h20 _, fun _ => ⟨fun _ => k78 h20 _, fun _ => k78 h20 _⟩⟩⟩⟩⟩
theorem y_endc {v1 : Int} (kk : ∀ z M', eqy (fun a k => (a = 353 ∧ (k = 0 ∨ k = 2)) ∨ a = 354) M M' → K z M') : em_W_end v1 M K := by
  intro M1 e1
  have y1 : eqy (fun a k => (a = 353 ∧ (k = 0 ∨ k = 2)) ∨ a = 354) M M1 := by rw [e1]; exact (eqy.rfl' M).wi (Or.inl ⟨rfl, Or.inl rfl⟩)
  exact ⟨fun _ => kk (-1) M1 y1, fun _ => ⟨fun _ => kk (-1) M1 y1, fun _ => ⟨fun _ M2 e2 => kk _ M2 (by rw [e2]; exact y1.wi (Or.inl ⟨rfl, Or.inr rfl⟩)), fun _ => kk (-1) M1 y1⟩⟩⟩
theorem y_placec (kk : ∀ z M', eqy (fun a k => (a = 353 ∧ (k = 0 ∨ k = 2)) ∨ a = 354) M M' → K z M') : em_W_place M K := by
  intro M1 e1
  exact kk _ M1 (by rw [e1]; exact (eqy.rfl' M).wi (Or.inl ⟨rfl, Or.inl rfl⟩))
theorem y_toldc {v1 v2 : Int} (kk : ∀ z M', eqy (fun a k => (a = 353 ∧ (k = 0 ∨ k = 2)) ∨ a = 354) M M' → K z M') : em_W_told v1 v2 M K := by
  intro M1 e1
  have y1 : eqy (fun a k => (a = 353 ∧ (k = 0 ∨ k = 2)) ∨ a = 354) M M1 := by rw [e1]; exact (eqy.rfl' M).wi (Or.inl ⟨rfl, Or.inl rfl⟩)
  exact ⟨fun _ => kk (-1) M1 y1, fun _ => ⟨fun _ => ⟨fun _ _ => kk _ M1 y1, fun _ => ⟨fun _ _ => kk _ M1 y1, fun _ => ⟨fun _ _ => kk _ M1 y1, fun _ => kk _ M1 y1⟩⟩⟩, fun _ => kk (-1) M1 y1⟩⟩
theorem y_client {x y : Int} (hS : SI Ts c0 S) (hR : RRS M Ts c0 S) (kk : ∀ z M', RRS M' Ts c0 S → K z M') : em_W_client x y M K := by
  intro M1 e1
  have R1 := hR.code hS e1
  have no : e_W_client_23 M1 K := kk (-1) M1 R1
  refine y_isClient (fun hx => ⟨fun q => absurd q (by decide), fun _ => ⟨fun _ => no, fun h => ⟨fun h' _ => ?_, fun _ => no⟩⟩⟩) (fun hx => ⟨fun _ => no, fun q => absurd rfl q⟩)
  obtain ⟨c, rfl⟩ : ∃ c : Nat, x = (c : Int) := ⟨x.toNat, by omega⟩
  have hc : c < 8 := by omega
  obtain ⟨rb, rs⟩ := R1.2.2.2.1 c hc
  have hcl := hS.2.2.2.2 c hc
  have htg := hcl.2.2.2.2.1
  have h382 : 0 ≤ gi M1 382 c ∧ gi M1 382 c ≤ 2 := by
    have : (S.2.2.1 c).2.2.2.1 = 0 ∨ (S.2.2.1 c).2.2.2.1 = 1 ∨ (S.2.2.1 c).2.2.2.1 = 2 := by omega
    rcases this with t | t | t
    · rcases rs.2.1 t with a | ⟨a1, -⟩ <;> omega
    · have := (rs.1 t).1; omega
    · rcases rs.2.2 t with ⟨a, -⟩ | ⟨a1, -⟩ <;> omega
  have wlk : ¬ (S.2.2.1 c).1.length = 0 → gi M1 382 c = 1 → ∀ K' : rf_M → Prop, (∀ M3, RRS M3 Ts c0 S → K' M3) → em_W_walkAnew (c : Int) M1 K' := by
    intro hq h1 K' k'
    have hbeg := beg_ok hS hc hq
    have hc0 := hS.1.1
    have ht12 := hbeg.1
    have hX := hS.1.2 _ ht12
    have k383 : gi M1 383 c = ((beg Ts (S.2.2.1 c)).1 : Int) ∧ req (beg Ts (S.2.2.1 c)).2.2 (rC M1 c) := by
      by_cases ht : (S.2.2.1 c).2.2.2.1 = 1
      · have eb : beg Ts (S.2.2.1 c) = (S.2.2.1 c).2.2.2.2 := by unfold beg; rw [if_pos ht]
        rw [eb]
        exact ⟨(rs.1 ht).2.1, (rs.1 ht).2.2⟩
      · have eb : beg Ts (S.2.2.1 c) = (0, run0 (Ts ((S.2.2.1 c).1.headD 0)).2.2.2, rd0) := by unfold beg; rw [if_neg ht]
        rw [eb]
        have h36 : gi M1 383 c = 0 ∧ gi M1 386 c = 0 := by
          have : (S.2.2.1 c).2.2.2.1 = 0 ∨ (S.2.2.1 c).2.2.2.1 = 2 := by omega
          rcases this with t | t
          · rcases rs.2.1 t with a | ⟨a1, a2, a3⟩
            · omega
            · exact ⟨a2, a3⟩
          · rcases rs.2.2 t with ⟨a, _⟩ | ⟨a1, a2, a3, _⟩
            · omega
            · exact ⟨a2, a3⟩
        refine ⟨h36.1, ⟨?_, fun l _ b => ?_⟩⟩
        · show M1.1 386 c = 0
          exact Int32.toInt_inj.mp (by rw [show (M1.1 386 c).toInt = gi M1 386 c from rfl, h36.2]; rfl)
        · rw [show bt rd0.1 l = false from bt_0 l] at b; cases b
    refine y_walkAnew (w := S.1) (r := (beg Ts (S.2.2.1 c)).2.2) (g := (beg Ts (S.2.2.1 c)).2.1) (k := (beg Ts (S.2.2.1 c)).1) hc (by omega) hX (R1.1 _ ht12) (y_hd rb hq) k383.1 k383.2 R1.2.1 (hbeg.2.2.1 S.1 _ (rsub.rfl' _)) hbeg.2.1 (fun M3 y3 d3 W3 => k' M3 ?_)
    exact R1.eq hS y3 (fun b k a => by unfold pvR at a; unfold waW stW; omega)
  have k59 : ∀ v3 s0 : Int, (s0 = 0 ∨ (¬ (S.2.2.1 c).1.length = 0 ∧ gi M1 382 c = 1)) → e_W_client_59 (c : Int) y v3 s0 M1 K := by
    intro v3 s0 hs0
    refine ⟨fun _ => ⟨fun _ _ => ?_, fun _ => kk 0 M1 R1⟩, fun _ _ => kk _ M1 R1, fun _ => ⟨fun _ => ⟨inr_z (by omega) (by omega), fun _ => kk _ M1 R1⟩, fun _ => kk _ M1 R1⟩, fun _ _ => kk _ M1 R1, fun _ _ => kk _ M1 R1, fun _ _ => kk _ M1 R1, fun _ _ => ⟨fun _ => kk 0 M1 R1, fun _ => kk 1 M1 R1⟩, fun _ => ⟨fun _ => kk 0 M1 R1, fun h0 => ?_⟩⟩
    · rw [tn_]
      exact ⟨inr_z (by omega) (by omega), kk _ M1 R1⟩
    · rcases hs0 with w | ⟨w1, w2⟩
      · exact absurd w h0
      · exact wlk w1 w2 _ (fun M3 R3 => ⟨fun _ => kk _ M3 R3, fun _ => kk _ M3 R3⟩)
  rw [tn_, rb.1.1]
  refine ⟨fun h0 => ⟨fun w => absurd w (by decide), fun _ => k59 1 0 (Or.inl rfl)⟩, fun h0 => ⟨fun _ _ => ?_, fun w => absurd rfl w⟩⟩
  rw [tn_]
  exact ⟨fun h1 => k59 0 1 (Or.inr ⟨by omega, h1⟩), fun _ => k59 0 0 (Or.inl rfl)⟩
end WFM
/-! BOTH, EXACTLY: what holds between two calls -/
def EXJ (M : rf_M) : Prop := ∃ (Ts : tsT) (c : Nat) (S : syT), M.1 22 3 = nI c ∧ gi M 353 11 = (c : Int) ∧ SI Ts c S ∧ RPS M Ts c S ∧ RRS M Ts c S ∧ RPL M Ts c
def JF (fz : Bool) (L : Nat) (xs : Nat → Int32) (M : rf_M) : Prop := JJ fz L xs M ∧ kfr M ∧ EXJ M
theorem nI_inj {a b : Nat} (ha : a ≤ 100000) (hb : b ≤ 100000) (h : nI a = nI b) : a = b := by
  have := congrArg Int32.toInt h
  rw [nI_int ha, nI_int hb] at this
  omega
theorem rl_HK (fz : Bool) (L : Nat) (xs : Nat → Int32) : rl (HK fz L xs).2 := ⟨by rw [HK_n]; decide, fun a h1 h2 => by rw [HK_shp fz L xs h1, K2_shp fz h1 h2]⟩
theorem lx_and {cx : rf_C} {n i pc : Nat} {ls : rf_L} {st : List Value} {h : rf_H} {Q Q' : Option Value → rf_H → Prop} (k : lx cx n i pc ls st h Q) (k' : lx cx n i pc ls st h Q') : lx cx n i pc ls st h (fun r h' => Q r h' ∧ Q' r h') := fun m hm d r h' he => ⟨k m hm d r h' he, k' m hm d r h' he⟩
theorem fl.up {B M : rf_M} (h : fl 22 331 B M) : fl 22 353 B M := ⟨fun a k q => h.1 a k (fun w => q ⟨w.1, by omega⟩), h.2⟩
section UPF
variable {fz : Bool} {L : Nat} {xs : Nat → Int32} {jx jm : Nat} {as : List Value} {b b' : Bool}
theorem up_I {P : rf_M → Int → rf_M → Prop} {R : rf_M → Int → rf_M → Int → rf_M → Prop} (hQ : lw_I (cx0 fz) (HK fz L xs).2 xs (JJ fz L xs) b jx jm as)
    (hP : ∀ M, JF fz L xs M → ∀ n0, lx (cx0 fz) n0 jx 0 (lv_args 0 (.ref 22 :: as)) [] (M, (HK fz L xs).2) (vl_i 22 353 M (HK fz L xs).2 (P M)))
    (hR : ∀ M z M1, JF fz L xs M → P M z M1 → fl 22 353 M M1 → ∀ n0, lx (cx0 fz) n0 jm 0 (lv_args 0 (.ref 353 :: as)) [] (M1, (HK fz L xs).2) (vl_i 353 406 M1 (HK fz L xs).2 (R M z M1)))
    (hF : ∀ M z M1 z' M2, JF fz L xs M → P M z M1 → fl 22 353 M M1 → R M z M1 z' M2 → fl 353 406 M1 M2 → JJ fz L xs M2 → EXJ M2 ∧ (b' = true → z = z')) : lw_I (cx0 fz) (HK fz L xs).2 xs (JF fz L xs) b' jx jm as := by
  intro M hJ
  refine gx_mono (gx_lx (hQ M hJ.1) (fun n0 => hP M hJ n0)) ?_
  rintro r h' ⟨⟨z, M1, rfl, rfl, c1, g⟩, z0, M1', e1, e2, f1, i1, p1⟩
  obtain rfl : M1 = M1' := (Prod.mk.inj e2).1
  have e1' : Value.int z = Value.int (Int32.ofInt z0) := Option.some.inj e1
  have ez : z = Int32.ofInt z0 := by injection e1'
  refine ⟨z, M1, rfl, rfl, c1, gx_mono (gx_lx g (fun n0 => hR M z0 M1 hJ p1 f1 n0)) ?_⟩
  rintro r' h'' ⟨⟨z', M2, rfl, rfl, j2, -⟩, z0', M2', e3, e4, f2, i2, p2⟩
  obtain rfl : M2 = M2' := (Prod.mk.inj e4).1
  have e3' : Value.int z' = Value.int (Int32.ofInt z0') := Option.some.inj e3
  have ez' : z' = Int32.ofInt z0' := by injection e3'
  obtain ⟨hE, hz⟩ := hF M z0 M1 z0' M2 hJ p1 f1 p2 f2 j2
  exact ⟨z', M2, rfl, rfl, ⟨j2, f2.2, hE⟩, fun w => by rw [ez, ez', hz w]⟩
theorem up_L {P : rf_M → Int64 → rf_M → Prop} {R : rf_M → Int64 → rf_M → Int64 → rf_M → Prop} (hQ : lw_L (cx0 fz) (HK fz L xs).2 xs (JJ fz L xs) b jx jm as)
    (hP : ∀ M, JF fz L xs M → ∀ n0, lx (cx0 fz) n0 jx 0 (lv_args 0 (.ref 22 :: as)) [] (M, (HK fz L xs).2) (vl_l 22 353 M (HK fz L xs).2 (P M)))
    (hR : ∀ M z M1, JF fz L xs M → P M z M1 → fl 22 353 M M1 → ∀ n0, lx (cx0 fz) n0 jm 0 (lv_args 0 (.ref 353 :: as)) [] (M1, (HK fz L xs).2) (vl_l 353 406 M1 (HK fz L xs).2 (R M z M1)))
    (hF : ∀ M z M1 z' M2, JF fz L xs M → P M z M1 → fl 22 353 M M1 → R M z M1 z' M2 → fl 353 406 M1 M2 → JJ fz L xs M2 → EXJ M2 ∧ (b' = true → z = z')) : lw_L (cx0 fz) (HK fz L xs).2 xs (JF fz L xs) b' jx jm as := by
  intro M hJ
  refine gx_mono (gx_lx (hQ M hJ.1) (fun n0 => hP M hJ n0)) ?_
  rintro r h' ⟨⟨z, M1, rfl, rfl, c1, g⟩, z0, M1', e1, e2, f1, p1⟩
  obtain rfl : M1 = M1' := (Prod.mk.inj e2).1
  have e1' : Value.long z = Value.long z0 := Option.some.inj e1
  have ez : z = z0 := by injection e1'
  refine ⟨z, M1, rfl, rfl, c1, gx_mono (gx_lx g (fun n0 => hR M z0 M1 hJ p1 f1 n0)) ?_⟩
  rintro r' h'' ⟨⟨z', M2, rfl, rfl, j2, -⟩, z0', M2', e3, e4, f2, p2⟩
  obtain rfl : M2 = M2' := (Prod.mk.inj e4).1
  have e3' : Value.long z' = Value.long z0' := Option.some.inj e3
  have ez' : z' = z0' := by injection e3'
  obtain ⟨hE, hz⟩ := hF M z0 M1 z0' M2 hJ p1 f1 p2 f2 j2
  exact ⟨z', M2, rfl, rfl, ⟨j2, f2.2, hE⟩, fun w => by rw [ez, ez', hz w]⟩
theorem up_FI (F : tsT → Nat → syT → Int × syT) (hQ : lw_I (cx0 fz) (HK fz L xs).2 xs (JJ fz L xs) b jx jm as) (hSI : ∀ Ts c S, SI Ts c S → SI Ts c (F Ts c S).2)
    (hc : ∀ {M : rf_M} {n c : Nat}, cJ fz L xs M n c → gx (cx0 fz) (2000, 80000) jx 0 (lv_args 0 (.ref 22 :: as)) [] (M, (HK fz L xs).2) (fun r h' => ∃ (z : Int32) (M' : rf_M), r = some (.int z) ∧ h' = (M', (HK fz L xs).2) ∧ cJ fz L xs M' n c ∧ (∀ k, M'.1 23 k = M.1 23 k) ∧ (∀ i k, i < 12 → M'.1 (25 + 12 * i) k = M.1 (25 + 12 * i) k) ∧ ∀ a k, 353 ≤ a → sx_same M M' a k))
    (hx : ∀ M Ts c S n0, SI Ts c S → RPS M Ts c S → RPL M Ts c → gi M 22 3 = (c : Int) → rvw c S.2.2.2 → kfr M → lx (cx0 fz) n0 jx 0 (lv_args 0 (.ref 22 :: as)) [] (M, (HK fz L xs).2) (vl_i 22 353 M (HK fz L xs).2 (fun z M' => (b' = true → z = (F Ts c S).1) ∧ RPS M' Ts c (F Ts c S).2 ∧ RPL M' Ts c)))
    (hm : ∀ M Ts c S n0, SI Ts c S → RRS M Ts c S → gi M 353 11 = (c : Int) → rvw c S.2.2.2 → kfr M → lx (cx0 fz) n0 jm 0 (lv_args 0 (.ref 353 :: as)) [] (M, (HK fz L xs).2) (vl_i 353 406 M (HK fz L xs).2 (fun z M' => (b' = true → z = (F Ts c S).1) ∧ RRS M' Ts c (F Ts c S).2))) : lw_I (cx0 fz) (HK fz L xs).2 xs (JF fz L xs) b' jx jm as := by
  refine up_I (P := fun M z M1 => ∃ Ts c S, (SI Ts c S ∧ RRS M Ts c S ∧ gi M 353 11 = (c : Int) ∧ rvw c S.2.2.2) ∧ M1.1 22 3 = nI c ∧ (b' = true → z = (F Ts c S).1) ∧ RPS M1 Ts c (F Ts c S).2 ∧ RPL M1 Ts c) (R := fun M z M1 z' M2 => ∃ Ts c S, SI Ts c S ∧ M1.1 22 3 = nI c ∧ (b' = true → z = (F Ts c S).1) ∧ RPS M1 Ts c (F Ts c S).2 ∧ RPL M1 Ts c ∧ (b' = true → z' = (F Ts c S).1) ∧ RRS M2 Ts c (F Ts c S).2) hQ ?_ ?_ ?_
  · intro M hJ n0
    obtain ⟨⟨n, c', hc', hm'⟩, hk, Ts, c, S, e22, e11, hS, hP, hR, hL⟩ := hJ
    have h12 := hS.1.1
    have ec : c' = c := nI_inj (by have := JJ.c12 hc'; omega) (by omega) (hc'.2.2.2.1.symm.trans e22)
    subst ec
    have g22 : gi M 22 3 = (c' : Int) := by show (M.1 22 3).toInt = _; rw [e22, nI_int (by omega)]
    have hV := rvw_of hR hm'.1
    refine lx_mono (lx_and (lx_gx (hc hc') n0) (hx M Ts c' S n0 hS hP hL g22 hV hk)) ?_
    rintro r h' ⟨⟨z, M1, rfl, rfl, cj, -⟩, z0, M1', e1, e2, f, iz, q1, q2, q3⟩
    obtain rfl : M1 = M1' := (Prod.mk.inj e2).1
    exact ⟨z0, M1, e1, rfl, f, iz, Ts, c', S, ⟨hS, hR, e11, hV⟩, cj.2.2.2.1, q1, q2, q3⟩
  · rintro M z M1 hJ ⟨Ts, c, S, ⟨hS, hR, e11, hV⟩, e22, q1, q2, q3⟩ f n0
    have hR1 : RRS M1 Ts c S := hR.fr hS (fun b k hb => ⟨(f.1 b k (by omega)).1, (f.1 b k (by omega)).2.1⟩)
    have g11 : gi M1 353 11 = (c : Int) := (congrArg Int32.toInt (f.1 353 11 (by omega)).1).trans e11
    refine lx_mono (hm M1 Ts c S n0 hS hR1 g11 hV f.2) ?_
    rintro r h' ⟨z', M2, e1, e2, f2, iz, p1, p2⟩
    exact ⟨z', M2, e1, e2, f2, iz, Ts, c, S, hS, e22, q1, q2, q3, p1, p2⟩
  · rintro M z M1 z' M2 hJ - f1 ⟨Ts, c, S, hS, e22, q1, q2, q3, p1, p2⟩ f2 ⟨n2, c2, hc2, hm2⟩
    have hS' := hSI Ts c S hS
    have h12 := hS.1.1
    have e22' : M2.1 22 3 = nI c := (f2.1 22 3 (by omega)).1.trans e22
    have ec : c2 = c := nI_inj (by have := JJ.c12 hc2; omega) (by omega) (hc2.2.2.2.1.symm.trans e22')
    subst ec
    exact ⟨⟨Ts, c2, _, e22', hm2.1.2.1, hS', q2.fr hS' (fun b k hb => f2.1 b k (by omega)), p2, q3.fr (fun b k hb => ⟨(f2.1 b k (by omega)).1, (f2.1 b k (by omega)).2.2⟩)⟩, fun w => (q1 w).trans (p1 w).symm⟩
theorem up_FL (F : syT → Int64) (hQ : lw_L (cx0 fz) (HK fz L xs).2 xs (JJ fz L xs) b jx jm as)
    (hc : ∀ {M : rf_M} {n c : Nat}, cJ fz L xs M n c → gx (cx0 fz) (2000, 80000) jx 0 (lv_args 0 (.ref 22 :: as)) [] (M, (HK fz L xs).2) (fun r h' => ∃ (z : Int64) (M' : rf_M), r = some (.long z) ∧ h' = (M', (HK fz L xs).2) ∧ cJ fz L xs M' n c ∧ (∀ k, M'.1 23 k = M.1 23 k) ∧ (∀ i k, i < 12 → M'.1 (25 + 12 * i) k = M.1 (25 + 12 * i) k) ∧ ∀ a k, 353 ≤ a → sx_same M M' a k))
    (hx : ∀ M Ts c S n0, SI Ts c S → RPS M Ts c S → RPL M Ts c → kfr M → lx (cx0 fz) n0 jx 0 (lv_args 0 (.ref 22 :: as)) [] (M, (HK fz L xs).2) (vl_l 22 353 M (HK fz L xs).2 (fun z M' => z = F S ∧ RPS M' Ts c S ∧ RPL M' Ts c)))
    (hm : ∀ M Ts c S n0, SI Ts c S → RRS M Ts c S → kfr M → lx (cx0 fz) n0 jm 0 (lv_args 0 (.ref 353 :: as)) [] (M, (HK fz L xs).2) (vl_l 353 406 M (HK fz L xs).2 (fun z M' => z = F S ∧ RRS M' Ts c S))) : lw_L (cx0 fz) (HK fz L xs).2 xs (JF fz L xs) b' jx jm as := by
  refine up_L (P := fun M z M1 => ∃ Ts c S, (SI Ts c S ∧ RRS M Ts c S) ∧ M1.1 22 3 = nI c ∧ z = F S ∧ RPS M1 Ts c S ∧ RPL M1 Ts c) (R := fun M z M1 z' M2 => ∃ Ts c S, SI Ts c S ∧ M1.1 22 3 = nI c ∧ z = F S ∧ RPS M1 Ts c S ∧ RPL M1 Ts c ∧ z' = F S ∧ RRS M2 Ts c S) hQ ?_ ?_ ?_
  · intro M hJ n0
    obtain ⟨⟨n, c', hc', hm'⟩, hk, Ts, c, S, e22, e11, hS, hP, hR, hL⟩ := hJ
    have h12 := hS.1.1
    have ec : c' = c := nI_inj (by have := JJ.c12 hc'; omega) (by omega) (hc'.2.2.2.1.symm.trans e22)
    subst ec
    refine lx_mono (lx_and (lx_gx (hc hc') n0) (hx M Ts c' S n0 hS hP hL hk)) ?_
    rintro r h' ⟨⟨z, M1, rfl, rfl, cj, -⟩, z0, M1', e1, e2, f, q1, q2, q3⟩
    obtain rfl : M1 = M1' := (Prod.mk.inj e2).1
    exact ⟨z0, M1, e1, rfl, f, Ts, c', S, ⟨hS, hR⟩, cj.2.2.2.1, q1, q2, q3⟩
  · rintro M z M1 hJ ⟨Ts, c, S, ⟨hS, hR⟩, e22, q1, q2, q3⟩ f n0
    have hR1 : RRS M1 Ts c S := hR.fr hS (fun b k hb => ⟨(f.1 b k (by omega)).1, (f.1 b k (by omega)).2.1⟩)
    refine lx_mono (hm M1 Ts c S n0 hS hR1 f.2) ?_
    rintro r h' ⟨z', M2, e1, e2, f2, p1, p2⟩
    exact ⟨z', M2, e1, e2, f2, Ts, c, S, hS, e22, q1, q2, q3, p1, p2⟩
  · rintro M z M1 z' M2 hJ - f1 ⟨Ts, c, S, hS, e22, q1, q2, q3, p1, p2⟩ f2 ⟨n2, c2, hc2, hm2⟩
    have h12 := hS.1.1
    have e22' : M2.1 22 3 = nI c := (f2.1 22 3 (by omega)).1.trans e22
    have ec : c2 = c := nI_inj (by have := JJ.c12 hc2; omega) (by omega) (hc2.2.2.2.1.symm.trans e22')
    subst ec
    exact ⟨⟨Ts, c2, _, e22', hm2.1.2.1, hS, q2.fr hS (fun b k hb => f2.1 b k (by omega)), p2, q3.fr (fun b k hb => ⟨(f2.1 b k (by omega)).1, (f2.1 b k (by omega)).2.2⟩)⟩, fun _ => q1.trans p1.symm⟩
theorem hx31 {M : rf_M} {Ts : tsT} {c n0 : Nat} {S' : syT} {a : Int} {ls : rf_L} {Sg : gS} (hl : RPL M Ts c) (h : lx (cx0 fz) n0 jx 0 ls [] (M, Sg) (vl_i 22 331 M Sg (fun z M' => z = a ∧ RPS M' Ts c S'))) : lx (cx0 fz) n0 jx 0 ls [] (M, Sg) (vl_i 22 353 M Sg (fun z M' => (b' = true → z = a) ∧ RPS M' Ts c S' ∧ RPL M' Ts c)) := by
  refine lx_mono h ?_
  rintro r h' ⟨z, M', e1, e2, f, iz, q1, q2⟩
  exact ⟨z, M', e1, e2, f.up, iz, fun _ => q1, q2, hl.fr (fun b k hb => ⟨(f.1 b k (by omega)).1, (f.1 b k (by omega)).2.2⟩)⟩
theorem hx31L {M : rf_M} {Ts : tsT} {c n0 : Nat} {S' : syT} {a : Int64} {ls : rf_L} {Sg : gS} (hl : RPL M Ts c) (h : lx (cx0 fz) n0 jx 0 ls [] (M, Sg) (vl_l 22 331 M Sg (fun z M' => z = a ∧ RPS M' Ts c S'))) : lx (cx0 fz) n0 jx 0 ls [] (M, Sg) (vl_l 22 353 M Sg (fun z M' => z = a ∧ RPS M' Ts c S' ∧ RPL M' Ts c)) := by
  refine lx_mono h ?_
  rintro r h' ⟨z, M', e1, e2, f, q1, q2⟩
  exact ⟨z, M', e1, e2, f.up, q1, q2, hl.fr (fun b k hb => ⟨(f.1 b k (by omega)).1, (f.1 b k (by omega)).2.2⟩)⟩
end UPF
/-! THE PAIRS, EXACTLY -/
def trnF (z : Int) (Ts : tsT) (_ : Nat) (S : syT) : Int × syT := if 0 ≤ z ∧ z < 8 then trn Ts S z.toNat else (-1, S)
def plyF (s : Int64) (n : Int) (Ts : tsT) (_ : Nat) (S : syT) : Int × syT := if 0 ≤ n ∧ n ≤ 2000 then plyS Ts n.toNat s 0 S else (-1, S)
theorem SI_trnF {z : Int} {Ts : tsT} {c : Nat} {S : syT} (h : SI Ts c S) : SI Ts c (trnF z Ts c S).2 := by
  unfold trnF
  split
  · exact SI_trn h (by omega)
  · exact h
theorem SI_plyF {s : Int64} {n : Int} {Ts : tsT} {c : Nat} {S : syT} (h : SI Ts c S) : SI Ts c (plyF s n Ts c S).2 := by
  unfold plyF
  split
  · exact SI_ply _ _ _ _ h
  · exact h
section GP
variable (fz : Bool) (L : Nat) (xs : Nat → Int32) (b' : Bool)
theorem G_put (a0 : Int32) (a1 : Int64) : lw_I (cx0 fz) (HK fz L xs).2 xs (JF fz L xs) b' 59 184 [.int a0, .long a1] :=
  up_FI (fun Ts _ S => putS Ts S a0.toInt a1) (Q_put fz L xs a0 a1) (fun _ _ _ h => SI_put h) (fun h => cq_put fz L xs h a0 a1)
    (fun M Ts c S n0 hS hP hL g22 hV hk => by rw [← zv_i a0]; exact hx31 hL (H_M_put_m (rl_HK fz L xs) (fl.rfl' hk) (inr_ti a0) (x_put hS hP (fun M' h => ⟨rfl, h⟩))))
    (fun M Ts c S n0 hS hR g11 hV hk => by rw [← zv_i a0]; exact E_W_put_m (rl_HK fz L xs) (fl.rfl' hk) (inr_ti a0) (y_put hS hR (fun M' h => ⟨fun _ => rfl, h⟩)))
theorem G_version (a0 : Int32) : lw_I (cx0 fz) (HK fz L xs).2 xs (JF fz L xs) b' 80 186 [.int a0] :=
  up_FI (fun _ _ S => (verS S a0.toInt, S)) (Q_version fz L xs a0) (fun _ _ _ h => h) (fun h => cq_version fz L xs h a0)
    (fun M Ts c S n0 hS hP hL g22 hV hk => by rw [← zv_i a0]; exact hx31 hL (H_M_version_m (rl_HK fz L xs) (fl.rfl' hk) (inr_ti a0) (x_version hP ⟨rfl, hP⟩)))
    (fun M Ts c S n0 hS hR g11 hV hk => by rw [← zv_i a0]; exact E_W_version_m (rl_HK fz L xs) (fl.rfl' hk) (inr_ti a0) (y_version hS hR (fun M' h => ⟨fun _ => rfl, h⟩)))
theorem G_add (a0 a1 : Int32) : lw_I (cx0 fz) (HK fz L xs).2 xs (JF fz L xs) b' 81 187 [.int a0, .int a1] :=
  up_FI (fun _ c S => addS c S a0.toInt a1.toInt) (Q_add fz L xs a0 a1) (fun _ _ _ h => SI_add h) (fun h => cq_add fz L xs h a0 a1)
    (fun M Ts c S n0 hS hP hL g22 hV hk => by rw [← zv_i a0, ← zv_i a1]; exact hx31 hL (H_M_add_m (rl_HK fz L xs) (fl.rfl' hk) (inr_ti a0) (inr_ti a1) (x_add hS hP g22 (fun M' h => ⟨rfl, h⟩))))
    (fun M Ts c S n0 hS hR g11 hV hk => by rw [← zv_i a0, ← zv_i a1]; exact E_W_add_m (rl_HK fz L xs) (fl.rfl' hk) (inr_ti a0) (inr_ti a1) (y_add hS hR g11 (fun M' h => ⟨fun _ => rfl, h⟩)))
theorem G_turn (a0 : Int32) : lw_I (cx0 fz) (HK fz L xs).2 xs (JF fz L xs) b' 84 154 [.int a0] :=
  up_FI (trnF a0.toInt) (Q_turn fz L xs a0) (fun _ _ _ h => SI_trnF h) (fun h => cq_turn fz L xs h a0)
    (fun M Ts c S n0 hS hP hL g22 hV hk => by rw [← zv_i a0]; exact hx31 hL (H_M_turn_m (rl_HK fz L xs) (fl.rfl' hk) (inr_ti a0) (x_turn hS hP (fun w M' h => by unfold trnF; rw [if_pos w]; exact ⟨rfl, h⟩) (fun w => by unfold trnF; rw [if_neg w]; exact ⟨rfl, hP⟩))))
    (fun M Ts c S n0 hS hR g11 hV hk => by rw [← zv_i a0]; exact E_W_turn_m (rl_HK fz L xs) (fl.rfl' hk) (inr_ti a0) (y_turn hS hR (fun w M' h => by unfold trnF; rw [if_pos w]; exact ⟨fun _ => rfl, h⟩) (fun w M' h => by unfold trnF; rw [if_neg w]; exact ⟨fun _ => rfl, h⟩)))
theorem G_play (a0 : Int64) (a1 : Int32) : lw_I (cx0 fz) (HK fz L xs).2 xs (JF fz L xs) b' 108 183 [.long a0, .int a1] :=
  up_FI (plyF a0 a1.toInt) (Q_play fz L xs a0 a1) (fun _ _ _ h => SI_plyF h) (fun h => cq_play fz L xs h a0 a1)
    (fun M Ts c S n0 hS hP hL g22 hV hk => by rw [← zv_i a1]; exact hx31 hL (H_M_play_m (rl_HK fz L xs) (fl.rfl' hk) (inr_ti a1) (x_play hS hP (fun w M' h => by unfold plyF; rw [if_pos w]; exact ⟨rfl, h⟩) (fun w => by unfold plyF; rw [if_neg w]; exact ⟨rfl, hP⟩))))
    (fun M Ts c S n0 hS hR g11 hV hk => by rw [← zv_i a1]; exact E_W_play_m (rl_HK fz L xs) (fl.rfl' hk) (inr_ti a1) (y_play hS hR (fun w M' h => by unfold plyF; rw [if_pos w]; exact ⟨fun _ => rfl, h⟩) (fun w M' h => by unfold plyF; rw [if_neg w]; exact ⟨fun _ => rfl, h⟩)))
theorem G_rules : lw_I (cx0 fz) (HK fz L xs).2 xs (JF fz L xs) b' 112 190 [] :=
  up_FI (fun _ _ S => ((S.2.1.length : Int), S)) (Q_rules fz L xs) (fun _ _ _ h => h) (fun h => cq_rules fz L xs h)
    (fun M Ts c S n0 hS hP hL g22 hV hk => hx31 hL (H_M_rules_m (rl_HK fz L xs) (fl.rfl' hk) (x_rules hP ⟨rfl, hP⟩)))
    (fun M Ts c S n0 hS hR g11 hV hk => E_W_rules_m (rl_HK fz L xs) (fl.rfl' hk) (y_rules hS hR (fun M' h => ⟨fun _ => rfl, h⟩)))
theorem G_rows : lw_I (cx0 fz) (HK fz L xs).2 xs (JF fz L xs) b' 113 191 [] :=
  up_FI (fun _ _ S => ((S.2.2.2.length : Int), S)) (Q_rows fz L xs) (fun _ _ _ h => h) (fun h => cq_rows fz L xs h)
    (fun M Ts c S n0 hS hP hL g22 hV hk => hx31 hL (H_M_rows_m (rl_HK fz L xs) (fl.rfl' hk) (x_rows hP ⟨rfl, hP⟩)))
    (fun M Ts c S n0 hS hR g11 hV hk => E_W_rows_m (rl_HK fz L xs) (fl.rfl' hk) (y_rows hS hR (fun M' h => ⟨fun _ => rfl, h⟩)))
theorem G_row (a0 a1 : Int32) : lw_I (cx0 fz) (HK fz L xs).2 xs (JF fz L xs) b' 114 192 [.int a0, .int a1] :=
  up_FI (fun _ _ S => (rowS S a0.toInt a1.toInt, S)) (Q_row fz L xs a0 a1) (fun _ _ _ h => h) (fun h => cq_row fz L xs h a0 a1)
    (fun M Ts c S n0 hS hP hL g22 hV hk => by rw [← zv_i a0, ← zv_i a1]; exact hx31 hL (H_M_row_m (rl_HK fz L xs) (fl.rfl' hk) (inr_ti a0) (inr_ti a1) (x_row hS hP ⟨rfl, hP⟩)))
    (fun M Ts c S n0 hS hR g11 hV hk => by rw [← zv_i a0, ← zv_i a1]; exact E_W_row_m (rl_HK fz L xs) (fl.rfl' hk) (inr_ti a0) (inr_ti a1) (y_row hS hR (fun M' h => ⟨fun _ => rfl, h⟩)))
theorem G_cell (a0 : Int32) : lw_L (cx0 fz) (HK fz L xs).2 xs (JF fz L xs) b' 79 185 [.int a0] :=
  up_FL (fun S => celS S a0.toInt) (Q_cell fz L xs a0) (fun h => cq_cell fz L xs h a0)
    (fun M Ts c S n0 hS hP hL hk => by rw [← zv_i a0]; exact hx31L hL (H_M_cell_m (rl_HK fz L xs) (fl.rfl' hk) (inr_ti a0) (x_cell hP ⟨rfl, hP⟩)))
    (fun M Ts c S n0 hS hR hk => by rw [← zv_i a0]; exact E_W_cell_m (rl_HK fz L xs) (fl.rfl' hk) (inr_ti a0) (y_cell hS hR (fun M' h => ⟨rfl, h⟩)))
theorem G_value (a0 : Int32) : lw_L (cx0 fz) (HK fz L xs).2 xs (JF fz L xs) b' 117 193 [.int a0] :=
  up_FL (fun S => valS S a0.toInt) (Q_value fz L xs a0) (fun h => cq_value fz L xs h a0)
    (fun M Ts c S n0 hS hP hL hk => by rw [← zv_i a0]; exact hx31L hL (H_M_value_m (rl_HK fz L xs) (fl.rfl' hk) (inr_ti a0) (x_value hS hP ⟨rfl, hP⟩)))
    (fun M Ts c S n0 hS hR hk => by rw [← zv_i a0]; exact E_W_value_m (rl_HK fz L xs) (fl.rfl' hk) (inr_ti a0) (y_value hS hR (fun M' h => ⟨rfl, h⟩)))
theorem G_sees (a0 a1 : Int32) : lw_L (cx0 fz) (HK fz L xs).2 xs (JF fz L xs) b' 111 189 [.int a0, .int a1] :=
  up_FL (fun S => seesS S a0.toInt a1.toInt) (Q_sees fz L xs a0 a1) (fun h => cq_sees fz L xs h a0 a1)
    (fun M Ts c S n0 hS hP hL hk => by rw [← zv_i a0, ← zv_i a1]; exact hx31L hL (H_M_sees_m (rl_HK fz L xs) (fl.rfl' hk) (inr_ti a0) (inr_ti a1) (x_sees hS hP ⟨rfl, hP⟩)))
    (fun M Ts c S n0 hS hR hk => by rw [← zv_i a0, ← zv_i a1]; exact E_W_sees_m (rl_HK fz L xs) (fl.rfl' hk) (inr_ti a0) (inr_ti a1) (y_sees hS hR (fun M' h => ⟨rfl, h⟩)))
theorem G_clear : lw_I (cx0 fz) (HK fz L xs).2 xs (JF fz L xs) b' 122 197 [] :=
  up_FI (fun _ _ S => clrS S) (Q_clear fz L xs) (fun _ _ _ h => SI_clr h) (fun h => cq_clear fz L xs h)
    (fun M Ts c S n0 hS hP hL g22 hV hk => by
      refine lx_mono (lx_and (E_M_clear_m (K := fun z M' => z = (clrS S).1 ∧ RPS M' Ts c (clrS S).2) (rl_HK fz L xs) (fl.rfl' hk) (x_clear hS hP (fun M' h => ⟨rfl, h⟩))) (E_M_clear_m (K := fun _ M' => RPL M' Ts c) (rl_HK fz L xs) (fl.rfl' hk) (x_clearL (fun _ M' h => h)))) ?_
      rintro r h' ⟨⟨z, M', e1, e2, f, iz, q1, q2⟩, z0, M0, e3, e4, -, -, q3⟩
      have em : M0 = M' := (Prod.mk.inj (e4.symm.trans e2)).1
      rw [em] at q3
      exact ⟨z, M', e1, e2, f, iz, fun _ => q1, q2, q3⟩)
    (fun M Ts c S n0 hS hR g11 hV hk => E_W_clear_m (rl_HK fz L xs) (fl.rfl' hk) (y_clear hS hR (fun M' h => ⟨fun _ => rfl, h⟩)))
theorem G_replays : lw_I (cx0 fz) (HK fz L xs).2 xs (JF fz L xs) false 118 194 [] :=
  up_FI (fun _ _ S => (0, S)) (Q_replays fz L xs) (fun _ _ _ h => h) (fun h => cq_replays fz L xs h)
    (fun M Ts c S n0 hS hP hL g22 hV hk => E_M_replays_m (rl_HK fz L xs) (fl.rfl' hk) (x_replays hS hV ⟨hP, hL⟩ (fun z M' h => ⟨fun w => absurd w (by decide), h.1, h.2⟩)))
    (fun M Ts c S n0 hS hR g11 hV hk => E_W_replays_m (rl_HK fz L xs) (fl.rfl' hk) (y_replays hS hV hR (fun z M' h => ⟨fun w => absurd w (by decide), h⟩)))
end GP
/-! THE OTHER PAIRS; the beginning -/
theorem rg_lo : (List.range 329).all (fun i => decide (2 ≤ xk_rg (i + 24))) = true := by decide +kernel
theorem rfF_ok : rfF.all (fun q => decide (24 ≤ q.1) || (decide (q.1 = 22) && !(decide (q.2.1 = 1)))) = true := by decide +kernel
def qmd (md : List (Nat × Nat)) : Bool := md.all (fun q => decide (q = (0, 2)) || decide (q = (1, 0)))
section QTP
variable {fz : Bool} {L : Nat} {xs : Nat → Int32} {jx jm : Nat} {as : List Value} {b : Bool}
theorem sq_fl {M M' : rf_M} {md : List (Nat × Nat)} (hm : qmd md = true) (hf : sx_fr (xk_W fz L xs) md M M') (hk : kfr M) : fl 22 353 M M' ∧ M'.1 22 3 = M.1 22 3 ∧ ∀ a k, 24 ≤ a → sx_same M M' a k := by
  have hq : ∀ q ∈ md, q = (0, 2) ∨ q = (1, 0) := fun q h => by
    have := List.all_eq_true.mp hm q h
    simpa using this
  have s22 : ∀ k, k ≠ 1 → sx_same M M' 22 k := fun k hk1 => by
    refine hf 22 k (Or.inr ?_)
    show (xk_rg 22, 0) ∉ md ∧ (xk_rg 22, k + 1) ∉ md
    have e : xk_rg 22 = 0 := rfl
    rw [e]
    constructor
    · intro h
      rcases hq _ h with w | w <;> (injection w with w1 w2; omega)
    · intro h
      rcases hq _ h with w | w <;> (injection w with w1 w2; omega)
  have s24 : ∀ a k, 24 ≤ a → sx_same M M' a k := fun a k ha => by
    refine hf a k (Or.inr ?_)
    show (xk_rg a, 0) ∉ md ∧ (xk_rg a, k + 1) ∉ md
    have h2 : 2 ≤ xk_rg a := by
      by_cases h : a < 353
      · have := List.all_eq_true.mp rg_lo (a - 24) (List.mem_range.mpr (by omega))
        rw [decide_eq_true_eq, show a - 24 + 24 = a by omega] at this
        exact this
      · rw [rg_far (by omega)]; decide
    constructor
    · intro h
      rcases hq _ h with w | w <;> (injection w with w1 w2; omega)
    · intro h
      rcases hq _ h with w | w <;> (injection w with w1 w2; omega)
  refine ⟨⟨fun a k q => ?_, fun q hq' => ?_⟩, (s22 3 (by decide)).1, s24⟩
  · by_cases h : a < 22
    · have := hf a k (Or.inl h)
      exact ⟨this.1, this.2.1, this.2.2⟩
    · have := s24 a k (by omega)
      exact ⟨this.1, this.2.1, this.2.2⟩
  · have h := List.all_eq_true.mp rfF_ok q hq'
    have e : M'.2.2 q.1 q.2.1 = M.2.2 q.1 q.2.1 := by
      rw [Bool.or_eq_true, Bool.and_eq_true, decide_eq_true_eq, decide_eq_true_eq, Bool.not_eq_true', decide_eq_false_iff_not] at h
      rcases h with h | ⟨h1, h2⟩
      · exact (s24 _ _ h).2.2
      · rw [h1]; exact (s22 _ h2).2.2
    exact e.trans (hk q hq')
theorem up_QI {md : List (Nat × Nat)} (hmd : qmd md = true) (hQ : lw_I (cx0 fz) (HK fz L xs).2 xs (JJ fz L xs) b jx jm as)
    (hc : ∀ {M : rf_M}, sx_in (xk_W fz L xs) M → gx (cx0 fz) (2000, 80000) jx 0 (lv_args 0 (.ref 22 :: as)) [] (M, (HK fz L xs).2) (fun r h' => ∃ (z : Int32) (M' : rf_M), r = some (.int z) ∧ h' = (M', (HK fz L xs).2) ∧ sx_in (xk_W fz L xs) M' ∧ sx_fr (xk_W fz L xs) md M M'))
    (hm : ∀ M Ts c S n n0, SI Ts c S → RRS M Ts c S → gi M 353 2 = ((n : Nat) : Int) → n ≤ 800 → kfr M → lx (cx0 fz) n0 jm 0 (lv_args 0 (.ref 353 :: as)) [] (M, (HK fz L xs).2) (vl_i 353 406 M (HK fz L xs).2 (fun _ M' => RRS M' Ts c S))) : lw_I (cx0 fz) (HK fz L xs).2 xs (JF fz L xs) false jx jm as := by
  refine up_I (P := fun M z M1 => ∃ Ts c S, ∃ n : Nat, (SI Ts c S ∧ RRS M Ts c S ∧ gi M 353 2 = (n : Int) ∧ n ≤ 800) ∧ M1.1 22 3 = nI c ∧ RPS M1 Ts c S ∧ RPL M1 Ts c) (R := fun M z M1 z' M2 => ∃ Ts c S, SI Ts c S ∧ M1.1 22 3 = nI c ∧ RPS M1 Ts c S ∧ RPL M1 Ts c ∧ RRS M2 Ts c S) hQ ?_ ?_ ?_
  · intro M hJ n0
    obtain ⟨⟨n, c', hc', hm'⟩, hk, Ts, c, S, e22, e11, hS, hP, hR, hL⟩ := hJ
    have h12 := hS.1.1
    refine lx_mono (lx_gx (hc hc'.1) n0) ?_
    rintro r h' ⟨z, M1, rfl, rfl, -, fr⟩
    obtain ⟨f, f22, f24⟩ := sq_fl hmd fr hk
    refine ⟨z.toInt, M1, by rw [zv_i], rfl, f, inr_ti z, Ts, c, S, n, ⟨hS, hR, hm'.2.1.1, hm'.2.1.2.1⟩, f22.trans e22, hP.fr hS (fun b k hb => ?_), hL.fr (fun b k hb => ?_)⟩
    · have := f24 b k (by omega)
      exact ⟨this.1, this.2.1, this.2.2⟩
    · have := f24 b k (by omega)
      exact ⟨this.1, this.2.2⟩
  · rintro M z M1 hJ ⟨Ts, c, S, n, ⟨hS, hR, e2, hn⟩, e22, q2, q3⟩ f n0
    have hR1 : RRS M1 Ts c S := hR.fr hS (fun b k hb => ⟨(f.1 b k (by omega)).1, (f.1 b k (by omega)).2.1⟩)
    have g2 : gi M1 353 2 = (n : Int) := (congrArg Int32.toInt (f.1 353 2 (by omega)).1).trans e2
    refine lx_mono (hm M1 Ts c S n n0 hS hR1 g2 hn f.2) ?_
    rintro r h' ⟨z', M2, e1, e2, f2, iz, p2⟩
    exact ⟨z', M2, e1, e2, f2, iz, Ts, c, S, hS, e22, q2, q3, p2⟩
  · rintro M z M1 z' M2 hJ - f1 ⟨Ts, c, S, hS, e22, q2, q3, p2⟩ f2 ⟨n2, c2, hc2, hm2⟩
    have h12 := hS.1.1
    have e22' : M2.1 22 3 = nI c := (f2.1 22 3 (by omega)).1.trans e22
    have ec : c2 = c := nI_inj (by have := JJ.c12 hc2; omega) (by omega) (hc2.2.2.2.1.symm.trans e22')
    subst ec
    exact ⟨⟨Ts, c2, _, e22', hm2.1.2.1, hS, q2.fr hS (fun b k hb => f2.1 b k (by omega)), p2, q3.fr (fun b k hb => ⟨(f2.1 b k (by omega)).1, (f2.1 b k (by omega)).2.2⟩)⟩, fun w => absurd w (by decide)⟩
end QTP
theorem RRS.tape {M M' : rf_M} {Ts : tsT} {c0 : Nat} {S : syT} (hS : SI Ts c0 S) (h : RRS M Ts c0 S) (e : eqy (fun a k => (a = 353 ∧ (k = 0 ∨ k = 2)) ∨ a = 354) M M') : RRS M' Ts c0 S := h.eq hS e (fun b k z => by unfold pvR at z; omega)
section GQ
variable (fz : Bool) (L : Nat) (xs : Nat → Int32)
theorem G_feed (a0 a1 a2 a3 a4 : Int32) : lw_I (cx0 fz) (HK fz L xs).2 xs (JF fz L xs) false 13 128 [.int a0, .int a1, .int a2, .int a3, .int a4] :=
  up_QI (md := xk_c_1.2.2.2.1) (by decide +kernel) (Q_feed fz L xs a0 a1 a2 a3 a4) (fun h => cl_feed fz L xs h a0 a1 a2 a3 a4)
    (fun M Ts c S n n0 hS hR e2 hn hk => by rw [← zv_i a0, ← zv_i a1, ← zv_i a2, ← zv_i a3, ← zv_i a4]; exact E_W_feed_m (rl_HK fz L xs) (fl.rfl' hk) (inr_ti a0) (inr_ti a1) (inr_ti a2) (inr_ti a3) (inr_ti a4) (y_feed e2 hn (fun z M' y => hR.tape hS y)))
theorem G_end (a0 : Int32) : lw_I (cx0 fz) (HK fz L xs).2 xs (JF fz L xs) false 15 129 [.int a0] :=
  up_QI (md := xk_c_2.2.2.2.1) (by decide +kernel) (Q_end fz L xs a0) (fun h => cl_end fz L xs h a0)
    (fun M Ts c S n n0 hS hR e2 hn hk => by rw [← zv_i a0]; exact E_W_end_m (rl_HK fz L xs) (fl.rfl' hk) (inr_ti a0) (y_endc (fun z M' y => hR.tape hS y)))
theorem G_place : lw_I (cx0 fz) (HK fz L xs).2 xs (JF fz L xs) false 56 152 [] :=
  up_QI (md := xk_c_4.2.2.2.1) (by decide +kernel) (Q_place fz L xs) (fun h => cl_place fz L xs h)
    (fun M Ts c S n n0 hS hR e2 hn hk => E_W_place_m (rl_HK fz L xs) (fl.rfl' hk) (y_placec (fun z M' y => hR.tape hS y)))
theorem G_told (a0 a1 : Int32) : lw_I (cx0 fz) (HK fz L xs).2 xs (JF fz L xs) false 57 153 [.int a0, .int a1] :=
  up_QI (md := xk_c_5.2.2.2.1) (by decide +kernel) (Q_told fz L xs a0 a1) (fun h => cl_told fz L xs h a0 a1)
    (fun M Ts c S n n0 hS hR e2 hn hk => by rw [← zv_i a0, ← zv_i a1]; exact E_W_told_m (rl_HK fz L xs) (fl.rfl' hk) (inr_ti a0) (inr_ti a1) (y_toldc (fun z M' y => hR.tape hS y)))
theorem G_client (a0 a1 : Int32) : lw_I (cx0 fz) (HK fz L xs).2 xs (JF fz L xs) false 109 188 [.int a0, .int a1] :=
  up_QI (md := xk_c_12.2.2.2.1) (by decide +kernel) (Q_client fz L xs a0 a1) (fun h => cl_client fz L xs h a0 a1)
    (fun M Ts c S n n0 hS hR e2 hn hk => by rw [← zv_i a0, ← zv_i a1]; exact E_W_client_m (rl_HK fz L xs) (fl.rfl' hk) (inr_ti a0) (inr_ti a1) (y_client hS hR (fun z M' h => h)))
theorem G_text : lw_I (cx0 fz) (HK fz L xs).2 xs (JF fz L xs) false 16 130 [] := by
  refine up_I (P := fun M z M1 => ∃ Ts c S, ∃ n : Nat, (SI Ts c S ∧ RPS M Ts c S ∧ RRS M Ts c S ∧ RPL M Ts c ∧ gi M 353 11 = (c : Int) ∧ tp M n (M.1 23)) ∧ txF c M M1 ∧ (gi M1 22 3 = (c : Int) ∨ (c < 12 ∧ gi M1 22 3 = (c : Int) + 1 ∧ txA (p_T (M.1 23) n) c M1)))
    (R := fun M z M1 z' M2 => ∃ Ts c S, (SI Ts c S ∧ RPS M1 Ts c S ∧ RPL M1 Ts c ∧ RRS M2 Ts c S) ∧ (gi M1 22 3 = (c : Int) ∨ (c < 12 ∧ gi M1 22 3 = (c : Int) + 1 ∧ ∃ Y : txT × Nat × Nat × Int, wfx Y.1 Y.2.1 Y.2.2.1 Y.2.2.2 ∧ ptx M1 (25 + 12 * c) Y.1 Y.2.1 Y.2.2.1 Y.2.2.2 ∧ (gi M2 353 11 = (c : Int) ∨ rtx M2 c Y.1 Y.2.1 Y.2.2.1 Y.2.2.2)))) (Q_text fz L xs) ?_ ?_ ?_
  · intro M hJ n0
    obtain ⟨⟨n, c', hc', hm'⟩, hk, Ts, c, S, e22, e11, hS, hP, hR, hL⟩ := hJ
    have h12 := hS.1.1
    have h8 := hc'.2.2.1.2
    have g22 : gi M 22 3 = (c : Int) := by show (M.1 22 3).toInt = _; rw [e22, nI_int (by omega)]
    have g21 : gi M 22 1 = (n : Int) := by show (M.1 22 1).toInt = _; rw [hc'.2.2.1.1, nI_int (by omega)]
    have htq := (cJ_tq hc').2.2.2 0 (by omega)
    refine l_text (rl_HK fz L xs) (fl.rfl' hk) (x_text g21 h8 g22 h12 htq.1.2.1 htq.2.2 (fun z M1 tf q => ?_)) n0
    refine ⟨Ts, c, S, n, ⟨hS, hP, hR, hL, e11, hm'.2.1⟩, tf, ?_⟩
    rcases q with ⟨-, q⟩ | ⟨-, q1, q2, q3⟩
    · exact Or.inl q
    · exact Or.inr ⟨q1, q2, q3⟩
  · rintro M z M1 hJ ⟨Ts, c, S, n, ⟨hS, hP, hR, hL, e11, htp⟩, tf, q⟩ f n0
    have h12 := hS.1.1
    have hR1 : RRS M1 Ts c S := hR.fr hS (fun b k hb => ⟨(f.1 b k (by omega)).1, (f.1 b k (by omega)).2.1⟩)
    have gf : ∀ b k, 353 ≤ b → gi M1 b k = gi M b k := fun b k hb => congrArg Int32.toInt (f.1 b k (by omega)).1
    have g11 : gi M1 353 11 = (c : Int) := (gf _ _ (by omega)).trans e11
    have htp1 : tp M1 n (M.1 23) := ⟨(gf _ _ (by omega)).trans htp.1, htp.2.1, fun k hk => by rw [gf 354 k (by omega)]; exact htp.2.2 k hk⟩
    have hP1 : RPS M1 Ts c S := hP.fr hS (fun b k hb => ⟨(tf.1 b k (by omega) (by omega) (by omega)).1, (tf.1 b k (by omega) (by omega) (by omega)).2, tf.2 b k (by omega) (by omega)⟩)
    have hL1 : RPL M1 Ts c := hL.fr (fun b k hb => ⟨(tf.1 b k (by omega) (by omega) (by omega)).1, tf.2 b k (by omega) (by omega)⟩)
    rcases q with q | ⟨q1, q2, n', j, s, cc, u, first, d1, d2, d3, d4, d5, d6⟩
    · exact E_W_text_m (rl_HK fz L xs) (fl.rfl' f.2) (F_text g11 h12 htp1 (fun z' M2 y _ => ⟨Ts, c, S, ⟨hS, hP1, hL1, hR1.tx hS (Nat.le_refl _) y⟩, Or.inl q⟩))
    · refine E_W_text_m (rl_HK fz L xs) (fl.rfl' f.2) (y_text (X := XP M1 (25 + 12 * c)) (en := first) (S := s) (C := cc) g11 h12 htp1 d4 ⟨n', j, first, u, d1, ⟨fun w => absurd rfl w, fun _ => ⟨fun _ => rfl, fun e ρ he => by cases he⟩⟩, d2, by omega⟩ (fun z' M2 y q' => ⟨Ts, c, S, ⟨hS, hP1, hL1, hR1.tx hS (Nat.le_refl _) y⟩, Or.inr ⟨q1, q2, (XP M1 (25 + 12 * c), s, cc, first), wfx_of (p_T_l _ _) d1 d4 d5 d6, d3, ?_⟩⟩))
      rcases q' with ⟨-, q'⟩ | ⟨-, -, -, q'⟩
      · exact Or.inl q'
      · exact Or.inr q'
  · rintro M z M1 z' M2 hJ - f1 ⟨Ts, c, S, ⟨hS, q2, q3, p2⟩, q⟩ f2 ⟨n2, c2, hc2, hm2⟩
    have h12 := hS.1.1
    have c12 := JJ.c12 hc2
    have g2 : gi M1 22 3 = (c2 : Int) := by
      have e : gi M2 22 3 = gi M1 22 3 := congrArg Int32.toInt (f2.1 22 3 (by omega)).1
      rw [← e]
      show (M2.1 22 3).toInt = _
      rw [hc2.2.2.2.1, nI_int (by omega)]
    have P2 : RPS M2 Ts c S := q2.fr hS (fun b k hb => f2.1 b k (by omega))
    have L2 : RPL M2 Ts c := q3.fr (fun b k hb => ⟨(f2.1 b k (by omega)).1, (f2.1 b k (by omega)).2.2⟩)
    refine ⟨?_, fun w => absurd w (by decide)⟩
    rcases q with q | ⟨q1, q4, Y, hY, hp, hr⟩
    · have ec : c2 = c := by omega
      subst ec
      exact ⟨Ts, c2, S, hc2.2.2.2.1, hm2.1.2.1, hS, P2, p2, L2⟩
    · have ec : c2 = c + 1 := by omega
      subst ec
      have g11 := hm2.1.2.1
      rcases hr with hr | hr
      · rw [hr] at g11
        omega
      · have hp2 : ptx M2 (25 + 12 * c) Y.1 Y.2.1 Y.2.2.1 Y.2.2.2 := by
          have y : eqy (fun b _ => 353 ≤ b) M1 (M2.1, M2.2.1, M1.2.2) := ⟨fun b k q => ⟨(f2.1 b k (by omega)).1, (f2.1 b k (by omega)).2.1⟩, rfl⟩
          have q := hp.eq y (fun b k z1 z2 => by omega)
          exact q
        exact ⟨exT Ts c Y, c + 1, S, hc2.2.2.2.1, g11, SI_ext hS q1 hY, RPS_ext hS P2 hp2, RRS_ext hS p2 hr, RPL_ext L2⟩
end GQ
