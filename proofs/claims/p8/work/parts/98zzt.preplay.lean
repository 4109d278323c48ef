/-! THE PROGRAM'S replays() leaves all as it was but for its replay -/
/-- the replay's store holds rules that are there -/
def RPL (M : rf_M) (Ts : tsT) (c0 : Nat) : Prop := (∃ rs, prs M 332 rs ∧ (∀ q ∈ rs, q.1 < c0 ∧ vld (Ts q.1).1 (Ts q.1).2.1 q.2) ∧ rs.length ≤ 32) ∧ 0 ≤ gi M 331 1 ∧ gi M 331 1 ≤ 300
section PRL
variable {M M' : rf_M} {c0 c p a n cc k hw : Nat} {X : txT} {en : Int} {K : Int → rf_M → Prop} {Ts : tsT} {S : syT} {P : Nat → Nat → Prop} {g : sgT} {r : rdT}
theorem rnR.eq4 (R : rnR M a p X n cc en g r k) (e : ∀ b k, (a ≤ b ∧ b ≤ a + 12) ∨ (p ≤ b ∧ b ≤ p + 11) → M'.1 b k = M.1 b k ∧ M'.2.1 b k = M.2.1 b k ∧ M'.2.2 b k = M.2.2 b k) : rnR M' a p X n cc en g r k := by
  obtain ⟨hk, hw, hh, r1, r2, r3, r4, r5, r6⟩ := R
  have y : eqy (fun b _ => ¬ ((a ≤ b ∧ b ≤ a + 12) ∨ (p ≤ b ∧ b ≤ p + 11))) M (M'.1, M'.2.1, M.2.2) := ⟨fun b k q => ⟨(e b k (Classical.not_not.mp q)).1, (e b k (Classical.not_not.mp q)).2.1⟩, rfl⟩
  have t2 : ptx (M'.1, M'.2.1, M.2.2) p X n cc en := r2.eq y (fun b k h1 h2 => fun q => q (Or.inr ⟨h1, h2⟩))
  have t5 : grl X (fun z => z) hw g (vP (M'.1, M'.2.1, M.2.2) a X) := by
    rw [vP_eq y (fun b k h1 h2 => fun q => q (by omega))]; exact r5
  have t6 : req r (rP (M'.1, M'.2.1, M.2.2) a) := r6.eqP y (fun b k h => fun q => q (by omega))
  exact ⟨(congrArg Int32.toInt (e a 1 (by omega)).1).trans hk, hw, hh, (e a 0 (by omega)).2.2.trans r1, t2, (congrArg Int32.toInt (e a 6 (by omega)).1).trans r3, r4, t5, t6⟩
theorem hd_c0 (hS : SI Ts c0 S) {k : Nat} (hk : k < 8) : (S.2.2.1 k).2.2.2.1 = 1 → (S.2.2.1 k).1.headD 0 < c0 := fun q => by
  have hq : (S.2.2.1 k).1.length ≠ 0 := fun z => by
    have := (hS.2.2.2.2 k hk).2.2.2.1 z
    omega
  exact (beg_ok hS hk hq).1
theorem RPS.fr (hS : SI Ts c0 S) (h : RPS M Ts c0 S) (e : ∀ b k, (25 ≤ b ∧ b < 25 + 12 * c0) ∨ (187 ≤ b ∧ b ≤ 330) → M'.1 b k = M.1 b k ∧ M'.2.1 b k = M.2.1 b k ∧ M'.2.2 b k = M.2.2 b k) : RPS M' Ts c0 S := by
  obtain ⟨h1, h2, h3, h4, h5⟩ := h
  have y : eqy (fun b _ => ¬ ((25 ≤ b ∧ b < 25 + 12 * c0) ∨ (187 ≤ b ∧ b ≤ 330))) M (M'.1, M'.2.1, M.2.2) := ⟨fun b k q => ⟨(e b k (Classical.not_not.mp q)).1, (e b k (Classical.not_not.mp q)).2.1⟩, rfl⟩
  refine ⟨fun t ht => (by have q := (h1 t ht).eq y (fun b k a1 a2 => fun q => q (by omega)); exact q), (by have q := h2.eqP y (fun b k h => fun q => q (by omega)); exact q), ⟨(y.i (a := 187) (k := 2) (fun q => q (by omega))).trans h3.1, fun j hj => ⟨(e 190 j (by omega)).2.2.trans (h3.2 j hj).1, (y.i (a := 191) (k := j) (fun q => q (by omega))).trans (h3.2 j hj).2⟩⟩, fun c hc => ?_, h5.eq (fun b k a1 a2 => ⟨(e b k (by omega)).1, (e b k (by omega)).2.1⟩)⟩
  obtain ⟨p1, p2, p3, p4⟩ := h4 c hc
  refine ⟨p1.eq (fun b k h => (e b k (by omega)).1), (congrArg Int32.toInt (e _ 0 (by omega)).1).trans p2, fun q => ?_, p4.eq (fun b k h => (e b k (by omega)).1)⟩
  have hh := hd_c0 hS hc q
  exact (p3 q).eq4 (fun b k h => e b k (by omega))
theorem RPL.fr (h : RPL M Ts c0) (e : ∀ b k, (b = 331 ∧ k = 1) ∨ (b = 332 ∧ k = 2) ∨ b = 335 ∨ b = 336 → M'.1 b k = M.1 b k ∧ M'.2.2 b k = M.2.2 b k) : RPL M' Ts c0 := by
  obtain ⟨⟨rs, h1, h2, h3⟩, h4⟩ := h
  have g : ∀ b k, (b = 331 ∧ k = 1) ∨ (b = 332 ∧ k = 2) ∨ b = 335 ∨ b = 336 → gi M' b k = gi M b k := fun b k z => congrArg Int32.toInt (e b k z).1
  refine ⟨⟨rs, ⟨(g 332 2 (by omega)).trans h1.1, fun j hj => ⟨(e 335 j (by omega)).2.trans (h1.2 j hj).1, (g 336 j (by omega)).trans (h1.2 j hj).2⟩⟩, h2, h3⟩, ?_⟩
  rw [g 331 1 (by omega)]
  exact h4
theorem x_isLike {rs1 rs2 : List (Nat × Int)} (h1 : prs M 187 rs1) (v1 : ∀ q ∈ rs1, q.1 < 12) (h2 : prs M 332 rs2) (v2 : ∀ q ∈ rs2, q.1 < 12) (k0 : K 0 M) (k1 : K 1 M) : em_S_isLike 187 332 M K := by
  refine ⟨fun he => ⟨fun a b v N => a = 187 ∧ b = 332 ∧ N = M ∧ 0 ≤ v, ⟨rfl, rfl, rfl, by omega⟩, ?_⟩, fun _ => k0⟩
  rintro a b v N - ⟨rfl, rfl, rfl, hv⟩
  refine ⟨fun _ => ?_, fun h16 _ _ => ⟨fun _ _ _ => ⟨fun _ => ⟨inr_z (by omega) (by omega), rfl, rfl, rfl, by omega⟩, fun _ => k0⟩, fun _ => k0⟩⟩
  refine ⟨fun a b v N' => a = 187 ∧ b = 332 ∧ N' = N ∧ 0 ≤ v, ⟨rfl, rfl, rfl, by omega⟩, ?_⟩
  rintro a b w N' - ⟨rfl, rfl, rfl, hw⟩
  refine ⟨fun _ => k1, fun hlt hb => ?_⟩
  have l1 : w.toNat < rs1.length := by have := h1.1; omega
  have l2 : w.toNat < rs2.length := by have := h2.1; omega
  have p1 := (isPk (h1.2 _ l1).1 (k1_mem _ (v1 _ (by rw [gD_ l1]; exact List.getElem_mem l1)))).1
  have p2 := (isPk (h2.2 _ l2).1 (k1_mem _ (v2 _ (by rw [gD_ l2]; exact List.getElem_mem l2)))).1
  exact ⟨p1, fun _ => ⟨p2, ⟨fun _ _ _ => ⟨fun _ => ⟨inr_z (by omega) (by omega), rfl, rfl, rfl, by omega⟩, fun _ => k0⟩, fun _ => k0⟩⟩⟩
theorem x_isTold {v2 v3 v4 : Int} (k0 : K 0 M) (k1 : K 1 M) : em_Y_isTold v2 v3 v4 M K := by
  have a1 : e_Y_isTold_73 M K := ⟨Or.inr rfl, k1⟩
  have a0 : e_Y_isTold_77 M K := ⟨Or.inl rfl, k0⟩
  have a51 : e_Y_isTold_51 v2 v3 M K := ⟨fun _ _ => ⟨fun _ => a1, fun _ => a0⟩, fun _ => a0⟩
  exact ⟨fun _ _ => ⟨fun _ => ⟨fun _ _ => ⟨fun _ => a1, fun _ => a51⟩, fun _ => a51⟩, fun _ => k0⟩, fun _ _ => ⟨fun _ => ⟨Or.inr rfl, k1⟩, fun _ => ⟨Or.inl rfl, k0⟩⟩⟩
/-- both hold on, whatever is done to the replay's other cells -/
theorem rp_keep (hS : SI Ts c0 S) (h : RPS M Ts c0 S ∧ RPL M Ts c0) (e : ∀ b k, b ≤ 330 ∨ (b = 331 ∧ k = 1) ∨ (b = 332 ∧ k = 2) ∨ b = 335 ∨ b = 336 → M'.1 b k = M.1 b k ∧ M'.2.1 b k = M.2.1 b k ∧ M'.2.2 b k = M.2.2 b k) : RPS M' Ts c0 S ∧ RPL M' Ts c0 := by
  have h12 := hS.1.1
  exact ⟨h.1.fr hS (fun b k z => e b k (Or.inl (by omega))), h.2.fr (fun b k z => ⟨(e b k (Or.inr z)).1, (e b k (Or.inr z)).2.2⟩)⟩
theorem eqy.t3 (y : eqy P M M') {b k : Nat} (q : ¬ P b k) : M'.1 b k = M.1 b k ∧ M'.2.1 b k = M.2.1 b k ∧ M'.2.2 b k = M.2.2 b k := ⟨(y.1 b k q).1, (y.1 b k q).2, by rw [y.2]⟩
theorem x_redo {i : Nat} {K : rf_M → Prop} (hS : SI Ts c0 S) (hV : rvw c0 S.2.2.2) (hi : i < S.2.2.2.length) (h : RPS M Ts c0 S ∧ RPL M Ts c0) (kk : ∀ M', RPS M' Ts c0 S ∧ RPL M' Ts c0 → K M') : em_Y_redo (i : Int) M K := by
  obtain ⟨x, hx, hkd⟩ := hV i hi
  have hrl := hS.2.2.1
  have h12 := hS.1.1
  intro M1 e1
  have y1 : eqy (fun b k => b = 331 ∧ k = 1) M M1 := by rw [e1]; exact (eqy.rfl' M).wi ⟨rfl, rfl⟩
  have H1 : RPS M1 Ts c0 S ∧ RPL M1 Ts c0 := by
    refine ⟨h.1.fr hS (fun b k z => y1.t3 (by omega)), ?_⟩
    obtain ⟨⟨rs, q1, q2, q3⟩, -⟩ := h.2
    refine ⟨⟨rs, ⟨(y1.i (by omega)).trans q1.1, fun j hj => ⟨by rw [y1.2]; exact (q1.2 j hj).1, (y1.i (by omega)).trans (q1.2 j hj).2⟩⟩, q2, q3⟩, ?_⟩
    rw [e1, gi_at (inr_z (by omega) (by omega))]
    omega
  refine x_Jhas hS H1.1 (fun _ => ⟨fun w => absurd w (by decide), fun _ _ _ => ?_⟩) (fun w => absurd (by omega) w)
  obtain ⟨a1, -, a3, -⟩ := H1.1.2.2.2.2.2 i hi
  have e327 : gi M1 327 i = (x : Int) := a3.trans hx
  rw [tn_, e327]
  obtain ⟨⟨rs, hrs, hmem, h32⟩, -⟩ := id H1.2
  have hro : rok Ts c0 rs := fun j hj => hmem (rs.getD j (0, 0)) (by rw [gD_ hj]; exact List.getElem_mem hj)
  refine ⟨fun k0 => ?_, fun k0 => ⟨fun w => absurd w (by omega), fun _ => ⟨fun _ _ => ?_, fun w => ?_⟩⟩⟩
  · have x16 : x < 16 := by
      rcases hkd with w | w
      · exact w.2
      · exact absurd (a1.symm.trans k0) w.1
    have k62 : ∀ (s1 : Int) (N : rf_M), (s1 = 0 ∨ s1 = 1) → RPS N Ts c0 S ∧ RPL N Ts c0 → e_Y_redo_62 (i : Int) (x : Int) s1 N K := by
      intro s1 N hs1 hN
      refine ⟨hs1, fun N1 f1 _ => ?_⟩
      have z1 : eqy (fun b k => b = 331 ∧ k = 2) N N1 := by rw [f1]; exact (eqy.rfl' N).wi ⟨rfl, rfl⟩
      have hN1 := rp_keep hS hN (fun b k z => z1.t3 (by omega))
      exact x_write (st := 332) x16 (fun N2 z2 _ _ => kk N2 (rp_keep hS hN1 (fun b k z => z2.t3 (by omega))))
    refine ⟨fun _ => k62 0 M1 (Or.inl rfl) H1, fun _ _ => ?_⟩
    refine x_allows (st := 332) (w := wS M1 332) (rs := rs) (by omega) x16 hS.1 H1.1.1 (weq.rfl' _) hrs hro h32 (fun M4 y4 => ?_)
    have H4 := rp_keep hS H1 (fun b k z => y4.t3 (by unfold alP wsP; omega))
    exact ⟨fun _ => k62 0 M4 (Or.inl rfl) H4, fun _ => k62 1 M4 (Or.inr rfl) H4⟩
  · have hxc : x < c0 := by
      rcases hkd with w | w
      · exact absurd (a1.trans w.1) k0
      · exact w.2
    have hX := hS.1.2 x hxc
    have hp1 := k1_mem x (by omega)
    have epg : pgA (x : Int) = 25 + 12 * x := by unfold pgA; rw [tn_]
    rw [epg]
    have hsr : stR 340 = 332 := rfl
    refine x_begin (a := 340) (by omega) hp1 hX (H1.1.1 x hxc) (fun M3 f3 R3 => ?_)
    have H3 := rp_keep hS H1 (fun b k z => f3 b k (by omega))
    refine ⟨fun v2 v4 v5 N => v2 = (i : Int) ∧ (∃ (k : Nat) (g : sgT) (r : rdT), k ≤ 300 ∧ rnR N 340 (25 + 12 * x) (Ts x).1 (Ts x).2.1 (Ts x).2.2.1 (Ts x).2.2.2 g r k ∧ gvl (Ts x).1 (Ts x).2.1 k g) ∧ (RPS N Ts c0 S ∧ RPL N Ts c0) ∧ (0 ≤ v5 ∧ v5 ≤ 301), ⟨rfl, ⟨0, _, _, by omega, R3, gvl_0 hX⟩, H3, by omega⟩, ?_⟩
    rintro v2 v4 v5 N - - - ⟨rfl, ⟨k, g, r, hk3, R, G⟩, hN, hv5⟩
    have k227 : ∀ (s1 : Int) (N : rf_M), (s1 = 0 ∨ s1 = 1) → RPS N Ts c0 S ∧ RPL N Ts c0 → e_Y_redo_227 s1 N K := by
      intro s1 N hs1 hN
      refine ⟨hs1, fun N1 f1 => ?_⟩
      have z1 : eqy (fun b k => b = 331 ∧ k = 2) N N1 := by rw [f1]; exact (eqy.rfl' N).wi ⟨rfl, rfl⟩
      exact kk N1 (rp_keep hS hN (fun b k z => z1.t3 (by omega)))
    have k181 : ∀ (s0 : Int) (N' : rf_M), RPS N' Ts c0 S ∧ RPL N' Ts c0 → gi N' 340 1 = (k : Int) → e_Y_redo_181 (i : Int) v4 s0 N' K := by
      intro s0 N' hN' h340
      refine ⟨fun _ => k227 0 N' (Or.inl rfl) hN', fun _ _ => ?_⟩
      rw [h340]
      refine ⟨inr_z (by omega) (by omega), fun _ => ?_, fun _ => k227 0 N' (Or.inl rfl) hN'⟩
      exact x_isTold ⟨fun _ => k227 0 N' (Or.inl rfl) hN', fun w => absurd rfl w⟩ ⟨fun w => absurd w (by decide), fun _ => k227 1 N' (Or.inr rfl) hN'⟩
    have k146 : e_Y_redo_146 (i : Int) v4 N K := by
      refine ⟨fun _ => ?_, fun _ => k181 0 N hN R.1⟩
      obtain ⟨hk1, hw, hh, R0⟩ := id R
      have ip := isPk R0.1 hp1
      refine ⟨ip.1, ?_⟩
      rw [ip.2]
      obtain ⟨⟨rs', hrs', hmem', h32'⟩, -⟩ := id hN.2
      have hro' : rok Ts c0 rs' := fun j hj => hmem' (rs'.getD j (0, 0)) (by rw [gD_ hj]; exact List.getElem_mem hj)
      have hG := R0.2.2.2.2.1
      obtain ⟨cn, hcn⟩ : ∃ c : Nat, g.2.1.2.2.2 = (c : Int) := ⟨g.2.1.2.2.2.toNat, by have := hG.2.1; omega⟩
      have hcnw : cn ≤ hw := by have := hG.2.1.2; omega
      obtain ⟨gp, ghw, ghk, g2, g3, g4⟩ := G
      have hvl : ∀ j, j < cn → vld (Ts x).1 (Ts x).2.1 (g.2.2.1 j) := fun j hj => g3 j (by omega)
      refine x_takes (st := 332) (a := 340) (t := x) (c := cn) (S := (wS N 332, rs', S.2.2)) (g := g) (by omega) (by omega) hS.1 hxc hN.1.1 (weq.rfl' _) hrs' hro' h32' hG.1 hcn (by omega) (fun j hj => hG.2.2.1 j (by omega)) hvl (fun _ M4 y4 => ?_) (fun hwel M4 f4 _ p4 => ?_)
      · have H4 := rp_keep hS hN (fun b k z => y4.t3 (by unfold alP wsP; omega))
        exact ⟨fun _ => k181 0 M4 H4 ((y4.i (by unfold alP wsP; omega)).trans R.1), fun w => absurd rfl w⟩
      · refine ⟨fun w => absurd w (by decide), fun _ => k181 1 M4 ⟨hN.1.fr hS (fun b k z => f4 b k (by omega)), ⟨rs' ++ nru x g, p4, fun q hq => ?_, ?_⟩, ?_⟩ ((congrArg Int32.toInt (f4 340 1 (by omega)).1).trans R.1)⟩
        · rcases List.mem_append.mp hq with hq | hq
          · exact hmem' q hq
          · unfold nru at hq
            obtain ⟨j, hj, rfl⟩ := List.mem_map.mp hq
            have hj' := List.mem_range.mp hj
            exact ⟨hxc, hvl j (by omega)⟩
        · have hwl := hwel
          unfold wel at hwl
          rw [Bool.and_eq_true, decide_eq_true_eq] at hwl
          rw [List.length_append, nru_len]
          exact hwl.2
        · have e3 : gi M4 331 1 = gi N 331 1 := congrArg Int32.toInt (f4 331 1 (by omega)).1
          rw [e3]
          exact hN.2.2
    refine ⟨fun _ => k146, fun h5 => ⟨fun _ => ?_, fun _ => k146⟩⟩
    by_cases h3 : k < 300
    · refine x_rstep (a := 340) (w := wS N 332) (by omega) (by rw [hsr]; omega) hp1 hX R h3 (by rw [hsr]; exact weq.rfl' _) (fun N' yN RN _ => ⟨inr_z (by omega) (by omega), rfl, ⟨_, _, _, ?_, RN, ?_⟩, rp_keep hS hN (fun b k z => yN.t3 (by omega)), by omega⟩)
      · split
        · omega
        · omega
      · split
        · exact gvl_step hX G
        · rename_i w
          rw [stepp_g _ _ _ _ w]
          exact G
    · refine ⟨fun w => absurd w (by rw [R.1]; omega), fun _ N1 f1 => ?_⟩
      have z1 : eqy (fun b k => b = 340 ∧ k = 3) N N1 := by rw [f1]; exact (eqy.rfl' N).wl ⟨rfl, rfl⟩
      obtain ⟨hk1, hw, hh, R0⟩ := id R
      exact ⟨inr_z (by omega) (by omega), rfl, ⟨k, g, r, hk3, ⟨(z1.i (by omega)).trans hk1, hw, hh, rn0.eqR (by omega) R0 z1 (fun b k h => by omega) (R0.2.2.2.2.2.eqP z1 (fun b k h => by omega))⟩, G⟩, rp_keep hS hN (fun b k z => z1.t3 (by omega)), by omega⟩
  · have hxc : x < c0 := by
      rcases hkd with w | w
      · exact absurd (a1.trans w.1) k0
      · exact w.2
    exact absurd (by omega) w
theorem x_replays (hS : SI Ts c0 S) (hV : rvw c0 S.2.2.2) (h : RPS M Ts c0 S ∧ RPL M Ts c0) (kk : ∀ z M', RPS M' Ts c0 S ∧ RPL M' Ts c0 → K z M') : em_M_replays M K := by
  have hrl := hS.2.2.1
  have h12 := hS.1.1
  refine ⟨fun v N => (0 ≤ v ∧ v ≤ 300) ∧ RPS N Ts c0 S ∧ RPL N Ts c0, ⟨h.2.2, h⟩, ?_⟩
  rintro v N - ⟨hv, hN⟩
  have e324 : gi N 324 0 = (S.2.2.2.length : Int) := hN.1.2.2.2.2.1
  refine ⟨fun _ => ⟨fun _ => kk 0 N hN, fun _ => ?_⟩, fun hlt => ?_⟩
  · obtain ⟨⟨rs, hrs, hmem, h32⟩, -⟩ := id hN.2
    exact x_isLike hN.1.2.2.1 (fun q hq => by have := (hS.2.1.2 q hq).1; omega) hrs (fun q hq => by have := (hmem q hq).1; omega) ⟨fun _ => kk 0 N hN, fun w => absurd rfl w⟩ ⟨fun w => absurd w (by decide), fun _ => kk 1 N hN⟩
  · rw [e324] at hlt
    obtain ⟨i, rfl⟩ : ∃ i : Nat, v = (i : Int) := ⟨v.toNat, by omega⟩
    exact x_redo hS hV (by omega) hN (fun N' hN' => ⟨inr_z (by omega) (by omega), by omega, hN'⟩)
end PRL
