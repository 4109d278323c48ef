section YE
variable {M M' M0 : rf_M} {T : tK} {i r e x0 : Nat} {s : pS} {ks : List (Int × Int)} {ex : Nat → Prop} {K : rf_M → Prop} {p : Int × Int}
theorem y_open_bad (h : s.2.2.2.2.2 = false) : (y_open T p s ks).1.2.2.2.2.2 = false := by
  unfold y_open
  rw [if_neg (fun z => by rw [p_is_bad h] at z; cases z.1)]
  rfl
/-- a second body begins -/
theorem s_open1 {o : Nat} {k : Int} (h : yq T r M0 M s ks (fun _ => False) e) (ho : gi M 360 o = k - 10) (h1 : 40 * r ≤ o) (h2 : o < 40 * r + s.2.2.1) (hp1 : k = 10 ∨ k = 12 ∨ k = 15 ∨ k = 17)
    (kg : (y_open T (k, 1) s ks).1.2.2.2.2.2 = true → ∀ M' e', yq T r M0 M' (y_open T (k, 1) s ks).1 (y_open T (k, 1) s ks).2 (fun _ => False) e' → K M') (kb : (y_open T (k, 1) s ks).1.2.2.2.2.2 = false → ∀ M', yb T r M0 M' → K M') : wm_openBody (o : Int) 1 M K := by
  refine s_openBody (p := (k, 1)) h ho h1 h2 hp1 (Or.inr rfl) (fun hg M' hy q p1 p2 => ?_) (fun hg M' hb => ?_)
  · have eo : y_open T (k, 1) s ks = (p_dp (ks.length + 1) (p_adv T s), (k, 1) :: ks) := if_pos hg
    rw [eo] at kg
    exact kg hy.2.1.2 M' e hy
  · have eo : y_open T (k, 1) s ks = (p_bad s, ks) := if_neg hg
    rw [eo] at kb
    exact kb rfl M' hb
theorem s_close154b {o : Nat} (h : yb T r M0 M) (kb : ∀ M', yb T r M0 M' → K M') : w_closeBody_154 (o : Int) M K := ⟨fun z => absurd z (by have := h.2.2.2; omega), fun _ => kb M h⟩
theorem s_closeBody (h : yq T r M0 M s (p :: ks) (fun _ => False) e) (h125 : (kd T s.1).toInt = 125)
    (kg : (y_step T s (p :: ks)).1.2.2.2.2.2 = true → ∀ M' e', yq T r M0 M' (y_step T s (p :: ks)).1 (y_step T s (p :: ks)).2 (fun _ => False) e' → K M') (kb : (y_step T s (p :: ks)).1.2.2.2.2.2 = false → ∀ M', yb T r M0 M' → K M') : wm_closeBody M K := by
  have hst : y_step T s (p :: ks) = (if p.2 = 1 ∨ p.1 = 12 then (p_adv T s, ks) else if p.1 = 10 then (if p_is T 11 (p_adv T s) = true then y_open T (10, 1) (p_adv T (p_adv T s)) ks else (p_adv T s, ks)) else if p.1 = 15 then y_open T (15, 1) (p_ex T 16 (p_adv T s)) ks else y_open T (17, 1) (p_loc T (p_ex T 18 (p_adv T s))) ks) := by
    unfold y_step
    rw [if_pos h125]
  rw [hst] at kg kb
  obtain ⟨⟨a1, a2, a3, a4, a5⟩, b, ⟨c1, c2, c3, c4, c5, c6⟩, ⟨c, d1, d2, d3⟩, f, g, ⟨g1, g2, ⟨o, o1, o2, o3, o4⟩, s2, s3, s4, s5, s6⟩, h8⟩ := h
  have hil : s.1 < T.length := kd_lt (by omega)
  have w1 : gi M 353 37 = (ks.length : Int) + 1 := by rw [g1]; simp
  have lk8 : ks.length + 1 ≤ 8 := by simpa using g2
  have wn : (gi M 353 37).toNat = ks.length + 1 := by rw [w1]; omega
  have ets : ((o : Nat) : Int).toNat = o := by omega
  show w_closeBody M K
  unfold w_closeBody
  rw [wn, o1, s3, ets, w1]
  refine ⟨⟨by omega, by omega⟩, ⟨by omega, by omega⟩, fun M1 e1 => ?_⟩
  have g1' : ∀ a k, ¬ (a = 353 ∧ k = 37) → gi M1 a k = gi M a k := fun a k w => by rw [e1, gi_of (by omega)]
  have hm1 : mtk M1 T s.1 := a1.eq (fun a k w => g1' a k (by omega))
  refine s_next' hm1 hil (fun M2 x2 hm2 => ?_)
  have q2 : ∀ a k, ¬ (a = 353 ∧ 3 ≤ k ∧ k ≤ 8) → ¬ (a = 353 ∧ k = 37) → gi M2 a k = gi M a k := fun a k w1 w2 => (x2 a k w1).trans (g1' a k w2)
  have k2 : gi M2 360 o = p.1 - 10 := (q2 _ _ (by omega) (by omega)).trans o4
  have w2 : gi M2 353 37 = (ks.length : Int) := by
    rw [show gi M2 353 37 = gi M1 353 37 from x2 _ _ (by unfold nxw; omega), e1, gi_at (inr_z (by omega) (by omega))]; omega
  have hz2 : ∀ c : Nat, gi M2 359 r = (c : Int) → zs2 M2 r c o := fun c' hc' => by
    have : c' = c := by rw [q2 359 r (by omega) (by omega), d1] at hc'; omega
    rw [this]
    exact (d3 o o2 o3 id).eq (Nat.le_refl _) (fun a ha => q2 _ _ (by omega) (by omega)) (fun k hk => ⟨q2 _ _ (by omega) (by omega), q2 _ _ (by omega) (by omega)⟩)
  -- behind the brace
  have hy : yq T r M0 M2 (p_adv T s) ks (fun x => x = o ∧ p.1 = 17 ∧ p.2 = 0) e := by
    rw [p_adv_lt hil]
    refine ⟨⟨hm2, (q2 _ _ (by omega) (by omega)).trans a2, a3, fun a k w => ?_, (q2 _ _ (by omega) (by omega)).trans a5⟩, b, ⟨(q2 _ _ (by omega) (by omega)).trans c1, c2, (q2 _ _ (by omega) (by omega)).trans c3, c4, (q2 _ _ (by omega) (by omega)).trans c5, c6⟩, ⟨c, (q2 _ _ (by omega) (by omega)).trans d1, d2, fun x y1 y2 y3 => (d3 x y1 y2 id).eq (Nat.le_refl _) (fun a ha => q2 _ _ (by omega) (by omega)) (fun k hk => ⟨q2 _ _ (by omega) (by omega), q2 _ _ (by omega) (by omega)⟩)⟩, fun x y1 y2 => ⟨(f x y1 y2).1.eq (Nat.le_refl _) y2 (fun k hk a ha => q2 _ _ (by omega) (by omega)), fun y3 => ?_⟩, ?_, ⟨w2, by omega, s6.eq (Nat.le_refl _) (fun k hk => ⟨q2 _ _ (by omega) (by omega), q2 _ _ (by omega) (by omega), q2 _ _ (by omega) (by omega)⟩) (fun j hj a ha => q2 _ _ (by omega) (by omega))⟩, h8⟩
    · unfold tew at w
      exact (q2 a k (by omega) (by omega)).trans (a4 a k (by unfold tew; omega))
    · intro z
      rw [q2 360 x (by omega) (by omega)] at z
      rw [q2 367 x (by omega) (by omega)]
      rcases (f x y1 y2).2 id z with w | ⟨j, j1, j2, j3, j4⟩
      · exact Or.inl w
      · have j2' : j ≤ ks.length + 1 := by simpa using j2
        by_cases hj : j = ks.length + 1
        · exfalso
          rw [hj, o1] at j3
          rw [hj, s3] at j4
          have hxo : x = o := by omega
          rw [hxo, o4] at z
          exact y3 ⟨hxo, by omega, j4⟩
        · exact Or.inr ⟨j, j1, by omega, (q2 _ _ (by omega) (by omega)).trans j3, (q2 _ _ (by omega) (by omega)).trans j4⟩
    · unfold fst_
      rw [q2 358 r (by omega) (by omega)]
      exact g.imp (fun x z => ⟨z.1, z.2.1, by rw [q2 362 x (by omega) (by omega)]; exact z.2.2⟩)
  have full : ¬ (p.1 = 17 ∧ p.2 = 0) → yq T r M0 M2 (p_adv T s) ks (fun _ => False) e := by
    intro hn
    obtain ⟨A, B, C, ⟨c', D1, D2, D3⟩, F, G⟩ := hy
    exact ⟨A, B, C, ⟨c', D1, D2, fun x y1 y2 _ => D3 x y1 y2 (fun w => hn w.2)⟩, fun x y1 y2 => ⟨(F x y1 y2).1, fun _ => (F x y1 y2).2 (fun w => hn w.2)⟩, G⟩
  have hn3 : (p_adv T s).2.2.1 = s.2.2.1 := rfl
  have ret : (p.2 = 1 ∨ p.1 = 12) → K M2 := by
    intro hc
    rw [if_pos hc] at kg
    exact kg b.2 M2 e (full (by omega))
  rw [k2]
  refine ⟨fun z => ret (Or.inl z), fun z => ⟨⟨by omega, by omega⟩, fun z2 => ret (Or.inr (by omega)), fun z2 => ⟨⟨by omega, by omega⟩, fun z3 => ?_, fun z3 => ⟨⟨by omega, by omega⟩, fun z4 => ?_, fun z4 => ?_⟩⟩⟩⟩
  · -- if
    rw [if_neg (by omega), if_pos (by omega)] at kg kb
    have hf := full (by omega)
    have tk2 := hm2.2.2
    have h11 := (tkm_iff tk2.2.2.2).2.2.2.2.1 11 (by omega) (by omega)
    have ep : p_adv T s = (s.1 + 1, s.2) := p_adv_lt hil
    refine ⟨fun z4 => ?_, fun z4 => ?_⟩
    · have hk11 : (kd T (s.1 + 1)).toInt = 11 := h11.mp (tk2.1.symm.trans z4)
      have hp : p_is T 11 (p_adv T s) = true := by rw [ep]; exact p_is_iff.mpr ⟨b.2, hk11⟩
      rw [if_pos hp] at kg kb
      have hil2 : s.1 + 1 < T.length := kd_lt (by omega)
      refine s_next' hm2 hil2 (fun M3 x3 hm3 => ?_)
      have hy3 : yq T r M0 M3 (p_adv T (p_adv T s)) ks (fun _ => False) e := by
        have : p_adv T (p_adv T s) = (s.1 + 1 + 1, s.2) := by rw [ep]; exact p_adv_lt (s := (s.1 + 1, s.2)) hil2
        rw [this]
        have hf' := hf
        rw [ep] at hf'
        exact hf'.nx x3 hm3
      exact s_open1 (k := 10) hy3 (by rw [show gi M3 360 o = gi M2 360 o from x3 _ _ (by unfold nxw; omega), k2]; omega) o2 o3 (by omega) kg kb
    · have hp : ¬ p_is T 11 (p_adv T s) = true := by
        rw [ep]
        intro w
        exact z4 (tk2.1.trans (h11.mpr (p_is_iff.mp w).2))
      rw [if_neg hp] at kg
      exact kg b.2 M2 e hf
  · -- either
    rw [if_neg (by omega), if_neg (by omega), if_pos (by omega)] at kg kb
    have hf := full (by omega)
    refine s_takeWord (c := 16) hf (by decide) (by omega) (fun hg M3 hy3 x3 => ?_) (fun hg M3 hb => ?_)
    · have q3 : ∀ a k, ¬ (a = 353 ∧ 3 ≤ k ∧ k ≤ 8) → gi M3 a k = gi M2 a k := fun a k w => x3 a k w
      have eo : p_ex T 16 (p_adv T s) = p_adv T (p_adv T s) := by unfold p_ex; rw [hg]; rfl
      rw [eo] at kg kb
      have k3 : gi M3 360 o = p.1 - 10 := (q3 _ _ (by omega)).trans k2
      rw [ets, k3]
      refine ⟨⟨by omega, by omega⟩, fun w => absurd w (by omega), fun _ => ⟨fun _ => s_open1 (k := 15) hy3 (by rw [k3]; omega) o2 o3 (by omega) kg kb, fun w => absurd hy3.1.2.2.2.2 w⟩⟩
    · have eo : p_ex T 16 (p_adv T s) = p_bad (p_adv T s) := by unfold p_ex; rw [hg]; rfl
      rw [eo] at kb
      have kb' := kb (y_open_bad rfl)
      refine ⟨⟨by omega, by omega⟩, fun _ => ⟨fun w => absurd w (by have := hb.2.2.2; omega), fun _ => s_close154b hb kb'⟩, fun _ => s_close154b hb kb'⟩
  · -- try
    have hp17 : p.1 = 17 := by omega
    have hp20 : p.2 = 0 := by omega
    rw [if_neg (by omega), if_neg (by omega), if_neg (by omega)] at kg kb
    refine s_takeWord (c := 18) hy (by decide) (by omega) (fun hg M3 hy3 x3 => ?_) (fun hg M3 hb => ?_)
    · have q3 : ∀ a k, ¬ (a = 353 ∧ 3 ≤ k ∧ k ≤ 8) → gi M3 a k = gi M2 a k := fun a k w => x3 a k w
      have eo : p_ex T 18 (p_adv T s) = p_adv T (p_adv T s) := by unfold p_ex; rw [hg]; rfl
      rw [eo] at kg kb
      have k3 : gi M3 360 o = p.1 - 10 := (q3 _ _ (by omega)).trans k2
      have tk3 := hy3.1.1.2.2
      have hk3 := tkm_iff tk3.2.2.2
      have bad3 : p_loc T (p_adv T (p_adv T s)) = p_bad (p_adv T (p_adv T s)) → w_closeBody_135 M3 K := by
        intro hl
        rw [hl] at kb
        exact s_bad hy3 (kb (y_open_bad rfl))
      rw [ets, k3]
      refine ⟨⟨by omega, by omega⟩, fun _ => ⟨fun _ => ⟨fun z5 => ⟨fun z6 => ⟨⟨by omega, by omega⟩, fun M4 e4 => ?_⟩, fun z6 => bad3 ?_⟩, fun z5 => bad3 ?_⟩, fun w => absurd hy3.1.2.2.2.2 w⟩, fun w => absurd (by omega) w⟩
      · have hk1 := hk3.2.2.1.mp (tk3.1.symm.trans z5)
        have hl := tk3.2.2.1 hk1
        have hloc : p_loc T (p_adv T (p_adv T s)) = p_adv T (p_adv T (p_adv T s)) := by
          unfold p_loc
          rw [if_pos]
          refine ⟨p_is_iff.mpr ⟨b.2, hk1⟩, ?_⟩
          rw [hl.1] at z6
          unfold p_cell
          simp
          omega
        rw [hloc] at kg kb
        have g4 : ∀ a k, ¬ (a = 367 ∧ k = o) → gi M4 a k = gi M3 a k := fun a k w => by rw [e4, gi_of (by omega)]
        have f4 : gi M4 367 o = (nb T (p_adv T (p_adv T s)).1).toInt := by rw [e4, hl.1, gi_at (inr_ti _)]
        have hy4 : yq T r M0 M4 (p_adv T (p_adv T s)) ks (fun _ => False) e := by
          obtain ⟨⟨A1, A2, A3, A4, A5⟩, B, ⟨C1, C2, C3, C4, C5, C6⟩, ⟨c', D1, D2, D3⟩, F, G, ⟨G1, G2, G3⟩, H8⟩ := hy3
          have z2o : zs2 M4 r c' o := by
            have := hz2 c' (by rw [← q3 359 r (by omega)]; exact D1)
            obtain ⟨h1, h2', h3, h4⟩ := this
            have e360 : gi M4 360 o = gi M2 360 o := (g4 _ _ (by omega)).trans (q3 _ _ (by omega))
            have e364 : gi M4 364 o = gi M2 364 o := (g4 _ _ (by omega)).trans (q3 _ _ (by omega))
            have hac : ∀ k, k < 200 * r + c' → gi M4 368 k = gi M2 368 k ∧ gi M4 369 k = gi M2 369 k := fun k _ => ⟨(g4 _ _ (by omega)).trans (q3 _ _ (by omega)), (g4 _ _ (by omega)).trans (q3 _ _ (by omega))⟩
            unfold zs2
            rw [e360, e364]
            refine ⟨h1, fun w => by rw [k2] at w; omega, fun w => (h3 w).imp (fun x hx => hx.eq (Nat.le_refl _) hac), fun w => by rw [k2] at w; omega⟩
          refine ⟨⟨A1.eq (fun a k w => g4 a k (by omega)), (g4 _ _ (by omega)).trans A2, A3, fun a k w => ?_, (g4 _ _ (by omega)).trans A5⟩, B, ⟨(g4 _ _ (by omega)).trans C1, C2, (g4 _ _ (by omega)).trans C3, C4, (g4 _ _ (by omega)).trans C5, C6⟩, ⟨c', (g4 _ _ (by omega)).trans D1, D2, fun x y1 y2 _ => ?_⟩, fun x y1 y2 => ⟨(F x y1 y2).1.eq (Nat.le_refl _) y2 (fun k hk a ha => g4 _ _ (by omega)), fun _ => ?_⟩, ?_, ⟨(g4 _ _ (by omega)).trans G1, G2, G3.eq (Nat.le_refl _) (fun k hk => ⟨g4 _ _ (by omega), g4 _ _ (by omega), g4 _ _ (by omega)⟩) (fun j hj a ha => g4 _ _ (by omega))⟩, H8⟩
          · unfold tew at w
            exact (g4 a k (by omega)).trans (A4 a k (by unfold tew; omega))
          · by_cases hx : x = o
            · rw [hx]; exact z2o
            · exact (D3 x y1 y2 (fun w => hx w.1)).eq (Nat.le_refl _) (fun a ha => g4 _ _ (by omega)) (fun k hk => ⟨g4 _ _ (by omega), g4 _ _ (by omega)⟩)
          · by_cases hx : x = o
            · rw [hx]
              intro _
              rw [f4]
              rw [hl.1] at z6
              exact Or.inl ⟨z6, hl.2.2⟩
            · exact ((F x y1 y2).2 (fun w => hx w.1)).eq (Nat.le_refl _) ⟨g4 _ _ (by omega), g4 _ _ (by omega)⟩ (fun j _ _ => ⟨g4 _ _ (by omega), g4 _ _ (by omega)⟩)
          · unfold fst_
            rw [g4 358 r (by omega)]
            exact G.imp (fun x z => ⟨z.1, z.2.1, by rw [g4 362 x (by omega)]; exact z.2.2⟩)
        have hil4 : (p_adv T (p_adv T s)).1 < T.length := kd_lt (by rw [hk1]; omega)
        refine s_next' hy4.1.1 hil4 (fun M5 x5 hm5 => ?_)
        have hy5 : yq T r M0 M5 (p_adv T (p_adv T (p_adv T s))) ks (fun _ => False) e := by
          rw [p_adv_lt (s := p_adv T (p_adv T s)) hil4]
          exact hy4.nx x5 hm5
        refine ⟨fun _ => s_open1 (k := 17) hy5 ?_ o2 o3 (by omega) kg kb, fun w => absurd hy5.1.2.2.2.2 w⟩
        rw [show gi M5 360 o = gi M4 360 o from x5 _ _ (by unfold nxw; omega), g4 360 o (by omega), k3]; omega
      · have hk1 := hk3.2.2.1.mp (tk3.1.symm.trans z5)
        have hl := tk3.2.2.1 hk1
        rw [hl.1] at z6
        unfold p_loc
        rw [if_neg]
        intro w
        have := w.2
        unfold p_cell at this
        simp at this
        omega
      · unfold p_loc
        rw [if_neg]
        intro w
        exact z5 (tk3.1.trans (hk3.2.2.1.mpr (p_is_iff.mp w.1).2))
    · have eo : p_ex T 18 (p_adv T s) = p_bad (p_adv T s) := by unfold p_ex; rw [hg]; rfl
      rw [eo] at kb
      have kb' : ∀ M', yb T r M0 M' → K M' := kb (y_open_bad (by
        unfold p_loc
        rw [if_neg (fun w => by rw [p_is_bad (s := p_bad (p_adv T s)) rfl] at w; cases w.1)]
        rfl))
      refine ⟨⟨by omega, by omega⟩, fun _ => ⟨fun w => absurd w (by have := hb.2.2.2; omega), fun _ => s_close154b hb kb'⟩, fun _ => s_close154b hb kb'⟩
end YE
def y_ev (T : tK) : Nat → pS → List (Int × Int) → Option pS
  | 0, _, _ => none
  | m + 1, s, ks => if s.2.2.2.2.2 = false then some s else if (kd T s.1).toInt = 0 ∧ ks = [] then some s else y_ev T m (y_step T s ks).1 (y_step T s ks).2
section YF
variable {M M' M0 : rf_M} {T : tK} {i r e : Nat} {s F : pS} {ks : List (Int × Int)} {K : rf_M → Prop}
theorem y_ev_bad {m : Nat} (h : y_ev T m s ks = some F) (hb : s.2.2.2.2.2 = false) : F.2.2.2.2.2 = false := by
  cases m with
  | zero => cases h
  | succ m =>
    unfold y_ev at h
    rw [if_pos hb] at h
    cases h
    exact hb
theorem s_readText_40 {m : Nat} (hT : ∀ i, (kd T i).toInt = 1 → 0 ≤ (nb T i).toInt) (h : yq T r M0 M s ks (fun _ => False) e) (hev : y_ev T m s ks = some F) (kg : F.2.2.2.2.2 = true → ∀ M' e', yq T r M0 M' F [] (fun _ => False) e' → (kd T F.1).toInt = 0 → K M') (kb : F.2.2.2.2.2 = false → ∀ M', yb T r M0 M' → K M') : w_readText_40 M K := by
  refine ⟨fun m M => (∃ s ks e, yq T r M0 M s ks (fun _ => False) e ∧ y_ev T m s ks = some F) ∨ (yb T r M0 M ∧ F.2.2.2.2.2 = false), ⟨m, Or.inl ⟨s, ks, e, h, hev⟩⟩, ?_⟩
  rintro m M (⟨s, ks, e, h, hev⟩ | ⟨hb, hF⟩)
  · obtain ⟨m, rfl⟩ : ∃ k, m = k + 1 := by
      cases m with
      | zero => cases hev
      | succ k => exact ⟨k, rfl⟩
    have hok := h.2.1.2
    have tk := h.1.1.2.2
    have hk := tkm_iff tk.2.2.2
    have hw := h.2.2.2.2.2.2.1.1
    have hev' := hev
    unfold y_ev at hev'
    rw [if_neg (by rw [hok]; decide)] at hev'
    have go : ¬ ((kd T s.1).toInt = 0 ∧ ks = []) → y_ev T m (y_step T s ks).1 (y_step T s ks).2 = some F := fun z => by
      rw [if_neg z] at hev'; exact hev'
    have bad : ¬ ((kd T s.1).toInt = 0 ∧ ks = []) → y_step T s ks = (p_bad s, ks) → w_readText_84 M (fun M' => ∃ m', m' < m + 1 ∧ ((∃ s ks e, yq T r M0 M' s ks (fun _ => False) e ∧ y_ev T m' s ks = some F) ∨ (yb T r M0 M' ∧ F.2.2.2.2.2 = false))) K := by
      intro z hs
      have := go z
      rw [hs] at this
      exact s_bad h (fun M' hb => ⟨m, by omega, Or.inr ⟨hb, y_ev_bad this rfl⟩⟩)
    have on : ∀ (z : ¬ ((kd T s.1).toInt = 0 ∧ ks = [])), ((y_step T s ks).1.2.2.2.2.2 = true → ∀ M' e', yq T r M0 M' (y_step T s ks).1 (y_step T s ks).2 (fun _ => False) e' → ∃ m', m' < m + 1 ∧ ((∃ s ks e, yq T r M0 M' s ks (fun _ => False) e ∧ y_ev T m' s ks = some F) ∨ (yb T r M0 M' ∧ F.2.2.2.2.2 = false))) ∧ ((y_step T s ks).1.2.2.2.2.2 = false → ∀ M', yb T r M0 M' → ∃ m', m' < m + 1 ∧ ((∃ s ks e, yq T r M0 M' s ks (fun _ => False) e ∧ y_ev T m' s ks = some F) ∨ (yb T r M0 M' ∧ F.2.2.2.2.2 = false))) := by
      intro z
      exact ⟨fun _ M' e' hy => ⟨m, by omega, Or.inl ⟨_, _, e', hy, go z⟩⟩, fun hb M' hy => ⟨m, by omega, Or.inr ⟨hy, y_ev_bad (go z) hb⟩⟩⟩
    have h61 : ¬ ((kd T s.1).toInt = 0 ∧ ks = []) → w_readText_61 M (fun M' => ∃ m', m' < m + 1 ∧ ((∃ s ks e, yq T r M0 M' s ks (fun _ => False) e ∧ y_ev T m' s ks = some F) ∨ (yb T r M0 M' ∧ F.2.2.2.2.2 = false))) K := by
      intro z
      refine ⟨fun z0 => bad z ?_, fun z0 => ?_⟩
      · have hk0 := hk.2.2.2.1.mp (tk.1.symm.trans z0)
        unfold y_step
        rw [if_neg (by omega), if_neg]
        intro w
        have := w.1
        unfold p_beg at this
        rw [hk0] at this
        exact absurd this (by decide)
      · have h125 := (show (125 : Int32).toInt = 125 from rfl)
        have st91 : (kd T s.1).toInt = 125 → (∃ p r', ks = p :: r') → w_readText_91 M (fun M' => ∃ m', m' < m + 1 ∧ ((∃ s ks e, yq T r M0 M' s ks (fun _ => False) e ∧ y_ev T m' s ks = some F) ∨ (yb T r M0 M' ∧ F.2.2.2.2.2 = false))) K := by
          rintro z1 ⟨p, r', rfl⟩
          show wm_isSign 125 M _
          rw [← h125]
          refine s_isSign h.1.1 (by decide) (fun e1 => ⟨inr_z (by omega) (by omega), fun w => absurd w (by omega), fun _ => s_closeBody h z1 (on z).1 (on z).2⟩) (fun e1 => absurd (i32_eq.mpr z1) e1)
        have st91' : ¬ (kd T s.1).toInt = 125 → w_readText_91 M (fun M' => ∃ m', m' < m + 1 ∧ ((∃ s ks e, yq T r M0 M' s ks (fun _ => False) e ∧ y_ev T m' s ks = some F) ∨ (yb T r M0 M' ∧ F.2.2.2.2.2 = false))) K := by
          intro z1
          show wm_isSign 125 M _
          rw [← h125]
          refine s_isSign h.1.1 (by decide) (fun e1 => absurd (by rw [e1]; rfl) z1) (fun e1 => ⟨inr_z (by omega) (by omega), fun _ => s_readStatement hT h z1 (on z).1 (on z).2, fun w => absurd rfl w⟩)
        show wm_isSign 125 M _
        rw [← h125]
        refine s_isSign h.1.1 (by decide) (fun e1 => ⟨inr_z (by omega) (by omega), fun w => absurd w (by omega), fun _ => ⟨fun w => bad z ?_, fun w => st91 (by rw [e1]; rfl) ?_⟩⟩) (fun e1 => ⟨inr_z (by omega) (by omega), fun _ => st91' (fun w => e1 (i32_eq.mpr w)), fun w => absurd rfl w⟩)
        · have hks : ks = [] := by
            cases ks with
            | nil => rfl
            | cons p t => rw [hw] at w; simp at w; omega
          unfold y_step
          rw [if_pos (by rw [e1]; rfl), hks]
        · cases ks with
          | nil => exact absurd (by rw [hw]; rfl) w
          | cons p t => exact ⟨p, t, rfl⟩
    refine ⟨fun _ => ⟨fun z0 => ⟨fun z1 => ?_, fun z1 => h61 (fun w => z1 (by rw [hw, w.2]; rfl))⟩, fun z0 => h61 (fun w => z0 (tk.1.trans (hk.2.2.2.1.mpr w.1)))⟩, fun z => absurd h.1.2.2.2.2 z⟩
    have hks : ks = [] := by
      cases ks with
      | nil => rfl
      | cons p t => rw [hw] at z1; simp at z1; omega
    have hk0 := hk.2.2.2.1.mp (tk.1.symm.trans z0)
    rw [if_pos ⟨hk0, hks⟩] at hev'
    cases hev'
    rw [hks] at h
    exact kg hok M e h hk0
  · exact ⟨fun z => absurd z (by have := hb.2.2.2; omega), fun _ => kb hF M hb⟩
end YF
