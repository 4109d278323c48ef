def y_open (T : tK) (e : Int × Int) (s : pS) (ks : List (Int × Int)) : pS × List (Int × Int) := if p_is T 123 s = true ∧ ks.length < 8 then (p_dp (ks.length + 1) (p_adv T s), e :: ks) else (p_bad s, ks)
def y_step (T : tK) (s : pS) (ks : List (Int × Int)) : pS × List (Int × Int) :=
  if (kd T s.1).toInt = 125 then (match ks with
    | [] => (p_bad s, ks)
    | e :: r => if e.2 = 1 ∨ e.1 = 12 then (p_adv T s, r) else if e.1 = 10 then (if p_is T 11 (p_adv T s) = true then y_open T (10, 1) (p_adv T (p_adv T s)) r else (p_adv T s, r)) else if e.1 = 15 then y_open T (15, 1) (p_ex T 16 (p_adv T s)) r else y_open T (17, 1) (p_loc T (p_ex T 18 (p_adv T s))) r)
  else if p_beg (kd T s.1) = true ∧ s.2.2.1 < 40 then
    (if (kd T s.1).toInt = 1 ∨ (kd T s.1).toInt = 13 ∨ (kd T s.1).toInt = 14 ∨ (kd T s.1).toInt = 19 then (p_st1 T id (kd T s.1) (p_adv T (p_c1 s)), ks) else y_open T ((kd T s.1).toInt, 0) (p_if T (kd T s.1) (p_adv T (p_c1 s))) ks)
  else (p_bad s, ks)
/-- between two statements: ex: those that aren't done; e: exps so far -/
def yq (T : tK) (r : Nat) (M0 M : rf_M) (s : pS) (ks : List (Int × Int)) (ex : Nat → Prop) (e : Nat) : Prop :=
  (mtk M T s.1 ∧ gi M 353 28 = (r : Int) ∧ r < 12 ∧ eqx (tew r) M0 M ∧ gi M 353 9 = 0) ∧ (s.2.1 = false ∧ s.2.2.2.2.2 = true) ∧
  (gi M 355 r = (s.2.2.1 : Int) ∧ s.2.2.1 ≤ 40 ∧ gi M 356 r = (s.2.2.2.1 : Int) ∧ s.2.2.2.1 ≤ 60 ∧ gi M 357 r = (s.2.2.2.2.1 : Int) ∧ s.2.2.2.2.1 ≤ 8) ∧
  (∃ c : Nat, gi M 359 r = (c : Int) ∧ c ≤ 2 * s.2.2.2.1 + e ∧ ∀ x, 40 * r ≤ x → x < 40 * r + s.2.2.1 → ¬ ex x → zs2 M r c x) ∧
  (∀ x, 40 * r ≤ x → x < 40 * r + s.2.2.1 → zs1 M r s.2.2.1 x ∧ (¬ ex x → trl M ks.length x)) ∧ fst_ M r s.2.2.1 ∧
  (gi M 353 37 = (ks.length : Int) ∧ ks.length ≤ 8 ∧ stk M r s.2.2.1 ks) ∧ e ≤ s.2.2.1
def yb (T : tK) (r : Nat) (M0 M : rf_M) : Prop := (∃ i, mtk M T i) ∧ gi M 353 28 = (r : Int) ∧ eqx (tew r) M0 M ∧ gi M 353 9 = 1
/-- what yq looks at -/
def ylk (a k : Nat) : Prop := (a = 353 ∧ (k = 28 ∨ k = 9 ∨ k = 37)) ∨ (355 ≤ a ∧ a ≤ 369) ∨ (373 ≤ a ∧ a ≤ 375)
section YB
variable {M M' M0 : rf_M} {T : tK} {i r e : Nat} {s : pS} {ks : List (Int × Int)} {ex : Nat → Prop} {K : rf_M → Prop}
theorem trl.eq {w w' x : Nat} (h : trl M w x) (hw : w ≤ w') (q : gi M' 360 x = gi M 360 x ∧ gi M' 367 x = gi M 367 x) (q2 : ∀ j, 1 ≤ j → j ≤ w → gi M' 373 j = gi M 373 j ∧ gi M' 374 j = gi M 374 j) : trl M' w' x := by
  unfold trl
  rw [q.1, q.2]
  intro z
  rcases h z with w | ⟨j, j1, j2, j3, j4⟩
  · exact Or.inl w
  · exact Or.inr ⟨j, j1, by omega, (q2 j j1 j2).1.trans j3, (q2 j j1 j2).2.trans j4⟩
theorem yq.keep (h : yq T r M0 M s ks ex e) (hm : mtk M' T i) (q : ∀ a k, ylk a k → gi M' a k = gi M a k) (hx : eqx (tew r) M M') : yq T r M0 M' (i, s.2) ks ex e := by
  obtain ⟨⟨a1, a2, a3, a4, a5⟩, b, ⟨c1, c2, c3, c4, c5, c6⟩, ⟨c, d1, d2, d3⟩, f, g, ⟨g1, g2, g3⟩, h8⟩ := h
  have q' : ∀ a k, (a = 353 ∧ (k = 28 ∨ k = 9 ∨ k = 37)) ∨ (355 ≤ a ∧ a ≤ 369) ∨ (373 ≤ a ∧ a ≤ 375) → gi M' a k = gi M a k := q
  refine ⟨⟨hm, (q' _ _ (by omega)).trans a2, a3, a4.trans hx, (q' _ _ (by omega)).trans a5⟩, b, ⟨(q' _ _ (by omega)).trans c1, c2, (q' _ _ (by omega)).trans c3, c4, (q' _ _ (by omega)).trans c5, c6⟩, ⟨c, (q' _ _ (by omega)).trans d1, d2, fun x x1 x2 x3 => (d3 x x1 x2 x3).eq (Nat.le_refl _) (fun a ha => q' _ _ (by omega)) (fun k hk => ⟨q' _ _ (by omega), q' _ _ (by omega)⟩)⟩, fun x x1 x2 => ⟨(f x x1 x2).1.eq (Nat.le_refl _) x2 (fun k hk a ha => q' _ _ (by omega)), fun z => ((f x x1 x2).2 z).eq (Nat.le_refl _) ⟨q' _ _ (by omega), q' _ _ (by omega)⟩ (fun j _ _ => ⟨q' _ _ (by omega), q' _ _ (by omega)⟩)⟩, ?_, ⟨(q' _ _ (by omega)).trans g1, g2, g3.eq (Nat.le_refl _) (fun k hk => ⟨q' _ _ (by omega), q' _ _ (by omega), q' _ _ (by omega)⟩) (fun j hj a ha => q' _ _ (by omega))⟩, h8⟩
  unfold fst_
  rw [q' 358 r (by omega)]
  exact g.imp (fun x z => ⟨z.1, z.2.1, by rw [q' 362 x (by omega)]; exact z.2.2⟩)
theorem yq.nx (h : yq T r M0 M s ks ex e) (hx : eqx nxw M M') (hm : mtk M' T i) : yq T r M0 M' (i, s.2) ks ex e := by
  refine h.keep hm (fun a k z => hx a k (fun w => ?_)) (hx.mono (fun a k z => Or.inl ⟨z.1, Or.inl ⟨z.2.1, by have := z.2.2; omega⟩⟩))
  unfold ylk at z
  unfold nxw at w
  omega
theorem s_bad (h : yq T r M0 M s ks ex e) (kb : ∀ M', yb T r M0 M' → K M') : wm_misplaced M K := by
  refine s_misplaced (Or.inl h.1.2.2.2.2) (fun M' hx hb => kb M' ⟨⟨s.1, h.1.1.eq (fun a k z => hx a k (by omega))⟩, (hx 353 28 (by omega)).trans h.1.2.1, h.1.2.2.2.1.trans (hx.mono (fun a k z => Or.inl ⟨z.1, Or.inl (by have := z.2; omega)⟩)), hb⟩)
theorem s_badb (h : yb T r M0 M) (kb : ∀ M', yb T r M0 M' → K M') : wm_misplaced M K := by
  obtain ⟨⟨i, h1⟩, h2, h3, h4⟩ := h
  refine s_misplaced (Or.inr h4) (fun M' hx hb => kb M' ⟨⟨i, h1.eq (fun a k z => hx a k (by omega))⟩, (hx 353 28 (by omega)).trans h2, h3.trans (hx.mono (fun a k z => Or.inl ⟨z.1, Or.inl (by have := z.2; omega)⟩)), hb⟩)
theorem kd_lt20 {c : Int32} (hc : 10 ≤ c.toInt) (h : kd T i = c) : i < T.length := kd_lt (by rw [h]; omega)
/-- take(c), without a fault so far -/
theorem s_take {c : Int32} (h : yq T r M0 M s ks ex e) (hc : 20 ≤ c.toInt) (kg : p_is T c s = true → ∀ M', yq T r M0 M' (p_adv T s) ks ex e → eqx nxw M M' → K M') (kb : p_is T c s = false → ∀ M', yb T r M0 M' → K M') : wm_take c.toInt M K := by
  refine s_isSign h.1.1 hc (fun z => ⟨inr_z (by omega) (by omega), fun w => absurd w (by omega), fun _ => ⟨fun _ => ?_, fun w => absurd h.1.2.2.2.2 w⟩⟩) (fun z => ⟨inr_z (by omega) (by omega), fun _ => ?_, fun w => absurd rfl w⟩)
  · have hi := kd_lt20 (by omega) z
    refine s_next' h.1.1 hi (fun M' hx hm => kg (p_is_iff.mpr ⟨h.2.1.2, by rw [z]⟩) M' ?_ hx)
    rw [p_adv_lt hi]
    exact h.nx hx hm
  · refine s_bad h (fun M' hb => ⟨fun w => absurd hb.2.2.2 (by omega), fun _ => kb ?_ M' hb⟩)
    cases hp : p_is T c s with
    | false => rfl
    | true => exact absurd (i32_eq.mpr (p_is_iff.mp hp).2) z
theorem s_takeb {c : Int32} (h : yb T r M0 M) (hc : 20 ≤ c.toInt) (kb : ∀ M', yb T r M0 M' → K M') : wm_take c.toInt M K := by
  have h' := h
  obtain ⟨⟨i, h1⟩, h2, h3, h4⟩ := h'
  refine s_isSign h1 hc (fun z => ⟨inr_z (by omega) (by omega), fun w => absurd w (by omega), fun _ => ⟨fun w => absurd w (by omega), fun _ => kb M h⟩⟩) (fun z => ⟨inr_z (by omega) (by omega), fun _ => s_badb h (fun M' hb => ⟨fun w => absurd hb.2.2.2 (by omega), fun _ => kb M' hb⟩), fun w => absurd rfl w⟩)
theorem s_takeWord {w : Int} {c : Int32} (h : yq T r M0 M s ks ex e) (hc : c.toInt = 10 + w) (hw : 0 ≤ w ∧ w ≤ 9) (kg : p_is T c s = true → ∀ M', yq T r M0 M' (p_adv T s) ks ex e → eqx nxw M M' → K M') (kb : p_is T c s = false → ∀ M', yb T r M0 M' → K M') : wm_takeWord w M K := by
  have tk := h.1.1.2.2
  have hk := (tkm_iff tk.2.2.2).2.2.2.2.1 (10 + w) (by omega) (by omega)
  refine ⟨inr_z (by omega) (by omega), fun z => ⟨fun _ => ?_, fun q => absurd h.1.2.2.2.2 q⟩, fun z => ?_⟩
  · have hkc : (kd T s.1).toInt = c.toInt := by rw [hc]; exact hk.mp (tk.1.symm.trans z)
    have hi : s.1 < T.length := kd_lt (by omega)
    refine s_next' h.1.1 hi (fun M' hx hm => kg (p_is_iff.mpr ⟨h.2.1.2, hkc⟩) M' ?_ hx)
    rw [p_adv_lt hi]
    exact h.nx hx hm
  · refine s_bad h (fun M' hb => ⟨fun q => absurd hb.2.2.2 (by omega), fun _ => kb ?_ M' hb⟩)
    cases hp : p_is T c s with
    | false => rfl
    | true => exact absurd (tk.1.trans (hk.mpr (by rw [← hc]; exact (p_is_iff.mp hp).2))) z
/-- openBody(x0, which) -/
theorem s_openBody {x0 : Nat} {p : Int × Int} (h : yq T r M0 M s ks ex e) (ho : gi M 360 x0 = p.1 - 10) (h1 : 40 * r ≤ x0) (h2 : x0 < 40 * r + s.2.2.1) (hp1 : p.1 = 10 ∨ p.1 = 12 ∨ p.1 = 15 ∨ p.1 = 17) (hp2 : p.2 = 0 ∨ p.2 = 1)
    (kg : (p_is T 123 s = true ∧ ks.length < 8) → ∀ M', yq T r M0 M' (p_dp (ks.length + 1) (p_adv T s)) (p :: ks) ex e → (∀ a k, 358 ≤ a → a ≤ 369 → gi M' a k = gi M a k) → gi M' 373 (ks.length + 1) = (x0 : Int) → gi M' 374 (ks.length + 1) = p.2 → K M') (kb : ¬ (p_is T 123 s = true ∧ ks.length < 8) → ∀ M', yb T r M0 M' → K M') : wm_openBody (x0 : Int) p.2 M K := by
  have h0 := h
  obtain ⟨⟨a1, a2, a3, a4, a5⟩, b, ⟨c1, c2, c3, c4, c5, c6⟩, ⟨c, d1, d2, d3⟩, f, g, ⟨g1, g2, g3⟩, h8⟩ := h
  have h123 := (show (123 : Int32).toInt = 123 from rfl)
  have hno : ¬ kd T s.1 = 123 → ¬ (p_is T 123 s = true ∧ ks.length < 8) := fun z w => z (i32_eq.mpr (p_is_iff.mp w.1).2)
  show wm_isSign 123 M _
  rw [← h123]
  refine s_isSign a1 (by decide) (fun z => ⟨inr_z (by omega) (by omega), fun w => absurd w (by omega), fun _ => ⟨fun w => s_bad h0 (kb (fun q => by omega)), fun w M2 e2 => ?_⟩⟩) (fun z => ⟨inr_z (by omega) (by omega), fun _ => s_bad h0 (kb (hno z)), fun w => absurd rfl w⟩)
  have hlt : ks.length < 8 := by omega
  have hi := kd_lt20 (by decide) z
  have hg : p_is T 123 s = true ∧ ks.length < 8 := ⟨p_is_iff.mpr ⟨b.2, by rw [z]⟩, hlt⟩
  have r2 : gi M2 353 28 = (r : Int) := by rw [e2, gi_of (by omega)]; exact a2
  have er : (gi M2 353 28).toNat = r := by rw [r2]; omega
  have w2 : gi M2 353 37 = (ks.length : Int) + 1 := by rw [e2, g1, gi_at (inr_z (by omega) (by omega))]
  have t2 : gi M2 357 r = (s.2.2.2.2.1 : Int) := by rw [e2, gi_of (by omega)]; exact c5
  have fin : ∀ (z2 : Int), z2 = ((max s.2.2.2.2.1 (ks.length + 1) : Nat) : Int) → w_openBody_73 (x0 : Int) p.2 (r : Int) z2 M2 K := by
    intro z2 hz2
    refine ⟨⟨by omega, by omega⟩, fun M3 e3 => ?_⟩
    rw [show ((r : Nat) : Int).toNat = r by omega] at e3
    have w3 : gi M3 353 37 = (ks.length : Int) + 1 := by rw [e3, gi_of (by omega)]; exact w2
    refine ⟨⟨by omega, by omega⟩, fun M4 e4 => ?_⟩
    rw [w3, show ((ks.length : Int) + 1).toNat = ks.length + 1 by omega] at e4
    have w4 : gi M4 353 37 = (ks.length : Int) + 1 := by rw [e4, gi_of (by omega)]; exact w3
    refine ⟨⟨by omega, by omega⟩, fun M5 e5 => ?_⟩
    rw [w4, show ((ks.length : Int) + 1).toNat = ks.length + 1 by omega] at e5
    have w5 : gi M5 353 37 = (ks.length : Int) + 1 := by rw [e5, gi_of (by omega)]; exact w4
    refine ⟨⟨by omega, by omega⟩, fun M6 e6 => ?_⟩
    rw [w5, show ((ks.length : Int) + 1).toNat = ks.length + 1 by omega] at e6
    have g6 : ∀ a k, ¬ (a = 353 ∧ k = 37) → ¬ (a = 357 ∧ k = r) → ¬ ((a = 373 ∨ a = 374 ∨ a = 375) ∧ k = ks.length + 1) → gi M6 a k = gi M a k := fun a k y1 y2 y3 => by
      rw [e6, gi_of (by omega), e5, gi_of (by omega), e4, gi_of (by omega), e3, gi_of (by omega), e2, gi_of (by omega)]
    have f37 : gi M6 353 37 = (ks.length : Int) + 1 := by rw [e6, gi_of (by omega)]; exact w5
    have f357 : gi M6 357 r = z2 := by rw [e6, gi_of (by omega), e5, gi_of (by omega), e4, gi_of (by omega), e3, gi_at (by rw [hz2]; exact inr_z (by omega) (by omega))]
    have f373 : gi M6 373 (ks.length + 1) = (x0 : Int) := by rw [e6, gi_of (by omega), e5, gi_of (by omega), e4, gi_at (inr_z (by omega) (by omega))]
    have f374 : gi M6 374 (ks.length + 1) = p.2 := by rw [e6, gi_of (by omega), e5, gi_at (inr_z (by omega) (by omega))]
    have f375 : gi M6 375 (ks.length + 1) = -1 := by rw [e6, gi_at (inr_z (by omega) (by omega))]
    clear e2 e3 e4 e5 e6 w2 w3 w4 w5 r2 er t2
    have hm6 : mtk M6 T s.1 := a1.eq (fun a k y => g6 a k (by omega) (by omega) (by omega))
    have hy : yq T r M0 M6 (p_dp (ks.length + 1) s) (p :: ks) ex e := by
      refine ⟨⟨hm6, (g6 _ _ (by omega) (by omega) (by omega)).trans a2, a3, fun a k y => ?_, (g6 _ _ (by omega) (by omega) (by omega)).trans a5⟩, b, ⟨(g6 _ _ (by omega) (by omega) (by omega)).trans c1, c2, (g6 _ _ (by omega) (by omega) (by omega)).trans c3, c4, f357.trans hz2, by show max s.2.2.2.2.1 (ks.length + 1) ≤ 8; omega⟩, ⟨c, (g6 _ _ (by omega) (by omega) (by omega)).trans d1, d2, fun x x1 x2 x3 => (d3 x x1 x2 x3).eq (Nat.le_refl _) (fun a ha => g6 _ _ (by omega) (by omega) (by omega)) (fun k hk => ⟨g6 _ _ (by omega) (by omega) (by omega), g6 _ _ (by omega) (by omega) (by omega)⟩)⟩, fun x x1 x2 => ⟨(f x x1 x2).1.eq (Nat.le_refl _) x2 (fun k hk a ha => g6 _ _ (by omega) (by omega) (by omega)), fun y => ((f x x1 x2).2 y).eq (by simp) ⟨g6 _ _ (by omega) (by omega) (by omega), g6 _ _ (by omega) (by omega) (by omega)⟩ (fun j _ _ => ⟨g6 _ _ (by omega) (by omega) (by omega), g6 _ _ (by omega) (by omega) (by omega)⟩)⟩, ?_, ⟨by rw [f37]; simp, by simp; omega, ⟨x0, f373, h1, h2, (g6 _ _ (by omega) (by omega) (by omega)).trans ho⟩, hp1, f374, hp2, Or.inl f375, g3.eq (Nat.le_refl _) (fun k hk => ⟨g6 _ _ (by omega) (by omega) (by omega), g6 _ _ (by omega) (by omega) (by omega), g6 _ _ (by omega) (by omega) (by omega)⟩) (fun j hj a ha => g6 _ _ (by omega) (by omega) (by omega))⟩, h8⟩
      · unfold tew at y
        exact (g6 a k (by omega) (by omega) (by omega)).trans (a4 a k (by unfold tew; omega))
      · show fst_ M6 r s.2.2.1
        unfold fst_
        rw [g6 358 r (by omega) (by omega) (by omega)]
        exact g.imp (fun x y => ⟨y.1, y.2.1, by rw [g6 362 x (by omega) (by omega) (by omega)]; exact y.2.2⟩)
    refine s_next' hm6 hi (fun M7 x7 hm7 => ?_)
    have q7 : ∀ a k, ¬ (a = 353 ∧ 3 ≤ k ∧ k ≤ 8) → gi M7 a k = gi M6 a k := fun a k y => x7 a k y
    refine kg hg M7 ?_ (fun a k y1 y2 => (q7 _ _ (by omega)).trans (g6 _ _ (by omega) (by omega) (by omega))) ((q7 _ _ (by omega)).trans f373) ((q7 _ _ (by omega)).trans f374)
    rw [p_adv_lt hi]
    exact hy.nx x7 hm7
  rw [er, r2, w2, t2]
  refine ⟨⟨by omega, by omega⟩, fun q => ⟨⟨by omega, by omega⟩, fin _ (by omega)⟩, fun q => fin _ (by omega)⟩
end YB
section YC
variable {M M' M0 : rf_M} {T : tK} {i r e x0 : Nat} {s : pS} {ks : List (Int × Int)} {ex : Nat → Prop} {K : rf_M → Prop}
theorem p_ex_bad {t : Int32} (h : s.2.2.2.2.2 = false) : (p_ex T t s).2.2.2.2.2 = false := by
  unfold p_ex
  have : p_is T t s = false := by unfold p_is; rw [h]; rfl
  rw [this]; rfl
theorem p_loop_bad {c : pS → Bool} {g : pS → pS} (hc : ∀ s, s.2.2.2.2.2 = false → c s = false) (f : Nat) (h : s.2.2.2.2.2 = false) : p_loop c g f s = s := by
  cases f with
  | zero => rfl
  | succ f =>
    show (if c s = true then _ else s) = s
    rw [hc s h]; rfl
theorem p_is_bad {t : Int32} (h : s.2.2.2.2.2 = false) : p_is T t s = false := by unfold p_is; rw [h]; rfl
theorem p_un_bad (f : Nat) (h : s.2.2.2.2.2 = false) : (p_un T f s).2.2.2.2.2 = false := by
  cases f with
  | zero => unfold p_un; rw [if_pos (Or.inl h)]; rfl
  | succ f => unfold p_un; rw [if_pos (Or.inl h)]; rfl
theorem p_expr_bad {U : pS → pS} (hU : ∀ s, s.2.2.2.2.2 = false → (U s).2.2.2.2.2 = false) (h : s.2.2.2.2.2 = false) : (p_expr T U s).2.2.2.2.2 = false := by
  have hp : ∀ s, s.2.2.2.2.2 = false → (p_prod T U s).2.2.2.2.2 = false := fun s h => by
    unfold p_prod
    rw [p_loop_bad (fun s h => by unfold p_m; rw [p_is_bad h, p_is_bad h, p_is_bad h]; rfl) _ (hU s h)]
    exact hU s h
  have hs : ∀ s, s.2.2.2.2.2 = false → (p_sum T U s).2.2.2.2.2 = false := fun s h => by
    unfold p_sum
    rw [p_loop_bad (fun s h => by unfold p_a; rw [p_is_bad h, p_is_bad h]; rfl) _ (hp s h)]
    exact hp s h
  unfold p_expr
  have : p_c T (p_sum T U s) = false := by unfold p_c; rw [p_is_bad (hs s h), p_is_bad (hs s h), p_is_bad (hs s h)]; rfl
  rw [this]
  exact hs s h
theorem p_exq_bad (h : s.2.2.2.2.2 = false) : (p_exq T s).2.2.2.2.2 = false := p_expr_bad (fun s h => p_un_bad 8 h) h
theorem yq.fill (h : yq T r M0 M s ks (fun x => x = x0) e) (h2 : ∀ c : Nat, gi M 359 r = (c : Int) → zs2 M r c x0) (h3 : trl M ks.length x0) : yq T r M0 M s ks (fun _ => False) e := by
  obtain ⟨a, b, c', ⟨c, d1, d2, d3⟩, f, g⟩ := h
  refine ⟨a, b, c', ⟨c, d1, d2, fun x x1 x2 _ => ?_⟩, fun x x1 x2 => ⟨(f x x1 x2).1, fun _ => ?_⟩, g⟩
  · by_cases z : x = x0
    · rw [z]; exact h2 c d1
    · exact d3 x x1 x2 z
  · by_cases z : x = x0
    · rw [z]; exact h3
    · exact (f x x1 x2).2 z
theorem s_expy {v1 : Int} {ir : Bool} {K : Int → rf_M → Prop} (hT : ∀ i, (kd T i).toInt = 1 → 0 ≤ (nb T i).toInt) (h : yq T r M0 M s ks ex e) (hv1 : v1 = if ir = true then 1 else 0) (he : e + 1 ≤ s.2.2.1)
    (kg : (p_exq T (p_ir ir s)).2.2.2.2.2 = true → ∀ M' (c0 c1 : Nat), yq T r M0 M' (p_ir false (p_exq T (p_ir ir s))) ks ex (e + 1) → gi M' 359 r = (c1 : Int) → cod M' r c1 (if ir = true then 16 else 26) (200 * r + c0) → (∀ a k, 360 ≤ a → a ≤ 367 → gi M' a k = gi M a k) → K ((200 * r + c0 : Nat) : Int) M')
    (kb : (p_exq T (p_ir ir s)).2.2.2.2.2 = false → ∀ M' (z : Nat), z ≤ 2400 → yb T r M0 M' → K (z : Int) M') : wm_exp v1 M K := by
  obtain ⟨i, b0, n, u, dp, o⟩ := s
  obtain ⟨⟨a1, a2, a3, a4, a5⟩, ⟨rfl, rfl⟩, ⟨c1, c2, c3, c4, c5, c6⟩, ⟨c, d1, d2, d3⟩, f, g, ⟨g1, g2, g3⟩, h8⟩ := h
  dsimp only at *
  obtain ⟨m, H, hev, hH⟩ := x_exq (T := T) (ir := ir) hT i n u dp c4
  have hir : p_ir ir (i, false, n, u, dp, true) = (i, ir, n, u, dp, true) := rfl
  rw [hir] at kg kb
  refine s_exp (E := e) hv1 rfl a1 a2 a3 c3 c4 d1 d2 (by omega) a5 hev (fun hok M' c1' hx => ?_) (fun hok M' hx => ?_)
  · rcases hH with ⟨e1, e2, e3, e4⟩ | ⟨e1, e2⟩
    · obtain ⟨x1, x2, x3, x4, x5, x6, x7, x8, x9, k, y1, y2, y3⟩ := hx
      have q : ∀ a k, ¬ exw r (200 * r + c) a k → gi M' a k = gi M a k := fun a k z => x9 a k z
      unfold exw at q
      refine kg (by rw [e1]) M' c c1' ?_ x5 ⟨k, by omega, by omega, y2, y3⟩ (fun a k z1 z2 => q a k (by omega))
      rw [e1]
      have hc1 : c ≤ c1' := by omega
      refine ⟨⟨x1, x2, a3, a4.trans (x9.mono (fun a k z => ?_)), x8⟩, ⟨rfl, rfl⟩, ⟨(q _ _ (by omega)).trans c1, c2, x3, x4, (q _ _ (by omega)).trans c5, c6⟩, ⟨c1', x5, by show c1' ≤ 2 * H.2.1 + (e + 1); omega, fun x w1 w2 w3 => (d3 x w1 w2 w3).eq hc1 (fun a ha => q _ _ (by omega)) (fun k hk => ⟨q _ _ (by omega), q _ _ (by omega)⟩)⟩, fun x w1 w2 => ⟨(f x w1 w2).1.eq (Nat.le_refl _) w2 (fun k hk a ha => q _ _ (by omega)), fun z => ((f x w1 w2).2 z).eq (Nat.le_refl _) ⟨q _ _ (by omega), q _ _ (by omega)⟩ (fun j _ _ => ⟨q _ _ (by omega), q _ _ (by omega)⟩)⟩, ?_, ⟨(q _ _ (by omega)).trans g1, g2, g3.eq (Nat.le_refl _) (fun k hk => ⟨q _ _ (by omega), q _ _ (by omega), q _ _ (by omega)⟩) (fun j hj a ha => q _ _ (by omega))⟩, he⟩
      · unfold exw at z
        unfold tew
        omega
      · show fst_ M' r n
        unfold fst_
        rw [q 358 r (by omega)]
        exact g.imp (fun x z => ⟨z.1, z.2.1, by rw [q 362 x (by omega)]; exact z.2.2⟩)
    · rw [e2] at hok; cases hok
  · rcases hH with ⟨e1, e2, e3, e4⟩ | ⟨e1, e2⟩
    · rw [e2] at hok; cases hok
    · obtain ⟨x1, x2, x3, x4⟩ := hx
      refine kb e1 M' (200 * r + c) (by omega) ⟨x1, x2, a4.trans (x4.mono (fun a k z => ?_)), x3⟩
      unfold exw at z
      unfold tew
      omega
/-- what follows a statement's head -/
def y_res (T : tK) (kind : Int) (s : pS) (ks : List (Int × Int)) : pS × List (Int × Int) := if kind = 0 ∨ kind = 2 ∨ kind = 5 ∨ kind = 7 then y_open T (kind + 10, 0) s ks else (p_ex T 59 s, ks)
theorem s_rs256 {kind : Int} (h : yq T r M0 M s ks (fun x => x = x0) e) (hk : gi M 360 x0 = kind) (h1 : 40 * r ≤ x0) (h2 : x0 < 40 * r + s.2.2.1) (hz : ∀ c : Nat, gi M 359 r = (c : Int) → zs2 M r c x0)
    (kg : (y_res T kind s ks).1.2.2.2.2.2 = true → ∀ M', yq T r M0 M' (y_res T kind s ks).1 (y_res T kind s ks).2 (fun _ => False) e → K M') (kb : (y_res T kind s ks).1.2.2.2.2.2 = false → ∀ M', yb T r M0 M' → K M') : w_readStatement_256 (x0 : Int) M K := by
  have hr := h.1.2.2.1
  have hn := h.2.2.1.2.1
  have ets : ((x0 : Nat) : Int).toNat = x0 := by omega
  have op : (kind = 0 ∨ kind = 2 ∨ kind = 5 ∨ kind = 7) → w_readStatement_304 (x0 : Int) M K := by
    intro hop
    have er : y_res T kind s ks = y_open T (kind + 10, 0) s ks := if_pos hop
    rw [er] at kg kb
    refine s_openBody (p := (kind + 10, 0)) h (by rw [hk]; show kind = kind + 10 - 10; omega) h1 h2 (by show kind + 10 = 10 ∨ kind + 10 = 12 ∨ kind + 10 = 15 ∨ kind + 10 = 17; omega) (Or.inl rfl) (fun hg M' hy q p1 p2 => ?_) (fun hg M' hb => ?_)
    · have eo : y_open T (kind + 10, 0) s ks = (p_dp (ks.length + 1) (p_adv T s), (kind + 10, 0) :: ks) := if_pos hg
      rw [eo] at kg
      refine kg hy.2.1.2 M' (hy.fill (fun c hc => ?_) (fun _ => Or.inr ⟨ks.length + 1, by omega, by simp, p1, p2⟩))
      rw [q 359 r (by omega) (by omega)] at hc
      exact (hz c hc).eq (Nat.le_refl _) (fun a ha => q a x0 (by omega) (by omega)) (fun k hk => ⟨q _ _ (by omega) (by omega), q _ _ (by omega) (by omega)⟩)
    · have eo : y_open T (kind + 10, 0) s ks = (p_bad s, ks) := if_neg hg
      rw [eo] at kb
      exact kb rfl M' hb
  have tk : ¬ (kind = 0 ∨ kind = 2 ∨ kind = 5 ∨ kind = 7) → wm_take 59 M (fun M1 => w_readStatement_319 M1 K) := by
    intro hop
    have er : y_res T kind s ks = (p_ex T 59 s, ks) := if_neg hop
    rw [er] at kg kb
    have h59 := (show (59 : Int32).toInt = 59 from rfl)
    rw [← h59]
    refine s_take h (by decide) (fun hg M' hy hx => ?_) (fun hg M' hb => ?_)
    · have eo : p_ex T 59 s = p_adv T s := by unfold p_ex; rw [hg]; rfl
      rw [eo] at kg
      have q : ∀ a k, ¬ (a = 353 ∧ 3 ≤ k ∧ k ≤ 8) → gi M' a k = gi M a k := fun a k z => hx a k z
      refine kg hy.2.1.2 M' (hy.fill (fun c hc => ?_) (fun z => ?_))
      · rw [q 359 r (by omega)] at hc
        exact (hz c hc).eq (Nat.le_refl _) (fun a ha => q a x0 (by omega)) (fun k hk => ⟨q _ _ (by omega), q _ _ (by omega)⟩)
      · rw [q 360 x0 (by omega), hk] at z
        exact absurd (Or.inr (Or.inr (Or.inr z))) hop
    · have eo : p_ex T 59 s = p_bad s := by unfold p_ex; rw [hg]; rfl
      rw [eo] at kb
      exact kb rfl M' hb
  show w_readStatement_256 (x0 : Int) M K
  unfold w_readStatement_256
  rw [ets, hk]
  refine ⟨fun _ => ⟨⟨by omega, by omega⟩, fun z => op (by omega), fun z => ⟨⟨by omega, by omega⟩, fun z2 => op (by omega), fun z2 => ⟨⟨by omega, by omega⟩, fun z3 => op (by omega), fun z3 => ⟨⟨by omega, by omega⟩, fun z4 => op (by omega), fun z4 => tk (by omega)⟩⟩⟩⟩, fun z => absurd h.1.2.2.2.2 z⟩
theorem s_rs256b (h : yb T r M0 M) (kb : ∀ M', yb T r M0 M' → K M') : w_readStatement_256 (x0 : Int) M K := ⟨fun z => absurd z (by have := h.2.2.2; omega), fun _ => kb M h⟩
theorem s_rs231b (h : yb T r M0 M) (hx : x0 < 480) (kb : ∀ M', yb T r M0 M' → K M') : w_readStatement_231 (x0 : Int) M K := by
  have tk : w_readStatement_250 (x0 : Int) M K := by
    have h41 := (show (41 : Int32).toInt = 41 from rfl)
    show wm_take 41 M _
    rw [← h41]
    exact s_takeb h (by decide) (fun M' hb => s_rs256b hb kb)
  exact ⟨⟨by omega, by omega⟩, fun _ => tk, fun _ => ⟨⟨by omega, by omega⟩, fun _ => tk, fun _ => s_rs256b h kb⟩⟩
def y_231 (T : tK) (kind : Int) (s : pS) : pS := if kind = 0 ∨ kind = 2 then p_ex T 41 s else s
theorem y_res_bad {kind : Int} (h : s.2.2.2.2.2 = false) : (y_res T kind s ks).1.2.2.2.2.2 = false := by
  unfold y_res
  split
  · unfold y_open
    rw [if_neg (fun z => by rw [p_is_bad h] at z; cases z.1)]
    rfl
  · exact p_ex_bad h
theorem s_rs231 {kind : Int} (h : yq T r M0 M s ks (fun x => x = x0) e) (hk : gi M 360 x0 = kind) (h1 : 40 * r ≤ x0) (h2 : x0 < 40 * r + s.2.2.1) (hz : ∀ c : Nat, gi M 359 r = (c : Int) → zs2 M r c x0)
    (kg : (y_res T kind (y_231 T kind s) ks).1.2.2.2.2.2 = true → ∀ M', yq T r M0 M' (y_res T kind (y_231 T kind s) ks).1 (y_res T kind (y_231 T kind s) ks).2 (fun _ => False) e → K M') (kb : (y_res T kind (y_231 T kind s) ks).1.2.2.2.2.2 = false → ∀ M', yb T r M0 M' → K M') : w_readStatement_231 (x0 : Int) M K := by
  have hr := h.1.2.2.1
  have hn := h.2.2.1.2.1
  have ets : ((x0 : Nat) : Int).toNat = x0 := by omega
  have tk : (kind = 0 ∨ kind = 2) → w_readStatement_250 (x0 : Int) M K := by
    intro hc
    have e1 : y_231 T kind s = p_ex T 41 s := if_pos hc
    rw [e1] at kg kb
    have h41 := (show (41 : Int32).toInt = 41 from rfl)
    show wm_take 41 M _
    rw [← h41]
    refine s_take h (by decide) (fun hg M' hy hx => ?_) (fun hg M' hb => ?_)
    · have eo : p_ex T 41 s = p_adv T s := by unfold p_ex; rw [hg]; rfl
      rw [eo] at kg kb
      have q : ∀ a k, ¬ (a = 353 ∧ 3 ≤ k ∧ k ≤ 8) → gi M' a k = gi M a k := fun a k z => hx a k z
      refine s_rs256 hy ((q _ _ (by omega)).trans hk) h1 h2 (fun c hc => ?_) kg kb
      rw [q 359 r (by omega)] at hc
      exact (hz c hc).eq (Nat.le_refl _) (fun a ha => q a x0 (by omega)) (fun k hk => ⟨q _ _ (by omega), q _ _ (by omega)⟩)
    · have eo : p_ex T 41 s = p_bad s := by unfold p_ex; rw [hg]; rfl
      rw [eo] at kb
      exact s_rs256b hb (kb (y_res_bad rfl))
  unfold w_readStatement_231
  rw [ets, hk]
  refine ⟨⟨by omega, by omega⟩, fun z => tk (Or.inl z), fun z => ⟨⟨by omega, by omega⟩, fun z2 => tk (Or.inr z2), fun z2 => ?_⟩⟩
  have e1 : y_231 T kind s = s := if_neg (by omega)
  rw [e1] at kg kb
  exact s_rs256 h hk h1 h2 hz kg kb
/-- the exp of a statement -/
def y_167 (T : tK) (kind : Int) (s : pS) : pS := if kind = 3 ∨ kind = 5 ∨ kind = 7 then s else if kind = 9 then p_ir false (p_exq T (p_ir true s)) else p_ir false (p_exq T (p_ir false s))
theorem s_rs167 {kind : Int} (hT : ∀ i, (kd T i).toInt = 1 → 0 ≤ (nb T i).toInt) (h : yq T r M0 M s ks (fun x => x = x0) e) (he : e + 1 = s.2.2.1) (hk : gi M 360 x0 = kind) (hk8 : kk8 kind) (h1 : 40 * r ≤ x0) (h2 : x0 < 40 * r + s.2.2.1) (hl : kind = 20 → 0 ≤ gi M 367 x0 ∧ gi M 367 x0 ≤ 25) (hx0 : gi M 364 x0 = -1)
    (kg : ∀ e', (y_res T kind (y_231 T kind (y_167 T kind s)) ks).1.2.2.2.2.2 = true → ∀ M', yq T r M0 M' (y_res T kind (y_231 T kind (y_167 T kind s)) ks).1 (y_res T kind (y_231 T kind (y_167 T kind s)) ks).2 (fun _ => False) e' → K M') (kb : (y_res T kind (y_231 T kind (y_167 T kind s)) ks).1.2.2.2.2.2 = false → ∀ M', yb T r M0 M' → K M') : w_readStatement_167 (x0 : Int) M K := by
  have hr := h.1.2.2.1
  have hn := h.2.2.1.2.1
  have ets : ((x0 : Nat) : Int).toNat = x0 := by omega
  have no : (kind = 3 ∨ kind = 5 ∨ kind = 7) → w_readStatement_231 (x0 : Int) M K := by
    intro hc
    have e1 : y_167 T kind s = s := if_pos hc
    rw [e1] at kg kb
    refine s_rs231 h hk h1 h2 (fun c _ => ⟨by rw [hk]; exact hk8, by rw [hk]; exact hl, fun _ => Or.inl hx0, fun z => by rw [hk] at z; omega⟩) (kg e) kb
  have ye : ∀ (v : Int) (ir : Bool), v = (if ir = true then 1 else 0) → ¬ (kind = 3 ∨ kind = 5 ∨ kind = 7) → (kind = 9 ↔ ir = true) → w_readStatement_227 (x0 : Int) (x0 : Int) v M K := by
    intro v ir hv hno hir
    have e1 : y_167 T kind s = p_ir false (p_exq T (p_ir ir s)) := by
      unfold y_167
      rw [if_neg hno]
      cases ir
      · rw [if_neg (fun z => absurd (hir.mp z) (by decide))]
      · rw [if_pos (hir.mpr rfl)]
    rw [e1] at kg kb
    refine s_expy hT h hv (by omega) (fun hok M1 c0 c1 hy hc hcod q => ?_) (fun hok M1 z hz hb => ?_)
    · refine ⟨⟨by omega, by omega⟩, fun M2 e2 => ?_⟩
      rw [ets] at e2
      have g2 : ∀ a k, ¬ (a = 364 ∧ k = x0) → gi M2 a k = gi M1 a k := fun a k w => by rw [e2, gi_of (by omega)]
      have hcb : 200 * r + c0 ≤ 2400 := by
        obtain ⟨k, k1, k2, -⟩ := hcod
        obtain ⟨c', w1, w2, -⟩ := hy.2.2.2.1
        have := hy.2.2.1.2.2.2.1
        have w3 : c1 = c' := by omega
        have w4 := hy.2.2.2.2.2.2.2
        have w5 := hy.2.2.1.2.1
        omega
      have f364 : gi M2 364 x0 = ((200 * r + c0 : Nat) : Int) := by rw [e2, gi_at (inr_z (by omega) (by omega))]
      have n' : (p_ir false (p_exq T (p_ir ir s))).2.2.1 = s.2.2.1 := by
        have w1 := hy.2.2.1.1
        have w2 := h.2.2.1.1
        have w3 := hy.1.2.2.2.1
        -- both are what slot r of 355 says
        have : gi M1 355 r = gi M 355 r := by
          obtain ⟨i, b0, n, u, dp, o⟩ := s
          obtain ⟨-, ⟨rfl, rfl⟩, ⟨-, -, -, hu60, -⟩, -⟩ := h
          obtain ⟨m, H, -, hH⟩ := x_exq (T := T) (ir := ir) hT i n u dp hu60
          have hir2 : p_ir ir (i, false, n, u, dp, true) = (i, ir, n, u, dp, true) := rfl
          rw [hir2] at hok hy w1
          rcases hH with ⟨e1, -⟩ | ⟨e1, -⟩
          · rw [e1] at w1
            exact w1.trans w2.symm
          · rw [e1] at hok; cases hok
        omega
      have hy2 : yq T r M0 M2 (p_ir false (p_exq T (p_ir ir s))) ks (fun x => x = x0) (e + 1) := by
        obtain ⟨⟨a1, a2, a3, a4, a5⟩, b, ⟨c1', c2, c3, c4, c5, c6⟩, ⟨c, d1, d2, d3⟩, f, g, ⟨g1', g2', g3⟩, h8⟩ := hy
        refine ⟨⟨a1.eq (fun a k w => g2 a k (by omega)), (g2 _ _ (by omega)).trans a2, a3, fun a k w => ?_, (g2 _ _ (by omega)).trans a5⟩, b, ⟨(g2 _ _ (by omega)).trans c1', c2, (g2 _ _ (by omega)).trans c3, c4, (g2 _ _ (by omega)).trans c5, c6⟩, ⟨c, (g2 _ _ (by omega)).trans d1, d2, fun x x1 x2 x3 => (d3 x x1 x2 x3).eq (Nat.le_refl _) (fun a ha => g2 _ _ (fun w => x3 w.2)) (fun k hk => ⟨g2 _ _ (by omega), g2 _ _ (by omega)⟩)⟩, fun x x1 x2 => ⟨(f x x1 x2).1.eq (Nat.le_refl _) x2 (fun k hk a ha => g2 _ _ (by omega)), fun z => ((f x x1 x2).2 z).eq (Nat.le_refl _) ⟨g2 _ _ (by omega), g2 _ _ (by omega)⟩ (fun j _ _ => ⟨g2 _ _ (by omega), g2 _ _ (by omega)⟩)⟩, ?_, ⟨(g2 _ _ (by omega)).trans g1', g2', g3.eq (Nat.le_refl _) (fun k hk => ⟨g2 _ _ (by omega), g2 _ _ (by omega), g2 _ _ (by omega)⟩) (fun j hj a ha => g2 _ _ (by omega))⟩, h8⟩
        · unfold tew at w
          exact (g2 a k (by omega)).trans (a4 a k (by unfold tew; omega))
        · unfold fst_
          rw [g2 358 r (by omega)]
          exact g.imp (fun x z => ⟨z.1, z.2.1, by rw [g2 362 x (by omega)]; exact z.2.2⟩)
      have k2 : gi M2 360 x0 = kind := by rw [g2 _ _ (by omega), q 360 x0 (by omega) (by omega)]; exact hk
      refine s_rs231 hy2 k2 h1 (by rw [n']; exact h2) (fun c hc' => ?_) (kg (e + 1)) kb
      have hcc : c = c1 := by rw [g2 359 r (by omega), hc] at hc'; omega
      have hcod2 : cod M2 r c (if ir = true then 16 else 26) (200 * r + c0) := by
        rw [hcc]; exact hcod.eq (Nat.le_refl _) (fun k hk => ⟨g2 _ _ (by omega), g2 _ _ (by omega)⟩)
      refine ⟨by rw [k2]; exact hk8, fun w => ?_, fun w => ?_, fun w => ?_⟩
      · rw [k2] at w
        rw [g2 367 x0 (by omega), q 367 x0 (by omega) (by omega)]; exact hl w
      · rw [k2] at w
        have hf : ir = false := by
          cases ir
          · rfl
          · exact absurd (hir.mpr rfl) w
        rw [hf] at hcod2
        exact Or.inr ⟨_, f364, hcod2⟩
      · rw [k2] at w
        have hf := hir.mp w
        rw [hf] at hcod2
        exact ⟨_, f364, hcod2⟩
    · refine ⟨⟨by omega, by omega⟩, fun M2 e2 => ?_⟩
      rw [ets] at e2
      have g2 : ∀ a k, ¬ (a = 364 ∧ k = x0) → gi M2 a k = gi M1 a k := fun a k w => by rw [e2, gi_of (by omega)]
      have hbx : (y_231 T kind (p_ir false (p_exq T (p_ir ir s)))).2.2.2.2.2 = false := by
        unfold y_231
        split
        · exact p_ex_bad hok
        · exact hok
      refine s_rs231b ?_ (by omega) (kb (y_res_bad hbx))
      obtain ⟨⟨j, b1⟩, b2, b3, b4⟩ := hb
      refine ⟨⟨j, b1.eq (fun a k w => g2 a k (by omega))⟩, (g2 _ _ (by omega)).trans b2, fun a k w => ?_, (g2 _ _ (by omega)).trans b4⟩
      unfold tew at w
      exact (g2 a k (by omega)).trans (b3 a k (by unfold tew; omega))
  unfold w_readStatement_167
  rw [ets, hk]
  refine ⟨fun _ => ⟨⟨by omega, by omega⟩, fun z => no (Or.inl z), fun z => ⟨⟨by omega, by omega⟩, fun z2 => no (Or.inr (Or.inl z2)), fun z2 => ⟨⟨by omega, by omega⟩, fun z3 => no (Or.inr (Or.inr z3)), fun z3 => ⟨⟨by omega, by omega⟩, fun z4 => ye 1 true rfl (by omega) ⟨fun _ => rfl, fun _ => z4⟩, fun z4 => ye 0 false rfl (by omega) ⟨fun w => absurd w z4, fun w => absurd w (by decide)⟩⟩⟩⟩⟩, fun z => absurd h.1.2.2.2.2 z⟩
theorem s_rs167b (h : yb T r M0 M) (hx : x0 < 480) (kb : ∀ M', yb T r M0 M' → K M') : w_readStatement_167 (x0 : Int) M K := ⟨fun z => absurd z (by have := h.2.2.2; omega), fun _ => s_rs231b h hx kb⟩
end YC
def y_pre (T : tK) (kind : Int) (s : pS) : pS := if kind = 20 then p_ex T 61 s else if kind = 0 ∨ kind = 2 then p_ex T 40 s else s
section YD
variable {M M' M0 : rf_M} {T : tK} {i r e x0 : Nat} {s : pS} {ks : List (Int × Int)} {ex : Nat → Prop} {K : rf_M → Prop}
theorem p_ex_ir {t : Int32} : (p_ex T t s).2.1 = s.2.1 := by
  unfold p_ex
  split
  · unfold p_adv; rfl
  · rfl
theorem p_loop_ir {c : pS → Bool} {g : pS → pS} (hg : ∀ s, (g s).2.1 = s.2.1) : ∀ (f : Nat) (s : pS), (p_loop c g f s).2.1 = s.2.1
  | 0, s => rfl
  | f + 1, s => by
    show (if c s = true then p_loop c g f (g s) else s).2.1 = s.2.1
    split
    · rw [p_loop_ir hg f, hg]
    · rfl
theorem p_adv_ir : (p_adv T s).2.1 = s.2.1 := rfl
theorem p_expr_ir {U : pS → pS} (hU : ∀ s, (U s).2.1 = s.2.1) (s : pS) : (p_expr T U s).2.1 = s.2.1 := by
  have hp : ∀ s, (p_prod T U s).2.1 = s.2.1 := fun s => by
    unfold p_prod
    rw [p_loop_ir (fun s => by rw [hU, p_adv_ir])]; exact hU s
  have hs : ∀ s, (p_sum T U s).2.1 = s.2.1 := fun s => by
    unfold p_sum
    rw [p_loop_ir (fun s => by rw [hp, p_adv_ir])]; exact hp s
  unfold p_expr
  split
  · rw [hs, p_adv_ir, hs]
  · exact hs s
theorem p_un_ir : ∀ (f : Nat) (s : pS), (p_un T f s).2.1 = s.2.1
  | 0, s => by
    unfold p_un
    split
    · rfl
    · split
      · rfl
      · split
        · rfl
        · rfl
  | f + 1, s => by
    unfold p_un
    split
    · rfl
    · split
      · rfl
      · split
        · rfl
        · split
          · rw [p_un_ir f]; rfl
          · split
            · rw [p_ex_ir, p_expr_ir (p_un_ir f)]; rfl
            · rfl
theorem p_exq_ir (s : pS) : (p_exq T s).2.1 = s.2.1 := p_expr_ir (p_un_ir 8) s
theorem p_ir_id {b : Bool} (h : s.2.1 = b) : p_ir b s = s := by
  obtain ⟨i, b0, n⟩ := s
  cases h
  rfl
theorem p_ir_ex {t : Int32} {b : Bool} : p_ir b (p_ex T t s) = p_ex T t (p_ir b s) := by
  unfold p_ex
  have : p_is T t (p_ir b s) = p_is T t s := rfl
  rw [this]
  split <;> rfl
theorem y_all {k : Int32} (hk : p_beg k = true) (hs : s.2.1 = false) : y_res T (if k.toInt = 1 then 20 else k.toInt - 10) (y_231 T (if k.toInt = 1 then 20 else k.toInt - 10) (y_167 T (if k.toInt = 1 then 20 else k.toInt - 10) (y_pre T (if k.toInt = 1 then 20 else k.toInt - 10) s))) ks = (if k.toInt = 1 ∨ k.toInt = 13 ∨ k.toInt = 14 ∨ k.toInt = 19 then (p_st1 T id k s, ks) else y_open T (k.toInt, 0) (p_if T k s) ks) := by
  have hk' : k.toInt = 1 ∨ k.toInt = 10 ∨ k.toInt = 12 ∨ k.toInt = 13 ∨ k.toInt = 14 ∨ k.toInt = 15 ∨ k.toInt = 17 ∨ k.toInt = 19 := by
    unfold p_beg at hk
    simpa using hk
  have e61 : (p_ex T 61 s).2.1 = false := p_ex_ir.trans hs
  have e40 : (p_ex T 40 s).2.1 = false := p_ex_ir.trans hs
  have tr : ∀ {t : pS}, t.2.1 = false → p_ir false (p_exq T (p_ir false t)) = p_exq T t := fun {t} h => by
    rw [p_ir_id h, p_ir_id ((p_exq_ir t).trans h)]
  rcases hk' with z | z | z | z | z | z | z | z
  · have ek : k = 1 := i32_eq.mpr z
    subst ek
    show (p_ex T 59 (p_ir false (p_exq T (p_ir false (p_ex T 61 s)))), ks) = (p_cl T (p_ex T 61 s), ks)
    rw [tr e61]; rfl
  · have ek : k = 10 := i32_eq.mpr z
    subst ek
    show y_open T (10, 0) (p_ex T 41 (p_ir false (p_exq T (p_ir false (p_ex T 40 s))))) ks = y_open T (10, 0) (p_ex T 41 (p_exq T (p_ex T 40 s))) ks
    rw [tr e40]
  · have ek : k = 12 := i32_eq.mpr z
    subst ek
    show y_open T (12, 0) (p_ex T 41 (p_ir false (p_exq T (p_ir false (p_ex T 40 s))))) ks = y_open T (12, 0) (p_ex T 41 (p_exq T (p_ex T 40 s))) ks
    rw [tr e40]
  · have ek : k = 13 := i32_eq.mpr z
    subst ek
    rfl
  · have ek : k = 14 := i32_eq.mpr z
    subst ek
    show (p_ex T 59 (p_ir false (p_exq T (p_ir false s))), ks) = (p_cl T s, ks)
    rw [tr hs]; rfl
  · have ek : k = 15 := i32_eq.mpr z
    subst ek
    rfl
  · have ek : k = 17 := i32_eq.mpr z
    subst ek
    rfl
  · have ek : k = 19 := i32_eq.mpr z
    subst ek
    show (p_ex T 59 (p_ir false (p_exq T (p_ir true s))), ks) = (p_ir false (p_ex T 59 (p_exq T (p_ir true s))), ks)
    rw [p_ir_ex]
theorem yq.up {e' : Nat} (h : yq T r M0 M s ks ex e) (h1 : e ≤ e') (h2 : e' ≤ s.2.2.1) : yq T r M0 M s ks ex e' := by
  obtain ⟨a, b, c', ⟨c, d1, d2, d3⟩, f, g, g', h8⟩ := h
  exact ⟨a, b, c', ⟨c, d1, by omega, d3⟩, f, g, g', h2⟩
theorem y_chain_bad {kind : Int} (h : s.2.2.2.2.2 = false) : (y_res T kind (y_231 T kind (y_167 T kind s)) ks).1.2.2.2.2.2 = false := by
  refine y_res_bad ?_
  have h1 : (y_167 T kind s).2.2.2.2.2 = false := by
    unfold y_167
    split
    · exact h
    · split
      · exact p_exq_bad (s := p_ir true s) h
      · exact p_exq_bad (s := p_ir false s) h
  unfold y_231
  split
  · exact p_ex_bad h1
  · exact h1
/-- a statement's head is there: take, and on -/
theorem s_rsPre {kind v1 : Int} (hT : ∀ i, (kd T i).toInt = 1 → 0 ≤ (nb T i).toInt) (h : yq T r M0 M s ks (fun x => x = x0) e) (he : e + 1 = s.2.2.1) (hk : gi M 360 x0 = kind) (hk8 : kk8 kind) (hv1 : (kind = 20 ∧ inr v1) ∨ (v1 = kind)) (h1 : 40 * r ≤ x0) (h2 : x0 < 40 * r + s.2.2.1) (hl : kind = 20 → 0 ≤ gi M 367 x0 ∧ gi M 367 x0 ≤ 25) (hx0 : gi M 364 x0 = -1)
    (kg : ∀ e', (y_res T kind (y_231 T kind (y_167 T kind (y_pre T kind s))) ks).1.2.2.2.2.2 = true → ∀ M', yq T r M0 M' (y_res T kind (y_231 T kind (y_167 T kind (y_pre T kind s))) ks).1 (y_res T kind (y_231 T kind (y_167 T kind (y_pre T kind s))) ks).2 (fun _ => False) e' → K M') (kb : (y_res T kind (y_231 T kind (y_167 T kind (y_pre T kind s))) ks).1.2.2.2.2.2 = false → ∀ M', yb T r M0 M' → K M') :
    (0 ≤ (x0 : Int) ∧ (x0 : Int) < 480) ∧ (((gi M 360 ((x0 : Int)).toNat) = 20 → (wm_take 61 M (fun (M3 : rf_M) => w_readStatement_167 (x0 : Int) M3 K))) ∧ (¬ (gi M 360 ((x0 : Int)).toNat) = 20 → (inr v1 ∧ ((v1 = 0 → (w_readStatement_161 (x0 : Int) M K)) ∧ (¬ (v1 = 0) → (inr v1 ∧ ((v1 = 2 → (w_readStatement_161 (x0 : Int) M K)) ∧ (¬ v1 = 2 → (w_readStatement_167 (x0 : Int) M K))))))))) := by
  have hr := h.1.2.2.1
  have hn := h.2.2.1.2.1
  have ets : ((x0 : Nat) : Int).toNat = x0 := by omega
  have tk : ∀ (c : Int32), 20 ≤ c.toInt → y_pre T kind s = p_ex T c s → wm_take c.toInt M (fun M3 => w_readStatement_167 (x0 : Int) M3 K) := by
    intro c hc hp
    rw [hp] at kg kb
    refine s_take h hc (fun hg M' hy hx => ?_) (fun hg M' hb => ?_)
    · have eo : p_ex T c s = p_adv T s := by unfold p_ex; rw [hg]; rfl
      rw [eo] at kg kb
      have q : ∀ a k, ¬ (a = 353 ∧ 3 ≤ k ∧ k ≤ 8) → gi M' a k = gi M a k := fun a k z => hx a k z
      exact s_rs167 hT hy he ((q _ _ (by omega)).trans hk) hk8 h1 h2 (fun z => by rw [q 367 x0 (by omega)]; exact hl z) ((q _ _ (by omega)).trans hx0) kg kb
    · have eo : p_ex T c s = p_bad s := by unfold p_ex; rw [hg]; rfl
      rw [eo] at kb
      exact s_rs167b hb (by omega) (kb (y_chain_bad rfl))
  have hkb : -1 ≤ kind ∧ kind ≤ 20 := by unfold kk8 at hk8; omega
  have iv1 : inr v1 := by
    rcases hv1 with z | z
    · exact z.2
    · rw [z]; exact inr_z (by omega) (by omega)
  rw [ets, hk]
  have h61 := (show (61 : Int32).toInt = 61 from rfl)
  have h40 := (show (40 : Int32).toInt = 40 from rfl)
  have t40 : (kind = 0 ∨ kind = 2) → w_readStatement_161 (x0 : Int) M K := by
    intro z
    show wm_take 40 M _
    rw [← h40]
    refine tk 40 (by decide) ?_
    unfold y_pre
    rw [if_neg (by omega), if_pos z]
  refine ⟨⟨by omega, by omega⟩, fun z => ?_, fun z => ⟨iv1, fun z2 => t40 (by omega), fun z2 => ⟨iv1, fun z3 => t40 (by omega), fun z3 => ?_⟩⟩⟩
  · rw [← h61]
    refine tk 61 (by decide) ?_
    unfold y_pre
    rw [if_pos z]
  · have hp : y_pre T kind s = s := by
      unfold y_pre
      rw [if_neg z, if_neg (by omega)]
    rw [hp] at kg kb
    exact s_rs167 hT h he hk hk8 h1 h2 hl hx0 kg kb
theorem s_readStatement (hT : ∀ i, (kd T i).toInt = 1 → 0 ≤ (nb T i).toInt) (h : yq T r M0 M s ks (fun _ => False) e) (h125 : ¬ (kd T s.1).toInt = 125)
    (kg : (y_step T s ks).1.2.2.2.2.2 = true → ∀ M' e', yq T r M0 M' (y_step T s ks).1 (y_step T s ks).2 (fun _ => False) e' → K M') (kb : (y_step T s ks).1.2.2.2.2.2 = false → ∀ M', yb T r M0 M' → K M') : wm_readStatement M K := by
  have h0 := h.up h.2.2.2.2.2.2.2 (Nat.le_refl _)
  obtain ⟨⟨a1, a2, a3, a4, a5⟩, b, ⟨c1, c2, c3, c4, c5, c6⟩, ⟨c, d1, d2, d3⟩, f, g, ⟨g1, g2, g3⟩, h8⟩ := h0
  have tk := a1.2.2
  have hk := tkm_iff tk.2.2.2
  have hkw := hk.2.2.2.2.1
  have er : (gi M 353 28).toNat = r := by rw [a2]; omega
  -- what it begins with
  have main : ∀ (v1 y : Int), v1 = gi M 353 4 - 10 → (y = 1 → p_beg (kd T s.1) = true) → (y = 0 → p_beg (kd T s.1) = false) → (y = 0 ∨ y = 1) → w_readStatement_57 v1 y M K := by
    intro v1 y hv hy1 hy0 hy01
    refine ⟨inr_z (by omega) (by omega), fun z => ?_, fun z => ?_⟩
    · have hst : y_step T s ks = (p_bad s, ks) := by
        unfold y_step
        rw [if_neg h125, if_neg (fun w => by rw [hy0 z] at w; cases w.1)]
      rw [hst] at kb
      exact s_bad h (kb rfl)
    rw [er, a2, c1]
    refine ⟨⟨by omega, by omega⟩, fun z2 => ?_, fun z2 => ?_⟩
    · have hst : y_step T s ks = (p_bad s, ks) := by
        unfold y_step
        rw [if_neg h125, if_neg (fun w => by have := w.2; omega)]
      rw [hst] at kb
      exact s_bad h (kb rfl)
    have hbeg := hy1 (by omega)
    have hn : s.2.2.1 < 40 := by omega
    have hst : y_step T s ks = (if (kd T s.1).toInt = 1 ∨ (kd T s.1).toInt = 13 ∨ (kd T s.1).toInt = 14 ∨ (kd T s.1).toInt = 19 then (p_st1 T id (kd T s.1) (p_adv T (p_c1 s)), ks) else y_open T ((kd T s.1).toInt, 0) (p_if T (kd T s.1) (p_adv T (p_c1 s))) ks) := by
      unfold y_step
      rw [if_neg h125, if_pos ⟨hbeg, hn⟩]
    rw [hst, ← y_all (T := T) (ks := ks) (s := p_adv T (p_c1 s)) hbeg b.1] at kg kb
    have hk' : (kd T s.1).toInt = 1 ∨ (kd T s.1).toInt = 10 ∨ (kd T s.1).toInt = 12 ∨ (kd T s.1).toInt = 13 ∨ (kd T s.1).toInt = 14 ∨ (kd T s.1).toInt = 15 ∨ (kd T s.1).toInt = 17 ∨ (kd T s.1).toInt = 19 := by
      unfold p_beg at hbeg
      simpa using hbeg
    have hil : s.1 < T.length := kd_lt (by omega)
    refine s_newStatement (r := r) (n := s.2.2.1) a2 a3 c1 hn g1 g2 g3 (fun x x1 x2 => (f x x1 x2).1) g (fun M1 x1 n1 t1 f1 k1 o1 e1 => ?_)
    generalize hx0 : 40 * r + s.2.2.1 = x0
    rw [hx0] at e1 k1 o1
    have ets : ((x0 : Nat) : Int).toNat = x0 := by omega
    have q1 : ∀ a k, ¬ ((a = 355 ∧ k = r) ∨ (a = 358 ∧ k = r) ∨ (361 ≤ a ∧ a ≤ 367 ∧ 40 * r ≤ k ∧ k < 40 * r + 40) ∨ (a = 375 ∧ k = ks.length)) → gi M1 a k = gi M a k := fun a k w => x1 a k w
    have tok1 : gi M1 353 4 = tkm (kd T s.1).toInt := (q1 _ _ (by omega)).trans tk.1
    have let1 : gi M1 353 6 = gi M 353 6 := q1 _ _ (by omega)
    -- kind and letter
    have fin : ∀ (kind : Int), kind = (if (kd T s.1).toInt = 1 then 20 else (kd T s.1).toInt - 10) → w_readStatement_105 v1 (x0 : Int) (x0 : Int) kind M1 K := by
      intro kind hkind
      rw [← hkind] at kg kb
      have hk8 : kk8 kind := by
        unfold kk8
        rw [hkind]
        split <;> omega
      have hkb : 0 ≤ kind ∧ kind ≤ 20 := by unfold kk8 at hk8; omega
      refine ⟨⟨by omega, by omega⟩, fun M2 e2 => ?_⟩
      rw [ets] at e2
      have fin2 : ∀ (l : Int), inr l → ((kd T s.1).toInt = 1 → 0 ≤ l ∧ l ≤ 25) → w_readStatement_127 v1 (x0 : Int) (x0 : Int) l M2 K := by
        intro l il hl
        refine ⟨⟨by omega, by omega⟩, fun M3 e3 => ?_⟩
        rw [ets] at e3
        have g3' : ∀ a k, ¬ ((a = 360 ∨ a = 367) ∧ k = x0) → gi M3 a k = gi M1 a k := fun a k w => by rw [e3, gi_of (by omega), e2, gi_of (by omega)]
        have k360 : gi M3 360 x0 = kind := by rw [e3, gi_of (by omega), e2, gi_at (inr_z (by omega) (by omega))]
        have k367 : gi M3 367 x0 = l := by rw [e3, gi_at il]
        have g5 : ∀ a k, ¬ ((a = 355 ∧ k = r) ∨ (a = 358 ∧ k = r) ∨ (361 ≤ a ∧ a ≤ 367 ∧ 40 * r ≤ k ∧ k < 40 * r + 40) ∨ (a = 375 ∧ k = ks.length)) → ¬ (a = 360 ∧ k = x0) → gi M3 a k = gi M a k := fun a k w1 w2 => (g3' a k (by omega)).trans (q1 a k w1)
        have hm3 : mtk M3 T s.1 := a1.eq (fun a k w => g5 a k (by omega) (by omega))
        have hy3 : yq T r M0 M3 (p_c1 s) ks (fun x => x = x0) s.2.2.1 := by
          refine ⟨⟨hm3, (g5 _ _ (by omega) (by omega)).trans a2, a3, fun a k w => ?_, (g5 _ _ (by omega) (by omega)).trans a5⟩, b, ⟨?_, hn, (g5 _ _ (by omega) (by omega)).trans c3, c4, (g5 _ _ (by omega) (by omega)).trans c5, c6⟩, ⟨c, (g5 _ _ (by omega) (by omega)).trans d1, d2, fun x y1 y2 y3 => ?_⟩, fun x y1 y2 => ⟨(t1 x y1 y2).eq (Nat.le_refl _) y2 (fun k hk a ha => g3' _ _ (by omega)), fun y3 => ?_⟩, ?_, ⟨(g5 _ _ (by omega) (by omega)).trans g1, g2, k1 M3 (fun a k w => g3' a k (by omega))⟩, by show s.2.2.1 ≤ s.2.2.1 + 1; omega⟩
          · unfold tew at w
            exact (g5 a k (by omega) (by omega)).trans (a4 a k (by unfold tew; omega))
          · rw [g3' _ _ (by omega), n1]
            show (s.2.2.1 : Int) + 1 = ((s.2.2.1 + 1 : Nat) : Int)
            omega
          · have y2' : x < 40 * r + (s.2.2.1 + 1) := y2
            have yl : x < 40 * r + s.2.2.1 := by omega
            have o := o1 x (by omega)
            refine (d3 x y1 yl id).eq (Nat.le_refl _) (fun a ha => ?_) (fun k hk => ⟨g5 _ _ (by omega) (by omega), g5 _ _ (by omega) (by omega)⟩)
            rcases ha with rfl | rfl | rfl
            · exact g5 _ _ (by omega) (by omega)
            · exact (g3' _ _ (by omega)).trans o.1
            · exact (g3' _ _ (by omega)).trans o.2
          · have y2' : x < 40 * r + (s.2.2.1 + 1) := y2
            have yl : x < 40 * r + s.2.2.1 := by omega
            have o := o1 x (by omega)
            exact ((f x y1 yl).2 id).eq (Nat.le_refl _) ⟨g5 _ _ (by omega) (by omega), (g3' _ _ (by omega)).trans o.2⟩ (fun j _ _ => ⟨g5 _ _ (by omega) (by omega), g5 _ _ (by omega) (by omega)⟩)
          · show fst_ M3 r (s.2.2.1 + 1)
            unfold fst_
            rw [g3' 358 r (by omega)]
            exact f1.imp (fun x w => ⟨w.1, w.2.1, by rw [g3' 362 x (by omega)]; exact w.2.2⟩)
        refine s_next' hm3 hil (fun M4 x4 hm4 => ?_)
        have q4 : ∀ a k, ¬ (a = 353 ∧ 3 ≤ k ∧ k ≤ 8) → gi M4 a k = gi M3 a k := fun a k w => x4 a k w
        have hy4 : yq T r M0 M4 (p_adv T (p_c1 s)) ks (fun x => x = x0) s.2.2.1 := by
          rw [p_adv_lt (s := p_c1 s) hil]
          exact hy3.nx x4 hm4
        refine s_rsPre (kind := kind) (v1 := v1) hT hy4 rfl ((q4 _ _ (by omega)).trans k360) hk8 ?_ (by omega) (by show x0 < 40 * r + (s.2.2.1 + 1); omega) (fun w => ?_) ?_ (fun e' hok M' hy => kg hok M' e' hy) kb
        · rw [hkind]
          by_cases w : (kd T s.1).toInt = 1
          · rw [if_pos w]
            refine Or.inl ⟨rfl, ?_⟩
            have : inr (gi M 353 4) := inr_gi _ _ _
            rw [hv, tk.1, hk.2.2.1.mpr w]
            exact inr_z (by omega) (by omega)
          · rw [if_neg w]
            refine Or.inr ?_
            rw [hv, tk.1, (hkw (kd T s.1).toInt (by omega) (by omega)).mpr rfl]
        · rw [q4 367 x0 (by omega), k367]
          refine hl ?_
          rw [hkind] at w
          split at w
          · rename_i w2; exact w2
          · omega
        · rw [q4 364 x0 (by omega), g3' 364 x0 (by omega)]; exact e1
      have t2 : gi M2 353 4 = tkm (kd T s.1).toInt := by rw [e2, gi_of (by omega)]; exact tok1
      refine ⟨fun w => ?_, fun w => ?_⟩
      · have hk1 := hk.2.2.1.mp (t2.symm.trans w)
        have hl := tk.2.2.1 hk1
        have e6 : gi M2 353 6 = (nb T s.1).toInt := by rw [e2, gi_of (by omega), let1]; exact hl.1
        rw [e6]
        exact fin2 _ (inr_ti _) (fun _ => ⟨hl.2.1, hl.2.2⟩)
      · exact fin2 _ (inr_z (by omega) (by omega)) (fun w2 => absurd (t2.trans (hk.2.2.1.mpr w2)) w)
    refine ⟨fun w => fin 20 ?_, fun w => fin v1 ?_⟩
    · rw [if_pos (hk.2.2.1.mp (tok1.symm.trans w))]
    · have w1 : ¬ (kd T s.1).toInt = 1 := fun w2 => w (tok1.trans (hk.2.2.1.mpr w2))
      rw [if_neg w1, hv, tk.1, (hkw (kd T s.1).toInt (by omega) (by omega)).mpr rfl]
  have t4 := tk.1
  have bg : ∀ z : Int, (z = 1 ∨ z = 10 ∨ z = 12 ∨ z = 13 ∨ z = 14 ∨ z = 15 ∨ z = 17 ∨ z = 19) → (kd T s.1).toInt = z → p_beg (kd T s.1) = true := by
    intro z hz e
    unfold p_beg
    rw [e]
    rcases hz with rfl | rfl | rfl | rfl | rfl | rfl | rfl | rfl <;> rfl
  have wd' : ∀ z : Int, 0 ≤ z → z ≤ 9 → gi M 353 4 - 10 = z → (kd T s.1).toInt = 10 + z := fun z z1 z2 w => (hkw (10 + z) (by omega) (by omega)).mp (by rw [← t4]; omega)
  have ye : ∀ z : Int, (z = 1 ∨ z = 10 ∨ z = 12 ∨ z = 13 ∨ z = 14 ∨ z = 15 ∨ z = 17 ∨ z = 19) → (kd T s.1).toInt = z → w_readStatement_52 (gi M 353 4 - 10) M K := fun z hz e => main _ 1 rfl (fun _ => bg z hz e) (fun w => absurd w (by decide)) (Or.inr rfl)
  have i4 : inr (gi M 353 4 - 10) := by
    have hk0 : 0 ≤ gi M 353 4 ∧ gi M 353 4 ≤ 19 := by
      rw [t4]
      have := hk.2.2.2.2.2
      unfold tkm
      split
      · omega
      · split
        · omega
        · split
          · omega
          · split
            · omega
            · split <;> omega
    exact inr_z (by omega) (by omega)
  show w_readStatement M K
  refine ⟨fun w => ye 1 (by omega) (hk.2.2.1.mp (t4.symm.trans w)), fun w0 => ⟨i4, fun w => ye 10 (by omega) (by have := wd' 0 (by omega) (by omega) w; omega), fun w1 => ⟨i4, fun w => ye 12 (by omega) (by have := wd' 2 (by omega) (by omega) w; omega), fun w2 => ⟨i4, fun w => ye 13 (by omega) (by have := wd' 3 (by omega) (by omega) w; omega), fun w3 => ⟨i4, fun w => ye 14 (by omega) (by have := wd' 4 (by omega) (by omega) w; omega), fun w4 => ⟨i4, fun w => ye 15 (by omega) (by have := wd' 5 (by omega) (by omega) w; omega), fun w5 => ⟨i4, fun w => ye 17 (by omega) (by have := wd' 7 (by omega) (by omega) w; omega), fun w6 => ⟨i4, fun w => ye 19 (by omega) (by have := wd' 9 (by omega) (by omega) w; omega), fun w7 => ?_⟩⟩⟩⟩⟩⟩⟩⟩
  refine main _ 0 rfl (fun w => absurd w (by decide)) (fun _ => ?_) (Or.inl rfl)
  cases hb : p_beg (kd T s.1) with
  | false => rfl
  | true =>
    exfalso
    have hk' : (kd T s.1).toInt = 1 ∨ (kd T s.1).toInt = 10 ∨ (kd T s.1).toInt = 12 ∨ (kd T s.1).toInt = 13 ∨ (kd T s.1).toInt = 14 ∨ (kd T s.1).toInt = 15 ∨ (kd T s.1).toInt = 17 ∨ (kd T s.1).toInt = 19 := by
      unfold p_beg at hb
      simpa using hb
    rcases hk' with z | z | z | z | z | z | z | z
    · exact w0 (t4.trans (hk.2.2.1.mpr z))
    all_goals (have := (hkw _ (by omega) (by omega)).mpr z; rw [← t4] at this; omega)
end YD
section YE
variable {M M' M0 : rf_M} {T : tK} {i r e x0 : Nat} {s : pS} {ks : List (Int × Int)} {ex : Nat → Prop} {K : rf_M → Prop} {p : Int × Int}
theorem y_open_bad (h : s.2.2.2.2.2 = false) : (y_open T p s ks).1.2.2.2.2.2 = false := by
  unfold y_open
  rw [if_neg (fun z => by rw [p_is_bad h] at z; cases z.1)]
  rfl
/-- a second body begins -/
theorem s_open1 {o : Nat} {k : Int} (h : yq T r M0 M s ks (fun _ => False) e) (ho : gi M 360 o = k - 10) (h1 : 40 * r ≤ o) (h2 : o < 40 * r + s.2.2.1) (hp1 : k = 10 ∨ k = 12 ∨ k = 15 ∨ k = 17)
    (kg : (y_open T (k, 1) s ks).1.2.2.2.2.2 = true → ∀ M' e', yq T r M0 M' (y_open T (k, 1) s ks).1 (y_open T (k, 1) s ks).2 (fun _ => False) e' → K M') (kb : (y_open T (k, 1) s ks).1.2.2.2.2.2 = false → ∀ M', yb T r M0 M' → K M') : wm_openBody (o : Int) 1 M K := by
  refine s_openBody (p := (k, 1)) h ho h1 h2 hp1 (Or.inr rfl) (fun hg M' hy q p1 p2 => ?_) (fun hg M' hb => ?_)
  · have eo : y_open T (k, 1) s ks = (p_dp (ks.length + 1) (p_adv T s), (k, 1) :: ks) := if_pos hg
    rw [eo] at kg
    exact kg hy.2.1.2 M' e hy
  · have eo : y_open T (k, 1) s ks = (p_bad s, ks) := if_neg hg
    rw [eo] at kb
    exact kb rfl M' hb
theorem s_close154b {o : Nat} (h : yb T r M0 M) (kb : ∀ M', yb T r M0 M' → K M') : w_closeBody_154 (o : Int) M K := ⟨fun z => absurd z (by have := h.2.2.2; omega), fun _ => kb M h⟩
theorem s_closeBody (h : yq T r M0 M s (p :: ks) (fun _ => False) e) (h125 : (kd T s.1).toInt = 125)
    (kg : (y_step T s (p :: ks)).1.2.2.2.2.2 = true → ∀ M' e', yq T r M0 M' (y_step T s (p :: ks)).1 (y_step T s (p :: ks)).2 (fun _ => False) e' → K M') (kb : (y_step T s (p :: ks)).1.2.2.2.2.2 = false → ∀ M', yb T r M0 M' → K M') : wm_closeBody M K := by
  have hst : y_step T s (p :: ks) = (if p.2 = 1 ∨ p.1 = 12 then (p_adv T s, ks) else if p.1 = 10 then (if p_is T 11 (p_adv T s) = true then y_open T (10, 1) (p_adv T (p_adv T s)) ks else (p_adv T s, ks)) else if p.1 = 15 then y_open T (15, 1) (p_ex T 16 (p_adv T s)) ks else y_open T (17, 1) (p_loc T (p_ex T 18 (p_adv T s))) ks) := by
    unfold y_step
    rw [if_pos h125]
  rw [hst] at kg kb
  obtain ⟨⟨a1, a2, a3, a4, a5⟩, b, ⟨c1, c2, c3, c4, c5, c6⟩, ⟨c, d1, d2, d3⟩, f, g, ⟨g1, g2, ⟨o, o1, o2, o3, o4⟩, s2, s3, s4, s5, s6⟩, h8⟩ := h
  have hil : s.1 < T.length := kd_lt (by omega)
  have w1 : gi M 353 37 = (ks.length : Int) + 1 := by rw [g1]; simp
  have lk8 : ks.length + 1 ≤ 8 := by simpa using g2
  have wn : (gi M 353 37).toNat = ks.length + 1 := by rw [w1]; omega
  have ets : ((o : Nat) : Int).toNat = o := by omega
  show w_closeBody M K
  unfold w_closeBody
  rw [wn, o1, s3, ets, w1]
  refine ⟨⟨by omega, by omega⟩, ⟨by omega, by omega⟩, fun M1 e1 => ?_⟩
  have g1' : ∀ a k, ¬ (a = 353 ∧ k = 37) → gi M1 a k = gi M a k := fun a k w => by rw [e1, gi_of (by omega)]
  have hm1 : mtk M1 T s.1 := a1.eq (fun a k w => g1' a k (by omega))
  refine s_next' hm1 hil (fun M2 x2 hm2 => ?_)
  have q2 : ∀ a k, ¬ (a = 353 ∧ 3 ≤ k ∧ k ≤ 8) → ¬ (a = 353 ∧ k = 37) → gi M2 a k = gi M a k := fun a k w1 w2 => (x2 a k w1).trans (g1' a k w2)
  have k2 : gi M2 360 o = p.1 - 10 := (q2 _ _ (by omega) (by omega)).trans o4
  have w2 : gi M2 353 37 = (ks.length : Int) := by
    rw [show gi M2 353 37 = gi M1 353 37 from x2 _ _ (by unfold nxw; omega), e1, gi_at (inr_z (by omega) (by omega))]; omega
  have hz2 : ∀ c : Nat, gi M2 359 r = (c : Int) → zs2 M2 r c o := fun c' hc' => by
    have : c' = c := by rw [q2 359 r (by omega) (by omega), d1] at hc'; omega
    rw [this]
    exact (d3 o o2 o3 id).eq (Nat.le_refl _) (fun a ha => q2 _ _ (by omega) (by omega)) (fun k hk => ⟨q2 _ _ (by omega) (by omega), q2 _ _ (by omega) (by omega)⟩)
  -- behind the brace
  have hy : yq T r M0 M2 (p_adv T s) ks (fun x => x = o ∧ p.1 = 17 ∧ p.2 = 0) e := by
    rw [p_adv_lt hil]
    refine ⟨⟨hm2, (q2 _ _ (by omega) (by omega)).trans a2, a3, fun a k w => ?_, (q2 _ _ (by omega) (by omega)).trans a5⟩, b, ⟨(q2 _ _ (by omega) (by omega)).trans c1, c2, (q2 _ _ (by omega) (by omega)).trans c3, c4, (q2 _ _ (by omega) (by omega)).trans c5, c6⟩, ⟨c, (q2 _ _ (by omega) (by omega)).trans d1, d2, fun x y1 y2 y3 => (d3 x y1 y2 id).eq (Nat.le_refl _) (fun a ha => q2 _ _ (by omega) (by omega)) (fun k hk => ⟨q2 _ _ (by omega) (by omega), q2 _ _ (by omega) (by omega)⟩)⟩, fun x y1 y2 => ⟨(f x y1 y2).1.eq (Nat.le_refl _) y2 (fun k hk a ha => q2 _ _ (by omega) (by omega)), fun y3 => ?_⟩, ?_, ⟨w2, by omega, s6.eq (Nat.le_refl _) (fun k hk => ⟨q2 _ _ (by omega) (by omega), q2 _ _ (by omega) (by omega), q2 _ _ (by omega) (by omega)⟩) (fun j hj a ha => q2 _ _ (by omega) (by omega))⟩, h8⟩
    · unfold tew at w
      exact (q2 a k (by omega) (by omega)).trans (a4 a k (by unfold tew; omega))
    · intro z
      rw [q2 360 x (by omega) (by omega)] at z
      rw [q2 367 x (by omega) (by omega)]
      rcases (f x y1 y2).2 id z with w | ⟨j, j1, j2, j3, j4⟩
      · exact Or.inl w
      · have j2' : j ≤ ks.length + 1 := by simpa using j2
        by_cases hj : j = ks.length + 1
        · exfalso
          rw [hj, o1] at j3
          rw [hj, s3] at j4
          have hxo : x = o := by omega
          rw [hxo, o4] at z
          exact y3 ⟨hxo, by omega, j4⟩
        · exact Or.inr ⟨j, j1, by omega, (q2 _ _ (by omega) (by omega)).trans j3, (q2 _ _ (by omega) (by omega)).trans j4⟩
    · unfold fst_
      rw [q2 358 r (by omega) (by omega)]
      exact g.imp (fun x z => ⟨z.1, z.2.1, by rw [q2 362 x (by omega) (by omega)]; exact z.2.2⟩)
  have full : ¬ (p.1 = 17 ∧ p.2 = 0) → yq T r M0 M2 (p_adv T s) ks (fun _ => False) e := by
    intro hn
    obtain ⟨A, B, C, ⟨c', D1, D2, D3⟩, F, G⟩ := hy
    exact ⟨A, B, C, ⟨c', D1, D2, fun x y1 y2 _ => D3 x y1 y2 (fun w => hn w.2)⟩, fun x y1 y2 => ⟨(F x y1 y2).1, fun _ => (F x y1 y2).2 (fun w => hn w.2)⟩, G⟩
  have hn3 : (p_adv T s).2.2.1 = s.2.2.1 := rfl
  have ret : (p.2 = 1 ∨ p.1 = 12) → K M2 := by
    intro hc
    rw [if_pos hc] at kg
    exact kg b.2 M2 e (full (by omega))
  rw [k2]
  refine ⟨fun z => ret (Or.inl z), fun z => ⟨⟨by omega, by omega⟩, fun z2 => ret (Or.inr (by omega)), fun z2 => ⟨⟨by omega, by omega⟩, fun z3 => ?_, fun z3 => ⟨⟨by omega, by omega⟩, fun z4 => ?_, fun z4 => ?_⟩⟩⟩⟩
  · -- if
    rw [if_neg (by omega), if_pos (by omega)] at kg kb
    have hf := full (by omega)
    have tk2 := hm2.2.2
    have h11 := (tkm_iff tk2.2.2.2).2.2.2.2.1 11 (by omega) (by omega)
    have ep : p_adv T s = (s.1 + 1, s.2) := p_adv_lt hil
    refine ⟨fun z4 => ?_, fun z4 => ?_⟩
    · have hk11 : (kd T (s.1 + 1)).toInt = 11 := h11.mp (tk2.1.symm.trans z4)
      have hp : p_is T 11 (p_adv T s) = true := by rw [ep]; exact p_is_iff.mpr ⟨b.2, hk11⟩
      rw [if_pos hp] at kg kb
      have hil2 : s.1 + 1 < T.length := kd_lt (by omega)
      refine s_next' hm2 hil2 (fun M3 x3 hm3 => ?_)
      have hy3 : yq T r M0 M3 (p_adv T (p_adv T s)) ks (fun _ => False) e := by
        have : p_adv T (p_adv T s) = (s.1 + 1 + 1, s.2) := by rw [ep]; exact p_adv_lt (s := (s.1 + 1, s.2)) hil2
        rw [this]
        have hf' := hf
        rw [ep] at hf'
        exact hf'.nx x3 hm3
      exact s_open1 (k := 10) hy3 (by rw [show gi M3 360 o = gi M2 360 o from x3 _ _ (by unfold nxw; omega), k2]; omega) o2 o3 (by omega) kg kb
    · have hp : ¬ p_is T 11 (p_adv T s) = true := by
        rw [ep]
        intro w
        exact z4 (tk2.1.trans (h11.mpr (p_is_iff.mp w).2))
      rw [if_neg hp] at kg
      exact kg b.2 M2 e hf
  · -- either
    rw [if_neg (by omega), if_neg (by omega), if_pos (by omega)] at kg kb
    have hf := full (by omega)
    refine s_takeWord (c := 16) hf (by decide) (by omega) (fun hg M3 hy3 x3 => ?_) (fun hg M3 hb => ?_)
    · have q3 : ∀ a k, ¬ (a = 353 ∧ 3 ≤ k ∧ k ≤ 8) → gi M3 a k = gi M2 a k := fun a k w => x3 a k w
      have eo : p_ex T 16 (p_adv T s) = p_adv T (p_adv T s) := by unfold p_ex; rw [hg]; rfl
      rw [eo] at kg kb
      have k3 : gi M3 360 o = p.1 - 10 := (q3 _ _ (by omega)).trans k2
      rw [ets, k3]
      refine ⟨⟨by omega, by omega⟩, fun w => absurd w (by omega), fun _ => ⟨fun _ => s_open1 (k := 15) hy3 (by rw [k3]; omega) o2 o3 (by omega) kg kb, fun w => absurd hy3.1.2.2.2.2 w⟩⟩
    · have eo : p_ex T 16 (p_adv T s) = p_bad (p_adv T s) := by unfold p_ex; rw [hg]; rfl
      rw [eo] at kb
      have kb' := kb (y_open_bad rfl)
      refine ⟨⟨by omega, by omega⟩, fun _ => ⟨fun w => absurd w (by have := hb.2.2.2; omega), fun _ => s_close154b hb kb'⟩, fun _ => s_close154b hb kb'⟩
  · -- try
    have hp17 : p.1 = 17 := by omega
    have hp20 : p.2 = 0 := by omega
    rw [if_neg (by omega), if_neg (by omega), if_neg (by omega)] at kg kb
    refine s_takeWord (c := 18) hy (by decide) (by omega) (fun hg M3 hy3 x3 => ?_) (fun hg M3 hb => ?_)
    · have q3 : ∀ a k, ¬ (a = 353 ∧ 3 ≤ k ∧ k ≤ 8) → gi M3 a k = gi M2 a k := fun a k w => x3 a k w
      have eo : p_ex T 18 (p_adv T s) = p_adv T (p_adv T s) := by unfold p_ex; rw [hg]; rfl
      rw [eo] at kg kb
      have k3 : gi M3 360 o = p.1 - 10 := (q3 _ _ (by omega)).trans k2
      have tk3 := hy3.1.1.2.2
      have hk3 := tkm_iff tk3.2.2.2
      have bad3 : p_loc T (p_adv T (p_adv T s)) = p_bad (p_adv T (p_adv T s)) → w_closeBody_135 M3 K := by
        intro hl
        rw [hl] at kb
        exact s_bad hy3 (kb (y_open_bad rfl))
      rw [ets, k3]
      refine ⟨⟨by omega, by omega⟩, fun _ => ⟨fun _ => ⟨fun z5 => ⟨fun z6 => ⟨⟨by omega, by omega⟩, fun M4 e4 => ?_⟩, fun z6 => bad3 ?_⟩, fun z5 => bad3 ?_⟩, fun w => absurd hy3.1.2.2.2.2 w⟩, fun w => absurd (by omega) w⟩
      · have hk1 := hk3.2.2.1.mp (tk3.1.symm.trans z5)
        have hl := tk3.2.2.1 hk1
        have hloc : p_loc T (p_adv T (p_adv T s)) = p_adv T (p_adv T (p_adv T s)) := by
          unfold p_loc
          rw [if_pos]
          refine ⟨p_is_iff.mpr ⟨b.2, hk1⟩, ?_⟩
          rw [hl.1] at z6
          unfold p_cell
          simp
          omega
        rw [hloc] at kg kb
        have g4 : ∀ a k, ¬ (a = 367 ∧ k = o) → gi M4 a k = gi M3 a k := fun a k w => by rw [e4, gi_of (by omega)]
        have f4 : gi M4 367 o = (nb T (p_adv T (p_adv T s)).1).toInt := by rw [e4, hl.1, gi_at (inr_ti _)]
        have hy4 : yq T r M0 M4 (p_adv T (p_adv T s)) ks (fun _ => False) e := by
          obtain ⟨⟨A1, A2, A3, A4, A5⟩, B, ⟨C1, C2, C3, C4, C5, C6⟩, ⟨c', D1, D2, D3⟩, F, G, ⟨G1, G2, G3⟩, H8⟩ := hy3
          have z2o : zs2 M4 r c' o := by
            have := hz2 c' (by rw [← q3 359 r (by omega)]; exact D1)
            obtain ⟨h1, h2', h3, h4⟩ := this
            have e360 : gi M4 360 o = gi M2 360 o := (g4 _ _ (by omega)).trans (q3 _ _ (by omega))
            have e364 : gi M4 364 o = gi M2 364 o := (g4 _ _ (by omega)).trans (q3 _ _ (by omega))
            have hac : ∀ k, k < 200 * r + c' → gi M4 368 k = gi M2 368 k ∧ gi M4 369 k = gi M2 369 k := fun k _ => ⟨(g4 _ _ (by omega)).trans (q3 _ _ (by omega)), (g4 _ _ (by omega)).trans (q3 _ _ (by omega))⟩
            unfold zs2
            rw [e360, e364]
            refine ⟨h1, fun w => by rw [k2] at w; omega, fun w => (h3 w).imp (fun x hx => hx.eq (Nat.le_refl _) hac), fun w => by rw [k2] at w; omega⟩
          refine ⟨⟨A1.eq (fun a k w => g4 a k (by omega)), (g4 _ _ (by omega)).trans A2, A3, fun a k w => ?_, (g4 _ _ (by omega)).trans A5⟩, B, ⟨(g4 _ _ (by omega)).trans C1, C2, (g4 _ _ (by omega)).trans C3, C4, (g4 _ _ (by omega)).trans C5, C6⟩, ⟨c', (g4 _ _ (by omega)).trans D1, D2, fun x y1 y2 _ => ?_⟩, fun x y1 y2 => ⟨(F x y1 y2).1.eq (Nat.le_refl _) y2 (fun k hk a ha => g4 _ _ (by omega)), fun _ => ?_⟩, ?_, ⟨(g4 _ _ (by omega)).trans G1, G2, G3.eq (Nat.le_refl _) (fun k hk => ⟨g4 _ _ (by omega), g4 _ _ (by omega), g4 _ _ (by omega)⟩) (fun j hj a ha => g4 _ _ (by omega))⟩, H8⟩
          · unfold tew at w
            exact (g4 a k (by omega)).trans (A4 a k (by unfold tew; omega))
          · by_cases hx : x = o
            · rw [hx]; exact z2o
            · exact (D3 x y1 y2 (fun w => hx w.1)).eq (Nat.le_refl _) (fun a ha => g4 _ _ (by omega)) (fun k hk => ⟨g4 _ _ (by omega), g4 _ _ (by omega)⟩)
          · by_cases hx : x = o
            · rw [hx]
              intro _
              rw [f4]
              rw [hl.1] at z6
              exact Or.inl ⟨z6, hl.2.2⟩
            · exact ((F x y1 y2).2 (fun w => hx w.1)).eq (Nat.le_refl _) ⟨g4 _ _ (by omega), g4 _ _ (by omega)⟩ (fun j _ _ => ⟨g4 _ _ (by omega), g4 _ _ (by omega)⟩)
          · unfold fst_
            rw [g4 358 r (by omega)]
            exact G.imp (fun x z => ⟨z.1, z.2.1, by rw [g4 362 x (by omega)]; exact z.2.2⟩)
        have hil4 : (p_adv T (p_adv T s)).1 < T.length := kd_lt (by rw [hk1]; omega)
        refine s_next' hy4.1.1 hil4 (fun M5 x5 hm5 => ?_)
        have hy5 : yq T r M0 M5 (p_adv T (p_adv T (p_adv T s))) ks (fun _ => False) e := by
          rw [p_adv_lt (s := p_adv T (p_adv T s)) hil4]
          exact hy4.nx x5 hm5
        refine ⟨fun _ => s_open1 (k := 17) hy5 ?_ o2 o3 (by omega) kg kb, fun w => absurd hy5.1.2.2.2.2 w⟩
        rw [show gi M5 360 o = gi M4 360 o from x5 _ _ (by unfold nxw; omega), g4 360 o (by omega), k3]; omega
      · have hk1 := hk3.2.2.1.mp (tk3.1.symm.trans z5)
        have hl := tk3.2.2.1 hk1
        rw [hl.1] at z6
        unfold p_loc
        rw [if_neg]
        intro w
        have := w.2
        unfold p_cell at this
        simp at this
        omega
      · unfold p_loc
        rw [if_neg]
        intro w
        exact z5 (tk3.1.trans (hk3.2.2.1.mpr (p_is_iff.mp w.1).2))
    · have eo : p_ex T 18 (p_adv T s) = p_bad (p_adv T s) := by unfold p_ex; rw [hg]; rfl
      rw [eo] at kb
      have kb' : ∀ M', yb T r M0 M' → K M' := kb (y_open_bad (by
        unfold p_loc
        rw [if_neg (fun w => by rw [p_is_bad (s := p_bad (p_adv T s)) rfl] at w; cases w.1)]
        rfl))
      refine ⟨⟨by omega, by omega⟩, fun _ => ⟨fun w => absurd w (by have := hb.2.2.2; omega), fun _ => s_close154b hb kb'⟩, fun _ => s_close154b hb kb'⟩
end YE
def y_ev (T : tK) : Nat → pS → List (Int × Int) → Option pS
  | 0, _, _ => none
  | m + 1, s, ks => if s.2.2.2.2.2 = false then some s else if (kd T s.1).toInt = 0 ∧ ks = [] then some s else y_ev T m (y_step T s ks).1 (y_step T s ks).2
section YF
variable {M M' M0 : rf_M} {T : tK} {i r e : Nat} {s F : pS} {ks : List (Int × Int)} {K : rf_M → Prop}
theorem y_ev_bad {m : Nat} (h : y_ev T m s ks = some F) (hb : s.2.2.2.2.2 = false) : F.2.2.2.2.2 = false := by
  cases m with
  | zero => cases h
  | succ m =>
    unfold y_ev at h
    rw [if_pos hb] at h
    cases h
    exact hb
theorem s_readText_40 {m : Nat} (hT : ∀ i, (kd T i).toInt = 1 → 0 ≤ (nb T i).toInt) (h : yq T r M0 M s ks (fun _ => False) e) (hev : y_ev T m s ks = some F) (kg : F.2.2.2.2.2 = true → ∀ M' e', yq T r M0 M' F [] (fun _ => False) e' → (kd T F.1).toInt = 0 → K M') (kb : F.2.2.2.2.2 = false → ∀ M', yb T r M0 M' → K M') : w_readText_40 M K := by
  refine ⟨fun m M => (∃ s ks e, yq T r M0 M s ks (fun _ => False) e ∧ y_ev T m s ks = some F) ∨ (yb T r M0 M ∧ F.2.2.2.2.2 = false), ⟨m, Or.inl ⟨s, ks, e, h, hev⟩⟩, ?_⟩
  rintro m M (⟨s, ks, e, h, hev⟩ | ⟨hb, hF⟩)
  · obtain ⟨m, rfl⟩ : ∃ k, m = k + 1 := by
      cases m with
      | zero => cases hev
      | succ k => exact ⟨k, rfl⟩
    have hok := h.2.1.2
    have tk := h.1.1.2.2
    have hk := tkm_iff tk.2.2.2
    have hw := h.2.2.2.2.2.2.1.1
    have hev' := hev
    unfold y_ev at hev'
    rw [if_neg (by rw [hok]; decide)] at hev'
    have go : ¬ ((kd T s.1).toInt = 0 ∧ ks = []) → y_ev T m (y_step T s ks).1 (y_step T s ks).2 = some F := fun z => by
      rw [if_neg z] at hev'; exact hev'
    have bad : ¬ ((kd T s.1).toInt = 0 ∧ ks = []) → y_step T s ks = (p_bad s, ks) → w_readText_84 M (fun M' => ∃ m', m' < m + 1 ∧ ((∃ s ks e, yq T r M0 M' s ks (fun _ => False) e ∧ y_ev T m' s ks = some F) ∨ (yb T r M0 M' ∧ F.2.2.2.2.2 = false))) K := by
      intro z hs
      have := go z
      rw [hs] at this
      exact s_bad h (fun M' hb => ⟨m, by omega, Or.inr ⟨hb, y_ev_bad this rfl⟩⟩)
    have on : ∀ (z : ¬ ((kd T s.1).toInt = 0 ∧ ks = [])), ((y_step T s ks).1.2.2.2.2.2 = true → ∀ M' e', yq T r M0 M' (y_step T s ks).1 (y_step T s ks).2 (fun _ => False) e' → ∃ m', m' < m + 1 ∧ ((∃ s ks e, yq T r M0 M' s ks (fun _ => False) e ∧ y_ev T m' s ks = some F) ∨ (yb T r M0 M' ∧ F.2.2.2.2.2 = false))) ∧ ((y_step T s ks).1.2.2.2.2.2 = false → ∀ M', yb T r M0 M' → ∃ m', m' < m + 1 ∧ ((∃ s ks e, yq T r M0 M' s ks (fun _ => False) e ∧ y_ev T m' s ks = some F) ∨ (yb T r M0 M' ∧ F.2.2.2.2.2 = false))) := by
      intro z
      exact ⟨fun _ M' e' hy => ⟨m, by omega, Or.inl ⟨_, _, e', hy, go z⟩⟩, fun hb M' hy => ⟨m, by omega, Or.inr ⟨hy, y_ev_bad (go z) hb⟩⟩⟩
    have h61 : ¬ ((kd T s.1).toInt = 0 ∧ ks = []) → w_readText_61 M (fun M' => ∃ m', m' < m + 1 ∧ ((∃ s ks e, yq T r M0 M' s ks (fun _ => False) e ∧ y_ev T m' s ks = some F) ∨ (yb T r M0 M' ∧ F.2.2.2.2.2 = false))) K := by
      intro z
      refine ⟨fun z0 => bad z ?_, fun z0 => ?_⟩
      · have hk0 := hk.2.2.2.1.mp (tk.1.symm.trans z0)
        unfold y_step
        rw [if_neg (by omega), if_neg]
        intro w
        have := w.1
        unfold p_beg at this
        rw [hk0] at this
        exact absurd this (by decide)
      · have h125 := (show (125 : Int32).toInt = 125 from rfl)
        have st91 : (kd T s.1).toInt = 125 → (∃ p r', ks = p :: r') → w_readText_91 M (fun M' => ∃ m', m' < m + 1 ∧ ((∃ s ks e, yq T r M0 M' s ks (fun _ => False) e ∧ y_ev T m' s ks = some F) ∨ (yb T r M0 M' ∧ F.2.2.2.2.2 = false))) K := by
          rintro z1 ⟨p, r', rfl⟩
          show wm_isSign 125 M _
          rw [← h125]
          refine s_isSign h.1.1 (by decide) (fun e1 => ⟨inr_z (by omega) (by omega), fun w => absurd w (by omega), fun _ => s_closeBody h z1 (on z).1 (on z).2⟩) (fun e1 => absurd (i32_eq.mpr z1) e1)
        have st91' : ¬ (kd T s.1).toInt = 125 → w_readText_91 M (fun M' => ∃ m', m' < m + 1 ∧ ((∃ s ks e, yq T r M0 M' s ks (fun _ => False) e ∧ y_ev T m' s ks = some F) ∨ (yb T r M0 M' ∧ F.2.2.2.2.2 = false))) K := by
          intro z1
          show wm_isSign 125 M _
          rw [← h125]
          refine s_isSign h.1.1 (by decide) (fun e1 => absurd (by rw [e1]; rfl) z1) (fun e1 => ⟨inr_z (by omega) (by omega), fun _ => s_readStatement hT h z1 (on z).1 (on z).2, fun w => absurd rfl w⟩)
        show wm_isSign 125 M _
        rw [← h125]
        refine s_isSign h.1.1 (by decide) (fun e1 => ⟨inr_z (by omega) (by omega), fun w => absurd w (by omega), fun _ => ⟨fun w => bad z ?_, fun w => st91 (by rw [e1]; rfl) ?_⟩⟩) (fun e1 => ⟨inr_z (by omega) (by omega), fun _ => st91' (fun w => e1 (i32_eq.mpr w)), fun w => absurd rfl w⟩)
        · have hks : ks = [] := by
            cases ks with
            | nil => rfl
            | cons p t => rw [hw] at w; simp at w; omega
          unfold y_step
          rw [if_pos (by rw [e1]; rfl), hks]
        · cases ks with
          | nil => exact absurd (by rw [hw]; rfl) w
          | cons p t => exact ⟨p, t, rfl⟩
    refine ⟨fun _ => ⟨fun z0 => ⟨fun z1 => ?_, fun z1 => h61 (fun w => z1 (by rw [hw, w.2]; rfl))⟩, fun z0 => h61 (fun w => z0 (tk.1.trans (hk.2.2.2.1.mpr w.1)))⟩, fun z => absurd h.1.2.2.2.2 z⟩
    have hks : ks = [] := by
      cases ks with
      | nil => rfl
      | cons p t => rw [hw] at z1; simp at z1; omega
    have hk0 := hk.2.2.2.1.mp (tk.1.symm.trans z0)
    rw [if_pos ⟨hk0, hks⟩] at hev'
    cases hev'
    rw [hks] at h
    exact kg hok M e h hk0
  · exact ⟨fun z => absurd z (by have := hb.2.2.2; omega), fun _ => kb hF M hb⟩
end YF
/-! the machine of statements does what the descent does -/
abbrev yM : Type := pS × List (Int × Int)
def yr (T : tK) (σ σ' : yM) : Prop := ∃ c, ∀ k, y_ev T (k + c) σ.1 σ.2 = y_ev T k σ'.1 σ'.2
def yf (T : tK) (σ : yM) : Prop := ∃ m F, y_ev T m σ.1 σ.2 = some F ∧ F.2.2.2.2.2 = false
section YG

variable {T : tK} {σ σ' σ'' : yM} {s : pS} {ks : List (Int × Int)} {p : Int × Int}

theorem yr.refl' (T : tK) (σ : yM) : yr T σ σ := ⟨0, fun _ => rfl⟩
theorem yr.trans (h : yr T σ σ') (h' : yr T σ' σ'') : yr T σ σ'' := by
  obtain ⟨c, hc⟩ := h
  obtain ⟨d, hd⟩ := h'
  exact ⟨d + c, fun k => by rw [← Nat.add_assoc, hc, hd]⟩
theorem yr_step (h1 : s.2.2.2.2.2 = true) (h2 : ¬ ((kd T s.1).toInt = 0 ∧ ks = [])) : yr T (s, ks) (y_step T s ks) := ⟨1, fun k => by
  show (if s.2.2.2.2.2 = false then some s else if (kd T s.1).toInt = 0 ∧ ks = [] then some s else y_ev T k (y_step T s ks).1 (y_step T s ks).2) = _
  rw [if_neg (by rw [h1]; decide), if_neg h2]⟩
theorem yf_bad (h : s.2.2.2.2.2 = false) : yf T (s, ks) := ⟨1, s, by
  show (if s.2.2.2.2.2 = false then some s else _) = _
  rw [if_pos h], h⟩
theorem yf.of (h : yf T σ') (r : yr T σ σ') : yf T σ := by
  obtain ⟨m, F, e, hF⟩ := h
  obtain ⟨c, hc⟩ := r
  exact ⟨m + c, F, (hc m).trans e, hF⟩
theorem p_ex_n {t : Int32} : (p_ex T t s).2.2.1 = s.2.2.1 := by
  unfold p_ex
  split
  · unfold p_adv; rfl
  · rfl
theorem p_loop_n {c : pS → Bool} {g : pS → pS} (hg : ∀ s, (g s).2.2.1 = s.2.2.1) : ∀ (f : Nat) (s : pS), (p_loop c g f s).2.2.1 = s.2.2.1
  | 0, s => rfl
  | f + 1, s => by
    show (if c s = true then p_loop c g f (g s) else s).2.2.1 = s.2.2.1
    split
    · rw [p_loop_n hg f, hg]
    · rfl
theorem p_expr_n {U : pS → pS} (hU : ∀ s, (U s).2.2.1 = s.2.2.1) (s : pS) : (p_expr T U s).2.2.1 = s.2.2.1 := by
  have hp : ∀ s, (p_prod T U s).2.2.1 = s.2.2.1 := fun s => by
    unfold p_prod
    rw [p_loop_n (fun s => by rw [hU]; rfl)]; exact hU s
  have hs : ∀ s, (p_sum T U s).2.2.1 = s.2.2.1 := fun s => by
    unfold p_sum
    rw [p_loop_n (fun s => by rw [hp]; rfl)]; exact hp s
  unfold p_expr
  split
  · rw [hs]; exact hs s
  · exact hs s
theorem p_un_n : ∀ (f : Nat) (s : pS), (p_un T f s).2.2.1 = s.2.2.1
  | 0, s => by
    unfold p_un
    split
    · rfl
    · split
      · rfl
      · split
        · rfl
        · rfl
  | f + 1, s => by
    unfold p_un
    split
    · rfl
    · split
      · rfl
      · split
        · rfl
        · split
          · rw [p_un_n f]; rfl
          · split
            · rw [p_ex_n, p_expr_n (p_un_n f)]; rfl
            · rfl
theorem p_exq_n (s : pS) : (p_exq T s).2.2.1 = s.2.2.1 := p_expr_n (p_un_n 8) s
theorem p_if_n (k : Int32) (s : pS) : (p_if T k s).2.2.1 = s.2.2.1 := by
  unfold p_if
  split
  · rw [p_ex_n, p_exq_n, p_ex_n]
  · rfl
theorem p_st1_n {k : Int32} (hk : k.toInt = 1 ∨ k.toInt = 13 ∨ k.toInt = 14 ∨ k.toInt = 19) (b : pS → pS) (s : pS) : (p_st1 T b k s).2.2.1 = s.2.2.1 ∧ p_st1 T b k s = p_st1 T id k s := by
  rcases hk with z | z | z | z
  · have ek : k = 1 := i32_eq.mpr z
    subst ek
    exact ⟨by show (p_ex T 59 (p_exq T (p_ex T 61 s))).2.2.1 = _; rw [p_ex_n, p_exq_n, p_ex_n], rfl⟩
  · have ek : k = 13 := i32_eq.mpr z
    subst ek
    exact ⟨by show (p_ex T 59 s).2.2.1 = _; rw [p_ex_n], rfl⟩
  · have ek : k = 14 := i32_eq.mpr z
    subst ek
    exact ⟨by show (p_ex T 59 (p_exq T s)).2.2.1 = _; rw [p_ex_n, p_exq_n], rfl⟩
  · have ek : k = 19 := i32_eq.mpr z
    subst ek
    exact ⟨by show (p_ex T 59 (p_exq T (p_ir true s))).2.2.1 = _; rw [p_ex_n, p_exq_n]; rfl, rfl⟩
/-- a body, up to its brace -/
def yBd (T : tK) (B : pS → pS) (ks : List (Int × Int)) : Prop := ∀ (s : pS) (p : Int × Int), s.2.2.1 ≤ 40 → (∃ s2 : pS, B s = p_adv T s2 ∧ s2.2.2.2.2.2 = true ∧ (kd T s2.1).toInt = 125 ∧ s.2.2.1 ≤ s2.2.2.1 ∧ s2.2.2.1 ≤ 40 ∧ yr T (y_open T p s ks) (s2, p :: ks)) ∨ ((B s).2.2.2.2.2 = false ∧ yf T (y_open T p s ks))
/-- statements, up to what ends them -/
def yS (T : tK) (B : pS → pS) (ks : List (Int × Int)) : Prop := ∀ (s : pS), s.2.2.2.2.2 = true → s.2.2.1 ≤ 40 → (∃ s2 : pS, p_sts T B s = s2 ∧ s2.2.2.2.2.2 = true ∧ ((kd T s2.1).toInt = 0 ∨ (kd T s2.1).toInt = 125) ∧ s.2.2.1 ≤ s2.2.2.1 ∧ s2.2.2.1 ≤ 40 ∧ yr T (s, ks) (s2, ks)) ∨ ((p_sts T B s).2.2.2.2.2 = false ∧ yf T (s, ks))
theorem y_pop (h1 : s.2.2.2.2.2 = true) (h2 : (kd T s.1).toInt = 125) : yr T (s, p :: ks) (if p.2 = 1 ∨ p.1 = 12 then (p_adv T s, ks) else if p.1 = 10 then (if p_is T 11 (p_adv T s) = true then y_open T (10, 1) (p_adv T (p_adv T s)) ks else (p_adv T s, ks)) else if p.1 = 15 then y_open T (15, 1) (p_ex T 16 (p_adv T s)) ks else y_open T (17, 1) (p_loc T (p_ex T 18 (p_adv T s))) ks) := by
  have := yr_step (T := T) (ks := p :: ks) h1 (fun z => by omega)
  have e : y_step T s (p :: ks) = (if p.2 = 1 ∨ p.1 = 12 then (p_adv T s, ks) else if p.1 = 10 then (if p_is T 11 (p_adv T s) = true then y_open T (10, 1) (p_adv T (p_adv T s)) ks else (p_adv T s, ks)) else if p.1 = 15 then y_open T (15, 1) (p_ex T 16 (p_adv T s)) ks else y_open T (17, 1) (p_loc T (p_ex T 18 (p_adv T s))) ks) := by
    unfold y_step
    rw [if_pos h2]
  rw [e] at this
  exact this
/-- the second body of a statement -/
theorem y_snd {B : pS → pS} {k : Int} (hB : yBd T B ks) (hn : s.2.2.1 ≤ 40) : (∃ s2 : pS, B s = s2 ∧ s2.2.2.2.2.2 = true ∧ s.2.2.1 ≤ s2.2.2.1 ∧ s2.2.2.1 ≤ 40 ∧ yr T (y_open T (k, 1) s ks) (s2, ks)) ∨ ((B s).2.2.2.2.2 = false ∧ yf T (y_open T (k, 1) s ks)) := by
  rcases hB s (k, 1) hn with ⟨s2, q1, q2, q3, q4, q5, q6⟩ | ⟨q1, q2⟩
  · have hp := y_pop (T := T) (ks := ks) (p := (k, 1)) q2 q3
    rw [if_pos (Or.inl rfl)] at hp
    exact Or.inl ⟨p_adv T s2, q1, q2, q4, q5, q6.trans hp⟩
  · exact Or.inr ⟨q1, q2⟩
theorem y_st {B : pS → pS} (hBb : ∀ s, s.2.2.2.2.2 = false → (B s).2.2.2.2.2 = false) (hB : yBd T B ks) (h1 : s.2.2.2.2.2 = true) (hn : s.2.2.1 ≤ 40) (h0 : ¬ (kd T s.1).toInt = 0) (h125 : ¬ (kd T s.1).toInt = 125) : (∃ s2 : pS, p_st T B s = s2 ∧ s2.2.2.2.2.2 = true ∧ s.2.2.1 < s2.2.2.1 ∧ s2.2.2.1 ≤ 40 ∧ yr T (s, ks) (s2, ks)) ∨ ((p_st T B s).2.2.2.2.2 = false ∧ yf T (s, ks)) := by
  have hstep := yr_step (T := T) (ks := ks) h1 (fun z => h0 z.1)
  unfold p_st
  by_cases hb : p_beg (kd T s.1) = true ∧ s.2.2.1 < 40
  · rw [if_pos hb]
    have hk' : (kd T s.1).toInt = 1 ∨ (kd T s.1).toInt = 10 ∨ (kd T s.1).toInt = 12 ∨ (kd T s.1).toInt = 13 ∨ (kd T s.1).toInt = 14 ∨ (kd T s.1).toInt = 15 ∨ (kd T s.1).toInt = 17 ∨ (kd T s.1).toInt = 19 := by
      have := hb.1
      unfold p_beg at this
      simpa using this
    have hes : y_step T s ks = (if (kd T s.1).toInt = 1 ∨ (kd T s.1).toInt = 13 ∨ (kd T s.1).toInt = 14 ∨ (kd T s.1).toInt = 19 then (p_st1 T id (kd T s.1) (p_adv T (p_c1 s)), ks) else y_open T ((kd T s.1).toInt, 0) (p_if T (kd T s.1) (p_adv T (p_c1 s))) ks) := by
      unfold y_step
      rw [if_neg h125, if_pos hb]
    rw [hes] at hstep
    have hn1 : (p_adv T (p_c1 s)).2.2.1 = s.2.2.1 + 1 := rfl
    generalize p_adv T (p_c1 s) = s1 at *
    by_cases hsim : (kd T s.1).toInt = 1 ∨ (kd T s.1).toInt = 13 ∨ (kd T s.1).toInt = 14 ∨ (kd T s.1).toInt = 19
    · rw [if_pos hsim] at hstep
      obtain ⟨e1, e2⟩ := p_st1_n (T := T) hsim B s1
      rw [e2] at e1 ⊢
      cases hok : (p_st1 T id (kd T s.1) s1).2.2.2.2.2 with
      | true => exact Or.inl ⟨_, rfl, hok, by omega, by omega, hstep⟩
      | false => exact Or.inr ⟨rfl, (yf_bad hok).of hstep⟩
    · rw [if_neg hsim] at hstep
      have hcom : p_st1 T B (kd T s.1) s1 = p_com T (kd T s.1) B s1 := by
        unfold p_st1
        rw [if_neg (fun z => hsim (Or.inl (by rw [z]; rfl))), if_neg (fun z => hsim (Or.inr (Or.inl (by rw [z]; rfl)))), if_neg (fun z => hsim (Or.inr (Or.inr (Or.inl (by rw [z]; rfl))))), if_neg (fun z => hsim (Or.inr (Or.inr (Or.inr (by rw [z]; rfl)))))]
      rw [hcom]
      have hni := p_if_n (T := T) (kd T s.1) s1
      unfold p_com
      generalize hs0 : p_if T (kd T s.1) s1 = s0 at *
      -- what follows a first body that failed
      have bad : (B s0).2.2.2.2.2 = false → (p_ca T (kd T s.1) B (p_or T (kd T s.1) B (p_el T (kd T s.1) B (B s0)))).2.2.2.2.2 = false := by
        intro h
        have e1 : (p_el T (kd T s.1) B (B s0)).2.2.2.2.2 = false := by
          unfold p_el
          rw [if_neg (fun z => by rw [p_is_bad h] at z; cases z.2)]
          exact h
        have e2 : (p_or T (kd T s.1) B (p_el T (kd T s.1) B (B s0))).2.2.2.2.2 = false := by
          unfold p_or
          split
          · exact hBb _ (p_ex_bad e1)
          · exact e1
        unfold p_ca
        split
        · refine hBb _ ?_
          unfold p_loc
          rw [if_neg (fun z => by rw [p_is_bad (p_ex_bad e2)] at z; cases z.1)]
          rfl
        · exact e2
      rcases hB s0 ((kd T s.1).toInt, 0) (by omega) with ⟨s2, q1, q2, q3, q4, q5, q6⟩ | ⟨q1, q2⟩
      · have hp := y_pop (T := T) (ks := ks) (p := ((kd T s.1).toInt, 0)) q2 q3
        dsimp only at hp
        have hr := (hstep.trans q6).trans hp
        have hn2 : (p_adv T s2).2.2.1 = s2.2.2.1 := rfl
        have ho2 : (p_adv T s2).2.2.2.2.2 = true := q2
        rw [q1]
        generalize p_adv T s2 = s3 at *
        have hk4 : (kd T s.1).toInt = 10 ∨ (kd T s.1).toInt = 12 ∨ (kd T s.1).toInt = 15 ∨ (kd T s.1).toInt = 17 := by omega
        rcases hk4 with z | z | z | z
        · have ek : kd T s.1 = 10 := i32_eq.mpr z
          rw [if_neg (by omega), if_pos (by omega)] at hr
          rw [ek]
          show (∃ s2 : pS, p_el T 10 B s3 = s2 ∧ _) ∨ ((p_el T 10 B s3).2.2.2.2.2 = false ∧ _)
          unfold p_el
          by_cases h11 : p_is T 11 s3 = true
          · rw [if_pos ⟨rfl, h11⟩]
            rw [if_pos h11] at hr
            have hn3 : (p_adv T s3).2.2.1 = s3.2.2.1 := rfl
            rcases y_snd (k := 10) hB (s := p_adv T s3) (by omega) with ⟨s4, w1, w2, w3, w4, w5⟩ | ⟨w1, w2⟩
            · exact Or.inl ⟨s4, w1, w2, by omega, w4, hr.trans w5⟩
            · exact Or.inr ⟨w1, w2.of hr⟩
          · rw [if_neg (fun w => h11 w.2)]
            rw [if_neg h11] at hr
            exact Or.inl ⟨s3, rfl, ho2, by omega, by omega, hr⟩
        · have ek : kd T s.1 = 12 := i32_eq.mpr z
          rw [if_pos (Or.inr (by omega))] at hr
          rw [ek]
          exact Or.inl ⟨s3, rfl, ho2, by omega, by omega, hr⟩
        · have ek : kd T s.1 = 15 := i32_eq.mpr z
          rw [if_neg (by omega), if_neg (by omega), if_pos (by omega)] at hr
          rw [ek]
          show (∃ s2 : pS, B (p_ex T 16 s3) = s2 ∧ _) ∨ ((B (p_ex T 16 s3)).2.2.2.2.2 = false ∧ _)
          have hn3 := p_ex_n (T := T) (t := 16) (s := s3)
          rcases y_snd (k := 15) hB (s := p_ex T 16 s3) (by omega) with ⟨s4, w1, w2, w3, w4, w5⟩ | ⟨w1, w2⟩
          · exact Or.inl ⟨s4, w1, w2, by omega, w4, hr.trans w5⟩
          · exact Or.inr ⟨w1, w2.of hr⟩
        · have ek : kd T s.1 = 17 := i32_eq.mpr z
          rw [if_neg (by omega), if_neg (by omega), if_neg (by omega)] at hr
          rw [ek]
          show (∃ s2 : pS, B (p_loc T (p_ex T 18 s3)) = s2 ∧ _) ∨ ((B (p_loc T (p_ex T 18 s3))).2.2.2.2.2 = false ∧ _)
          have hn3 : (p_loc T (p_ex T 18 s3)).2.2.1 = s3.2.2.1 := by
            unfold p_loc
            split
            · exact p_ex_n
            · exact p_ex_n
          rcases y_snd (k := 17) hB (s := p_loc T (p_ex T 18 s3)) (by omega) with ⟨s4, w1, w2, w3, w4, w5⟩ | ⟨w1, w2⟩
          · exact Or.inl ⟨s4, w1, w2, by omega, w4, hr.trans w5⟩
          · exact Or.inr ⟨w1, w2.of hr⟩
      · exact Or.inr ⟨bad q1, q2.of hstep⟩
  · rw [if_neg hb]
    have hes : y_step T s ks = (p_bad s, ks) := by
      unfold y_step
      rw [if_neg h125, if_neg hb]
    rw [hes] at hstep
    exact Or.inr ⟨rfl, (yf_bad (T := T) (s := p_bad s) (ks := ks) rfl).of hstep⟩
theorem p_go_bad (h : s.2.2.2.2.2 = false) : p_go T s = false := by unfold p_go; rw [h]; rfl
theorem y_sts {B : pS → pS} (hBb : ∀ s, s.2.2.2.2.2 = false → (B s).2.2.2.2.2 = false) (hB : yBd T B ks) : yS T B ks := by
  have key : ∀ (f : Nat) (s : pS), s.2.2.2.2.2 = true → s.2.2.1 ≤ 40 → 41 ≤ s.2.2.1 + f → (∃ s2 : pS, p_loop (p_go T) (p_st T B) f s = s2 ∧ s2.2.2.2.2.2 = true ∧ ((kd T s2.1).toInt = 0 ∨ (kd T s2.1).toInt = 125) ∧ s.2.2.1 ≤ s2.2.2.1 ∧ s2.2.2.1 ≤ 40 ∧ yr T (s, ks) (s2, ks)) ∨ ((p_loop (p_go T) (p_st T B) f s).2.2.2.2.2 = false ∧ yf T (s, ks)) := by
    intro f
    induction f with
    | zero => intro s h1 h2 h3; omega
    | succ f ih =>
      intro s h1 h2 h3
      have e : p_loop (p_go T) (p_st T B) (f + 1) s = if p_go T s = true then p_loop (p_go T) (p_st T B) f (p_st T B s) else s := rfl
      rw [e]
      cases hg : p_go T s with
      | false =>
        rw [if_neg (by decide)]
        refine Or.inl ⟨s, rfl, h1, ?_, Nat.le_refl _, h2, yr.refl' T _⟩
        unfold p_go at hg
        rw [h1, Bool.true_and, Bool.and_eq_false_iff] at hg
        rcases hg with z | z
        · have : p_is T 0 s = true := by simpa using z
          exact Or.inl (p_is_iff.mp this).2
        · have : p_is T 125 s = true := by simpa using z
          exact Or.inr (p_is_iff.mp this).2
      | true =>
        rw [if_pos rfl]
        unfold p_go at hg
        rw [h1, Bool.true_and, Bool.and_eq_true] at hg
        have h0 : ¬ (kd T s.1).toInt = 0 := fun z => by
          rw [p_is_iff.mpr ⟨h1, z⟩] at hg; exact absurd hg.1 (by decide)
        have h125 : ¬ (kd T s.1).toInt = 125 := fun z => by
          rw [p_is_iff (t := 125) |>.mpr ⟨h1, z⟩] at hg; exact absurd hg.2 (by decide)
        rcases y_st hBb hB h1 h2 h0 h125 with ⟨s2, q1, q2, q3, q4, q5⟩ | ⟨q1, q2⟩
        · rw [q1]
          rcases ih s2 q2 q4 (by omega) with ⟨s3, w1, w2, w3, w4, w5, w6⟩ | ⟨w1, w2⟩
          · exact Or.inl ⟨s3, w1, w2, w3, by omega, w5, q5.trans w6⟩
          · exact Or.inr ⟨w1, w2.of q5⟩
        · refine Or.inr ⟨?_, q2⟩
          rw [p_loop_bad (fun s h => p_go_bad h) _ q1]
          exact q1
  intro s h1 h2
  exact key 41 s h1 h2 (by omega)
theorem p_body_bad (f : Nat) (h : s.2.2.2.2.2 = false) : (p_body T f s).2.2.2.2.2 = false := by
  cases f with
  | zero => rfl
  | succ f =>
    show (if p_is T 123 s = true then _ else p_bad s).2.2.2.2.2 = false
    rw [p_is_bad h]; rfl
theorem y_body : ∀ (f : Nat) (ks : List (Int × Int)), ks.length + f = 8 → yBd T (p_body T f) ks := by
  intro f
  induction f with
  | zero =>
    intro ks hk s p hn
    refine Or.inr ⟨rfl, ?_⟩
    have : y_open T p s ks = (p_bad s, ks) := if_neg (fun z => by have := z.2; omega)
    rw [this]
    exact yf_bad rfl
  | succ f ih =>
    intro ks hk s p hn
    have e : p_body T (f + 1) s = if p_is T 123 s = true then p_ex T 125 (p_sts T (p_body T f) (p_dp (8 - f) (p_adv T s))) else p_bad s := rfl
    rw [e]
    by_cases h : p_is T 123 s = true
    · rw [if_pos h]
      have eo : y_open T p s ks = (p_dp (ks.length + 1) (p_adv T s), p :: ks) := if_pos ⟨h, by omega⟩
      rw [eo, show 8 - f = ks.length + 1 by omega]
      have hok : (p_dp (ks.length + 1) (p_adv T s)).2.2.2.2.2 = true := (p_is_iff.mp h).1
      have hn1 : (p_dp (ks.length + 1) (p_adv T s)).2.2.1 = s.2.2.1 := rfl
      have hsts := y_sts (fun s h => p_body_bad f h) (ih (p :: ks) (by simp; omega))
      rcases hsts (p_dp (ks.length + 1) (p_adv T s)) hok (by omega) with ⟨s2, q1, q2, q3, q4, q5, q6⟩ | ⟨q1, q2⟩
      · rw [q1]
        unfold p_ex
        by_cases h125 : p_is T 125 s2 = true
        · rw [if_pos h125]
          exact Or.inl ⟨s2, rfl, q2, (p_is_iff.mp h125).2, by omega, q5, q6⟩
        · rw [if_neg h125]
          refine Or.inr ⟨rfl, ?_⟩
          have h0 : (kd T s2.1).toInt = 0 := by
            rcases q3 with z | z
            · exact z
            · exact absurd (p_is_iff.mpr ⟨q2, z⟩) h125
          have hstep := yr_step (T := T) (ks := p :: ks) q2 (fun z => by cases z.2)
          have hes : y_step T s2 (p :: ks) = (p_bad s2, p :: ks) := by
            unfold y_step
            rw [if_neg (by omega), if_neg]
            intro w
            have := w.1
            unfold p_beg at this
            rw [h0] at this
            exact absurd this (by decide)
          rw [hes] at hstep
          exact (yf_bad (T := T) (s := p_bad s2) (ks := p :: ks) rfl).of (q6.trans hstep)
      · exact Or.inr ⟨p_ex_bad q1, q2⟩
    · rw [if_neg h]
      have eo : y_open T p s ks = (p_bad s, ks) := if_neg (fun z => h z.1)
      rw [eo]
      exact Or.inr ⟨rfl, yf_bad rfl⟩
/-- a text -/
theorem y_main (T : tK) : ∃ m F, y_ev T m (0, false, 0, 0, 0, true) [] = some F ∧ F.2.2.2.2.2 = (p_all T).2.2.2.2.2 ∧ (F.2.2.2.2.2 = true → F.2.2 = (p_all T).2.2) := by
  have hsts := y_sts (fun s h => p_body_bad 8 h) (y_body (T := T) 8 [] rfl)
  unfold p_all
  rcases hsts (0, false, 0, 0, 0, true) rfl (by decide) with ⟨s2, q1, q2, q3, q4, q5, c, q6⟩ | ⟨q1, m, F, q2, q3⟩
  · rw [q1]
    unfold p_ex
    by_cases h0 : (kd T s2.1).toInt = 0
    · refine ⟨1 + c, s2, ?_, ?_, fun _ => ?_⟩
      · rw [q6 1]
        show (if s2.2.2.2.2.2 = false then some s2 else if (kd T s2.1).toInt = 0 ∧ ([] : List (Int × Int)) = [] then some s2 else _) = _
        rw [if_neg (by rw [q2]; decide), if_pos ⟨h0, rfl⟩]
      · rw [if_pos (p_is_iff.mpr ⟨q2, h0⟩)]; rfl
      · rw [if_pos (p_is_iff.mpr ⟨q2, h0⟩)]; rfl
    · have h125 : (kd T s2.1).toInt = 125 := q3.resolve_left h0
      refine ⟨2 + c, p_bad s2, ?_, ?_, fun z => absurd z (by show ¬ false = true; decide)⟩
      · rw [q6 2]
        show (if s2.2.2.2.2.2 = false then some s2 else if (kd T s2.1).toInt = 0 ∧ ([] : List (Int × Int)) = [] then some s2 else y_ev T 1 (y_step T s2 []).1 (y_step T s2 []).2) = _
        rw [if_neg (by rw [q2]; decide), if_neg (fun z => h0 z.1)]
        have hes : y_step T s2 [] = (p_bad s2, []) := by
          unfold y_step
          rw [if_pos h125]
        rw [hes]
        rfl
      · rw [if_neg (fun z => h0 (p_is_iff.mp z).2)]
  · exact ⟨m, F, q2, q3.trans (p_ex_bad q1).symm, fun z => by rw [q3] at z; cases z⟩
end YG
/-! THE REFERENCE: text(), feed(), end() -/
theorem sp_scan_let {b : Nat → Int32} {n : Nat} : ∀ (f p : Nat), ∀ e ∈ sp_scan b n f p, e.1.toInt = 1 → 0 ≤ e.2.2.toInt
  | 0, _, e, he, _ => by cases he
  | f + 1, p, e, he, h1 => by
    unfold sp_scan at he
    split at he
    · split at he
      · exact sp_scan_let f (p + 1) e he h1
      · rcases List.mem_cons.mp he with z | z
        · subst z
          dsimp only at h1 ⊢
          unfold sp_tok at h1 ⊢
          split
          · rename_i hl
            rw [if_pos hl] at h1
            have hl' : 97 ≤ (b p).toInt ∧ (b p).toInt ≤ 122 := by
              unfold sp_l at hl
              simp at hl
              exact hl
            split
            · show 0 ≤ (b p - 97).toInt
              rw [Int32.toInt_sub, show (97 : Int32).toInt = 97 from rfl, Int.bmod_eq_of_le (by omega) (by omega)]
              omega
            · show 0 ≤ (0 : Int32).toInt
              decide
          · rename_i hl
            rw [if_neg hl] at h1
            split
            · rename_i hd
              rw [if_pos hd] at h1
              split at h1
              · exact absurd (show (3 : Int32).toInt = 1 from h1) (by decide)
              · exact absurd (show (2 : Int32).toInt = 1 from h1) (by decide)
            · show 0 ≤ (0 : Int32).toInt
              decide
        · exact sp_scan_let f _ e z h1
    · cases he
theorem p_T_let (b : Nat → Int32) (n : Nat) : ∀ i, (kd (p_T b n) i).toInt = 1 → 0 ≤ (nb (p_T b n) i).toInt := by
  intro i h
  unfold kd at h
  unfold nb
  cases ht : (p_T b n)[i]? with
  | none => rw [ht] at h; exact absurd h (by decide)
  | some e =>
    rw [ht] at h
    exact sp_scan_let 800 0 e (List.mem_of_getElem? ht) h
/-- a text that was read -/
def txo (M : rf_M) (t : Nat) : Prop := ∃ n c : Nat, gi M 355 t = (n : Int) ∧ n ≤ 40 ∧ gi M 359 t = (c : Int) ∧ c ≤ 160 ∧ (∀ x, 40 * t ≤ x → x < 40 * t + n → zs1 M t n x ∧ zs2 M t c x ∧ (gi M 360 x = 7 → 16 ≤ gi M 367 x ∧ gi M 367 x ≤ 25)) ∧ fst_ M t n
/-- what a text is made of -/
def txk (t a k : Nat) : Prop := (355 ≤ a ∧ a ≤ 359 ∧ k = t) ∨ (360 ≤ a ∧ a ≤ 367 ∧ 40 * t ≤ k ∧ k < 40 * t + 40) ∨ ((a = 368 ∨ a = 369) ∧ 200 * t ≤ k ∧ k < 200 * t + 200)
theorem txo.eq {M M' : rf_M} {t : Nat} (h : txo M t) (q : ∀ a k, txk t a k → gi M' a k = gi M a k) : txo M' t := by
  obtain ⟨n, c, h1, h2, h3, h4, h5, h6⟩ := h
  have q' : ∀ a k, (355 ≤ a ∧ a ≤ 359 ∧ k = t) ∨ (360 ≤ a ∧ a ≤ 367 ∧ 40 * t ≤ k ∧ k < 40 * t + 40) ∨ ((a = 368 ∨ a = 369) ∧ 200 * t ≤ k ∧ k < 200 * t + 200) → gi M' a k = gi M a k := q
  refine ⟨n, c, (q' _ _ (by omega)).trans h1, h2, (q' _ _ (by omega)).trans h3, h4, fun x x1 x2 => ?_, ?_⟩
  · obtain ⟨⟨a1, a2, a3, a4, a5⟩, ⟨b1, b2, b3, b4⟩, d⟩ := h5 x x1 x2
    have hc : ∀ {lim : Int} {e : Nat}, cod M t c lim e → cod M' t c lim e := by
      rintro lim e ⟨k, k1, k2, k3, k4⟩
      refine ⟨k, k1, k2, ?_, (q' _ _ (by omega)).trans k4⟩
      rw [wd_congr (A := gi M 368) (B := gi M 369) _ (fun t' ht => ⟨q' _ _ (by omega), q' _ _ (by omega)⟩)]
      exact k3
    refine ⟨⟨?_, ?_, ?_, ?_, ?_⟩, ⟨?_, ?_, ?_, ?_⟩, ?_⟩
    · rw [q' 362 x (by omega)]; exact a1
    · rw [q' 363 x (by omega)]; exact a2
    · rw [q' 361 x (by omega), q' 362 x (by omega), q' 363 x (by omega)]
      exact a3.imp (fun y hy => by rw [q' 362 y (by omega), q' 363 y (by omega)]; exact hy)
    · rw [q' 365 x (by omega)]
      exact a4.imp (fun y hy => by rw [q' 362 y (by omega), q' 363 y (by omega)]; exact hy)
    · rw [q' 366 x (by omega)]
      exact a5.imp (fun y hy => by rw [q' 362 y (by omega), q' 363 y (by omega)]; exact hy)
    · rw [q' 360 x (by omega)]; exact b1
    · rw [q' 360 x (by omega), q' 367 x (by omega)]; exact b2
    · rw [q' 360 x (by omega), q' 364 x (by omega)]; exact fun z => (b3 z).imp (fun e he => hc he)
    · rw [q' 360 x (by omega), q' 364 x (by omega)]; exact fun z => by obtain ⟨e, e1, e2⟩ := b4 z; exact ⟨e, e1, hc e2⟩
    · rw [q' 360 x (by omega), q' 367 x (by omega)]; exact d
  · unfold fst_
    rw [q' 358 t (by omega)]
    exact h6.imp (fun x hx => by rw [q' 362 x (by omega)]; exact hx)
/-- what text() writes -/
def txw (r a k : Nat) : Prop := tew r a k ∨ (a = 353 ∧ (k = 0 ∨ k = 2 ∨ k = 11 ∨ k = 28))
section TXM
variable {M M' M0 : rf_M} {n c : Nat} {b : Nat → Int32}
theorem txw_11 {r : Nat} : ¬ tew r 353 11 := by unfold tew; omega
theorem txw_tx {r t a k : Nat} (h : txk t a k) (ht : t < r) : ¬ txw r a k := by
  unfold txk at h
  unfold txw tew
  omega
theorem s_text2 {K : Int → rf_M → Prop} {N6 : rf_M} (hc11 : c < 12) (htx : ∀ t, t < c → txo M t) (hfr : eqx (txw c) M N6) (h11 : gi N6 353 11 = (c : Int)) (hy : yq (p_T b n) c N6 N6 (0, false, 0, 0, 0, true) [] (fun _ => False) 0)
    (kg : (p_all (p_T b n)).2.2.2.2.2 = true → ∀ M', eqx (txw c) M M' → gi M' 353 11 = (c : Int) + 1 → gi M' 353 2 = 0 → (∀ t, t < c + 1 → txo M' t) → gi M' 355 c = ((p_all (p_T b n)).2.2.1 : Int) → gi M' 356 c = ((p_all (p_T b n)).2.2.2.1 : Int) → gi M' 357 c = ((p_all (p_T b n)).2.2.2.2.1 : Int) → K (c : Int) M')
    (kb : (p_all (p_T b n)).2.2.2.2.2 = false → ∀ M', eqx (txw c) M M' → gi M' 353 11 = (c : Int) → gi M' 353 2 = 0 → (∀ t, t < c → txo M' t) → K (-2) M') : w_readText_40 N6 (fun M10 => ∀ M11 : rf_M, M11 = wi M10 353 2 0 → (((gi M11 353 9) = 0 → (∀ M12 : rf_M, M12 = wi M11 353 11 ((gi M11 353 11) + 1) → (K ((gi M12 353 11) - 1) M12))) ∧ (¬ ((gi M11 353 9) = 0) → (K (-2) M11)))) := by
  obtain ⟨m, F, hev, hF1, hF2⟩ := y_main (p_T b n)
  have frame : ∀ MA : rf_M, eqx (tew c) N6 MA → ∀ MB : rf_M, eqx (fun a k => a = 353 ∧ (k = 2 ∨ k = 11)) MA MB → eqx (txw c) M MB ∧ ∀ t, t < c → txo MB t := by
    intro MA hA MB hB
    have hfr : eqx (txw c) M MB := (hfr.trans (hA.mono (fun a k z => Or.inl z))).trans (hB.mono (fun a k z => Or.inr ⟨z.1, by have := z.2; omega⟩))
    exact ⟨hfr, fun t ht => (htx t ht).eq (fun a k z => hfr a k (txw_tx z ht))⟩
  refine s_readText_40 (p_T_let b n) hy hev (fun hok MA e' hyA hk0 => ?_) (fun hok MA hb => ?_)
  · have hall := hF1.symm.trans hok
    have hcnt := hF2 hok
    have hA := hyA.1.2.2.2.1
    intro MB eB
    have gB : ∀ a k, ¬ (a = 353 ∧ k = 2) → gi MB a k = gi MA a k := fun a k z => by rw [eB, gi_of (by omega)]
    refine ⟨fun _ MC eC => ?_, fun z => absurd ((gB _ _ (by omega)).trans hyA.1.2.2.2.2) z⟩
    have tB : gi MB 353 11 = (c : Int) := (gB _ _ (by omega)).trans ((hA 353 11 txw_11).trans h11)
    rw [tB] at eC
    have tC : gi MC 353 11 = (c : Int) + 1 := by rw [eC, gi_at (inr_z (by omega) (by omega))]
    have gC : eqx (fun a k => a = 353 ∧ (k = 2 ∨ k = 11)) MA MC := by
      rw [eC, eB]
      exact ((eqx.rfl' MA).wi ⟨rfl, Or.inl rfl⟩).wi ⟨rfl, Or.inr rfl⟩
    have s2 : gi MC 353 2 = 0 := by rw [eC, gi_of (by omega), eB, gi_at (inr_z (by omega) (by omega))]
    obtain ⟨fr1, fr2⟩ := frame MA hA MC gC
    rw [tC, show (c : Int) + 1 - 1 = (c : Int) by omega]
    obtain ⟨A, B, ⟨c1, c2, c3, c4, c5, c6⟩, ⟨cc, d1, d2, d3⟩, f, g, -, h8⟩ := hyA
    refine kg hall MC fr1 tC s2 (fun t ht => ?_) ?_ ?_ ?_
    · by_cases htc : t = c
      · rw [htc]
        have hcc : cc ≤ 160 := by omega
        have : txo MA c := ⟨F.2.2.1, cc, c1, c2, d1, hcc, fun x x1 x2 => ⟨(f x x1 x2).1, d3 x x1 x2 id, fun w => ?_⟩, g⟩
        · exact this.eq (fun a k z => gC a k (by unfold txk at z; omega))
        · rcases (f x x1 x2).2 id w with w2 | ⟨j, j1, j2, -⟩
          · exact w2
          · have j2 : j ≤ 0 := j2
            omega
      · exact fr2 t (by omega)
    · rw [gC _ _ (by omega), c1, ← hcnt]
    · rw [gC _ _ (by omega), c3, ← hcnt]
    · rw [gC _ _ (by omega), c5, ← hcnt]
  · have hall := hF1.symm.trans hok
    intro MB eB
    have gB : ∀ a k, ¬ (a = 353 ∧ k = 2) → gi MB a k = gi MA a k := fun a k z => by rw [eB, gi_of (by omega)]
    refine ⟨fun z => ?_, fun _ => ?_⟩
    · rw [gB _ _ (by omega), hb.2.2.2] at z; exact absurd z (by decide)
    · obtain ⟨fr1, fr2⟩ := frame MA hb.2.2.1 MB (fun a k z => gB a k (fun w => z ⟨w.1, Or.inl w.2⟩))
      exact kb hall MB fr1 ((gB _ _ (by omega)).trans ((hb.2.2.1 353 11 txw_11).trans h11)) (by rw [eB, gi_at (inr_z (by omega) (by omega))]) fr2
theorem s_text {K : Int → rf_M → Prop} (hc : gi M 353 11 = (c : Int)) (hc12 : c ≤ 12) (htp : tp M n b) (htx : ∀ t, t < c → txo M t)
    (k12 : c = 12 → K (-1) (wi M 353 0 0))
    (kg : c < 12 → (p_all (p_T b n)).2.2.2.2.2 = true → ∀ M', eqx (txw c) M M' → gi M' 353 11 = (c : Int) + 1 → gi M' 353 2 = 0 → (∀ t, t < c + 1 → txo M' t) → gi M' 355 c = ((p_all (p_T b n)).2.2.1 : Int) → gi M' 356 c = ((p_all (p_T b n)).2.2.2.1 : Int) → gi M' 357 c = ((p_all (p_T b n)).2.2.2.2.1 : Int) → K (c : Int) M')
    (kb : c < 12 → (p_all (p_T b n)).2.2.2.2.2 = false → ∀ M', eqx (txw c) M M' → gi M' 353 11 = (c : Int) → gi M' 353 2 = 0 → (∀ t, t < c → txo M' t) → K (-2) M') : wm_text M K := by
  intro M1 e1
  have x1 : eqx (txw c) M M1 := by rw [e1]; exact (eqx.rfl' M).wi (Or.inr ⟨rfl, by omega⟩)
  have s1 : gi M1 353 2 = n := by rw [e1, gi_of (by omega)]; exact htp.1
  have t1 : gi M1 353 11 = (c : Int) := by rw [e1, gi_of (by omega)]; exact hc
  refine ⟨fun z => by rw [e1]; exact k12 (by omega), fun z M2 e2 M3 e3 => ?_⟩
  have hc11 : c < 12 := by omega
  replace kg := kg hc11
  replace kb := kb hc11
  clear k12 hc12 z
  have x2 : eqx (txw c) M M2 := by rw [e2]; exact x1.wi (Or.inl (Or.inl ⟨rfl, by omega⟩))
  have s2 : gi M2 353 2 = n := by rw [e2, gi_of (by omega)]; exact s1
  have t2 : gi M2 353 11 = (c : Int) := by rw [e2, gi_of (by omega)]; exact t1
  rw [t2] at e3
  have x3 : eqx (txw c) M M3 := by rw [e3]; exact x2.wi (Or.inr ⟨rfl, by omega⟩)
  have s3 : gi M3 353 2 = n := by rw [e3, gi_of (by omega)]; exact s2
  have t3 : gi M3 353 11 = (c : Int) := by rw [e3, gi_of (by omega)]; exact t2
  have r3 : gi M3 353 28 = (c : Int) := by rw [e3, gi_at (inr_z (by omega) (by omega))]
  have tn : ((c : Nat) : Int).toNat = c := by omega
  have hin : 0 ≤ (c : Int) ∧ (c : Int) < 12 := ⟨by omega, by omega⟩
  clear e1 e2 e3 x1 x2 s1 s2 t1 t2
  have ht : ∀ {a : Nat}, 355 ≤ a → a ≤ 359 → txw c a c := fun h1 h2 => Or.inl (Or.inr (Or.inl ⟨h1, h2, rfl⟩))
  rw [r3, tn]
  refine ⟨hin, fun M4 e4 => ?_⟩
  have x4 : eqx (txw c) M M4 := by rw [e4]; exact x3.wi (ht (by omega) (by omega))
  have s4 : gi M4 353 2 = n := by rw [e4, gi_of (by omega)]; exact s3
  have t4 : gi M4 353 11 = (c : Int) := by rw [e4, gi_of (by omega)]; exact t3
  have r4 : gi M4 353 28 = (c : Int) := by rw [e4, gi_of (by omega)]; exact r3
  have u4 : gi M4 355 c = 0 := by rw [e4, gi_at (inr_z (by omega) (by omega))]
  clear e4 x3 s3 t3 r3
  rw [r4, tn]
  refine ⟨hin, fun M5 e5 => ?_⟩
  have x5 : eqx (txw c) M M5 := by rw [e5]; exact x4.wi (ht (by omega) (by omega))
  have s5 : gi M5 353 2 = n := by rw [e5, gi_of (by omega)]; exact s4
  have t5 : gi M5 353 11 = (c : Int) := by rw [e5, gi_of (by omega)]; exact t4
  have r5 : gi M5 353 28 = (c : Int) := by rw [e5, gi_of (by omega)]; exact r4
  have u5 : gi M5 355 c = 0 := by rw [e5, gi_of (by omega)]; exact u4
  have v5 : gi M5 356 c = 0 := by rw [e5, gi_at (inr_z (by omega) (by omega))]
  clear e5 x4 s4 t4 r4 u4
  rw [r5, tn]
  refine ⟨hin, fun M6 e6 => ?_⟩
  have x6 : eqx (txw c) M M6 := by rw [e6]; exact x5.wi (ht (by omega) (by omega))
  have s6 : gi M6 353 2 = n := by rw [e6, gi_of (by omega)]; exact s5
  have t6 : gi M6 353 11 = (c : Int) := by rw [e6, gi_of (by omega)]; exact t5
  have r6 : gi M6 353 28 = (c : Int) := by rw [e6, gi_of (by omega)]; exact r5
  have u6 : gi M6 355 c = 0 := by rw [e6, gi_of (by omega)]; exact u5
  have v6 : gi M6 356 c = 0 := by rw [e6, gi_of (by omega)]; exact v5
  have w6 : gi M6 357 c = 0 := by rw [e6, gi_at (inr_z (by omega) (by omega))]
  clear e6 x5 s5 t5 r5 u5 v5
  rw [r6, tn]
  refine ⟨hin, fun M7 e7 M8 e8 M9 e9 => ?_⟩
  have x9 : eqx (txw c) M M9 := by
    rw [e9, e8, e7]
    exact ((x6.wi (ht (by omega) (by omega))).wi (Or.inl (Or.inl ⟨rfl, by omega⟩))).wi (Or.inl (Or.inl ⟨rfl, by omega⟩))
  have g9 : ∀ a k, ¬ (a = 353 ∧ (k = 3 ∨ k = 9)) → ¬ (a = 359 ∧ k = c) → gi M9 a k = gi M6 a k := fun a k z1 z2 => by rw [e9, gi_of (by omega), e8, gi_of (by omega), e7, gi_of (by omega)]
  have y9 : gi M9 359 c = 0 := by rw [e9, gi_of (by omega), e8, gi_of (by omega), e7, gi_at (inr_z (by omega) (by omega))]
  have a9 : gi M9 353 3 = 0 := by rw [e9, gi_of (by omega), e8, gi_at (inr_z (by omega) (by omega))]
  have b9 : gi M9 353 9 = 0 := by rw [e9, gi_at (inr_z (by omega) (by omega))]
  have s9 := (g9 353 2 (by omega) (by omega)).trans s6
  have t9 := (g9 353 11 (by omega) (by omega)).trans t6
  have r9 := (g9 353 28 (by omega) (by omega)).trans r6
  have u9 := (g9 355 c (by omega) (by omega)).trans u6
  have v9 := (g9 356 c (by omega) (by omega)).trans v6
  have w9 := (g9 357 c (by omega) (by omega)).trans w6
  clear g9 e7 e8 e9 x6 s6 t6 r6 u6 v6 w6
  -- readText
  intro N1 a1
  refine ⟨⟨by omega, by omega⟩, fun N2 a2 => ⟨⟨by omega, by omega⟩, fun N3 a3 => ⟨⟨by omega, by omega⟩, fun N4 a4 => ?_⟩⟩⟩
  have g4 : ∀ a k, ¬ (a = 353 ∧ k = 37) → ¬ ((a = 373 ∨ a = 374 ∨ a = 375) ∧ k = 0) → gi N4 a k = gi M9 a k := fun a k z1 z2 => by
    rw [a4, gi_of (by omega), a3, gi_of (by omega), a2, gi_of (by omega), a1, gi_of (by omega)]
  have rN : gi N4 353 28 = (c : Int) := (g4 _ _ (by omega) (by omega)).trans r9
  have x4 : eqx (txw c) M N4 := by
    rw [a4, a3, a2, a1]
    exact (((x9.wi (Or.inl (Or.inl ⟨rfl, by omega⟩))).wi (Or.inl (Or.inr (Or.inr (Or.inr (Or.inr ⟨by omega, by omega⟩)))))).wi (Or.inl (Or.inr (Or.inr (Or.inr (Or.inr ⟨by omega, by omega⟩)))))).wi (Or.inl (Or.inr (Or.inr (Or.inr (Or.inr ⟨by omega, by omega⟩)))))
  have n37 : gi N4 353 37 = 0 := by rw [a4, gi_of (by omega), a3, gi_of (by omega), a2, gi_of (by omega), a1, gi_at (inr_z (by omega) (by omega))]
  have n373 : gi N4 373 0 = -1 := by rw [a4, gi_of (by omega), a3, gi_of (by omega), a2, gi_at (inr_z (by omega) (by omega))]
  have n374 : gi N4 374 0 = 0 := by rw [a4, gi_of (by omega), a3, gi_at (inr_z (by omega) (by omega))]
  have n375 : gi N4 375 0 = -1 := by rw [a4, gi_at (inr_z (by omega) (by omega))]
  clear a1 a2 a3 a4
  rw [rN, tn]
  refine ⟨hin, fun N5 a5 => ?_⟩
  have x5 : eqx (txw c) M N5 := by rw [a5]; exact x4.wi (ht (by omega) (by omega))
  have g5 : ∀ a k, ¬ (a = 358 ∧ k = c) → gi N5 a k = gi N4 a k := fun a k z => by rw [a5, gi_of (by omega)]
  have n358 : gi N5 358 c = -1 := by rw [a5, gi_at (inr_z (by omega) (by omega))]
  have h54 : ∀ a k, ¬ (a = 353 ∧ k = 37) → ¬ ((a = 373 ∨ a = 374 ∨ a = 375) ∧ k = 0) → ¬ (a = 358 ∧ k = c) → gi N5 a k = gi M9 a k := fun a k z1 z2 z3 => (g5 a k z3).trans (g4 a k z1 z2)
  have htpN : tp N5 n b := ⟨(h54 _ _ (by omega) (by omega) (by omega)).trans s9, htp.2.1, fun k hk => by rw [x5 354 k (by unfold txw tew; omega)]; exact htp.2.2 k hk⟩
  have hnx : nxk N5 (p_T b n) 0 := ⟨n, b, 0, 800, htpN, (h54 _ _ (by omega) (by omega) (by omega)).trans a9, Nat.zero_le _, by have := htp.2.1; omega, by rw [List.drop_zero]; rfl, Nat.zero_le _⟩
  refine s_next hnx (fun N6 x6 hm6 => ?_)
  have q6 : ∀ a k, ¬ (a = 353 ∧ 3 ≤ k ∧ k ≤ 8) → gi N6 a k = gi N5 a k := fun a k z => x6 a k z
  have hall : ∀ a k, ¬ (a = 353 ∧ ((3 ≤ k ∧ k ≤ 8) ∨ k = 37)) → ¬ ((a = 373 ∨ a = 374 ∨ a = 375) ∧ k = 0) → ¬ (a = 358 ∧ k = c) → gi N6 a k = gi M9 a k := fun a k z1 z2 z3 => (q6 a k (by omega)).trans (h54 a k (by omega) z2 z3)
  refine s_text2 hc11 htx (x5.trans (x6.mono (fun a k z => Or.inl (Or.inl ⟨z.1, Or.inl ⟨z.2.1, by have := z.2.2; omega⟩⟩)))) ((hall _ _ (by omega) (by omega) (by omega)).trans t9) ?_ kg kb
  refine ⟨⟨hm6, (hall _ _ (by omega) (by omega) (by omega)).trans r9, hc11, eqx.rfl' N6, (hall _ _ (by omega) (by omega) (by omega)).trans b9⟩, ⟨rfl, rfl⟩, ⟨(hall _ _ (by omega) (by omega) (by omega)).trans u9, by decide, (hall _ _ (by omega) (by omega) (by omega)).trans v9, by decide, (hall _ _ (by omega) (by omega) (by omega)).trans w9, by decide⟩, ⟨0, (hall _ _ (by omega) (by omega) (by omega)).trans y9, by decide, fun x x1 x2 => ?_⟩, fun x x1 x2 => ?_, Or.inl ((q6 _ _ (by omega)).trans n358), ⟨((q6 _ _ (by omega)).trans (g5 _ _ (by omega))).trans n37, by decide, ((q6 _ _ (by omega)).trans (g5 _ _ (by omega))).trans n373, ((q6 _ _ (by omega)).trans (g5 _ _ (by omega))).trans n374, Or.inl (((q6 _ _ (by omega)).trans (g5 _ _ (by omega))).trans n375)⟩, Nat.le_refl _⟩
  · have x2 : x < 40 * c + 0 := x2
    omega
  · have x2 : x < 40 * c + 0 := x2
    omega
theorem s_end {x : Int32} {K : Int → rf_M → Prop} (hn : gi M 353 2 = (n : Int)) (h8 : n ≤ 800) (kg : (0 ≤ x.toInt ∧ x.toInt ≤ 20 ∧ 20 ≤ n) → ∀ M', eqx (fun a k => a = 353 ∧ (k = 0 ∨ k = 2)) M M' → gi M' 353 2 = ((n - 20 + x.toInt.toNat : Nat) : Int) → K ((n - 20 + x.toInt.toNat : Nat) : Int) M') (kb : ¬ (0 ≤ x.toInt ∧ x.toInt ≤ 20 ∧ 20 ≤ n) → K (-1) (wi M 353 0 0)) : wm_end x.toInt M K := by
  intro M1 e1
  have s1 : gi M1 353 2 = (n : Int) := by rw [e1, gi_of (by omega)]; exact hn
  refine ⟨inr_ti _, fun z => ?_, fun z => ⟨inr_ti _, fun z2 => ?_, fun z2 => ⟨fun z3 M2 e2 => ?_, fun z3 => ?_⟩⟩⟩
  · rw [e1]; exact kb (by omega)
  · rw [e1]; exact kb (by omega)
  · rw [s1] at z3 e2
    have s2 : gi M2 353 2 = ((n - 20 + x.toInt.toNat : Nat) : Int) := by rw [e2, gi_at (inr_z (by omega) (by omega))]; omega
    rw [s2]
    refine kg ⟨by omega, by omega, by omega⟩ M2 ?_ s2
    rw [e2, e1]
    exact ((eqx.rfl' M).wi ⟨rfl, Or.inl rfl⟩).wi ⟨rfl, Or.inr rfl⟩
  · rw [s1] at z3
    show K (-1) M1
    rw [e1]; exact kb (by omega)
end TXM
/-! THE REFERENCE'S WALK: pieces -/
section WA
variable {M M' : rf_M} {K : Int → rf_M → Prop}
theorem s_isChanged (hw : gi M 353 42 = 0 ∨ gi M 353 42 = 1) (k0 : K 0 M) (k1 : K 1 M) : wm_isChanged M K := by
  refine ⟨fun m v1 M' => M' = M ∧ ∃ j : Nat, v1 = (j : Int) ∧ j ≤ 16 ∧ m = 16 - j, ⟨16, rfl, 0, rfl, by omega, rfl⟩, ?_⟩
  rintro m v1 M' ⟨rfl, j, rfl, h1, h2⟩
  have nx : ¬ 16 ≤ (j : Int) → ∃ m', m' < m ∧ (M' = M' ∧ ∃ j' : Nat, (j : Int) + 1 = (j' : Int) ∧ j' ≤ 16 ∧ m' = 16 - j') := fun z => ⟨16 - (j + 1), by omega, rfl, j + 1, by omega, by omega, rfl⟩
  refine ⟨inr_z (by omega) (by omega), fun _ => k0, fun z => ⟨fun _ => ⟨⟨by omega, by omega⟩, ⟨by omega, by omega⟩, fun _ => nx z, fun _ => k1⟩, fun _ => nx z⟩⟩
def vww (a k : Nat) : Prop := (a = 353 ∧ (k = 52 ∨ k = 65)) ∨ a = 390
theorem s_valueOf {l : Int} {K : Int64 → rf_M → Prop} (hl : 0 ≤ l ∧ l ≤ 25) (hw : gi M 353 42 = 0 ∨ gi M 353 42 = 1) (kk : ∀ z M', eqx vww M M' → K z M') : wm_valueOf l M K := by
  refine ⟨inr_z (by omega) (by omega), fun z => ⟨fun _ => ⟨⟨by omega, by omega⟩, kk _ M (eqx.rfl' M)⟩, fun _ => ⟨fun _ => ?_, fun _ => ⟨⟨by omega, by omega⟩, kk _ M (eqx.rfl' M)⟩⟩⟩, fun z => ⟨⟨by omega, by omega⟩, kk _ M (eqx.rfl' M)⟩⟩
  refine s_isChanged hw ⟨inr_z (by omega) (by omega), fun _ M2 e2 => ?_, fun w => absurd rfl w⟩ ⟨inr_z (by omega) (by omega), fun w => absurd w (by decide), fun _ M5 e5 => ?_⟩
  · have w2 : gi M2 353 42 = gi M 353 42 := by rw [e2, gi_of (by omega)]
    refine ⟨⟨by omega, by omega⟩, ⟨by omega, by omega⟩, fun M3 e3 => ?_⟩
    have w3 : gi M3 353 42 = gi M 353 42 := by rw [e3]; exact w2
    refine ⟨⟨by omega, by omega⟩, ⟨by omega, by omega⟩, fun M4 e4 => ⟨⟨by omega, by omega⟩, kk _ M4 ?_⟩⟩
    rw [e4, e3, e2]
    exact (((eqx.rfl' M).wi (Or.inl ⟨rfl, Or.inl rfl⟩)).wl).wi (Or.inr rfl)
  · refine kk _ M5 ?_
    rw [e5]
    exact (eqx.rfl' M).wi (Or.inl ⟨rfl, Or.inr rfl⟩)
theorem lg_nz {y : Int64} (h : ¬ (lg_cmp y (Int64.ofNat 0)).toInt = 0) : ¬ y = 0 := by
  intro e
  apply h
  rw [e]
  decide
theorem s_two {op : Int} {x y : Int64} {K : Int64 → rf_M → Prop} (ho : inr op) (kk : ∀ z M', eqx vww M M' → K z M') : wm_two op x y M K := by
  have k0 : ∀ z, K z M := fun z => kk z M (eqx.rfl' M)
  refine ⟨ho, fun _ => ⟨fun _ => k0 _, fun _ => k0 _⟩, fun _ => k0 _, fun _ => k0 _, fun _ => k0 _, fun _ => ⟨fun _ => k0 _, fun _ => k0 _⟩, fun _ => ⟨fun _ => k0 _, fun _ => k0 _⟩, fun _ => ⟨fun _ M1 e1 M2 e2 => kk _ M2 ?_, fun h => ⟨ho, fun _ => ⟨fun _ => k0 _, fun _ => ⟨lg_nz h, k0 _⟩⟩, fun _ => ⟨fun _ => k0 _, fun _ => ⟨lg_nz h, k0 _⟩⟩⟩⟩⟩
  rw [e2, e1]
  exact ((eqx.rfl' M).wi (Or.inl ⟨rfl, Or.inr rfl⟩)).wl
theorem stp_le {lim a b : Int} {d d' : Nat} (h : stp lim a b d = some d') (hd : d ≤ 63) : d' ≤ 63 := by
  unfold stp at h
  split at h
  · split at h
    · cases h; omega
    · cases h
  · split at h
    · split at h
      · rename_i z; cases h; omega
      · cases h
    · split at h
      · split at h
        · cases h; exact hd
        · cases h
      · split at h
        · cases h
        · split at h
          · cases h; omega
          · cases h
theorem wd_pre {A B : Nat → Int} {lim : Int} {s : Nat} : ∀ {k d : Nat}, wd A B lim s k = some d → ∀ j, j ≤ k → ∃ d', wd A B lim s j = some d' ∧ d' ≤ 63
  | 0, d, h, j, hj => by
    have : j = 0 := by omega
    subst this
    exact ⟨0, rfl, by omega⟩
  | k + 1, d, h, j, hj => by
    have h' : (wd A B lim s k).bind (fun d => stp lim (A (s + k)) (B (s + k)) d) = some d := h
    obtain ⟨d0, h1, h2⟩ := Option.bind_eq_some_iff.mp h'
    by_cases hjk : j = k + 1
    · subst hjk
      obtain ⟨d1, e1, e2⟩ := wd_pre h1 k (Nat.le_refl _)
      rw [h1] at e1
      cases e1
      exact ⟨d, h, stp_le h2 e2⟩
    · exact wd_pre h1 j (by omega)
theorem s_work {t c e : Nat} {rule lim : Int} {K : Int64 → rf_M → Prop} (hr : (rule = 0 ∧ lim = 26) ∨ (rule = 1 ∧ lim = 16)) (hc : cod M t c lim e) (hb : 200 * t + c ≤ 2400) (hw : gi M 353 42 = 0 ∨ gi M 353 42 = 1) (kk : ∀ z M', eqx vww M M' → K z M') : wm_work (e : Int) rule M K := by
  obtain ⟨k, k1, k2, k3, k4⟩ := hc
  refine ⟨fun m v2 v3 v4 M' => v2 = rule ∧ eqx vww M M' ∧ ∃ j d : Nat, v4 = ((e + j : Nat) : Int) ∧ j ≤ k ∧ wd (gi M 368) (gi M 369) lim e j = some d ∧ v3 = (d : Int) ∧ m = k - j, ⟨k, rfl, eqx.rfl' M, 0, 0, rfl, Nat.zero_le _, rfl, rfl, rfl⟩, ?_⟩
  rintro m v2 v3 v4 M' ⟨rfl, hx, j, d, rfl, j1, j2, rfl, j3⟩
  have q : ∀ a k, ¬ ((a = 353 ∧ (k = 52 ∨ k = 65)) ∨ a = 390) → gi M' a k = gi M a k := fun a k z => hx a k z
  have tn : (((e + j : Nat) : Int)).toNat = e + j := by omega
  have hw' : gi M' 353 42 = 0 ∨ gi M' 353 42 = 1 := by rw [q 353 42 (by omega)]; exact hw
  have hin : 0 ≤ ((e + j : Nat) : Int) ∧ ((e + j : Nat) : Int) < 2400 := ⟨by omega, by omega⟩
  have hv2 : inr v2 := by rcases hr with z | z <;> exact inr_z (by omega) (by omega)
  have fin : w_work_168 M' K := ⟨fun _ => ⟨⟨by omega, by omega⟩, kk _ M' hx⟩, fun _ => kk _ M' hx⟩
  show w_work_5b v2 (d : Int) ((e + j : Nat) : Int) M' _ K
  unfold w_work_5b
  rw [tn, q 368 (e + j) (by omega), q 369 (e + j) (by omega)]
  refine ⟨hin, fun _ => fin, fun n4 => ⟨fun _ => ?_, fun _ => fin⟩⟩
  have hjk : j < k := by
    rcases Nat.lt_or_ge j k with z | z
    · exact z
    · exact absurd (by rw [show j = k by omega]; exact k4) n4
  obtain ⟨d', w1, w2⟩ := wd_pre k3 (j + 1) (by omega)
  obtain ⟨dd, w3, w4⟩ := wd_pre k3 j (by omega)
  rw [j2] at w3
  cases w3
  have w1' : (wd (gi M 368) (gi M 369) lim e j).bind (fun d => stp lim (gi M 368 (e + j)) (gi M 369 (e + j)) d) = some d' := w1
  rw [j2] at w1'
  have w5 : stp lim (gi M 368 (e + j)) (gi M 369 (e + j)) d = some d' := w1'
  have nx : ∀ (M2 : rf_M) (x : Int), eqx vww M M2 → x = (d' : Int) → ∃ m', m' < m ∧ (v2 = v2 ∧ eqx vww M M2 ∧ ∃ j' d'' : Nat, ((e + j : Nat) : Int) + 1 = ((e + j' : Nat) : Int) ∧ j' ≤ k ∧ wd (gi M 368) (gi M 369) lim e j' = some d'' ∧ x = (d'' : Int) ∧ m' = k - j') := fun M2 x h2 e2 => ⟨k - (j + 1), by omega, rfl, h2, j + 1, d', by omega, by omega, w1, e2, rfl⟩
  unfold stp at w5
  refine ⟨hin, fun z1 => ⟨hin, ?_⟩, fun z1 => ⟨fun z2 => ⟨hv2, fun z3 => ⟨hin, ?_⟩, fun z3 => ⟨hin, ?_⟩⟩, fun z2 => ⟨fun z3 => ?_, fun z3 => ?_⟩⟩⟩
  · rw [if_pos z1] at w5
    split at w5
    · cases w5
      exact ⟨⟨by omega, by omega⟩, fun M5 e5 => nx M5 _ (by rw [e5]; exact hx.wl) (by omega)⟩
    · cases w5
  · rw [if_neg z1, if_pos z2] at w5
    split at w5
    · rename_i z4
      cases w5
      have hl : lim = 26 := by rcases hr with z | z <;> omega
      refine s_valueOf ⟨z4.1, by omega⟩ hw' (fun z M4 h4 => ⟨⟨by omega, by omega⟩, fun M5 e5 => nx M5 _ (by rw [e5]; exact (hx.trans h4).wl) (by omega)⟩)
    · cases w5
  · rw [if_neg z1, if_pos z2] at w5
    split at w5
    · rename_i z4
      cases w5
      have hl : lim = 16 := by rcases hr with z | z <;> omega
      exact ⟨⟨by omega, by omega⟩, ⟨by omega, by omega⟩, fun M5 e5 => nx M5 _ (by rw [e5]; exact hx.wl) (by omega)⟩
    · cases w5
  · rw [if_neg z1, if_neg z2, if_pos z3] at w5
    split at w5
    · cases w5
      exact ⟨⟨by omega, by omega⟩, ⟨by omega, by omega⟩, fun M3 e3 => nx M3 _ (by rw [e3]; exact hx.wl) rfl⟩
    · cases w5
  · rw [if_neg z1, if_neg z2, if_neg z3, if_neg n4] at w5
    split at w5
    · cases w5
      refine ⟨⟨by omega, by omega⟩, ⟨by omega, by omega⟩, s_two (inr_gi _ _ _) (fun z M1 h1 => ⟨⟨by omega, by omega⟩, fun M2 e2 => nx M2 _ (by rw [e2]; exact (hx.trans h1).wl) (by omega)⟩)⟩
    · cases w5
end WA
/-- statement x, and the first bodies of eithers and trys that it lies in have kept at most h -/
def kbs (M : rf_M) (t n h x : Nat) : Prop := ∃ A : Nat → Prop, A x ∧ ∀ y, A y → (40 * t ≤ y ∧ y < 40 * t + n) ∧ ∀ p : Nat, gi M 362 y = (p : Int) → A p ∧ (gi M 363 y = 0 → (gi M 360 p = 5 ∨ gi M 360 p = 7) → ∃ q : Nat, gi M 397 p = (q : Int) ∧ q ≤ h)
section WB
variable {M M' : rf_M} {t n h x : Nat}
theorem kbs.val (k : kbs M t n h x) : 40 * t ≤ x ∧ x < 40 * t + n := by
  obtain ⟨A, a1, a2⟩ := k
  exact (a2 x a1).1
theorem kbs.up {p : Nat} (k : kbs M t n h x) (hp : gi M 362 x = (p : Int)) : kbs M t n h p ∧ (gi M 363 x = 0 → (gi M 360 p = 5 ∨ gi M 360 p = 7) → ∃ q : Nat, gi M 397 p = (q : Int) ∧ q ≤ h) := by
  obtain ⟨A, a1, a2⟩ := k
  have := (a2 x a1).2 p hp
  exact ⟨⟨A, this.1, a2⟩, this.2⟩
theorem kbs.ins {y : Nat} (k : kbs M t n h x) (hy : 40 * t ≤ y ∧ y < 40 * t + n) (hp : ∀ p : Nat, gi M 362 y = (p : Int) → kbs M t n h p ∧ (gi M 363 y = 0 → (gi M 360 p = 5 ∨ gi M 360 p = 7) → ∃ q : Nat, gi M 397 p = (q : Int) ∧ q ≤ h)) : kbs M t n h y := by
  refine ⟨fun z => z = y ∨ kbs M t n h z, Or.inl rfl, fun z hz => ?_⟩
  rcases hz with rfl | hz
  · exact ⟨hy, fun p hp' => ⟨Or.inr (hp p hp').1, (hp p hp').2⟩⟩
  · exact ⟨hz.val, fun p hp' => ⟨Or.inr (hz.up hp').1, (hz.up hp').2⟩⟩
theorem kbs.sib {y : Nat} (k : kbs M t n h x) (hy : 40 * t ≤ y ∧ y < 40 * t + n) (e1 : gi M 362 y = gi M 362 x) (e2 : gi M 363 y = gi M 363 x) : kbs M t n h y := k.ins hy (fun p hp => by
  rw [e1] at hp
  rw [e2]
  exact k.up hp)
theorem kbs.kid {y : Nat} (k : kbs M t n h x) (hy : 40 * t ≤ y ∧ y < 40 * t + n) (e1 : gi M 362 y = (x : Int)) (e2 : gi M 363 y = 0 → (gi M 360 x = 5 ∨ gi M 360 x = 7) → ∃ q : Nat, gi M 397 x = (q : Int) ∧ q ≤ h) : kbs M t n h y := k.ins hy (fun p hp => by
  rw [e1] at hp
  have : p = x := by omega
  subst this
  exact ⟨k, e2⟩)
theorem kbs.eq {h' : Nat} (k : kbs M t n h x) (hh : h ≤ h') (q : ∀ a y, (a = 360 ∨ a = 362 ∨ a = 363 ∨ a = 397) → gi M' a y = gi M a y) : kbs M' t n h' x := by
  obtain ⟨A, a1, a2⟩ := k
  refine ⟨A, a1, fun y hy => ⟨(a2 y hy).1, fun p hp => ?_⟩⟩
  rw [q 362 y (by omega)] at hp
  obtain ⟨b1, b2⟩ := (a2 y hy).2 p hp
  refine ⟨b1, fun z1 z2 => ?_⟩
  rw [q 363 y (by omega)] at z1
  rw [q 360 p (by omega)] at z2
  obtain ⟨r, r1, r2⟩ := b2 z1 z2
  exact ⟨r, (q 397 p (by omega)).trans r1, by omega⟩
/-- a place: none, or a statement -/
def plc (M : rf_M) (t n h : Nat) (z : Int) : Prop := z = -1 ∨ ∃ y : Nat, z = (y : Int) ∧ kbs M t n h y
theorem plc.inr {z : Int} (k : plc M t n h z) (ht : t < 12) (hn : n ≤ 40) : inr z := by
  rcases k with z | ⟨y, y1, y2⟩
  · exact inr_z (by omega) (by omega)
  · have := y2.val
    exact inr_z (by omega) (by omega)
/-- the statements of a text, as the walk needs them -/
def twx (M : rf_M) (t n : Nat) : Prop := t < 12 ∧ n ≤ 40 ∧ ∀ x, 40 * t ≤ x → x < 40 * t + n → zs1 M t n x
theorem s_behind {K : Int → rf_M → Prop} (hT : twx M t n) (k : kbs M t n h x) (kk : ∀ z, plc M t n h z → K z M) : wm_behind (x : Int) M K := by
  obtain ⟨ht, hn, hs⟩ := hT
  refine ⟨fun m v M' => M' = M ∧ ((v = -1 ∧ m = 0) ∨ ∃ y : Nat, v = (y : Int) ∧ kbs M t n h y ∧ m = y + 1), ⟨x + 1, rfl, Or.inr ⟨x, rfl, k, rfl⟩⟩, ?_⟩
  rintro m v M' ⟨rfl, ⟨rfl, rfl⟩ | ⟨y, rfl, ky, rfl⟩⟩
  · exact ⟨inr_z (by omega) (by omega), fun _ => ⟨inr_z (by omega) (by omega), fun z => absurd z (by omega), fun _ => kk _ (Or.inl rfl)⟩, fun z => absurd (by omega) z⟩
  · have hv := ky.val
    obtain ⟨s1, s2, s3, s4, s5⟩ := hs y hv.1 hv.2
    have tn : ((y : Nat) : Int).toNat = y := by omega
    have iy : inr (y : Int) := inr_z (by omega) (by omega)
    have b2 : ∀ p : Nat, gi M' 362 y = (p : Int) → p < y := by
      intro p hp
      rcases s1 with z | ⟨p', p1, p2⟩
      · omega
      · omega
    show w_behind_2b (y : Int) M' _ K
    unfold w_behind_2b w_behind_38
    rw [tn]
    refine ⟨iy, fun z => absurd z (by omega), fun _ => ⟨⟨by omega, by omega⟩, fun z => ⟨iy, fun _ => ⟨⟨by omega, by omega⟩, ?_⟩, fun w => absurd (by omega) w⟩, fun z => ⟨⟨by omega, by omega⟩, fun z2 => ?_, fun z2 => ?_⟩⟩⟩
    · rcases s3 with w | ⟨y', y1, y2, y3, y4, y5⟩
      · omega
      · show K (gi M' 361 y) M'
        rw [y1]
        exact kk _ (Or.inr ⟨y', rfl, ky.sib ⟨by omega, y3⟩ y4 y5⟩)
    · rcases s1 with w | ⟨p, p1, p2⟩
      · exact ⟨0, by omega, rfl, Or.inl ⟨w, rfl⟩⟩
      · omega
    · rcases s1 with w | ⟨p, p1, p2⟩
      · omega
      · rw [p1, show ((p : Nat) : Int).toNat = p by omega]
        exact ⟨⟨by omega, by omega⟩, fun _ => kk _ (Or.inr ⟨p, rfl, (ky.up p1).1⟩), fun _ => ⟨p + 1, by omega, rfl, Or.inr ⟨p, rfl, (ky.up p1).1, rfl⟩⟩⟩
theorem s_around {kind : Int} {K : Int → rf_M → Prop} (hT : twx M t n) (k : kbs M t n h x) (hk : kind = 5 ∨ kind = 7) (k0 : K (-1) M) (kk : ∀ p : Nat, kbs M t n h p → gi M 360 p = kind → (∃ q : Nat, gi M 397 p = (q : Int) ∧ q ≤ h) → K (p : Int) M) : wm_around (x : Int) kind M K := by
  obtain ⟨ht, hn, hs⟩ := hT
  refine ⟨fun m v2 v M' => M' = M ∧ v2 = kind ∧ ((v = -1 ∧ m = 0) ∨ ∃ y : Nat, v = (y : Int) ∧ kbs M t n h y ∧ m = y + 1), ⟨x + 1, rfl, rfl, Or.inr ⟨x, rfl, k, rfl⟩⟩, ?_⟩
  rintro m v2 v M' ⟨rfl, rfl, ⟨rfl, rfl⟩ | ⟨y, rfl, ky, rfl⟩⟩
  · exact ⟨inr_z (by omega) (by omega), fun _ => k0, fun z => absurd (by omega) z⟩
  · have hv := ky.val
    obtain ⟨s1, s2, s3, s4, s5⟩ := hs y hv.1 hv.2
    have tn : ((y : Nat) : Int).toNat = y := by omega
    show w_around_2b v2 (y : Int) M' _ K
    unfold w_around_2b w_around_42
    rw [tn]
    refine ⟨inr_z (by omega) (by omega), fun z => absurd z (by omega), fun _ => ⟨⟨by omega, by omega⟩, fun z2 => ?_, fun z2 => ?_⟩⟩
    · rcases s1 with w | ⟨p, p1, p2⟩
      · exact ⟨0, by omega, rfl, rfl, Or.inl ⟨w, rfl⟩⟩
      · omega
    · rcases s1 with w | ⟨p, p1, p2⟩
      · omega
      · have up := ky.up p1
        have nx : ∃ m', m' < y + 1 ∧ (M' = M' ∧ v2 = v2 ∧ (((p : Nat) : Int) = -1 ∧ m' = 0 ∨ ∃ y : Nat, ((p : Nat) : Int) = (y : Int) ∧ kbs M' t n h y ∧ m' = y + 1)) := ⟨p + 1, by omega, rfl, rfl, Or.inr ⟨p, rfl, up.1, rfl⟩⟩
        rw [p1, show ((p : Nat) : Int).toNat = p by omega]
        refine ⟨⟨by omega, by omega⟩, inr_z (by omega) (by omega), fun z3 => ⟨⟨by omega, by omega⟩, fun z4 => kk p up.1 z3 (up.2 z4 (hk.imp (fun e => z3.trans e) (fun e => z3.trans e))), fun _ => nx⟩, fun _ => nx⟩
theorem s_goIn {v2 : Int} {K : rf_M → Prop} (hT : twx M t n) (k : kbs M t n h x) (h2 : plc M t n h v2) (kk : ∀ z M', plc M t n h z → M' = wi M 353 60 z → K M') : wm_goIn (x : Int) v2 M K := by
  have hv := k.val
  have ht := hT.1
  have hn := hT.2.1
  refine ⟨h2.inr ht hn, fun z => ⟨⟨by omega, by omega⟩, fun _ M1 e1 => kk _ M1 (Or.inr ⟨x, rfl, k⟩) e1, fun _ => s_behind hT k (fun z hz M1 e1 => kk z M1 hz e1)⟩, fun z M1 e1 => kk v2 M1 h2 e1⟩
/-- all ints are the same -/
def si (M M' : rf_M) : Prop := ∀ a k, gi M' a k = gi M a k
theorem s_keep {K : rf_M → Prop} (hx : x < 480) (kk : ∀ M', eqx (fun a k => (a = 394 ∨ a = 397) ∧ k = x) M M' → gi M' 397 x = gi M 353 58 → K M') : wm_keep (x : Int) M K := by
  have tn : ((x : Nat) : Int).toNat = x := by omega
  show w_keep (x : Int) M K
  unfold w_keep
  rw [tn]
  refine ⟨⟨by omega, by omega⟩, fun M1 e1 => ⟨⟨by omega, by omega⟩, fun M2 e2 => ?_⟩⟩
  have fin : ∀ M', si M2 M' → K M' := fun M' hs => kk M' (fun a k z => by rw [hs, e2, gi_of (by omega), e1, gi_of (by omega)]) (by rw [hs, e2, gi_at (inr_gi _ _ _), e1, gi_of (by omega)])
  refine ⟨fun m v1 v2 M' => v1 = (x : Int) ∧ si M2 M' ∧ ∃ j : Nat, v2 = (j : Int) ∧ j ≤ 16 ∧ m = 16 - j, ⟨16, rfl, fun _ _ => rfl, 0, rfl, by omega, rfl⟩, ?_⟩
  rintro m v1 v2 M3 ⟨rfl, h3, j, rfl, j1, j2⟩
  refine ⟨inr_z (by omega) (by omega), fun _ => ?_, fun z => ⟨⟨by omega, by omega⟩, ⟨by omega, by omega⟩, fun M4 e4 => ⟨16 - (j + 1), by omega, rfl, fun a k => by rw [e4]; exact h3 a k, j + 1, by omega, by omega, rfl⟩⟩⟩
  refine ⟨fun m v1 v2 M' => v1 = (x : Int) ∧ si M2 M' ∧ ∃ j : Nat, v2 = (j : Int) ∧ j ≤ 10 ∧ m = 10 - j, ⟨10, rfl, h3, 0, rfl, by omega, rfl⟩, ?_⟩
  rintro m v1 v2 M5 ⟨rfl, h5, i, rfl, i1, i2⟩
  exact ⟨inr_z (by omega) (by omega), fun _ => fin M5 h5, fun z => ⟨⟨by omega, by omega⟩, ⟨by omega, by omega⟩, fun M4 e4 => ⟨10 - (i + 1), by omega, rfl, fun a k => by rw [e4]; exact h5 a k, i + 1, by omega, by omega, rfl⟩⟩⟩
theorem s_bringBack {K : rf_M → Prop} (hx : x < 480) (kk : ∀ M', eqx (fun a k => a = 353 ∧ (k = 55 ∨ k = 58)) M M' → gi M' 353 58 = gi M 397 x → K M') : wm_bringBack (x : Int) M K := by
  have tn : ((x : Nat) : Int).toNat = x := by omega
  show w_bringBack (x : Int) M K
  unfold w_bringBack
  rw [tn]
  refine ⟨⟨by omega, by omega⟩, fun M1 e1 => ⟨⟨by omega, by omega⟩, fun M2 e2 => ?_⟩⟩
  have fin : ∀ M', si M2 M' → K M' := fun M' hs => kk M' (fun a k z => by rw [hs, e2, gi_of (by omega), e1, gi_of (by omega)]) (by rw [hs, e2, gi_at (inr_gi _ _ _), e1, gi_of (by omega)])
  refine ⟨fun m v1 v2 M' => v1 = (x : Int) ∧ si M2 M' ∧ ∃ j : Nat, v2 = (j : Int) ∧ j ≤ 16 ∧ m = 16 - j, ⟨16, rfl, fun _ _ => rfl, 0, rfl, by omega, rfl⟩, ?_⟩
  rintro m v1 v2 M3 ⟨rfl, h3, j, rfl, j1, j2⟩
  refine ⟨inr_z (by omega) (by omega), fun _ => ?_, fun z => ⟨⟨by omega, by omega⟩, ⟨by omega, by omega⟩, fun M4 e4 => ⟨16 - (j + 1), by omega, rfl, fun a k => by rw [e4]; exact h3 a k, j + 1, by omega, by omega, rfl⟩⟩⟩
  refine ⟨fun m v1 v2 M' => v1 = (x : Int) ∧ si M2 M' ∧ ∃ j : Nat, v2 = (j : Int) ∧ j ≤ 10 ∧ m = 10 - j, ⟨10, rfl, h3, 0, rfl, by omega, rfl⟩, ?_⟩
  rintro m v1 v2 M5 ⟨rfl, h5, i, rfl, i1, i2⟩
  exact ⟨inr_z (by omega) (by omega), fun _ => fin M5 h5, fun z => ⟨⟨by omega, by omega⟩, ⟨by omega, by omega⟩, fun M4 e4 => ⟨10 - (i + 1), by omega, rfl, fun a k => by rw [e4]; exact h5 a k, i + 1, by omega, by omega, rfl⟩⟩⟩
end WB
/-! THE REFERENCE'S WALK: a step -/
def bfm (M : rf_M) (c : Nat) : Prop := c ≤ 12 ∧ ∀ t, t < c → txo M t
def g16 (M : rf_M) (c : Nat) (z : Int) : Prop := ∃ e t cc : Nat, z = (e : Int) ∧ t < c ∧ gi M 359 t = (cc : Int) ∧ cc ≤ 160 ∧ cod M t cc 16 e
/-- the code cells -/
def cdc (a : Nat) : Prop := 355 ≤ a ∧ a ≤ 369
theorem bfm.eq {M M' : rf_M} {c : Nat} (h : bfm M c) (q : ∀ a k, cdc a → gi M' a k = gi M a k) : bfm M' c := ⟨h.1, fun t ht => (h.2 t ht).eq (fun a k z => q a k (by unfold txk at z; unfold cdc; omega))⟩
theorem g16.eq {M M' : rf_M} {c : Nat} {z : Int} (h : g16 M c z) (q : ∀ a k, cdc a → gi M' a k = gi M a k) : g16 M' c z := by
  obtain ⟨e, t, cc, h1, h2, h3, h4, h5⟩ := h
  exact ⟨e, t, cc, h1, h2, (q _ _ (by unfold cdc; omega)).trans h3, h4, h5.eq (Nat.le_refl _) (fun k _ => ⟨q _ _ (by unfold cdc; omega), q _ _ (by unfold cdc; omega)⟩)⟩
def Wk (M : rf_M) (c t n h : Nat) : Prop := t < c ∧ gi M 355 t = (n : Int) ∧ (∀ j, j < h → g16 M c (gi M 393 j)) ∧ ∃ a : Nat, gi M 353 58 = (a : Int) ∧ a ≤ h
def stw (a k : Nat) : Prop := (a = 353 ∧ (k = 52 ∨ k = 55 ∨ k = 58 ∨ k = 60 ∨ k = 65)) ∨ a = 390 ∨ a = 393 ∨ a = 394 ∨ a = 397
section WC
variable {M M' : rf_M} {c t n h x : Nat} {K : Int → rf_M → Prop}
theorem twx_of (hb : bfm M c) (hW : Wk M c t n h) : twx M t n := by
  obtain ⟨n', c', h1, h2, -, -, h5, -⟩ := hb.2 t hW.1
  have : n' = n := by have := hW.2.1; omega
  subst this
  have := hb.1
  have := hW.1
  exact ⟨by omega, h2, fun x x1 x2 => (h5 x x1 x2).1⟩
theorem st_of (hb : bfm M c) (hW : Wk M c t n h) (k : kbs M t n h x) : ∃ cc : Nat, cc ≤ 160 ∧ gi M 359 t = (cc : Int) ∧ zs1 M t n x ∧ zs2 M t cc x ∧ (gi M 360 x = 7 → 16 ≤ gi M 367 x ∧ gi M 367 x ≤ 25) := by
  obtain ⟨n', c', h1, h2, h3, h4, h5, -⟩ := hb.2 t hW.1
  have : n' = n := by have := hW.2.1; omega
  subst this
  exact ⟨c', h4, h3, h5 x k.val.1 k.val.2⟩
theorem Wk.eq (hW : Wk M c t n h) (q : ∀ a k, cdc a ∨ a = 393 ∨ (a = 353 ∧ k = 58) → gi M' a k = gi M a k) : Wk M' c t n h := by
  obtain ⟨h1, h2, h3, a, h4, h5⟩ := hW
  refine ⟨h1, (q _ _ (Or.inl (by unfold cdc; omega))).trans h2, fun j hj => ?_, a, (q _ _ (by omega)).trans h4, h5⟩
  rw [q 393 j (by omega)]
  exact (h3 j hj).eq (fun a k z => q a k (Or.inl z))
theorem plc.eq {z : Int} {h' : Nat} (p : plc M t n h z) (hh : h ≤ h') (q : ∀ a y, (a = 360 ∨ a = 362 ∨ a = 363 ∨ a = 397) → gi M' a y = gi M a y) : plc M' t n h' z := p.imp id (fun ⟨y, y1, y2⟩ => ⟨y, y1, y2.eq hh q⟩)
theorem plc_lnk {z : Int} {w : Int} (k : kbs M t n h x) (l : zlk z (fun y => x < y ∧ y < 40 * t + n ∧ gi M 362 y = (x : Int) ∧ gi M 363 y = w)) (hw : w = 0 → (gi M 360 x = 5 ∨ gi M 360 x = 7) → ∃ q : Nat, gi M 397 x = (q : Int) ∧ q ≤ h) : plc M t n h z := by
  exact Or.imp id (fun ⟨y, y1, y2, y3, y4, y5⟩ => ⟨y, y1, k.kid ⟨by have := k.val; omega, y3⟩ y4 (fun e => hw (y5.symm.trans e))⟩) l
/-- what a step leaves -/
def stq (M : rf_M) (c t n h : Nat) (M' : rf_M) : Prop := eqx stw M M' ∧ Wk M' c t n h ∧ plc M' t n h (gi M' 353 60)
theorem s_pos {z : Int} (hb : bfm M c) (hW : Wk M c t n h) (hz : plc M t n h z) : stq M c t n h (wi M 353 60 z) := by
  have hx := twx_of hb hW
  have iz := hz.inr hx.1 hx.2.1
  refine ⟨(eqx.rfl' M).wi (Or.inl ⟨rfl, by omega⟩), hW.eq (fun a k w => gi_of (by unfold cdc at w; omega)), ?_⟩
  rw [gi_at iz]
  exact hz.eq (Nat.le_refl _) (fun a y w => gi_of (by omega))
theorem stq.trans' {M1 : rf_M} (hx : eqx stw M M1) (h2 : stq M1 c t n h M') : stq M c t n h M' := ⟨hx.trans h2.1, h2.2⟩
/-- out of an either or a try: its second body -/
theorem s_back {p : Nat} {M2 : rf_M} {K : rf_M → Prop} (hb : bfm M c) (hW : Wk M c t n h) (kp : kbs M t n h p) (hq : ∃ q : Nat, gi M 397 p = (q : Int) ∧ q ≤ h) (e2 : eqx (fun a k => a = 353 ∧ (k = 55 ∨ k = 58)) M M2) (e3 : gi M2 353 58 = gi M 397 p) (kk : ∀ M', stq M c t n h M' → K M') : wm_goIn (p : Int) (gi M2 366 p) M2 K := by
  have q2 : ∀ a k, ¬ (a = 353 ∧ (k = 55 ∨ k = 58)) → gi M2 a k = gi M a k := fun a k z => e2 a k z
  have hb2 : bfm M2 c := hb.eq (fun a k z => q2 a k (by unfold cdc at z; omega))
  have hW2 : Wk M2 c t n h := by
    obtain ⟨h1, h2, h3, -⟩ := hW
    obtain ⟨q, q1, q2'⟩ := hq
    refine ⟨h1, (q2 _ _ (by omega)).trans h2, fun j hj => ?_, q, e3.trans q1, q2'⟩
    rw [q2 393 j (by omega)]
    exact (h3 j hj).eq (fun a k z => q2 a k (by unfold cdc at z; omega))
  have kp2 : kbs M2 t n h p := kp.eq (Nat.le_refl _) (fun a y z => q2 a y (by omega))
  obtain ⟨cc, -, -, s1, -⟩ := st_of hb2 hW2 kp2
  refine s_goIn (twx_of hb2 hW2) kp2 (plc_lnk kp2 s1.2.2.2.2 (fun z => absurd z (by decide))) (fun z M' hz e => kk M' ?_)
  rw [e]
  exact (s_pos hb2 hW2 hz).trans' (M1 := M2) (e2.mono (fun a k z => Or.inl ⟨z.1, by have := z.2; omega⟩)) |> fun w => w
theorem s_throwFrom (hb : bfm M c) (hW : Wk M c t n h) (kx : kbs M t n h x) (k2 : K 2 M) (kk : ∀ M', stq M c t n h M' → K 0 M') : wm_throwFrom (x : Int) M K := by
  have hT := twx_of hb hW
  refine s_around hT kx (Or.inr rfl) ⟨inr_z (by omega) (by omega), fun z => absurd z (by omega), fun _ => k2⟩ (fun p kp p1 hq => ?_)
  have hv := kp.val
  have ht := hT.1
  have hn := hT.2.1
  have tn : ((p : Nat) : Int).toNat = p := by omega
  refine ⟨inr_z (by omega) (by omega), fun _ => s_bringBack (by omega) (fun M2 e2 e3 => ?_), fun z => absurd (by omega) z⟩
  obtain ⟨cc, -, -, -, -, hl⟩ := st_of hb hW kp
  have hl := hl p1
  have q2 : ∀ a k, ¬ (a = 353 ∧ (k = 55 ∨ k = 58)) → gi M2 a k = gi M a k := fun a k z => e2 a k z
  rw [tn, q2 367 p (by omega)]
  refine ⟨⟨by omega, by omega⟩, ⟨by omega, by omega⟩, fun M3 e4 => ⟨⟨by omega, by omega⟩, ?_⟩⟩
  have g3 : ∀ a k, gi M3 a k = gi M2 a k := fun a k => by rw [e4]; rfl
  exact s_back hb hW kp hq (M2 := M3) (fun a k z => (g3 a k).trans (e2 a k z)) ((g3 _ _).trans e3) kk
theorem s_retryFrom (hb : bfm M c) (hW : Wk M c t n h) (kx : kbs M t n h x) (k3 : K 3 M) (kk : ∀ M', stq M c t n h M' → K 0 M') : wm_retryFrom (x : Int) M K := by
  have hT := twx_of hb hW
  refine s_around hT kx (Or.inl rfl) ⟨inr_z (by omega) (by omega), fun z => absurd z (by omega), fun _ => k3⟩ (fun p kp p1 hq => ?_)
  have hv := kp.val
  have ht := hT.1
  have hn := hT.2.1
  have tn : ((p : Nat) : Int).toNat = p := by omega
  refine ⟨inr_z (by omega) (by omega), fun _ => s_bringBack (by omega) (fun M2 e2 e3 => ?_), fun z => absurd (by omega) z⟩
  rw [tn]
  exact ⟨⟨by omega, by omega⟩, s_back hb hW kp hq e2 e3 kk⟩
/-- the step of a statement whose exp is worked -/
theorem s_step51 {s0 : Int64} (hb : bfm M c) (hW : Wk M c t n h) (kx : kbs M t n h x) (hp : plc M t n h (gi M 353 60)) (hh : h < 400) (kk : ∀ z M' h', h' ≤ h + 1 → 0 ≤ z → z ≤ 4 → stq M c t n h' M' → K z M') : w_step_51 (x : Int) s0 M K := by
  have hT := twx_of hb hW
  have hv := kx.val
  have ht := hT.1
  have hn := hT.2.1
  have tn : ((x : Nat) : Int).toNat = x := by omega
  obtain ⟨cc, cc1, cc2, s1, s2, s3⟩ := st_of hb hW kx
  have here : stq M c t n h M := ⟨eqx.rfl' M, hW, hp⟩
  have thr : ∀ M1 : rf_M, si M M1 → wm_throwFrom (x : Int) M1 (fun z M' => K z M') := by
    intro M1 hs
    refine s_throwFrom (c := c) (t := t) (n := n) (h := h) (hb.eq (fun a k _ => hs a k)) (hW.eq (fun a k _ => hs a k)) (kx.eq (Nat.le_refl _) (fun a y _ => hs a y)) ?_ (fun M' hq => kk 0 M' h (by omega) (by omega) (by omega) (hq.trans' (fun a k _ => hs a k)))
    exact kk 2 M1 h (by omega) (by omega) (by omega) ⟨fun a k _ => hs a k, hW.eq (fun a k _ => hs a k), by rw [hs 353 60]; exact hp.eq (Nat.le_refl _) (fun a y _ => hs a y)⟩
  have k346 : ∀ M', stq M c t n h M' → w_step_346 M' K := fun M' hq => kk 0 M' h (by omega) (by omega) (by omega) hq
  have pos : ∀ z M', plc M t n h z → M' = wi M 353 60 z → w_step_346 M' K := fun z M' hz e => by rw [e]; exact k346 _ (s_pos hb hW hz)
  have l5 : plc M t n h (gi M 365 x) ∨ (gi M 360 x = 5 ∨ gi M 360 x = 7) := by
    by_cases w : gi M 360 x = 5 ∨ gi M 360 x = 7
    · exact Or.inr w
    · exact Or.inl (plc_lnk kx s1.2.2.2.1 (fun _ w2 => absurd w2 w))
  have l6 : plc M t n h (gi M 366 x) := plc_lnk kx s1.2.2.2.2 (fun z => absurd z (by decide))
  unfold w_step_51 w_step_198
  rw [tn]
  refine ⟨fun _ => kk 1 M h (by omega) (by omega) (by omega) here, fun _ => ⟨fun _ => thr M (fun _ _ => rfl), fun _ => ⟨⟨by omega, by omega⟩, fun z => ?_, fun z => ?_, fun z => ?_, fun z => ?_, fun z => ?_, fun z => ?_, fun z => ?_⟩⟩⟩
  · have l5' := l5.resolve_right (by omega)
    exact ⟨fun _ => ⟨⟨by omega, by omega⟩, s_goIn hT kx l6 pos⟩, fun _ => ⟨⟨by omega, by omega⟩, s_goIn hT kx l5' pos⟩⟩
  · have l5' := l5.resolve_right (by omega)
    exact ⟨fun _ => s_behind hT kx (fun z hz M4 e4 => pos z M4 hz e4), fun _ => ⟨⟨by omega, by omega⟩, s_goIn hT kx l5' pos⟩⟩
  · exact s_retryFrom hb hW kx (kk 3 M h (by omega) (by omega) (by omega) here) (fun M' hq => kk 0 M' h (by omega) (by omega) (by omega) hq)
  · intro M7 e7
    exact thr M7 (fun a k => by rw [e7]; rfl)
  · -- always
    obtain ⟨e, e1, e2⟩ := s2.2.2.2 z
    obtain ⟨h1, h2, h3, a, h4, h5⟩ := hW
    rw [h4, e1]
    refine ⟨⟨by omega, by omega⟩, ⟨by omega, by omega⟩, fun M9 f9 M10 f10 => ?_⟩
    rw [show ((a : Nat) : Int).toNat = a by omega] at f9
    have g9 : gi M9 353 58 = (a : Int) := by rw [f9, gi_of (by omega)]; exact h4
    rw [g9] at f10
    have q10 : ∀ a' k, ¬ (a' = 393 ∧ k = a) → ¬ (a' = 353 ∧ k = 58) → gi M10 a' k = gi M a' k := fun a' k z1 z2 => by rw [f10, gi_of (by omega), f9, gi_of (by omega)]
    have f58 : gi M10 353 58 = ((a + 1 : Nat) : Int) := by rw [f10, gi_at (inr_z (by omega) (by omega))]; omega
    have e2400 : (e : Int) ≤ 2400 := by
      obtain ⟨k, k1, k2, -⟩ := e2
      omega
    have f393 : gi M10 393 a = (e : Int) := by rw [f10, gi_of (by omega), f9, gi_at (inr_z (by omega) (by omega))]
    have hb10 : bfm M10 c := hb.eq (fun a' k z => q10 a' k (by unfold cdc at z; omega) (by unfold cdc at z; omega))
    obtain ⟨h', hh', hW10⟩ : ∃ h', (h ≤ h' ∧ h' ≤ h + 1) ∧ Wk M10 c t n h' := by
      refine ⟨max h (a + 1), by omega, h1, (q10 _ _ (by omega) (by omega)).trans h2, fun j hj => ?_, a + 1, f58, by omega⟩
      by_cases hja : j = a
      · rw [hja, f393]
        exact ⟨e, t, cc, rfl, h1, (q10 _ _ (by omega) (by omega)).trans cc2, cc1, e2.eq (Nat.le_refl _) (fun k _ => ⟨q10 _ _ (by omega) (by omega), q10 _ _ (by omega) (by omega)⟩)⟩
      · rw [q10 393 j (by omega) (by omega)]
        exact (h3 j (by omega)).eq (fun a' k z => q10 a' k (by unfold cdc at z; omega) (by unfold cdc at z; omega))
    have kx10 : kbs M10 t n h' x := kx.eq hh'.1 (fun a' y z => q10 a' y (by omega) (by omega))
    refine s_behind (twx_of hb10 hW10) kx10 (fun z hz M12 f12 => kk 0 M12 h' (by omega) (by omega) (by omega) ?_)
    rw [f12]
    refine (s_pos hb10 hW10 hz).trans' ?_
    rw [f10, f9]
    exact ((eqx.rfl' M).wi (Or.inr (Or.inr (Or.inl rfl)))).wi (Or.inl ⟨rfl, by omega⟩)
  · -- set
    have hl := s2.2.1 z
    refine ⟨⟨by omega, by omega⟩, fun z2 => ⟨⟨by omega, by omega⟩, ⟨by omega, by omega⟩, fun M13 f13 => ⟨⟨by omega, by omega⟩, fun M14 f14 => ?_⟩⟩, fun z2 => ⟨⟨by omega, by omega⟩, ⟨by omega, by omega⟩, fun M15 f15 => ?_⟩⟩
    · have q14 : ∀ a k, ¬ (a = 353 ∧ k = 55) → gi M14 a k = gi M a k := fun a k w => by rw [f14, gi_of (by omega), f13]; rfl
      have hb14 : bfm M14 c := hb.eq (fun a k w => q14 a k (by unfold cdc at w; omega))
      have hW14 : Wk M14 c t n h := hW.eq (fun a k w => q14 a k (by unfold cdc at w; omega))
      refine s_behind (twx_of hb14 hW14) (kx.eq (Nat.le_refl _) (fun a y w => q14 a y (by omega))) (fun z hz M2 f2 => k346 M2 ?_)
      rw [f2]
      exact (s_pos hb14 hW14 hz).trans' (fun a k w => q14 a k (fun w2 => w (Or.inl ⟨w2.1, by have := w2.2; omega⟩)))
    · have q15 : ∀ a k, gi M15 a k = gi M a k := fun a k => by rw [f15]; rfl
      have hb15 : bfm M15 c := hb.eq (fun a k w => q15 a k)
      have hW15 : Wk M15 c t n h := hW.eq (fun a k w => q15 a k)
      refine s_behind (twx_of hb15 hW15) (kx.eq (Nat.le_refl _) (fun a y w => q15 a y)) (fun z hz M2 f2 => k346 M2 ?_)
      rw [f2]
      exact (s_pos hb15 hW15 hz).trans' (fun a k w => q15 a k)
  · -- either, try
    have hk : gi M 360 x = 5 ∨ gi M 360 x = 7 := by
      have := s2.1
      unfold kk8 at this
      omega
    refine s_keep (by omega) (fun M16 e16 f16 => ⟨⟨by omega, by omega⟩, ?_⟩)
    have q16 : ∀ a k, ¬ ((a = 394 ∨ a = 397) ∧ k = x) → gi M16 a k = gi M a k := fun a k w => e16 a k w
    have hb16 : bfm M16 c := hb.eq (fun a k w => q16 a k (by unfold cdc at w; omega))
    have hW16 : Wk M16 c t n h := hW.eq (fun a k w => q16 a k (by unfold cdc at w; omega))
    obtain ⟨a, h4, h5⟩ := hW.2.2.2
    have kx16 : kbs M16 t n h x := by
      obtain ⟨A, a1, a2⟩ := kx
      refine ⟨A, a1, fun y hy => ⟨(a2 y hy).1, fun p hp' => ?_⟩⟩
      rw [q16 362 y (by omega)] at hp'
      obtain ⟨b1, b2⟩ := (a2 y hy).2 p hp'
      refine ⟨b1, fun z1 z2 => ?_⟩
      by_cases hpx : p = x
      · rw [hpx, f16]; exact ⟨a, h4, h5⟩
      · rw [q16 363 y (by omega)] at z1
        rw [q16 360 p (by omega)] at z2
        obtain ⟨r, r1, r2⟩ := b2 z1 z2
        exact ⟨r, (q16 397 p (by omega)).trans r1, r2⟩
    have hp16 : plc M16 t n h (gi M16 365 x) := by
      refine plc_lnk (w := 0) kx16 ?_ (fun _ _ => by rw [f16]; exact ⟨a, h4, h5⟩)
      rw [q16 365 x (by omega)]
      exact s1.2.2.2.1.imp (fun y hy => by rw [q16 362 y (by omega), q16 363 y (by omega)]; exact hy)
    refine s_goIn (twx_of hb16 hW16) kx16 hp16 (fun z M' hz e => k346 M' ?_)
    rw [e]
    refine (s_pos hb16 hW16 hz).trans' (e16.mono (fun a k w => ?_))
    rcases w.1 with w | w
    · exact Or.inr (Or.inr (Or.inr (Or.inl w)))
    · exact Or.inr (Or.inr (Or.inr (Or.inr w)))
/-- what is known within a walk of k steps over text t -/
def wkk (M : rf_M) (c t k : Nat) : Prop := ∃ n h : Nat, h ≤ k ∧ Wk M c t n h ∧ plc M t n h (gi M 353 60)
theorem s_step {k : Nat} (hb : bfm M c) (hw : gi M 353 42 = 0 ∨ gi M 353 42 = 1) (hk : wkk M c t k) (hk4 : k < 400) (kk : ∀ z M', 0 ≤ z → z ≤ 4 → eqx stw M M' → wkk M' c t (k + 1) → K z M') : wm_step M K := by
  obtain ⟨n, h, hh, hW, hp⟩ := hk
  have hT := twx_of hb hW
  have ht := hT.1
  have hn := hT.2.1
  have fin : ∀ z M' h', h' ≤ h + 1 → 0 ≤ z → z ≤ 4 → stq M c t n h' M' → K z M' := fun z M' h' hh' z1 z2 hq => kk z M' z1 z2 hq.1 ⟨n, h', by omega, hq.2.1, hq.2.2⟩
  rcases hp with hp1 | ⟨x, hx, kx⟩
  · refine ⟨fun z => absurd z (by omega), fun _ => fin 4 M h (by omega) (by omega) (by omega) ⟨eqx.rfl' M, hW, Or.inl hp1⟩⟩
  · have hv := kx.val
    have tn : ((x : Nat) : Int).toNat = x := by omega
    show w_step M K
    unfold w_step
    rw [hx, tn]
    refine ⟨fun _ M1 e1 => ?_, fun z => absurd (by omega) z⟩
    have q1 : ∀ a k, ¬ (a = 353 ∧ k = 65) → gi M1 a k = gi M a k := fun a k w => by rw [e1, gi_of (by omega)]
    have x1 : eqx stw M M1 := fun a k w => q1 a k (fun w2 => w (Or.inl ⟨w2.1, by have := w2.2; omega⟩))
    have hb1 : bfm M1 c := hb.eq (fun a k w => q1 a k (by unfold cdc at w; omega))
    have hW1 : Wk M1 c t n h := hW.eq (fun a k w => q1 a k (by unfold cdc at w; omega))
    have kx1 : kbs M1 t n h x := kx.eq (Nat.le_refl _) (fun a y w => q1 a y (by omega))
    have hp1 : plc M1 t n h (gi M1 353 60) := Or.inr ⟨x, (q1 _ _ (by omega)).trans hx, kx1⟩
    have st : w_step_51 (x : Int) (Int64.ofNat 0) M1 K := s_step51 hb1 hW1 kx1 hp1 (by omega) (fun z M' h' h1 h2 h3 hq => fin z M' h' h1 h2 h3 (hq.trans' x1))
    obtain ⟨cc, cc1, cc2, s1, s2, s3⟩ := st_of hb1 hW1 kx1
    refine ⟨⟨by omega, by omega⟩, fun _ => st, fun z1 => ⟨⟨by omega, by omega⟩, fun _ => st, fun z2 => ⟨⟨by omega, by omega⟩, ?_⟩⟩⟩
    rcases s2.2.2.1 z2 with w | ⟨e, w1, w2⟩
    · omega
    · rw [w1]
      refine s_work (t := t) (c := cc) (Or.inl ⟨rfl, rfl⟩) w2 (by omega) (by rw [q1 353 42 (by omega)]; exact hw) (fun z M2 x2 => ?_)
      have q2 : ∀ a k, ¬ ((a = 353 ∧ (k = 52 ∨ k = 65)) ∨ a = 390) → gi M2 a k = gi M1 a k := fun a k w => x2 a k w
      have x2' : eqx stw M M2 := x1.trans (x2.mono (fun a k w => by
        rcases w with w | w
        · exact Or.inl ⟨w.1, by have := w.2; omega⟩
        · exact Or.inr (Or.inl w)))
      have kx2 : kbs M2 t n h x := kx1.eq (Nat.le_refl _) (fun a y w => q2 a y (by omega))
      exact s_step51 (hb1.eq (fun a k w => q2 a k (by unfold cdc at w; omega))) (hW1.eq (fun a k w => q2 a k (by unfold cdc at w; omega))) kx2 (Or.inr ⟨x, (q2 _ _ (by omega)).trans ((q1 _ _ (by omega)).trans hx), kx2⟩) (by omega) (fun z M' h' h1 h2 h3 hq => fin z M' h' h1 h2 h3 (hq.trans' x2'))
end WC
/-! THE REFERENCE'S RUNS -/
def rlm (M : rf_M) (c w : Nat) : Prop := ∃ rc : Nat, gi M 378 w = (rc : Int) ∧ rc ≤ 32 ∧ ∀ k, k < rc → g16 M c (gi M 379 (32 * w + k))
def qum (M : rf_M) (c : Nat) : Prop := ∀ l, l < 8 → ∃ q : Nat, gi M 381 l = (q : Int) ∧ q ≤ 16 ∧ ∀ k, k < q → ∃ t : Nat, gi M 380 (16 * l + k) = (t : Int) ∧ t < c
def stpm (M : rf_M) : Prop := ∀ l, l < 8 → ∃ s : Nat, gi M 383 l = (s : Int) ∧ s ≤ 300
def rwm (M : rf_M) (c : Nat) : Prop := ∃ r : Nat, gi M 353 69 = (r : Int) ∧ r ≤ 300 ∧ ∀ i, i < r → ∃ x : Nat, gi M 402 i = (x : Int) ∧ ((gi M 400 i = 0 ∧ x < 16) ∨ (¬ gi M 400 i = 0 ∧ x < c))
/-- what holds of the reference between calls -/
def mIn (M : rf_M) (c : Nat) : Prop := bfm M c ∧ gi M 353 11 = (c : Int) ∧ rlm M c 0 ∧ qum M c ∧ stpm M ∧ rwm M c
def mIc (a k : Nat) : Prop := cdc a ∨ (a = 378 ∧ k = 0) ∨ (a = 379 ∧ k < 32) ∨ a = 380 ∨ a = 381 ∨ a = 383 ∨ a = 400 ∨ a = 402 ∨ (a = 353 ∧ (k = 11 ∨ k = 69))
def rnw (a k : Nat) : Prop := (a = 353 ∧ ¬ k = 2 ∧ ¬ k = 11) ∨ 376 ≤ a
section WD

variable {M M' : rf_M} {c t n h x w l : Nat}

theorem rlm.eq (hr : rlm M c w) (q : ∀ a k, cdc a ∨ (a = 378 ∧ k = w) ∨ (a = 379 ∧ 32 * w ≤ k ∧ k < 32 * w + 32) → gi M' a k = gi M a k) : rlm M' c w := by
  obtain ⟨rc, h1, h2, h3⟩ := hr
  refine ⟨rc, (q _ _ (by omega)).trans h1, h2, fun k hk => ?_⟩
  rw [q 379 (32 * w + k) (by omega)]
  exact (h3 k hk).eq (fun a k z => q a k (Or.inl z))
theorem qum.eq (hq : qum M c) (q : ∀ a k, a = 380 ∨ a = 381 → gi M' a k = gi M a k) : qum M' c := fun l hl => by
  obtain ⟨q0, a1, a2, a3⟩ := hq l hl
  exact ⟨q0, (q _ _ (by omega)).trans a1, a2, fun k hk => by rw [q 380 (16 * l + k) (by omega)]; exact a3 k hk⟩
theorem stpm.eq (hs : stpm M) (q : ∀ k, gi M' 383 k = gi M 383 k) : stpm M' := fun l hl => by
  obtain ⟨s, a1, a2⟩ := hs l hl
  exact ⟨s, (q _).trans a1, a2⟩
theorem rwm.eq (hr : rwm M c) (q : ∀ a k, a = 400 ∨ a = 402 ∨ (a = 353 ∧ k = 69) → gi M' a k = gi M a k) : rwm M' c := by
  obtain ⟨r, h6, h7, h8⟩ := hr
  refine ⟨r, (q _ _ (by omega)).trans h6, h7, fun i hi => ?_⟩
  obtain ⟨x, a1, a2⟩ := h8 i hi
  exact ⟨x, (q _ _ (by omega)).trans a1, by rw [q 400 i (by omega)]; exact a2⟩
theorem mIn.eq (hm : mIn M c) (q : ∀ a k, mIc a k → gi M' a k = gi M a k) : mIn M' c := by
  obtain ⟨h1, h2, h3, h4, h5, h6⟩ := hm
  have q' : ∀ a k, cdc a ∨ (a = 378 ∧ k = 0) ∨ (a = 379 ∧ k < 32) ∨ a = 380 ∨ a = 381 ∨ a = 383 ∨ a = 400 ∨ a = 402 ∨ (a = 353 ∧ (k = 11 ∨ k = 69)) → gi M' a k = gi M a k := q
  exact ⟨h1.eq (fun a k z => q' a k (Or.inl z)), (q' _ _ (by omega)).trans h2, h3.eq (fun a k z => q' a k (by rcases z with z | z | z; exact Or.inl z; omega; omega)), h4.eq (fun a k z => q' a k (by omega)), h5.eq (fun k => q' _ _ (by omega)), h6.eq (fun a k z => q' a k (by omega))⟩
theorem mIn.b (hm : mIn M c) : bfm M c := hm.1
theorem s_holds {z : Int} {K : Int → rf_M → Prop} (hc : c ≤ 12) (hg : g16 M c z) (hw : gi M 353 42 = 0 ∨ gi M 353 42 = 1) (kk : ∀ b M', (b = 0 ∨ b = 1) → eqx vww M M' → K b M') : wm_holds z M K := by
  obtain ⟨e, t, cc, rfl, h2, h3, h4, h5⟩ := hg
  intro M1 e1
  have q1 : ∀ a k, ¬ (a = 353 ∧ k = 65) → gi M1 a k = gi M a k := fun a k w => by rw [e1, gi_of (by omega)]
  have x1 : eqx vww M M1 := fun a k w => q1 a k (fun w2 => w (Or.inl ⟨w2.1, Or.inr w2.2⟩))
  refine s_work (t := t) (c := cc) (Or.inr ⟨rfl, rfl⟩) (h5.eq (Nat.le_refl _) (fun k _ => ⟨q1 _ _ (by omega), q1 _ _ (by omega)⟩)) (by omega) (by rw [q1 353 42 (by omega)]; exact hw) (fun z M2 x2 => ?_)
  have x3 := x1.trans x2
  exact ⟨fun _ => ⟨fun _ => ⟨Or.inl rfl, kk 0 M2 (Or.inl rfl) x3⟩, fun _ => ⟨Or.inr rfl, kk 1 M2 (Or.inr rfl) x3⟩⟩, fun _ => ⟨Or.inl rfl, kk 0 M2 (Or.inl rfl) x3⟩⟩
theorem s_rulesHold {K : Int → rf_M → Prop} (hc : c ≤ 12) (hw : gi M 353 42 = (w : Int)) (hw1 : w ≤ 1) (hr : rlm M c w) (kk : ∀ b M', (b = 0 ∨ b = 1) → eqx vww M M' → K b M') : wm_rulesHold M K := by
  obtain ⟨rc, h1, h2, h3⟩ := hr
  refine ⟨fun m v1 v2 M' => (v1 = 0 ∨ v1 = 1) ∧ eqx vww M M' ∧ ∃ j : Nat, v2 = (j : Int) ∧ j ≤ rc ∧ m = rc - j, ⟨rc, Or.inr rfl, eqx.rfl' M, 0, rfl, Nat.zero_le _, rfl⟩, ?_⟩
  rintro m v1 v2 M1 ⟨hv, x1, j, rfl, j1, j2⟩
  have q : ∀ a k, ¬ ((a = 353 ∧ (k = 52 ∨ k = 65)) ∨ a = 390) → gi M1 a k = gi M a k := fun a k z => x1 a k z
  have w1 : gi M1 353 42 = (w : Int) := (q _ _ (by omega)).trans hw
  have tw : ((w : Nat) : Int).toNat = w := by omega
  show w_rulesHold_4b v1 (j : Int) M1 _ K
  unfold w_rulesHold_4b
  rw [w1, tw, q 378 w (by omega), h1]
  refine ⟨⟨by omega, by omega⟩, inr_z (by omega) (by omega), fun _ => ⟨hv, kk v1 M1 hv x1⟩, fun z => ⟨inr_z (by omega) (by omega), fun _ => ⟨hv, kk v1 M1 hv x1⟩, fun _ => ⟨⟨by omega, by omega⟩, ?_⟩⟩⟩
  rw [show (32 * (w : Int) + (j : Int)).toNat = 32 * w + j by omega, q 379 (32 * w + j) (by omega)]
  refine s_holds hc ((h3 j (by omega)).eq (fun a k z => q a k (by unfold cdc at z; omega))) (by omega) (fun b M2 hb x2 => ⟨rc - (j + 1), by omega, hb, x1.trans x2, j + 1, by omega, by omega, rfl⟩)
theorem s_isWell {a : Nat} {K : Int → rf_M → Prop} (hc : c ≤ 12) (hw : gi M 353 42 = (w : Int)) (hw1 : w ≤ 1) (hr : rlm M c w) (ha : gi M 353 58 = (a : Int)) (ha4 : a ≤ 400) (hg : ∀ j, j < a → g16 M c (gi M 393 j)) (kk : ∀ b M', (b = 0 ∨ (b = 1 ∧ gi M 378 w + (a : Int) ≤ 32)) → eqx vww M M' → K b M') : wm_isWell M K := by
  have hr' := hr
  obtain ⟨rc, h1, h2, h3⟩ := hr'
  refine ⟨fun m v1 M' => si M M' ∧ ∃ j : Nat, v1 = (j : Int) ∧ j ≤ 16 ∧ m = 16 - j, ⟨16, fun _ _ => rfl, 0, rfl, by omega, rfl⟩, ?_⟩
  rintro m v1 M1 ⟨s1, j, rfl, j1, j2⟩
  have w1 : gi M1 353 42 = (w : Int) := (s1 _ _).trans hw
  have nx : ¬ 16 ≤ (j : Int) → ∀ (s2 : Int64), w_isWell_48 (j : Int) (j : Int) s2 M1 (fun v1' M' => ∃ m', m' < m ∧ (si M M' ∧ ∃ j : Nat, v1' = (j : Int) ∧ j ≤ 16 ∧ m' = 16 - j)) K := fun z s2 => ⟨⟨by omega, by omega⟩, fun M2 e2 => ⟨16 - (j + 1), by omega, fun a k => by rw [e2]; exact s1 a k, j + 1, by omega, by omega, rfl⟩⟩
  refine ⟨inr_z (by omega) (by omega), fun _ => ?_, fun z => ⟨fun _ => ⟨⟨by omega, by omega⟩, nx z _⟩, fun _ => ⟨⟨by omega, by omega⟩, nx z _⟩⟩⟩
  have hs1 : eqx vww M M1 := fun a k _ => s1 a k
  refine s_rulesHold hc w1 hw1 (hr.eq (fun a k _ => s1 a k)) (fun b M2 hb x2 => ?_)
  refine ⟨fun m v1 v2 M' => (v1 = 0 ∨ v1 = 1) ∧ eqx vww M M' ∧ ∃ j : Nat, v2 = (j : Int) ∧ j ≤ a ∧ m = a - j, ⟨a, hb, hs1.trans x2, 0, rfl, Nat.zero_le _, rfl⟩, ?_⟩
  rintro m v1 v2 M3 ⟨hv, x3, i, rfl, i1, i2⟩
  have q : ∀ a k, ¬ ((a = 353 ∧ (k = 52 ∨ k = 65)) ∨ a = 390) → gi M3 a k = gi M a k := fun a k z => x3 a k z
  have w3 : gi M3 353 42 = (w : Int) := (q _ _ (by omega)).trans hw
  have a3 : gi M3 353 58 = (a : Int) := (q _ _ (by omega)).trans ha
  have c3 : gi M3 378 w = (rc : Int) := (q _ _ (by omega)).trans h1
  have tw : ((w : Nat) : Int).toNat = w := by omega
  have fin : w_isWell_91 v1 M3 K := by
    unfold w_isWell_91
    rw [w3, tw, c3, a3]
    refine ⟨inr_z (by omega) (by omega), fun _ => ⟨Or.inl rfl, kk 0 M3 (Or.inl rfl) x3⟩, fun _ => ⟨⟨by omega, by omega⟩, inr_z (by omega) (by omega), fun _ => ⟨Or.inl rfl, kk 0 M3 (Or.inl rfl) x3⟩, fun z => ⟨Or.inr rfl, kk 1 M3 (Or.inr ⟨rfl, by omega⟩) x3⟩⟩⟩
  show w_isWell_62b v1 (i : Int) M3 _ K
  unfold w_isWell_62b
  rw [a3, show ((i : Nat) : Int).toNat = i by omega, q 393 i (by omega)]
  refine ⟨inr_z (by omega) (by omega), fun _ => fin, fun z => ⟨inr_z (by omega) (by omega), fun _ => fin, fun _ => ⟨⟨by omega, by omega⟩, ?_⟩⟩⟩
  refine s_holds hc ((hg i (by omega)).eq (fun a k z => q a k (by unfold cdc at z; omega))) (by omega) (fun b M2 hb x2 => ⟨a - (i + 1), by omega, hb, x3.trans x2, i + 1, by omega, by omega, rfl⟩)
def biw (w a k : Nat) : Prop := a = 377 ∨ (a = 378 ∧ k = w) ∨ (a = 379 ∧ 32 * w ≤ k ∧ k < 32 * w + 32)
theorem s_bringIn {a : Nat} {K : rf_M → Prop} (hw : gi M 353 42 = (w : Int)) (hw1 : w ≤ 1) (hr : rlm M c w) (ha : gi M 353 58 = (a : Int)) (ha4 : gi M 378 w + (a : Int) ≤ 32) (hg : ∀ j, j < a → g16 M c (gi M 393 j)) (kk : ∀ M', eqx (biw w) M M' → rlm M' c w → K M') : wm_bringIn M K := by
  obtain ⟨rc, h1, h2, h3⟩ := hr
  have tw : ((w : Nat) : Int).toNat = w := by omega
  refine ⟨fun m v1 M' => eqx (fun a _ => a = 377) M M' ∧ ∃ j : Nat, v1 = (j : Int) ∧ j ≤ 16 ∧ m = 16 - j, ⟨16, eqx.rfl' M, 0, rfl, by omega, rfl⟩, ?_⟩
  rintro m v1 M1 ⟨x1, j, rfl, j1, j2⟩
  have w1 : gi M1 353 42 = (w : Int) := (x1 353 42 (by omega)).trans hw
  refine ⟨inr_z (by omega) (by omega), fun _ => ?_, fun z => ⟨fun _ => ?_, fun _ => ⟨16 - (j + 1), by omega, x1, j + 1, by omega, by omega, rfl⟩⟩⟩
  · refine ⟨fun m v1 M' => eqx (biw w) M M' ∧ ∃ j : Nat, v1 = (j : Int) ∧ j ≤ a ∧ m = a - j ∧ gi M' 378 w = ((rc + j : Nat) : Int) ∧ ∀ k, k < rc + j → g16 M' c (gi M' 379 (32 * w + k)), ⟨a, x1.mono (fun a k z => Or.inl z), 0, rfl, Nat.zero_le _, rfl, (x1 378 w (by omega)).trans h1, fun k hk => ?_⟩, ?_⟩
    · rw [x1 379 (32 * w + k) (by omega)]
      exact (h3 k hk).eq (fun a k z => x1 a k (by unfold cdc at z; omega))
    · rintro m v1 M3 ⟨x3, i, rfl, i1, i2, i3, i4⟩
      have q : ∀ a k, ¬ (a = 377 ∨ (a = 378 ∧ k = w) ∨ (a = 379 ∧ 32 * w ≤ k ∧ k < 32 * w + 32)) → gi M3 a k = gi M a k := fun a k z => x3 a k z
      have w3 : gi M3 353 42 = (w : Int) := (q _ _ (by omega)).trans hw
      have a3 : gi M3 353 58 = (a : Int) := (q _ _ (by omega)).trans ha
      show w_bringIn_66b (i : Int) M3 _ K
      unfold w_bringIn_66b
      rw [w3, a3, tw, i3, show ((i : Nat) : Int).toNat = i by omega, show (32 * (w : Int) + ((rc + i : Nat) : Int)).toNat = 32 * w + (rc + i) by omega, q 393 i (by omega)]
      refine ⟨inr_z (by omega) (by omega), fun z => kk M3 x3 ⟨rc + i, i3, by omega, i4⟩, fun z => ⟨⟨by omega, by omega⟩, ⟨by omega, by omega⟩, ⟨by omega, by omega⟩, fun M4 e4 => ?_⟩⟩
      have w4 : gi M4 353 42 = (w : Int) := by rw [e4, gi_of (by omega)]; exact w3
      have c4 : gi M4 378 w = ((rc + i : Nat) : Int) := by rw [e4, gi_of (by omega)]; exact i3
      rw [w4, tw, c4]
      refine ⟨⟨by omega, by omega⟩, ⟨by omega, by omega⟩, fun M5 e5 => ⟨a - (i + 1), by omega, ?_, i + 1, by omega, by omega, rfl, ?_, fun k hk => ?_⟩⟩
      · rw [e5, e4]
        exact (x3.wi (Or.inr (Or.inr ⟨rfl, by omega, by omega⟩))).wi (Or.inr (Or.inl ⟨rfl, rfl⟩))
      · rw [e5, gi_at (inr_z (by omega) (by omega))]; omega
      · have hz : ∀ a k, cdc a → gi M5 a k = gi M3 a k := fun a k z => by unfold cdc at z; rw [e5, gi_of (by omega), e4, gi_of (by omega)]
        by_cases hk2 : k = rc + i
        · rw [hk2, e5, gi_of (by omega), e4, gi_at (inr_gi _ _ _), ← e4, ← e5]
          refine ((hg i (by omega)).eq (fun a k z => q a k (by unfold cdc at z; omega))).eq hz
        · have : gi M5 379 (32 * w + k) = gi M3 379 (32 * w + k) := by rw [e5, gi_of (by omega), e4, gi_of (by omega)]
          rw [this]
          exact (i4 k (by omega)).eq hz
  · refine ⟨⟨by omega, by omega⟩, ⟨by omega, by omega⟩, fun M2 e2 => ?_⟩
    have w2 : gi M2 353 42 = (w : Int) := by rw [e2]; exact w1
    refine ⟨⟨by omega, by omega⟩, ⟨by omega, by omega⟩, fun M3 e3 => ⟨16 - (j + 1), by omega, ?_, j + 1, by omega, by omega, rfl⟩⟩
    rw [e3, e2]
    exact (x1.wl).wi rfl
theorem s_addRow {v1 v2 v3 v4 v5 : Int} {v6 : Int64} {r y : Nat} {K : rf_M → Prop} (hr : gi M 353 69 = (r : Int)) (hr3 : r < 300) (hv3 : v3 = (y : Int)) (hy : y < 1000) (i1 : inr v1) (kk : ∀ M', eqx (fun a k => (400 ≤ a ∧ a ≤ 404 ∧ k = r) ∨ (a = 353 ∧ k = 69)) M M' → gi M' 353 69 = (r : Int) + 1 → gi M' 400 r = v1 → gi M' 402 r = (y : Int) → K M') : wm_addRow v1 v2 v3 v4 v5 v6 M K := by
  have tr : ((r : Nat) : Int).toNat = r := by omega
  show w_addRow v1 v2 v3 v4 v5 v6 M K
  unfold w_addRow
  rw [hr, tr]
  refine ⟨⟨by omega, by omega⟩, fun M1 e1 => ?_⟩
  have r1 : gi M1 353 69 = (r : Int) := by rw [e1, gi_of (by omega)]; exact hr
  rw [r1, tr]
  refine ⟨⟨by omega, by omega⟩, fun M2 e2 => ?_⟩
  have r2 : gi M2 353 69 = (r : Int) := by rw [e2, gi_of (by omega)]; exact r1
  rw [r2, tr]
  refine ⟨⟨by omega, by omega⟩, fun M3 e3 => ?_⟩
  have r3 : gi M3 353 69 = (r : Int) := by rw [e3, gi_of (by omega)]; exact r2
  rw [r3, tr]
  refine ⟨⟨by omega, by omega⟩, fun M4 e4 => ?_⟩
  have r4 : gi M4 353 69 = (r : Int) := by rw [e4, gi_of (by omega)]; exact r3
  rw [r4, tr]
  refine ⟨⟨by omega, by omega⟩, fun M5 e5 => ?_⟩
  have r5 : gi M5 353 69 = (r : Int) := by rw [e5, gi_of (by omega)]; exact r4
  rw [r5, tr]
  refine ⟨⟨by omega, by omega⟩, fun M6 e6 M7 e7 => ?_⟩
  have r6 : gi M6 353 69 = (r : Int) := by rw [e6]; exact r5
  rw [r6] at e7
  refine kk M7 ?_ ?_ ?_ ?_
  · rw [e7, e6, e5, e4, e3, e2, e1]
    exact ((((((((eqx.rfl' M).wi (Or.inl ⟨by omega, by omega, rfl⟩)).wi (Or.inl ⟨by omega, by omega, rfl⟩)).wi (Or.inl ⟨by omega, by omega, rfl⟩)).wi (Or.inl ⟨by omega, by omega, rfl⟩)).wi (Or.inl ⟨by omega, by omega, rfl⟩)).wl)).wi (Or.inr ⟨rfl, rfl⟩)
  · rw [e7, gi_at (inr_z (by omega) (by omega))]
  · rw [e7, gi_of (by omega), e6, gi_wl, e5, gi_of (by omega), e4, gi_of (by omega), e3, gi_of (by omega), e2, gi_of (by omega), e1, gi_at i1]
  · rw [e7, gi_of (by omega), e6, gi_wl, e5, gi_of (by omega), e4, gi_of (by omega), e3, hv3, gi_at (inr_z (by omega) (by omega))]
theorem rwm_add {r y : Nat} {v1 : Int} (hm : rwm M c) (hr : gi M 353 69 = (r : Int)) (hr3 : r < 300) (hx : eqx (fun a k => (400 ≤ a ∧ a ≤ 404 ∧ k = r) ∨ (a = 353 ∧ k = 69)) M M') (h1 : gi M' 353 69 = (r : Int) + 1) (h2 : gi M' 400 r = v1) (h3 : gi M' 402 r = (y : Int)) (h4 : (v1 = 0 ∧ y < 16) ∨ (¬ v1 = 0 ∧ y < c)) : rwm M' c := by
  obtain ⟨r0, a1, a2, a3⟩ := hm
  have : r0 = r := by omega
  subst this
  refine ⟨r0 + 1, by rw [h1]; omega, by omega, fun i hi => ?_⟩
  by_cases hir : i = r0
  · rw [hir]
    exact ⟨y, h3, by rw [h2]; exact h4⟩
  · obtain ⟨x, b1, b2⟩ := a3 i (by omega)
    refine ⟨x, ?_, ?_⟩
    · rw [hx 402 i (by omega)]; exact b1
    · rw [hx 400 i (by omega)]; exact b2
theorem s_bringRead {K : rf_M → Prop} (hl : l < 8) (kk : ∀ M', eqx vww M M' → K M') : wm_bringRead (l : Int) M K := by
  refine ⟨⟨by omega, by omega⟩, fun M1 e1 => ?_⟩
  refine ⟨fun m v1 v2 M' => v1 = (l : Int) ∧ eqx vww M M' ∧ ∃ j : Nat, v2 = (j : Int) ∧ j ≤ 16 ∧ m = 16 - j, ⟨16, rfl, by rw [e1]; exact (eqx.rfl' M).wi (Or.inl ⟨rfl, Or.inl rfl⟩), 0, rfl, by omega, rfl⟩, ?_⟩
  rintro m v1 v2 M2 ⟨rfl, x2, j, rfl, j1, j2⟩
  exact ⟨inr_z (by omega) (by omega), fun _ => kk M2 x2, fun z => ⟨⟨by omega, by omega⟩, ⟨by omega, by omega⟩, fun M3 e3 => ⟨⟨by omega, by omega⟩, ⟨by omega, by omega⟩, fun M4 e4 => ⟨16 - (j + 1), by omega, rfl, by rw [e4, e3]; exact (x2.wl).wi (Or.inr rfl), j + 1, by omega, by omega, rfl⟩⟩⟩⟩
theorem s_keepRead {K : rf_M → Prop} (hl : l < 8) (kk : ∀ M', eqx (fun a _ => a = 386 ∨ a = 388) M M' → K M') : wm_keepRead (l : Int) M K := by
  refine ⟨⟨by omega, by omega⟩, fun M1 e1 => ?_⟩
  refine ⟨fun m v1 v2 M' => v1 = (l : Int) ∧ eqx (fun a _ => a = 386 ∨ a = 388) M M' ∧ ∃ j : Nat, v2 = (j : Int) ∧ j ≤ 16 ∧ m = 16 - j, ⟨16, rfl, by rw [e1]; exact (eqx.rfl' M).wi (Or.inl rfl), 0, rfl, by omega, rfl⟩, ?_⟩
  rintro m v1 v2 M2 ⟨rfl, x2, j, rfl, j1, j2⟩
  exact ⟨inr_z (by omega) (by omega), fun _ => kk M2 x2, fun z => ⟨⟨by omega, by omega⟩, ⟨by omega, by omega⟩, fun M3 e3 => ⟨⟨by omega, by omega⟩, ⟨by omega, by omega⟩, fun M4 e4 => ⟨16 - (j + 1), by omega, rfl, by rw [e4, e3]; exact (x2.wl).wi (Or.inr rfl), j + 1, by omega, by omega, rfl⟩⟩⟩⟩
theorem s_beginWalk {K : rf_M → Prop} (hb : bfm M c) (ht : t < c) (kk : ∀ M', eqx (fun a k => a = 353 ∧ (k = 55 ∨ k = 58 ∨ k = 60)) M M' → wkk M' c t 0 → K M') : wm_beginWalk (t : Int) M K := by
  have hc := hb.1
  have tt : ((t : Nat) : Int).toNat = t := by omega
  obtain ⟨n, cc, h1, h2, h3, h4, h5, h6⟩ := hb.2 t ht
  intro M1 e1 M2 e2
  have x2 : eqx (fun a k => a = 353 ∧ (k = 55 ∨ k = 58 ∨ k = 60)) M M2 := by
    rw [e2, e1]
    exact ((eqx.rfl' M).wi ⟨rfl, Or.inl rfl⟩).wi ⟨rfl, Or.inr (Or.inl rfl)⟩
  have a2 : gi M2 353 58 = 0 := by rw [e2, gi_at (inr_z (by omega) (by omega))]
  refine ⟨fun m v1 v2 M' => v1 = (t : Int) ∧ si M2 M' ∧ ∃ j : Nat, v2 = (j : Int) ∧ j ≤ 10 ∧ m = 10 - j, ⟨10, rfl, fun _ _ => rfl, 0, rfl, by omega, rfl⟩, ?_⟩
  rintro m v1 v2 M3 ⟨rfl, s3, j, rfl, j1, j2⟩
  refine ⟨inr_z (by omega) (by omega), fun _ => ⟨⟨by omega, by omega⟩, fun M4 e4 => ?_⟩, fun z => ⟨⟨by omega, by omega⟩, fun M4 e4 => ⟨10 - (j + 1), by omega, rfl, fun a k => by rw [e4]; exact s3 a k, j + 1, by omega, by omega, rfl⟩⟩⟩
  rw [tt] at e4
  have x4 : eqx (fun a k => a = 353 ∧ (k = 55 ∨ k = 58 ∨ k = 60)) M M4 := by
    rw [e4]
    exact (x2.trans (fun a k _ => s3 a k)).wi ⟨rfl, Or.inr (Or.inr rfl)⟩
  have f358 : gi M3 358 t = gi M 358 t := (s3 _ _).trans (x2 _ _ (by omega))
  refine kk M4 x4 ⟨n, 0, Nat.le_refl _, ⟨ht, (x4 _ _ (by omega)).trans h1, fun j hj => absurd hj (Nat.not_lt_zero _), 0, ?_, Nat.le_refl _⟩, ?_⟩
  · rw [e4, gi_of (by omega), s3]; exact a2
  · have g60 : gi M4 353 60 = gi M 358 t := by rw [e4, gi_at (inr_gi _ _ _), f358]
    rw [g60]
    rcases h6 with z | ⟨x, x1, x2', x3, x5⟩
    · exact Or.inl z
    · refine Or.inr ⟨x, x1, fun y => y = x, rfl, fun y hy => ?_⟩
      subst hy
      refine ⟨⟨x2', x3⟩, fun p hp => ?_⟩
      rw [x4 362 y (by omega), x5] at hp
      omega
def wlw (a k : Nat) : Prop := stw a k ∨ (a = 353 ∧ k = 42)
theorem s_walkAnew {s : Nat} {K : rf_M → Prop} (hb : bfm M c) (hl : l < 8) (hq : gi M 380 (16 * l) = (t : Int)) (ht : t < c) (hs : gi M 383 l = (s : Int)) (hs3 : s ≤ 300) (kk : ∀ M', eqx wlw M M' → gi M' 353 42 = 0 → wkk M' c t s → K M') : wm_walkAnew (l : Int) M K := by
  intro M1 e1
  have x1 : eqx wlw M M1 := by rw [e1]; exact (eqx.rfl' M).wi (Or.inr ⟨rfl, rfl⟩)
  have w1 : gi M1 353 42 = 0 := by rw [e1, gi_at (inr_z (by omega) (by omega))]
  refine s_bringRead hl (fun M2 y2 => ?_)
  have x2 : eqx wlw M M2 := x1.trans (y2.mono (fun a k z => by
    rcases z with z | z
    · exact Or.inl (Or.inl ⟨z.1, by have := z.2; omega⟩)
    · exact Or.inl (Or.inr (Or.inl z))))
  have w2 : gi M2 353 42 = 0 := (y2 353 42 (by unfold vww; omega)).trans w1
  have nw : ∀ {a k : Nat}, ¬ (a = 353 ∨ a = 390 ∨ a = 393 ∨ a = 394 ∨ a = 397) → ¬ wlw a k := fun z w => by unfold wlw stw at w; omega
  refine ⟨⟨by omega, by omega⟩, ?_⟩
  rw [show (16 * (l : Int)).toNat = 16 * l by omega, x2 380 (16 * l) (nw (by omega)), hq]
  refine s_beginWalk (hb.eq (fun a k z => x2 a k (nw (by unfold cdc at z; omega)))) ht (fun M4 y4 k4 => ?_)
  have x4 : eqx wlw M M4 := x2.trans (y4.mono (fun a k z => Or.inl (Or.inl ⟨z.1, by have := z.2; omega⟩)))
  have w4 : gi M4 353 42 = 0 := (y4 353 42 (by omega)).trans w2
  refine ⟨fun m v1 v2 M' => v1 = (l : Int) ∧ eqx wlw M M' ∧ gi M' 353 42 = 0 ∧ ∃ j : Nat, v2 = (j : Int) ∧ j ≤ s ∧ m = s - j ∧ wkk M' c t j, ⟨s, rfl, x4, w4, 0, rfl, Nat.zero_le _, rfl, k4⟩, ?_⟩
  rintro m v1 v2 M5 ⟨rfl, x5, w5, j, rfl, j1, j2, k5⟩
  show w_walkAnew_21b (l : Int) (j : Int) M5 _ K
  unfold w_walkAnew_21b
  rw [show ((l : Nat) : Int).toNat = l by omega, x5 383 l (nw (by omega)), hs]
  refine ⟨⟨by omega, by omega⟩, inr_z (by omega) (by omega), fun z => kk M5 x5 w5 (by rw [show s = j by omega]; exact k5), fun z => ?_⟩
  refine s_step (hb.eq (fun a k z => x5 a k (nw (by unfold cdc at z; omega)))) (Or.inl w5) k5 (by omega) (fun z M6 _ _ y6 k6 => ⟨s - (j + 1), by omega, rfl, x5.trans (y6.mono (fun a k z => Or.inl z)), (y6 353 42 (by unfold stw; omega)).trans w5, j + 1, by omega, by omega, rfl, k6⟩)
theorem s_isHeld {K : Int → rf_M → Prop} (hl : l < 8) (k0 : K 0 M) (k1 : K 1 M) : wm_isHeld (l : Int) M K := by
  refine ⟨fun m v1 v2 v3 M' => v1 = (l : Int) ∧ (v2 = 0 ∨ v2 = 1) ∧ M' = M ∧ ∃ j : Nat, v3 = (j : Int) ∧ j ≤ 8 ∧ m = 8 - j, ⟨8, rfl, Or.inl rfl, rfl, 0, rfl, by omega, rfl⟩, ?_⟩
  rintro m v1 v2 v3 M1 ⟨rfl, hv, rfl, j, rfl, j1, j2⟩
  have nx : ¬ 8 ≤ (j : Int) → ∀ s0 : Int, (s0 = 0 ∨ s0 = 1) → ∃ m', m' < m ∧ (((l : Int) = (l : Int)) ∧ (s0 = 0 ∨ s0 = 1) ∧ M1 = M1 ∧ ∃ j' : Nat, (j : Int) + 1 = (j' : Int) ∧ j' ≤ 8 ∧ m' = 8 - j') := fun z s0 h0 => ⟨8 - (j + 1), by omega, rfl, h0, rfl, j + 1, by omega, by omega, rfl⟩
  refine ⟨inr_z (by omega) (by omega), fun _ => ⟨inr_z (by omega) (by omega), fun _ => ⟨Or.inl rfl, k0⟩, fun _ => ⟨⟨by omega, by omega⟩, fun _ => ⟨Or.inr rfl, k1⟩, fun _ => ⟨Or.inl rfl, k0⟩⟩⟩, fun z => ⟨inr_z (by omega) (by omega), fun _ => ⟨inr_z (by omega) (by omega), inr_z (by omega) (by omega), fun _ => nx z 0 (Or.inl rfl), fun _ => ⟨⟨by omega, by omega⟩, fun _ => nx z 0 (Or.inl rfl), fun _ => nx z 1 (Or.inr rfl)⟩⟩, fun _ => nx z 1 (Or.inr rfl)⟩⟩
theorem s_cutRun {K : Int → rf_M → Prop} (hl : l < 8) (kk : ∀ M', eqx (fun a k => a = 382 ∨ (a = 383 ∧ k = l) ∨ (384 ≤ a ∧ a ≤ 386)) M M' → gi M' 383 l = 0 → K 3 M') : wm_cutRun (l : Int) M K := by
  have tl : ((l : Nat) : Int).toNat = l := by omega
  have hin : 0 ≤ (l : Int) ∧ (l : Int) < 8 := ⟨by omega, by omega⟩
  show w_cutRun (l : Int) M K
  unfold w_cutRun
  rw [tl]
  refine ⟨hin, fun M1 e1 => ⟨hin, fun M2 e2 => ⟨hin, fun M3 e3 => ⟨hin, hin, fun M4 e4 => ?_⟩⟩⟩⟩
  have fin : ∀ s2 : Int, w_cutRun_60 (l : Int) s2 M4 K := fun s2 => ⟨hin, fun M5 e5 => kk M5 (by
    rw [e5, e4, e3, e2, e1]
    exact (((((eqx.rfl' M).wi (Or.inl rfl)).wi (Or.inr (Or.inl ⟨rfl, rfl⟩))).wi (Or.inr (Or.inr ⟨by omega, by omega⟩))).wi (Or.inr (Or.inr ⟨by omega, by omega⟩))).wi (Or.inr (Or.inr ⟨by omega, by omega⟩))) (by
    rw [e5, gi_of (by omega), e4, gi_of (by omega), e3, gi_of (by omega), e2, gi_at (inr_z (by omega) (by omega))])⟩
  exact ⟨hin, fun _ => ⟨hin, fun _ => fin 0, fun _ => fin 1⟩, fun _ => fin 1⟩
end WD
