def y_open (T : tK) (e : Int × Int) (s : pS) (ks : List (Int × Int)) : pS × List (Int × Int) := if p_is T 123 s = true ∧ ks.length < 8 then (p_dp (ks.length + 1) (p_adv T s), e :: ks) else (p_bad s, ks)
def y_step (T : tK) (s : pS) (ks : List (Int × Int)) : pS × List (Int × Int) :=
  if (kd T s.1).toInt = 125 then (match ks with
    | [] => (p_bad s, ks)
    | e :: r => if e.2 = 1 ∨ e.1 = 12 then (p_adv T s, r) else if e.1 = 10 then (if p_is T 11 (p_adv T s) = true then y_open T (10, 1) (p_adv T (p_adv T s)) r else (p_adv T s, r)) else if e.1 = 15 then y_open T (15, 1) (p_ex T 16 (p_adv T s)) r else y_open T (17, 1) (p_loc T (p_ex T 18 (p_adv T s))) r)
  else if p_beg (kd T s.1) = true ∧ s.2.2.1 < 40 then
    (if (kd T s.1).toInt = 1 ∨ (kd T s.1).toInt = 13 ∨ (kd T s.1).toInt = 14 ∨ (kd T s.1).toInt = 19 then (p_st1 T id (kd T s.1) (p_adv T (p_c1 s)), ks) else y_open T ((kd T s.1).toInt, 0) (p_if T (kd T s.1) (p_adv T (p_c1 s))) ks)
  else (p_bad s, ks)
/-- between two statements: ex: those that aren't done; e: exps so far -/
def yq (T : tK) (r : Nat) (M0 M : rf_M) (s : pS) (ks : List (Int × Int)) (ex : Nat → Prop) (e : Nat) : Prop :=
  (mtk M T s.1 ∧ gi M 353 28 = (r : Int) ∧ r < 12 ∧ eqx (tew r) M0 M ∧ gi M 353 9 = 0) ∧ (s.2.1 = false ∧ s.2.2.2.2.2 = true) ∧
  (gi M 355 r = (s.2.2.1 : Int) ∧ s.2.2.1 ≤ 40 ∧ gi M 356 r = (s.2.2.2.1 : Int) ∧ s.2.2.2.1 ≤ 60 ∧ gi M 357 r = (s.2.2.2.2.1 : Int) ∧ s.2.2.2.2.1 ≤ 8) ∧
  (∃ c : Nat, gi M 359 r = (c : Int) ∧ c ≤ 2 * s.2.2.2.1 + e ∧ ∀ x, 40 * r ≤ x → x < 40 * r + s.2.2.1 → ¬ ex x → zs2 M r c x) ∧
  (∀ x, 40 * r ≤ x → x < 40 * r + s.2.2.1 → zs1 M r s.2.2.1 x ∧ (¬ ex x → trl M ks.length x)) ∧ fst_ M r s.2.2.1 ∧
  (gi M 353 37 = (ks.length : Int) ∧ ks.length ≤ 8 ∧ stk M r s.2.2.1 ks) ∧ e ≤ s.2.2.1
def yb (T : tK) (r : Nat) (M0 M : rf_M) : Prop := (∃ i, mtk M T i) ∧ gi M 353 28 = (r : Int) ∧ eqx (tew r) M0 M ∧ gi M 353 9 = 1
/-- what yq looks at -/
def ylk (a k : Nat) : Prop := (a = 353 ∧ (k = 28 ∨ k = 9 ∨ k = 37)) ∨ (355 ≤ a ∧ a ≤ 369) ∨ (373 ≤ a ∧ a ≤ 375)
section YB
variable {M M' M0 : rf_M} {T : tK} {i r e : Nat} {s : pS} {ks : List (Int × Int)} {ex : Nat → Prop} {K : rf_M → Prop}
theorem trl.eq {w w' x : Nat} (h : trl M w x) (hw : w ≤ w') (q : gi M' 360 x = gi M 360 x ∧ gi M' 367 x = gi M 367 x) (q2 : ∀ j, 1 ≤ j → j ≤ w → gi M' 373 j = gi M 373 j ∧ gi M' 374 j = gi M 374 j) : trl M' w' x := by
  unfold trl
  rw [q.1, q.2]
  intro z
  rcases h z with w | ⟨j, j1, j2, j3, j4⟩
  · exact Or.inl w
  · exact Or.inr ⟨j, j1, by omega, (q2 j j1 j2).1.trans j3, (q2 j j1 j2).2.trans j4⟩
theorem yq.keep (h : yq T r M0 M s ks ex e) (hm : mtk M' T i) (q : ∀ a k, ylk a k → gi M' a k = gi M a k) (hx : eqx (tew r) M M') : yq T r M0 M' (i, s.2) ks ex e := by
  obtain ⟨⟨a1, a2, a3, a4, a5⟩, b, ⟨c1, c2, c3, c4, c5, c6⟩, ⟨c, d1, d2, d3⟩, f, g, ⟨g1, g2, g3⟩, h8⟩ := h
  have q' : ∀ a k, (a = 353 ∧ (k = 28 ∨ k = 9 ∨ k = 37)) ∨ (355 ≤ a ∧ a ≤ 369) ∨ (373 ≤ a ∧ a ≤ 375) → gi M' a k = gi M a k := q
  refine ⟨⟨hm, (q' _ _ (by omega)).trans a2, a3, a4.trans hx, (q' _ _ (by omega)).trans a5⟩, b, ⟨(q' _ _ (by omega)).trans c1, c2, (q' _ _ (by omega)).trans c3, c4, (q' _ _ (by omega)).trans c5, c6⟩, ⟨c, (q' _ _ (by omega)).trans d1, d2, fun x x1 x2 x3 => (d3 x x1 x2 x3).eq (Nat.le_refl _) (fun a ha => q' _ _ (by omega)) (fun k hk => ⟨q' _ _ (by omega), q' _ _ (by omega)⟩)⟩, fun x x1 x2 => ⟨(f x x1 x2).1.eq (Nat.le_refl _) x2 (fun k hk a ha => q' _ _ (by omega)), fun z => ((f x x1 x2).2 z).eq (Nat.le_refl _) ⟨q' _ _ (by omega), q' _ _ (by omega)⟩ (fun j _ _ => ⟨q' _ _ (by omega), q' _ _ (by omega)⟩)⟩, ?_, ⟨(q' _ _ (by omega)).trans g1, g2, g3.eq (Nat.le_refl _) (fun k hk => ⟨q' _ _ (by omega), q' _ _ (by omega), q' _ _ (by omega)⟩) (fun j hj a ha => q' _ _ (by omega))⟩, h8⟩
  unfold fst_
  rw [q' 358 r (by omega)]
  exact g.imp (fun x z => ⟨z.1, z.2.1, by rw [q' 362 x (by omega)]; exact z.2.2⟩)
theorem yq.nx (h : yq T r M0 M s ks ex e) (hx : eqx nxw M M') (hm : mtk M' T i) : yq T r M0 M' (i, s.2) ks ex e := by
  refine h.keep hm (fun a k z => hx a k (fun w => ?_)) (hx.mono (fun a k z => Or.inl ⟨z.1, Or.inl ⟨z.2.1, by have := z.2.2; omega⟩⟩))
  unfold ylk at z
  unfold nxw at w
  omega
theorem s_bad (h : yq T r M0 M s ks ex e) (kb : ∀ M', yb T r M0 M' → K M') : wm_misplaced M K := by
  refine s_misplaced (Or.inl h.1.2.2.2.2) (fun M' hx hb => kb M' ⟨⟨s.1, h.1.1.eq (fun a k z => hx a k (by omega))⟩, (hx 353 28 (by omega)).trans h.1.2.1, h.1.2.2.2.1.trans (hx.mono (fun a k z => Or.inl ⟨z.1, Or.inl (by have := z.2; omega)⟩)), hb⟩)
theorem s_badb (h : yb T r M0 M) (kb : ∀ M', yb T r M0 M' → K M') : wm_misplaced M K := by
  obtain ⟨⟨i, h1⟩, h2, h3, h4⟩ := h
  refine s_misplaced (Or.inr h4) (fun M' hx hb => kb M' ⟨⟨i, h1.eq (fun a k z => hx a k (by omega))⟩, (hx 353 28 (by omega)).trans h2, h3.trans (hx.mono (fun a k z => Or.inl ⟨z.1, Or.inl (by have := z.2; omega)⟩)), hb⟩)
theorem kd_lt20 {c : Int32} (hc : 10 ≤ c.toInt) (h : kd T i = c) : i < T.length := kd_lt (by rw [h]; omega)
/-- take(c), without a fault so far -/
theorem s_take {c : Int32} (h : yq T r M0 M s ks ex e) (hc : 20 ≤ c.toInt) (kg : p_is T c s = true → ∀ M', yq T r M0 M' (p_adv T s) ks ex e → eqx nxw M M' → K M') (kb : p_is T c s = false → ∀ M', yb T r M0 M' → K M') : wm_take c.toInt M K := by
  refine s_isSign h.1.1 hc (fun z => ⟨inr_z (by omega) (by omega), fun w => absurd w (by omega), fun _ => ⟨fun _ => ?_, fun w => absurd h.1.2.2.2.2 w⟩⟩) (fun z => ⟨inr_z (by omega) (by omega), fun _ => ?_, fun w => absurd rfl w⟩)
  · have hi := kd_lt20 (by omega) z
    refine s_next' h.1.1 hi (fun M' hx hm => kg (p_is_iff.mpr ⟨h.2.1.2, by rw [z]⟩) M' ?_ hx)
    rw [p_adv_lt hi]
    exact h.nx hx hm
  · refine s_bad h (fun M' hb => ⟨fun w => absurd hb.2.2.2 (by omega), fun _ => kb ?_ M' hb⟩)
    cases hp : p_is T c s with
    | false => rfl
    | true => exact absurd (i32_eq.mpr (p_is_iff.mp hp).2) z
theorem s_takeb {c : Int32} (h : yb T r M0 M) (hc : 20 ≤ c.toInt) (kb : ∀ M', yb T r M0 M' → K M') : wm_take c.toInt M K := by
  have h' := h
  obtain ⟨⟨i, h1⟩, h2, h3, h4⟩ := h'
  refine s_isSign h1 hc (fun z => ⟨inr_z (by omega) (by omega), fun w => absurd w (by omega), fun _ => ⟨fun w => absurd w (by omega), fun _ => kb M h⟩⟩) (fun z => ⟨inr_z (by omega) (by omega), fun _ => s_badb h (fun M' hb => ⟨fun w => absurd hb.2.2.2 (by omega), fun _ => kb M' hb⟩), fun w => absurd rfl w⟩)
theorem s_takeWord {w : Int} {c : Int32} (h : yq T r M0 M s ks ex e) (hc : c.toInt = 10 + w) (hw : 0 ≤ w ∧ w ≤ 9) (kg : p_is T c s = true → ∀ M', yq T r M0 M' (p_adv T s) ks ex e → eqx nxw M M' → K M') (kb : p_is T c s = false → ∀ M', yb T r M0 M' → K M') : wm_takeWord w M K := by
  have tk := h.1.1.2.2
  have hk := (tkm_iff tk.2.2.2).2.2.2.2.1 (10 + w) (by omega) (by omega)
  refine ⟨inr_z (by omega) (by omega), fun z => ⟨fun _ => ?_, fun q => absurd h.1.2.2.2.2 q⟩, fun z => ?_⟩
  · have hkc : (kd T s.1).toInt = c.toInt := by rw [hc]; exact hk.mp (tk.1.symm.trans z)
    have hi : s.1 < T.length := kd_lt (by omega)
    refine s_next' h.1.1 hi (fun M' hx hm => kg (p_is_iff.mpr ⟨h.2.1.2, hkc⟩) M' ?_ hx)
    rw [p_adv_lt hi]
    exact h.nx hx hm
  · refine s_bad h (fun M' hb => ⟨fun q => absurd hb.2.2.2 (by omega), fun _ => kb ?_ M' hb⟩)
    cases hp : p_is T c s with
    | false => rfl
    | true => exact absurd (tk.1.trans (hk.mpr (by rw [← hc]; exact (p_is_iff.mp hp).2))) z
/-- openBody(x0, which) -/
theorem s_openBody {x0 : Nat} {p : Int × Int} (h : yq T r M0 M s ks ex e) (ho : gi M 360 x0 = p.1 - 10) (h1 : 40 * r ≤ x0) (h2 : x0 < 40 * r + s.2.2.1) (hp1 : p.1 = 10 ∨ p.1 = 12 ∨ p.1 = 15 ∨ p.1 = 17) (hp2 : p.2 = 0 ∨ p.2 = 1)
    (kg : (p_is T 123 s = true ∧ ks.length < 8) → ∀ M', yq T r M0 M' (p_dp (ks.length + 1) (p_adv T s)) (p :: ks) ex e → (∀ a k, 358 ≤ a → a ≤ 369 → gi M' a k = gi M a k) → gi M' 373 (ks.length + 1) = (x0 : Int) → gi M' 374 (ks.length + 1) = p.2 → K M') (kb : ¬ (p_is T 123 s = true ∧ ks.length < 8) → ∀ M', yb T r M0 M' → K M') : wm_openBody (x0 : Int) p.2 M K := by
  have h0 := h
  obtain ⟨⟨a1, a2, a3, a4, a5⟩, b, ⟨c1, c2, c3, c4, c5, c6⟩, ⟨c, d1, d2, d3⟩, f, g, ⟨g1, g2, g3⟩, h8⟩ := h
  have h123 := (show (123 : Int32).toInt = 123 from rfl)
  have hno : ¬ kd T s.1 = 123 → ¬ (p_is T 123 s = true ∧ ks.length < 8) := fun z w => z (i32_eq.mpr (p_is_iff.mp w.1).2)
  show wm_isSign 123 M _
  rw [← h123]
  refine s_isSign a1 (by decide) (fun z => ⟨inr_z (by omega) (by omega), fun w => absurd w (by omega), fun _ => ⟨fun w => s_bad h0 (kb (fun q => by omega)), fun w M2 e2 => ?_⟩⟩) (fun z => ⟨inr_z (by omega) (by omega), fun _ => s_bad h0 (kb (hno z)), fun w => absurd rfl w⟩)
  have hlt : ks.length < 8 := by omega
  have hi := kd_lt20 (by decide) z
  have hg : p_is T 123 s = true ∧ ks.length < 8 := ⟨p_is_iff.mpr ⟨b.2, by rw [z]⟩, hlt⟩
  have r2 : gi M2 353 28 = (r : Int) := by rw [e2, gi_of (by omega)]; exact a2
  have er : (gi M2 353 28).toNat = r := by rw [r2]; omega
  have w2 : gi M2 353 37 = (ks.length : Int) + 1 := by rw [e2, g1, gi_at (inr_z (by omega) (by omega))]
  have t2 : gi M2 357 r = (s.2.2.2.2.1 : Int) := by rw [e2, gi_of (by omega)]; exact c5
  have fin : ∀ (z2 : Int), z2 = ((max s.2.2.2.2.1 (ks.length + 1) : Nat) : Int) → w_openBody_73 (x0 : Int) p.2 (r : Int) z2 M2 K := by
    intro z2 hz2
    refine ⟨⟨by omega, by omega⟩, fun M3 e3 => ?_⟩
    rw [show ((r : Nat) : Int).toNat = r by omega] at e3
    have w3 : gi M3 353 37 = (ks.length : Int) + 1 := by rw [e3, gi_of (by omega)]; exact w2
    refine ⟨⟨by omega, by omega⟩, fun M4 e4 => ?_⟩
    rw [w3, show ((ks.length : Int) + 1).toNat = ks.length + 1 by omega] at e4
    have w4 : gi M4 353 37 = (ks.length : Int) + 1 := by rw [e4, gi_of (by omega)]; exact w3
    refine ⟨⟨by omega, by omega⟩, fun M5 e5 => ?_⟩
    rw [w4, show ((ks.length : Int) + 1).toNat = ks.length + 1 by omega] at e5
    have w5 : gi M5 353 37 = (ks.length : Int) + 1 := by rw [e5, gi_of (by omega)]; exact w4
    refine ⟨⟨by omega, by omega⟩, fun M6 e6 => ?_⟩
    rw [w5, show ((ks.length : Int) + 1).toNat = ks.length + 1 by omega] at e6
    have g6 : ∀ a k, ¬ (a = 353 ∧ k = 37) → ¬ (a = 357 ∧ k = r) → ¬ ((a = 373 ∨ a = 374 ∨ a = 375) ∧ k = ks.length + 1) → gi M6 a k = gi M a k := fun a k y1 y2 y3 => by
      rw [e6, gi_of (by omega), e5, gi_of (by omega), e4, gi_of (by omega), e3, gi_of (by omega), e2, gi_of (by omega)]
    have f37 : gi M6 353 37 = (ks.length : Int) + 1 := by rw [e6, gi_of (by omega)]; exact w5
    have f357 : gi M6 357 r = z2 := by rw [e6, gi_of (by omega), e5, gi_of (by omega), e4, gi_of (by omega), e3, gi_at (by rw [hz2]; exact inr_z (by omega) (by omega))]
    have f373 : gi M6 373 (ks.length + 1) = (x0 : Int) := by rw [e6, gi_of (by omega), e5, gi_of (by omega), e4, gi_at (inr_z (by omega) (by omega))]
    have f374 : gi M6 374 (ks.length + 1) = p.2 := by rw [e6, gi_of (by omega), e5, gi_at (inr_z (by omega) (by omega))]
    have f375 : gi M6 375 (ks.length + 1) = -1 := by rw [e6, gi_at (inr_z (by omega) (by omega))]
    clear e2 e3 e4 e5 e6 w2 w3 w4 w5 r2 er t2
    have hm6 : mtk M6 T s.1 := a1.eq (fun a k y => g6 a k (by omega) (by omega) (by omega))
    have hy : yq T r M0 M6 (p_dp (ks.length + 1) s) (p :: ks) ex e := by
      refine ⟨⟨hm6, (g6 _ _ (by omega) (by omega) (by omega)).trans a2, a3, fun a k y => ?_, (g6 _ _ (by omega) (by omega) (by omega)).trans a5⟩, b, ⟨(g6 _ _ (by omega) (by omega) (by omega)).trans c1, c2, (g6 _ _ (by omega) (by omega) (by omega)).trans c3, c4, f357.trans hz2, by show max s.2.2.2.2.1 (ks.length + 1) ≤ 8; omega⟩, ⟨c, (g6 _ _ (by omega) (by omega) (by omega)).trans d1, d2, fun x x1 x2 x3 => (d3 x x1 x2 x3).eq (Nat.le_refl _) (fun a ha => g6 _ _ (by omega) (by omega) (by omega)) (fun k hk => ⟨g6 _ _ (by omega) (by omega) (by omega), g6 _ _ (by omega) (by omega) (by omega)⟩)⟩, fun x x1 x2 => ⟨(f x x1 x2).1.eq (Nat.le_refl _) x2 (fun k hk a ha => g6 _ _ (by omega) (by omega) (by omega)), fun y => ((f x x1 x2).2 y).eq (by simp) ⟨g6 _ _ (by omega) (by omega) (by omega), g6 _ _ (by omega) (by omega) (by omega)⟩ (fun j _ _ => ⟨g6 _ _ (by omega) (by omega) (by omega), g6 _ _ (by omega) (by omega) (by omega)⟩)⟩, ?_, ⟨by rw [f37]; simp, by simp; omega, ⟨x0, f373, h1, h2, (g6 _ _ (by omega) (by omega) (by omega)).trans ho⟩, hp1, f374, hp2, Or.inl f375, g3.eq (Nat.le_refl _) (fun k hk => ⟨g6 _ _ (by omega) (by omega) (by omega), g6 _ _ (by omega) (by omega) (by omega), g6 _ _ (by omega) (by omega) (by omega)⟩) (fun j hj a ha => g6 _ _ (by omega) (by omega) (by omega))⟩, h8⟩
      · unfold tew at y
        exact (g6 a k (by omega) (by omega) (by omega)).trans (a4 a k (by unfold tew; omega))
      · show fst_ M6 r s.2.2.1
        unfold fst_
        rw [g6 358 r (by omega) (by omega) (by omega)]
        exact g.imp (fun x y => ⟨y.1, y.2.1, by rw [g6 362 x (by omega) (by omega) (by omega)]; exact y.2.2⟩)
    refine s_next' hm6 hi (fun M7 x7 hm7 => ?_)
    have q7 : ∀ a k, ¬ (a = 353 ∧ 3 ≤ k ∧ k ≤ 8) → gi M7 a k = gi M6 a k := fun a k y => x7 a k y
    refine kg hg M7 ?_ (fun a k y1 y2 => (q7 _ _ (by omega)).trans (g6 _ _ (by omega) (by omega) (by omega))) ((q7 _ _ (by omega)).trans f373) ((q7 _ _ (by omega)).trans f374)
    rw [p_adv_lt hi]
    exact hy.nx x7 hm7
  rw [er, r2, w2, t2]
  refine ⟨⟨by omega, by omega⟩, fun q => ⟨⟨by omega, by omega⟩, fin _ (by omega)⟩, fun q => fin _ (by omega)⟩
end YB
section YC
variable {M M' M0 : rf_M} {T : tK} {i r e x0 : Nat} {s : pS} {ks : List (Int × Int)} {ex : Nat → Prop} {K : rf_M → Prop}
theorem p_ex_bad {t : Int32} (h : s.2.2.2.2.2 = false) : (p_ex T t s).2.2.2.2.2 = false := by
  unfold p_ex
  have : p_is T t s = false := by unfold p_is; rw [h]; rfl
  rw [this]; rfl
theorem p_loop_bad {c : pS → Bool} {g : pS → pS} (hc : ∀ s, s.2.2.2.2.2 = false → c s = false) (f : Nat) (h : s.2.2.2.2.2 = false) : p_loop c g f s = s := by
  cases f with
  | zero => rfl
  | succ f =>
    show (if c s = true then _ else s) = s
    rw [hc s h]; rfl
theorem p_is_bad {t : Int32} (h : s.2.2.2.2.2 = false) : p_is T t s = false := by unfold p_is; rw [h]; rfl
theorem p_un_bad (f : Nat) (h : s.2.2.2.2.2 = false) : (p_un T f s).2.2.2.2.2 = false := by
  cases f with
  | zero => unfold p_un; rw [if_pos (Or.inl h)]; rfl
  | succ f => unfold p_un; rw [if_pos (Or.inl h)]; rfl
theorem p_expr_bad {U : pS → pS} (hU : ∀ s, s.2.2.2.2.2 = false → (U s).2.2.2.2.2 = false) (h : s.2.2.2.2.2 = false) : (p_expr T U s).2.2.2.2.2 = false := by
  have hp : ∀ s, s.2.2.2.2.2 = false → (p_prod T U s).2.2.2.2.2 = false := fun s h => by
    unfold p_prod
    rw [p_loop_bad (fun s h => by unfold p_m; rw [p_is_bad h, p_is_bad h, p_is_bad h]; rfl) _ (hU s h)]
    exact hU s h
  have hs : ∀ s, s.2.2.2.2.2 = false → (p_sum T U s).2.2.2.2.2 = false := fun s h => by
    unfold p_sum
    rw [p_loop_bad (fun s h => by unfold p_a; rw [p_is_bad h, p_is_bad h]; rfl) _ (hp s h)]
    exact hp s h
  unfold p_expr
  have : p_c T (p_sum T U s) = false := by unfold p_c; rw [p_is_bad (hs s h), p_is_bad (hs s h), p_is_bad (hs s h)]; rfl
  rw [this]
  exact hs s h
theorem p_exq_bad (h : s.2.2.2.2.2 = false) : (p_exq T s).2.2.2.2.2 = false := p_expr_bad (fun s h => p_un_bad 8 h) h
theorem yq.fill (h : yq T r M0 M s ks (fun x => x = x0) e) (h2 : ∀ c : Nat, gi M 359 r = (c : Int) → zs2 M r c x0) (h3 : trl M ks.length x0) : yq T r M0 M s ks (fun _ => False) e := by
  obtain ⟨a, b, c', ⟨c, d1, d2, d3⟩, f, g⟩ := h
  refine ⟨a, b, c', ⟨c, d1, d2, fun x x1 x2 _ => ?_⟩, fun x x1 x2 => ⟨(f x x1 x2).1, fun _ => ?_⟩, g⟩
  · by_cases z : x = x0
    · rw [z]; exact h2 c d1
    · exact d3 x x1 x2 z
  · by_cases z : x = x0
    · rw [z]; exact h3
    · exact (f x x1 x2).2 z
theorem s_expy {v1 : Int} {ir : Bool} {K : Int → rf_M → Prop} (hT : ∀ i, (kd T i).toInt = 1 → 0 ≤ (nb T i).toInt) (h : yq T r M0 M s ks ex e) (hv1 : v1 = if ir = true then 1 else 0) (he : e + 1 ≤ s.2.2.1)
    (kg : (p_exq T (p_ir ir s)).2.2.2.2.2 = true → ∀ M' (c0 c1 : Nat), yq T r M0 M' (p_ir false (p_exq T (p_ir ir s))) ks ex (e + 1) → gi M' 359 r = (c1 : Int) → cod M' r c1 (if ir = true then 16 else 26) (200 * r + c0) → (∀ a k, 360 ≤ a → a ≤ 367 → gi M' a k = gi M a k) → K ((200 * r + c0 : Nat) : Int) M')
    (kb : (p_exq T (p_ir ir s)).2.2.2.2.2 = false → ∀ M' (z : Nat), z ≤ 2400 → yb T r M0 M' → K (z : Int) M') : wm_exp v1 M K := by
  obtain ⟨i, b0, n, u, dp, o⟩ := s
  obtain ⟨⟨a1, a2, a3, a4, a5⟩, ⟨rfl, rfl⟩, ⟨c1, c2, c3, c4, c5, c6⟩, ⟨c, d1, d2, d3⟩, f, g, ⟨g1, g2, g3⟩, h8⟩ := h
  dsimp only at *
  obtain ⟨m, H, hev, hH⟩ := x_exq (T := T) (ir := ir) hT i n u dp c4
  have hir : p_ir ir (i, false, n, u, dp, true) = (i, ir, n, u, dp, true) := rfl
  rw [hir] at kg kb
  refine s_exp (E := e) hv1 rfl a1 a2 a3 c3 c4 d1 d2 (by omega) a5 hev (fun hok M' c1' hx => ?_) (fun hok M' hx => ?_)
  · rcases hH with ⟨e1, e2, e3, e4⟩ | ⟨e1, e2⟩
    · obtain ⟨x1, x2, x3, x4, x5, x6, x7, x8, x9, k, y1, y2, y3⟩ := hx
      have q : ∀ a k, ¬ exw r (200 * r + c) a k → gi M' a k = gi M a k := fun a k z => x9 a k z
      unfold exw at q
      refine kg (by rw [e1]) M' c c1' ?_ x5 ⟨k, by omega, by omega, y2, y3⟩ (fun a k z1 z2 => q a k (by omega))
      rw [e1]
      have hc1 : c ≤ c1' := by omega
      refine ⟨⟨x1, x2, a3, a4.trans (x9.mono (fun a k z => ?_)), x8⟩, ⟨rfl, rfl⟩, ⟨(q _ _ (by omega)).trans c1, c2, x3, x4, (q _ _ (by omega)).trans c5, c6⟩, ⟨c1', x5, by show c1' ≤ 2 * H.2.1 + (e + 1); omega, fun x w1 w2 w3 => (d3 x w1 w2 w3).eq hc1 (fun a ha => q _ _ (by omega)) (fun k hk => ⟨q _ _ (by omega), q _ _ (by omega)⟩)⟩, fun x w1 w2 => ⟨(f x w1 w2).1.eq (Nat.le_refl _) w2 (fun k hk a ha => q _ _ (by omega)), fun z => ((f x w1 w2).2 z).eq (Nat.le_refl _) ⟨q _ _ (by omega), q _ _ (by omega)⟩ (fun j _ _ => ⟨q _ _ (by omega), q _ _ (by omega)⟩)⟩, ?_, ⟨(q _ _ (by omega)).trans g1, g2, g3.eq (Nat.le_refl _) (fun k hk => ⟨q _ _ (by omega), q _ _ (by omega), q _ _ (by omega)⟩) (fun j hj a ha => q _ _ (by omega))⟩, he⟩
      · unfold exw at z
        unfold tew
        omega
      · show fst_ M' r n
        unfold fst_
        rw [q 358 r (by omega)]
        exact g.imp (fun x z => ⟨z.1, z.2.1, by rw [q 362 x (by omega)]; exact z.2.2⟩)
    · rw [e2] at hok; cases hok
  · rcases hH with ⟨e1, e2, e3, e4⟩ | ⟨e1, e2⟩
    · rw [e2] at hok; cases hok
    · obtain ⟨x1, x2, x3, x4⟩ := hx
      refine kb e1 M' (200 * r + c) (by omega) ⟨x1, x2, a4.trans (x4.mono (fun a k z => ?_)), x3⟩
      unfold exw at z
      unfold tew
      omega
/-- what follows a statement's head -/
def y_res (T : tK) (kind : Int) (s : pS) (ks : List (Int × Int)) : pS × List (Int × Int) := if kind = 0 ∨ kind = 2 ∨ kind = 5 ∨ kind = 7 then y_open T (kind + 10, 0) s ks else (p_ex T 59 s, ks)
theorem s_rs256 {kind : Int} (h : yq T r M0 M s ks (fun x => x = x0) e) (hk : gi M 360 x0 = kind) (h1 : 40 * r ≤ x0) (h2 : x0 < 40 * r + s.2.2.1) (hz : ∀ c : Nat, gi M 359 r = (c : Int) → zs2 M r c x0)
    (kg : (y_res T kind s ks).1.2.2.2.2.2 = true → ∀ M', yq T r M0 M' (y_res T kind s ks).1 (y_res T kind s ks).2 (fun _ => False) e → K M') (kb : (y_res T kind s ks).1.2.2.2.2.2 = false → ∀ M', yb T r M0 M' → K M') : w_readStatement_256 (x0 : Int) M K := by
  have hr := h.1.2.2.1
  have hn := h.2.2.1.2.1
  have ets : ((x0 : Nat) : Int).toNat = x0 := by omega
  have op : (kind = 0 ∨ kind = 2 ∨ kind = 5 ∨ kind = 7) → w_readStatement_304 (x0 : Int) M K := by
    intro hop
    have er : y_res T kind s ks = y_open T (kind + 10, 0) s ks := if_pos hop
    rw [er] at kg kb
    refine s_openBody (p := (kind + 10, 0)) h (by rw [hk]; show kind = kind + 10 - 10; omega) h1 h2 (by show kind + 10 = 10 ∨ kind + 10 = 12 ∨ kind + 10 = 15 ∨ kind + 10 = 17; omega) (Or.inl rfl) (fun hg M' hy q p1 p2 => ?_) (fun hg M' hb => ?_)
    · have eo : y_open T (kind + 10, 0) s ks = (p_dp (ks.length + 1) (p_adv T s), (kind + 10, 0) :: ks) := if_pos hg
      rw [eo] at kg
      refine kg hy.2.1.2 M' (hy.fill (fun c hc => ?_) (fun _ => Or.inr ⟨ks.length + 1, by omega, by simp, p1, p2⟩))
      rw [q 359 r (by omega) (by omega)] at hc
      exact (hz c hc).eq (Nat.le_refl _) (fun a ha => q a x0 (by omega) (by omega)) (fun k hk => ⟨q _ _ (by omega) (by omega), q _ _ (by omega) (by omega)⟩)
    · have eo : y_open T (kind + 10, 0) s ks = (p_bad s, ks) := if_neg hg
      rw [eo] at kb
      exact kb rfl M' hb
  have tk : ¬ (kind = 0 ∨ kind = 2 ∨ kind = 5 ∨ kind = 7) → wm_take 59 M (fun M1 => w_readStatement_319 M1 K) := by
    intro hop
    have er : y_res T kind s ks = (p_ex T 59 s, ks) := if_neg hop
    rw [er] at kg kb
    have h59 := (show (59 : Int32).toInt = 59 from rfl)
    rw [← h59]
    refine s_take h (by decide) (fun hg M' hy hx => ?_) (fun hg M' hb => ?_)
    · have eo : p_ex T 59 s = p_adv T s := by unfold p_ex; rw [hg]; rfl
      rw [eo] at kg
      have q : ∀ a k, ¬ (a = 353 ∧ 3 ≤ k ∧ k ≤ 8) → gi M' a k = gi M a k := fun a k z => hx a k z
      refine kg hy.2.1.2 M' (hy.fill (fun c hc => ?_) (fun z => ?_))
      · rw [q 359 r (by omega)] at hc
        exact (hz c hc).eq (Nat.le_refl _) (fun a ha => q a x0 (by omega)) (fun k hk => ⟨q _ _ (by omega), q _ _ (by omega)⟩)
      · rw [q 360 x0 (by omega), hk] at z
        exact absurd (Or.inr (Or.inr (Or.inr z))) hop
    · have eo : p_ex T 59 s = p_bad s := by unfold p_ex; rw [hg]; rfl
      rw [eo] at kb
      exact kb rfl M' hb
  show w_readStatement_256 (x0 : Int) M K
  unfold w_readStatement_256
  rw [ets, hk]
  refine ⟨fun _ => ⟨⟨by omega, by omega⟩, fun z => op (by omega), fun z => ⟨⟨by omega, by omega⟩, fun z2 => op (by omega), fun z2 => ⟨⟨by omega, by omega⟩, fun z3 => op (by omega), fun z3 => ⟨⟨by omega, by omega⟩, fun z4 => op (by omega), fun z4 => tk (by omega)⟩⟩⟩⟩, fun z => absurd h.1.2.2.2.2 z⟩
theorem s_rs256b (h : yb T r M0 M) (kb : ∀ M', yb T r M0 M' → K M') : w_readStatement_256 (x0 : Int) M K := ⟨fun z => absurd z (by have := h.2.2.2; omega), fun _ => kb M h⟩
theorem s_rs231b (h : yb T r M0 M) (hx : x0 < 480) (kb : ∀ M', yb T r M0 M' → K M') : w_readStatement_231 (x0 : Int) M K := by
  have tk : w_readStatement_250 (x0 : Int) M K := by
    have h41 := (show (41 : Int32).toInt = 41 from rfl)
    show wm_take 41 M _
    rw [← h41]
    exact s_takeb h (by decide) (fun M' hb => s_rs256b hb kb)
  exact ⟨⟨by omega, by omega⟩, fun _ => tk, fun _ => ⟨⟨by omega, by omega⟩, fun _ => tk, fun _ => s_rs256b h kb⟩⟩
def y_231 (T : tK) (kind : Int) (s : pS) : pS := if kind = 0 ∨ kind = 2 then p_ex T 41 s else s
theorem y_res_bad {kind : Int} (h : s.2.2.2.2.2 = false) : (y_res T kind s ks).1.2.2.2.2.2 = false := by
  unfold y_res
  split
  · unfold y_open
    rw [if_neg (fun z => by rw [p_is_bad h] at z; cases z.1)]
    rfl
  · exact p_ex_bad h
theorem s_rs231 {kind : Int} (h : yq T r M0 M s ks (fun x => x = x0) e) (hk : gi M 360 x0 = kind) (h1 : 40 * r ≤ x0) (h2 : x0 < 40 * r + s.2.2.1) (hz : ∀ c : Nat, gi M 359 r = (c : Int) → zs2 M r c x0)
    (kg : (y_res T kind (y_231 T kind s) ks).1.2.2.2.2.2 = true → ∀ M', yq T r M0 M' (y_res T kind (y_231 T kind s) ks).1 (y_res T kind (y_231 T kind s) ks).2 (fun _ => False) e → K M') (kb : (y_res T kind (y_231 T kind s) ks).1.2.2.2.2.2 = false → ∀ M', yb T r M0 M' → K M') : w_readStatement_231 (x0 : Int) M K := by
  have hr := h.1.2.2.1
  have hn := h.2.2.1.2.1
  have ets : ((x0 : Nat) : Int).toNat = x0 := by omega
  have tk : (kind = 0 ∨ kind = 2) → w_readStatement_250 (x0 : Int) M K := by
    intro hc
    have e1 : y_231 T kind s = p_ex T 41 s := if_pos hc
    rw [e1] at kg kb
    have h41 := (show (41 : Int32).toInt = 41 from rfl)
    show wm_take 41 M _
    rw [← h41]
    refine s_take h (by decide) (fun hg M' hy hx => ?_) (fun hg M' hb => ?_)
    · have eo : p_ex T 41 s = p_adv T s := by unfold p_ex; rw [hg]; rfl
      rw [eo] at kg kb
      have q : ∀ a k, ¬ (a = 353 ∧ 3 ≤ k ∧ k ≤ 8) → gi M' a k = gi M a k := fun a k z => hx a k z
      refine s_rs256 hy ((q _ _ (by omega)).trans hk) h1 h2 (fun c hc => ?_) kg kb
      rw [q 359 r (by omega)] at hc
      exact (hz c hc).eq (Nat.le_refl _) (fun a ha => q a x0 (by omega)) (fun k hk => ⟨q _ _ (by omega), q _ _ (by omega)⟩)
    · have eo : p_ex T 41 s = p_bad s := by unfold p_ex; rw [hg]; rfl
      rw [eo] at kb
      exact s_rs256b hb (kb (y_res_bad rfl))
  unfold w_readStatement_231
  rw [ets, hk]
  refine ⟨⟨by omega, by omega⟩, fun z => tk (Or.inl z), fun z => ⟨⟨by omega, by omega⟩, fun z2 => tk (Or.inr z2), fun z2 => ?_⟩⟩
  have e1 : y_231 T kind s = s := if_neg (by omega)
  rw [e1] at kg kb
  exact s_rs256 h hk h1 h2 hz kg kb
/-- the exp of a statement -/
def y_167 (T : tK) (kind : Int) (s : pS) : pS := if kind = 3 ∨ kind = 5 ∨ kind = 7 then s else if kind = 9 then p_ir false (p_exq T (p_ir true s)) else p_ir false (p_exq T (p_ir false s))
theorem s_rs167 {kind : Int} (hT : ∀ i, (kd T i).toInt = 1 → 0 ≤ (nb T i).toInt) (h : yq T r M0 M s ks (fun x => x = x0) e) (he : e + 1 = s.2.2.1) (hk : gi M 360 x0 = kind) (hk8 : kk8 kind) (h1 : 40 * r ≤ x0) (h2 : x0 < 40 * r + s.2.2.1) (hl : kind = 20 → 0 ≤ gi M 367 x0 ∧ gi M 367 x0 ≤ 25) (hx0 : gi M 364 x0 = -1)
    (kg : ∀ e', (y_res T kind (y_231 T kind (y_167 T kind s)) ks).1.2.2.2.2.2 = true → ∀ M', yq T r M0 M' (y_res T kind (y_231 T kind (y_167 T kind s)) ks).1 (y_res T kind (y_231 T kind (y_167 T kind s)) ks).2 (fun _ => False) e' → K M') (kb : (y_res T kind (y_231 T kind (y_167 T kind s)) ks).1.2.2.2.2.2 = false → ∀ M', yb T r M0 M' → K M') : w_readStatement_167 (x0 : Int) M K := by
  have hr := h.1.2.2.1
  have hn := h.2.2.1.2.1
  have ets : ((x0 : Nat) : Int).toNat = x0 := by omega
  have no : (kind = 3 ∨ kind = 5 ∨ kind = 7) → w_readStatement_231 (x0 : Int) M K := by
    intro hc
    have e1 : y_167 T kind s = s := if_pos hc
    rw [e1] at kg kb
    refine s_rs231 h hk h1 h2 (fun c _ => ⟨by rw [hk]; exact hk8, by rw [hk]; exact hl, fun _ => Or.inl hx0, fun z => by rw [hk] at z; omega⟩) (kg e) kb
  have ye : ∀ (v : Int) (ir : Bool), v = (if ir = true then 1 else 0) → ¬ (kind = 3 ∨ kind = 5 ∨ kind = 7) → (kind = 9 ↔ ir = true) → w_readStatement_227 (x0 : Int) (x0 : Int) v M K := by
    intro v ir hv hno hir
    have e1 : y_167 T kind s = p_ir false (p_exq T (p_ir ir s)) := by
      unfold y_167
      rw [if_neg hno]
      cases ir
      · rw [if_neg (fun z => absurd (hir.mp z) (by decide))]
      · rw [if_pos (hir.mpr rfl)]
    rw [e1] at kg kb
    refine s_expy hT h hv (by omega) (fun hok M1 c0 c1 hy hc hcod q => ?_) (fun hok M1 z hz hb => ?_)
    · refine ⟨⟨by omega, by omega⟩, fun M2 e2 => ?_⟩
      rw [ets] at e2
      have g2 : ∀ a k, ¬ (a = 364 ∧ k = x0) → gi M2 a k = gi M1 a k := fun a k w => by rw [e2, gi_of (by omega)]
      have hcb : 200 * r + c0 ≤ 2400 := by
        obtain ⟨k, k1, k2, -⟩ := hcod
        obtain ⟨c', w1, w2, -⟩ := hy.2.2.2.1
        have := hy.2.2.1.2.2.2.1
        have w3 : c1 = c' := by omega
        have w4 := hy.2.2.2.2.2.2.2
        have w5 := hy.2.2.1.2.1
        omega
      have f364 : gi M2 364 x0 = ((200 * r + c0 : Nat) : Int) := by rw [e2, gi_at (inr_z (by omega) (by omega))]
      have n' : (p_ir false (p_exq T (p_ir ir s))).2.2.1 = s.2.2.1 := by
        have w1 := hy.2.2.1.1
        have w2 := h.2.2.1.1
        have w3 := hy.1.2.2.2.1
        -- both are what slot r of 355 says
        have : gi M1 355 r = gi M 355 r := by
          obtain ⟨i, b0, n, u, dp, o⟩ := s
          obtain ⟨-, ⟨rfl, rfl⟩, ⟨-, -, -, hu60, -⟩, -⟩ := h
          obtain ⟨m, H, -, hH⟩ := x_exq (T := T) (ir := ir) hT i n u dp hu60
          have hir2 : p_ir ir (i, false, n, u, dp, true) = (i, ir, n, u, dp, true) := rfl
          rw [hir2] at hok hy w1
          rcases hH with ⟨e1, -⟩ | ⟨e1, -⟩
          · rw [e1] at w1
            exact w1.trans w2.symm
          · rw [e1] at hok; cases hok
        omega
      have hy2 : yq T r M0 M2 (p_ir false (p_exq T (p_ir ir s))) ks (fun x => x = x0) (e + 1) := by
        obtain ⟨⟨a1, a2, a3, a4, a5⟩, b, ⟨c1', c2, c3, c4, c5, c6⟩, ⟨c, d1, d2, d3⟩, f, g, ⟨g1', g2', g3⟩, h8⟩ := hy
        refine ⟨⟨a1.eq (fun a k w => g2 a k (by omega)), (g2 _ _ (by omega)).trans a2, a3, fun a k w => ?_, (g2 _ _ (by omega)).trans a5⟩, b, ⟨(g2 _ _ (by omega)).trans c1', c2, (g2 _ _ (by omega)).trans c3, c4, (g2 _ _ (by omega)).trans c5, c6⟩, ⟨c, (g2 _ _ (by omega)).trans d1, d2, fun x x1 x2 x3 => (d3 x x1 x2 x3).eq (Nat.le_refl _) (fun a ha => g2 _ _ (fun w => x3 w.2)) (fun k hk => ⟨g2 _ _ (by omega), g2 _ _ (by omega)⟩)⟩, fun x x1 x2 => ⟨(f x x1 x2).1.eq (Nat.le_refl _) x2 (fun k hk a ha => g2 _ _ (by omega)), fun z => ((f x x1 x2).2 z).eq (Nat.le_refl _) ⟨g2 _ _ (by omega), g2 _ _ (by omega)⟩ (fun j _ _ => ⟨g2 _ _ (by omega), g2 _ _ (by omega)⟩)⟩, ?_, ⟨(g2 _ _ (by omega)).trans g1', g2', g3.eq (Nat.le_refl _) (fun k hk => ⟨g2 _ _ (by omega), g2 _ _ (by omega), g2 _ _ (by omega)⟩) (fun j hj a ha => g2 _ _ (by omega))⟩, h8⟩
        · unfold tew at w
          exact (g2 a k (by omega)).trans (a4 a k (by unfold tew; omega))
        · unfold fst_
          rw [g2 358 r (by omega)]
          exact g.imp (fun x z => ⟨z.1, z.2.1, by rw [g2 362 x (by omega)]; exact z.2.2⟩)
      have k2 : gi M2 360 x0 = kind := by rw [g2 _ _ (by omega), q 360 x0 (by omega) (by omega)]; exact hk
      refine s_rs231 hy2 k2 h1 (by rw [n']; exact h2) (fun c hc' => ?_) (kg (e + 1)) kb
      have hcc : c = c1 := by rw [g2 359 r (by omega), hc] at hc'; omega
      have hcod2 : cod M2 r c (if ir = true then 16 else 26) (200 * r + c0) := by
        rw [hcc]; exact hcod.eq (Nat.le_refl _) (fun k hk => ⟨g2 _ _ (by omega), g2 _ _ (by omega)⟩)
      refine ⟨by rw [k2]; exact hk8, fun w => ?_, fun w => ?_, fun w => ?_⟩
      · rw [k2] at w
        rw [g2 367 x0 (by omega), q 367 x0 (by omega) (by omega)]; exact hl w
      · rw [k2] at w
        have hf : ir = false := by
          cases ir
          · rfl
          · exact absurd (hir.mpr rfl) w
        rw [hf] at hcod2
        exact Or.inr ⟨_, f364, hcod2⟩
      · rw [k2] at w
        have hf := hir.mp w
        rw [hf] at hcod2
        exact ⟨_, f364, hcod2⟩
    · refine ⟨⟨by omega, by omega⟩, fun M2 e2 => ?_⟩
      rw [ets] at e2
      have g2 : ∀ a k, ¬ (a = 364 ∧ k = x0) → gi M2 a k = gi M1 a k := fun a k w => by rw [e2, gi_of (by omega)]
      have hbx : (y_231 T kind (p_ir false (p_exq T (p_ir ir s)))).2.2.2.2.2 = false := by
        unfold y_231
        split
        · exact p_ex_bad hok
        · exact hok
      refine s_rs231b ?_ (by omega) (kb (y_res_bad hbx))
      obtain ⟨⟨j, b1⟩, b2, b3, b4⟩ := hb
      refine ⟨⟨j, b1.eq (fun a k w => g2 a k (by omega))⟩, (g2 _ _ (by omega)).trans b2, fun a k w => ?_, (g2 _ _ (by omega)).trans b4⟩
      unfold tew at w
      exact (g2 a k (by omega)).trans (b3 a k (by unfold tew; omega))
  unfold w_readStatement_167
  rw [ets, hk]
  refine ⟨fun _ => ⟨⟨by omega, by omega⟩, fun z => no (Or.inl z), fun z => ⟨⟨by omega, by omega⟩, fun z2 => no (Or.inr (Or.inl z2)), fun z2 => ⟨⟨by omega, by omega⟩, fun z3 => no (Or.inr (Or.inr z3)), fun z3 => ⟨⟨by omega, by omega⟩, fun z4 => ye 1 true rfl (by omega) ⟨fun _ => rfl, fun _ => z4⟩, fun z4 => ye 0 false rfl (by omega) ⟨fun w => absurd w z4, fun w => absurd w (by decide)⟩⟩⟩⟩⟩, fun z => absurd h.1.2.2.2.2 z⟩
theorem s_rs167b (h : yb T r M0 M) (hx : x0 < 480) (kb : ∀ M', yb T r M0 M' → K M') : w_readStatement_167 (x0 : Int) M K := ⟨fun z => absurd z (by have := h.2.2.2; omega), fun _ => s_rs231b h hx kb⟩
end YC
