/-! THE REFERENCE'S STATEMENTS: take, takeWord, openBody, exps -/
section WS2
variable {M M' M0 : rf_M} {T : tK} {r i s c u pe : Nat} {X : txT} {en l : Int} {σ : skT} {P : Nat → Nat → Prop} {K : rf_M → Prop}
theorem y_isSign_f {ch : Int} {K : Int → rf_M → Prop} (k1 : K 1 M) (k0 : K 0 M) : em_W_isSign ch M K := ⟨fun _ => ⟨fun _ => ⟨Or.inr rfl, k1⟩, fun _ => ⟨Or.inl rfl, k0⟩⟩, fun _ => ⟨Or.inl rfl, k0⟩⟩
theorem y_mis_f (hb : ¬ gi M 353 9 = 0) (k : K M) : em_W_misplaced M K := ⟨fun w => absurd w hb, fun _ => k⟩
theorem y_take_f {ch : Int} (hb : ¬ gi M 353 9 = 0) (k : K M) : em_W_take ch M K := by
  show e_W_take ch M K
  unfold e_W_take
  exact y_isSign_f ⟨fun w => absurd w (by decide), fun _ => ⟨fun w => absurd w hb, fun _ => k⟩⟩ ⟨fun _ => y_mis_f hb ⟨fun w => absurd w hb, fun _ => k⟩, fun w => absurd rfl w⟩
theorem y_take {ch : Int} (h9 : gi M 353 9 = 0) (hm : mtv M T i) (hc : 20 ≤ ch) (hk : κT T i = ch) (kk : ∀ M', eqy nxw M M' → mtv M' T (i + 1) → K M') : em_W_take ch M K := by
  show e_W_take ch M K
  unfold e_W_take
  exact y_isSign hm.1 hc (fun _ => ⟨fun w => absurd w (by decide), fun _ => ⟨fun _ => y_next hm (kd_lt (by show ¬ κT T i = 0; omega)) kk, fun w => absurd h9 w⟩⟩) (fun w => absurd hk w)
theorem tok4 (hm : mtk M T i) : (gi M 353 4 = 0 ↔ κT T i = 0) ∧ (gi M 353 4 = 2 ↔ κT T i = 1) ∧ (∀ z, 10 ≤ z → z ≤ 19 → (gi M 353 4 = z ↔ κT T i = z)) ∧ (κT T i = 1 → gi M 353 6 = νT T i ∧ 0 ≤ νT T i ∧ νT T i ≤ 25) := by
  have tk := hm.2.2
  have hk := tkm_iff tk.2.2.2
  exact ⟨by rw [tk.1]; exact hk.2.2.2.1, by rw [tk.1]; exact hk.2.2.1, fun z z1 z2 => by rw [tk.1]; exact hk.2.2.2.2.1 z z1 z2, tk.2.2.1⟩
theorem y_takeWord {w : Int} (h9 : gi M 353 9 = 0) (hm : mtv M T i) (hw : 0 ≤ w ∧ w ≤ 9) (hk : κT T i = 10 + w) (kk : ∀ M', eqy nxw M M' → mtv M' T (i + 1) → K M') : em_W_takeWord w M K := by
  show e_W_takeWord w M K
  unfold e_W_takeWord
  exact ⟨inr_z (by omega) (by omega), fun _ => ⟨fun _ => y_next hm (kd_lt (by show ¬ κT T i = 0; omega)) kk, fun q => absurd h9 q⟩, fun q => absurd (((tok4 hm.1).2.2.1 (10 + w) (by omega) (by omega)).mpr hk) q⟩
theorem sA.eq (h : sA T r M0 M i s c u) (e : eqy P M M') (q1 : ∀ a k, P a k → teW r a k) (q2 : ∀ a k, (a = 353 ∧ (k = 2 ∨ (3 ≤ k ∧ k ≤ 9) ∨ k = 28)) ∨ a = 354 ∨ ((a = 355 ∨ a = 356 ∨ a = 359) ∧ k = r) → ¬ P a k) : sA T r M0 M' i s c u := by
  obtain ⟨⟨a1, ⟨a2, a2'⟩, a3, a4⟩, b1, b2, b3, b4⟩ := h
  exact ⟨⟨a1.eq e (fun a k z => q2 a k (by omega)), ⟨(e.i (q2 _ _ (by omega))).trans a2, a2'⟩, a3.trans (e.mono q1), (e.i (q2 _ _ (by omega))).trans a4⟩, (e.i (q2 _ _ (by omega))).trans b1, (e.i (q2 _ _ (by omega))).trans b2, (e.i (q2 _ _ (by omega))).trans b3, b4⟩
def opW (r d a k : Nat) : Prop := (a = 353 ∧ k = 37) ∨ (a = 357 ∧ k = r) ∨ ((373 ≤ a ∧ a ≤ 375) ∧ k = d + 1)
theorem y_opn {o : Nat} {q : Int} (hA : sA T r M0 M i s c u) (hB : sB M r σ (o : Int)) (hm : smem M r X en ((o, q) :: σ) (-1) s c pe) (hk : κT T i = 123) (hd : σ.length < 8) (hq : q = 0 ∨ q = 1) (ho : o < 40) (kk : ∀ M', sA T r M0 M' (i + 1) s c u → sB M' r ((o, q) :: σ) (-1) → smem M' r X en ((o, q) :: σ) (-1) s c pe → K M') : em_W_openBody (40 * (r : Int) + (o : Int)) q M K := by
  obtain ⟨⟨a1, ⟨a2, a2'⟩, a3, a4⟩, -⟩ := id hA
  obtain ⟨b1, b2, b3⟩ := id hB
  show e_W_openBody (40 * (r : Int) + (o : Int)) q M K
  unfold e_W_openBody
  refine y_isSign a1.1 (by omega) (fun _ => ⟨fun w => absurd w (by decide), fun _ => ⟨fun w => absurd w (by omega), fun _ M2 e2 _ => ?_⟩⟩) (fun w => absurd hk w)
  have y2 : eqy (opW r σ.length) M M2 := by rw [e2]; exact (eqy.rfl' M).wi (Or.inl ⟨rfl, rfl⟩)
  have g28 : (gi M2 353 28).toNat = r := by rw [y2.i (by unfold opW; omega), a2]; omega
  have g37 : gi M2 353 37 = (σ.length : Int) + 1 := by rw [e2, gi_at (inr_z (by omega) (by omega)), b1]
  have h73 : ∀ z, e_W_openBody_73 (40 * (r : Int) + (o : Int)) q (gi M2 353 28) z M2 K := by
    intro z _ M3 e3
    rw [g28] at e3
    have k3 : (gi M3 353 37).toNat = σ.length + 1 := by rw [e3, gi_of (Or.inl (by omega)), g37]; omega
    rw [k3]
    intro _ M4 e4
    have k4 : (gi M4 353 37).toNat = σ.length + 1 := by rw [e4, gi_of (Or.inl (by omega))]; exact k3
    rw [k4]
    intro _ M5 e5
    have k5 : (gi M5 353 37).toNat = σ.length + 1 := by rw [e5, gi_of (Or.inl (by omega))]; exact k4
    rw [k5]
    intro _ M6 e6
    have y6 : eqy (opW r σ.length) M M6 := by
      rw [e6, e5, e4, e3]
      exact (((y2.wi (Or.inr (Or.inl ⟨rfl, rfl⟩))).wi (Or.inr (Or.inr ⟨by omega, rfl⟩))).wi (Or.inr (Or.inr ⟨by omega, rfl⟩))).wi (Or.inr (Or.inr ⟨by omega, rfl⟩))
    have hA6 : sA T r M0 M6 i s c u := hA.eq y6 (fun a k z => by unfold opW at z; unfold teW; omega) (fun a k z => by unfold opW; omega)
    refine y_next hA6.1.1 (kd_lt (by show ¬ κT T i = 0; omega)) (fun M7 y7 m7 => kk M7 (hA6.nx y7 m7) ⟨?_, ?_, ?_, ?_, ?_, ?_⟩ ((hm.eq y6 (fun b k z => by unfold opW; omega)).nx y7))
    · rw [y7.i (by unfold nxw; omega), e6, gi_of (Or.inl (by omega)), e5, gi_of (Or.inl (by omega)), e4, gi_of (Or.inl (by omega)), e3, gi_of (Or.inl (by omega)), g37, List.length_cons]; omega
    · rw [List.length_cons]; omega
    · rw [y7.i (by unfold nxw; omega), e6, gi_of (Or.inl (by omega)), e5, gi_of (Or.inl (by omega)), e4, gi_at (inr_z (by omega) (by omega))]
      show _ = lf r (o : Int)
      rw [lf_nat]; omega
    · rw [y7.i (by unfold nxw; omega), e6, gi_of (Or.inl (by omega)), e5, gi_at (inr_z (by omega) (by omega))]
    · rw [y7.i (by unfold nxw; omega), e6, gi_at (inr_z (by omega) (by omega)), lf_neg (by omega)]
    · exact b3.eq (fun b k z1 z2 z3 => (y7.i (by unfold nxw; omega)).trans (y6.i (by unfold opW; omega)))
  exact ⟨fun _ _ => h73 _, fun _ => h73 _⟩
theorem getD_l {c : cdT} {q : Int × Int} {m : Nat} (h : m < c.length) : (c ++ [q]).getD m (0, 0) = c.getD m (0, 0) := by
  rw [List.getD_eq_getElem?_getD, List.getD_eq_getElem?_getD, List.getElem?_append_left h]
theorem getD_r {c : cdT} {q : Int × Int} : (c ++ [q]).getD c.length (0, 0) = q := by
  rw [List.getD_eq_getElem?_getD, List.getElem?_append_right (Nat.le_refl _), Nat.sub_self]
  rfl
theorem getD_m {c : cdT} {m : Nat} (h : m < c.length) : c.getD m (0, 0) ∈ c := by
  rw [List.getD_eq_getElem?_getD, List.getElem?_eq_getElem h]
  exact List.getElem_mem h
theorem scod.app {cd : cdT} (h : scod M r X c) (h7 : rcq M (200 * r + c) (cd ++ [(4, 0)])) (d2 : cat_ X c (cd ++ [(0, 0)])) (hd : hdc cd) : scod M r X (c + cd.length + 1) := fun k hk => by
  by_cases e : k < c
  · exact h k e
  · obtain ⟨m, rfl⟩ : ∃ m, k = c + m := ⟨k - c, by omega⟩
    have l1 : m < (cd ++ [((4 : Int), (0 : Int))]).length := by simp; omega
    have l2 : m < (cd ++ [((0 : Int), (0 : Int))]).length := by simp; omega
    obtain ⟨a1, a2, a3⟩ := h7 m l1
    obtain ⟨b1, b2⟩ := d2 m l2
    rw [Nat.add_assoc] at a1 a2 a3
    by_cases em : m < cd.length
    · rw [getD_l em] at a1 a2 a3 b1 b2
      have nz := hd.1 _ (getD_m em)
      rw [a1, b1, b2]
      refine ⟨(if_neg nz).symm, a2, a3⟩
    · have em' : m = cd.length := by omega
      subst em'
      rw [getD_r] at a1 a2 a3 b1 b2
      rw [a1, b1]
      exact ⟨rfl, fun w => absurd w (by show ¬ ((0 : Int) = 2); decide), fun w => absurd w (by show ¬ ((0 : Int) = 1); decide)⟩
theorem srec.xp {x : Nat} {p1 p2 p3 p4 p5 q5 : Prop} (h : srec M r X p1 p2 p3 p4 p5 x) (e : ∀ b, 360 ≤ b → b ≤ 367 → b ≠ 364 → gi M' b (40 * r + x) = gi M b (40 * r + x)) (h4 : gi M' 364 (40 * r + x) = 200 * (r : Int) + X.1 2 x) (hx : kxp (X.1 0 x)) (hq : ¬ q5) : srec M' r X p1 p2 p3 p4 q5 x := by
  unfold srec at h ⊢
  rw [e 360 (by omega) (by omega) (by omega), e 361 (by omega) (by omega) (by omega), e 362 (by omega) (by omega) (by omega), e 363 (by omega) (by omega) (by omega), e 365 (by omega) (by omega) (by omega), e 366 (by omega) (by omega) (by omega), e 367 (by omega) (by omega) (by omega)]
  obtain ⟨a, -, b⟩ := h
  exact ⟨a, ⟨fun _ => h4, fun w => absurd ⟨hx, hq⟩ w⟩, b⟩
theorem smem.pne {p : Nat} (h : smem M r X en σ l (p + 1) c p) (hx : ¬ kxp (X.1 0 p)) : smem M r X en σ l (p + 1) c (p + 1) := by
  obtain ⟨h1, h2, h3⟩ := h
  refine ⟨h1, fun x hx' => ?_, h3⟩
  have R := h2 x hx'
  by_cases e : x = p
  · subst e
    obtain ⟨a, b, d⟩ := R
    exact ⟨a, ⟨fun w => absurd w.1 hx, fun _ => b.2 (fun w => hx w.1)⟩, d⟩
  · exact R.cg Iff.rfl Iff.rfl Iff.rfl Iff.rfl ⟨fun w => absurd w (by omega), fun w => absurd w e⟩
theorem y_exps {v : Int} {ir : Bool} {p j c' du : Nat} {σB : skT} {lB : Int} (hv : v = 0 ↔ ir = false) (hA : sA T r M0 M i (p + 1) c u) (hB : sB M r σB lB) (hm : smem M r X en σ l (p + 1) c p) (hp : p < 40) (hx : kxp (X.1 0 p)) (h2 : X.1 2 p = (c : Int)) (hd : dEx (κT T) (νT T) ir X i c j c' du) (hu : u + du ≤ 60) (hj : κT T j = 59 ∨ κT T j = 41)
    (kb : ∀ M', sfl r M0 M' → K M') (kk : ∀ M', sA T r M0 M' j (p + 1) c' (u + du) → sB M' r σB lB → smem M' r X en σ l (p + 1) c' (p + 1) → K M') : em_W_exp v M (fun (z1 : Int) (M1 : rf_M) => (0 ≤ (40 * (r : Int) + (p : Int)) ∧ (40 * (r : Int) + (p : Int)) < 480 → (∀ M2 : rf_M, M2 = wi M1 364 (40 * (r : Int) + (p : Int)).toNat z1 → K M2))) := by
  obtain ⟨⟨a1, ⟨a2, a2'⟩, a3, a4⟩, b1, b2, b3, b4⟩ := id hA
  obtain ⟨cd, d1, d2, d3⟩ := hd
  have en' : (40 * (r : Int) + (p : Int)).toNat = 40 * r + p := by omega
  rw [en']
  refine y_exp (r := r) (c0 := c) (u0 := u) hv a1 a2 a2' a4 b2 (by omega) b3 b4 (fun M1 hx1 _ M2 e2 => ?_)
  have y2 : eqy (fun a k => a = 364 ∧ k = 40 * r + p) M1 M2 := by rw [e2]; exact (eqy.rfl' _).wi ⟨rfl, rfl⟩
  rcases xpq_d hx1 d1 hu hj with f | ⟨f1, f2, f3, f4, f5, f6, f7⟩
  · refine kb M2 ⟨(a3.trans (f.1.mono (fun a k z => by unfold exW at z; unfold teW; omega))).trans (y2.mono (fun a k z => by unfold teW; omega)), ?_⟩
    rw [y2.i (by omega)]
    exact f.2.2.1
  · have g : ∀ b k, ¬ exW r c b k → ¬ (b = 364 ∧ k = 40 * r + p) → gi M2 b k = gi M b k := fun b k z1 z2 => (y2.i z2).trans (f1.i z1)
    refine kk M2 ⟨⟨f4.eq y2 (fun a k z => by omega), ⟨(y2.i (by omega)).trans f2.1, a2'⟩, (a3.trans (f1.mono (fun a k z => by unfold exW at z; unfold teW; omega))).trans (y2.mono (fun a k z => by unfold teW; omega)), (y2.i (by omega)).trans f3⟩, (g _ _ (by unfold exW; omega) (by omega)).trans b1, (y2.i (by omega)).trans f5, ?_, by omega⟩ ((hB.eq f1 (fun b k z => by unfold exW; omega)).eq y2 (fun b k z => by omega)) ⟨?_, fun x hx' => ?_, ?_⟩
    · rw [y2.i (by omega), f6.1, d3]
    · rw [g _ _ (by unfold exW; omega) (by omega)]
      exact hm.1
    · have R := hm.2.1 x hx'
      by_cases e : x = p
      · subst e
        refine R.xp (fun b z1 z2 z3 => g _ _ (by unfold exW; omega) (by omega)) ?_ hx (by omega)
        rw [e2, gi_at (inr_z (by omega) (by omega)), h2]
      · exact (R.eq (fun b z1 z2 => g _ _ (by unfold exW; omega) (by omega))).cg Iff.rfl Iff.rfl Iff.rfl Iff.rfl ⟨fun w => absurd w (by omega), fun w => absurd w e⟩
    · rw [d3]
      exact (((hm.2.2.eq f1 (fun b k z1 z2 z3 z4 => by unfold exW; omega))).app f7 d2 (dE_hd (dU_hd 8) _ _ _ _ d1)).eq y2 (fun b k z1 z2 z3 z4 => by omega)
end WS2
