/-! the reference's exp(): its memory and the machine of 98zy -/
def rcd (M : rf_M) (a : Nat) (q : Int × Int) : Prop := gi M 368 a = q.1 ∧ (q.1 = 2 → gi M 369 a = q.2) ∧ (q.1 = 1 → gl M 370 a = (Int32.ofInt q.2).toInt64)
def rcq (M : rf_M) (a : Nat) (o : cdT) : Prop := ∀ k, k < o.length → rcd M (a + k) (o.getD k (0, 0))
def exW (r c0 : Nat) (a k : Nat) : Prop := (a = 353 ∧ ((3 ≤ k ∧ k ≤ 10) ∨ k = 30 ∨ k = 31 ∨ k = 33)) ∨ (a = 356 ∧ k = r) ∨ (a = 359 ∧ k = r) ∨ ((a = 368 ∨ a = 369 ∨ a = 370) ∧ 200 * r + c0 ≤ k) ∨ a = 371 ∨ a = 372
def acW (r c : Nat) (a k : Nat) : Prop := (a = 359 ∧ k = r) ∨ ((a = 368 ∨ a = 369 ∨ a = 370) ∧ k = 200 * r + c)
def xm (T : tK) (r c0 : Nat) (M0 M : rf_M) (i u : Nat) (π : List Int) (cs : List Bool) (o : cdT) : Prop :=
  (mtv M T i ∧ (gi M 353 28 = (r : Int) ∧ r < 12) ∧ eqy (exW r c0) M0 M ∧ gi M 353 9 = 0) ∧
  (gi M 356 r = (u : Int) ∧ u ≤ 60 ∧ (gi M 359 r = ((c0 + o.length : Nat) : Int) ∧ c0 + o.length ≤ 2400) ∧ rcq M (200 * r + c0) o) ∧
  (gi M 353 30 = (π.length : Int) ∧ pl M π ∧ okp π ∧ (gi M 353 31 = ((fil π).length : Int) ∧ (fil π).length ≤ 8) ∧ gi M 353 33 = (lv π : Int) ∧ zcl M cs ∧ cs.length = lv π + 1)
section WXP
variable {M M' M0 : rf_M} {T : tK} {r c0 i u : Nat} {π : List Int} {cs : List Bool} {o : cdT} {K : rf_M → Prop}
theorem mtv.eq {P : Nat → Nat → Prop} (h : mtv M T i) (e : eqy P M M') (q : ∀ a k, (a = 353 ∧ (k = 2 ∨ (3 ≤ k ∧ k ≤ 8))) ∨ a = 354 → ¬ P a k) : mtv M' T i := ⟨h.1.eq (fun a k z => e.i (q a k z)), fun z => (e.l (q _ _ (by omega))).trans (h.2 z)⟩
theorem rcq.eq {P : Nat → Nat → Prop} {a : Nat} (h : rcq M a o) (e : eqy P M M') (q : ∀ b k, (b = 368 ∨ b = 369 ∨ b = 370) → a ≤ k → k < a + o.length → ¬ P b k) : rcq M' a o := fun k hk => by
  obtain ⟨h1, h2, h3⟩ := h k hk
  exact ⟨(e.i (q _ _ (by omega) (by omega) (by omega))).trans h1, fun z => (e.i (q _ _ (by omega) (by omega) (by omega))).trans (h2 z), fun z => (e.l (q _ _ (by omega) (by omega) (by omega))).trans (h3 z)⟩
theorem rcq.snoc {a : Nat} {q : Int × Int} (h : rcq M a o) (h' : rcd M (a + o.length) q) : rcq M a (o ++ [q]) := fun k hk => by
  have hk' : k < o.length + 1 := by simpa using hk
  by_cases e : k < o.length
  · have e1 : (o ++ [q]).getD k (0, 0) = o.getD k (0, 0) := by
      rw [List.getD_eq_getElem?_getD, List.getD_eq_getElem?_getD, List.getElem?_append_left e]
    rw [e1]
    exact h k e
  · have e' : k = o.length := by omega
    subst e'
    have e1 : (o ++ [q]).getD o.length (0, 0) = q := by
      rw [List.getD_eq_getElem?_getD, List.getElem?_append_right (Nat.le_refl _), Nat.sub_self]
      rfl
    rw [e1]
    exact h'
theorem y_act {v1 v2 : Int} {v3 : Int64} {c : Nat} (h1 : gi M 353 28 = (r : Int)) (h2 : r < 12) (h3 : gi M 359 r = (c : Int)) (hc : c ≤ 2400) (i1 : inr v1) (i2 : inr v2) (kk : ∀ M', eqy (acW r c) M M' → c < 2400 → gi M' 359 r = ((c + 1 : Nat) : Int) → gi M' 368 (200 * r + c) = v1 → gi M' 369 (200 * r + c) = v2 → gl M' 370 (200 * r + c) = v3 → K M') : em_W_act v1 v2 v3 M K := by
  have e0 : (gi M 353 28).toNat = r := by rw [h1]; omega
  have en : (200 * (r : Int) + (c : Int)).toNat = 200 * r + c := by omega
  show e_W_act v1 v2 v3 M K
  unfold e_W_act
  rw [e0, h1, h3, en]
  intro _ _ _ M1 e1
  refine ⟨inr_z (by omega) (by omega), fun hb M2 e2 _ M3 e3 _ M4 e4 => ?_⟩
  refine kk M4 ?_ (by omega) ?_ ?_ ?_ ?_
  · rw [e4, e3, e2, e1]
    exact ((((eqy.rfl' M).wi (by unfold acW; omega)).wi (by unfold acW; omega)).wi (by unfold acW; omega)).wl (by unfold acW; omega)
  · rw [e4, gi_wl, e3, gi_of (Or.inl (by omega)), e2, gi_of (Or.inl (by omega)), e1, gi_at (inr_z (by omega) (by omega))]; omega
  · rw [e4, gi_wl, e3, gi_of (Or.inl (by omega)), e2, gi_at i1]
  · rw [e4, gi_wl, e3, gi_at i2]
  · rw [e4, gl_at]
theorem y_strength {x : Int} {K : Int → rf_M → Prop} (k : K (stg x) M) : em_W_strength x M K := by
  have y : ∀ z, stg x = z → K z M := fun z e => by rw [← e]; exact k
  unfold stg at y
  refine ⟨fun c => y 3 (by rw [if_pos (by omega)]), fun c0 => ⟨fun c => y 3 (by rw [if_pos (by omega)]), fun c1 => ⟨fun c => y 3 (by rw [if_pos (by omega)]), fun c2 => ⟨fun c => y 2 (by rw [if_neg (by omega), if_pos (by omega)]), fun c3 => ⟨fun c => y 2 (by rw [if_neg (by omega), if_pos (by omega)]), fun c4 => ⟨fun c => y 1 (by rw [if_neg (by omega), if_neg (by omega), if_pos (by omega)]), fun c5 => ⟨fun c => y 1 (by rw [if_neg (by omega), if_neg (by omega), if_pos (by omega)]), fun c6 => ⟨fun c => y 1 (by rw [if_neg (by omega), if_neg (by omega), if_pos (by omega)]), fun c7 => y 0 (by rw [if_neg (by omega), if_neg (by omega), if_neg (by omega)])⟩⟩⟩⟩⟩⟩⟩⟩
/-- a piece of code is written, the top of the pile taken away -/
theorem xm_act {x : Int} {q : Int × Int} {ρ : List Int} {M1 M2 : rf_M} (h : xm T r c0 M0 M i u (x :: ρ) cs o) (e1 : eqy (fun a k => a = 353 ∧ (k = 30 ∨ k = 31)) M M1) (p1 : gi M1 353 30 = (ρ.length : Int)) (p2 : gi M1 353 31 = ((fil ρ).length : Int)) (hl : lv (x :: ρ) = lv ρ) (e2 : eqy (acW r (c0 + o.length)) M1 M2) (hc : c0 + o.length < 2400) (q1 : gi M2 359 r = ((c0 + o.length + 1 : Nat) : Int)) (q2 : rcd M2 (200 * r + (c0 + o.length)) q) : xm T r c0 M0 M2 i u ρ cs (o ++ [q]) := by
  obtain ⟨⟨a1, ⟨a2, a2'⟩, a3, a4⟩, ⟨b1, b2, ⟨b3, b3'⟩, b4⟩, ⟨c1, c2, c3, ⟨c4, c4'⟩, c5, c6, c7⟩⟩ := h
  have g : ∀ a k, ¬ (a = 353 ∧ (k = 30 ∨ k = 31)) → ¬ acW r (c0 + o.length) a k → gi M2 a k = gi M a k := fun a k z1 z2 => (e2.i z2).trans (e1.i z1)
  have f0 : ∀ k, gi M2 353 k = gi M1 353 k := fun k => e2.i (by unfold acW; omega)
  have el : (o ++ [q]).length = o.length + 1 := by simp
  refine ⟨⟨(a1.eq e1 (fun a k z => by omega)).eq e2 (fun a k z => by unfold acW; omega), ⟨(g _ _ (by omega) (by unfold acW; omega)).trans a2, a2'⟩, ?_, (g _ _ (by omega) (by unfold acW; omega)).trans a4⟩, ⟨(g _ _ (by omega) (by unfold acW; omega)).trans b1, b2, ⟨?_, ?_⟩, ?_⟩, ⟨(f0 30).trans p1, ?_, c3.2.2, ⟨(f0 31).trans p2, ?_⟩, ?_, ?_, by rw [← hl]; exact c7⟩⟩
  · exact (a3.trans (e1.mono (fun a k z => by unfold exW; omega))).trans (e2.mono (fun a k z => by unfold acW at z; unfold exW; omega))
  · rw [el, q1]; omega
  · rw [el]; omega
  · refine rcq.snoc ((b4.eq e1 (fun b k z _ _ => by omega)).eq e2 (fun b k z z1 z2 => by unfold acW; omega)) ?_
    rw [Nat.add_assoc]
    exact q2
  · exact c2.2.eq (fun k _ => g 371 k (by omega) (by unfold acW; omega))
  · exact Nat.le_trans (fil_le x ρ) c4'
  · rw [g 353 33 (by omega) (by unfold acW; omega), c5, hl]
  · exact c6.eq (fun k _ => g 372 k (by omega) (by unfold acW; omega))
theorem y_reduce {l : Int} (hl : 1 ≤ l ∧ l ≤ 3) (h : xm T r c0 M0 M i u π cs o) (kk : ∀ M', xm T r c0 M0 M' i u (popr l π) cs (o ++ pops l π) → K M') : em_W_reduce l M K := by
  refine ⟨fun v1 M' => v1 = l ∧ ∃ π' o', xm T r c0 M0 M' i u π' cs o' ∧ popr l π' = popr l π ∧ o' ++ pops l π' = o ++ pops l π, ⟨rfl, π, o, h, rfl, rfl⟩, ?_⟩
  rintro v1 M' - ⟨rfl, π', o', h1, h2, h3⟩
  obtain ⟨⟨a1, ⟨a2, a2'⟩, a3, a4⟩, ⟨b1, b2, ⟨b3, b3'⟩, b4⟩, ⟨c1, c2, c3, ⟨c4, c4'⟩, c5, c6, c7⟩⟩ := id h1
  cases π' with
  | nil =>
    refine ⟨fun _ => kk M' (by rw [← h2, ← h3]; simpa [popr, pops] using h1), fun q => absurd ?_ q⟩
    rw [c1]; simp
  | cons x ρ =>
    have l1 : gi M' 353 30 = (ρ.length : Int) + 1 := by rw [c1]; simp
    have l2 : (gi M' 353 30 - 1).toNat = ρ.length := by rw [l1]; omega
    have top : gi M' 371 (gi M' 353 30 - 1).toNat = x := by rw [l2]; exact c2.1
    have i3 := inr_gi M' 353 30
    have i30 : inr (gi M' 353 30 - 1) := ⟨by omega, by have := i3.2; omega⟩
    have stop : ¬ (isb x = true ∧ v1 ≤ stg x) → K M' := fun q => kk M' (by
      have e1 : popr v1 (x :: ρ) = x :: ρ := if_neg q
      have e2 : pops v1 (x :: ρ) = [] := if_neg q
      rw [← h2, ← h3, e1, e2, List.append_nil]
      exact h1)
    refine ⟨fun q => absurd q (by omega), fun _ => ⟨i30, fun hb => ⟨fun q => stop ?_, fun q => ⟨i30, fun _ => ⟨fun q2 => stop ?_, fun q2 => ⟨i30, fun _ => ?_⟩⟩⟩⟩⟩⟩
    · rw [top] at q; rw [q]; exact fun z => absurd z.1 (by decide)
    · rw [top] at q2; rw [q2]; exact fun z => absurd z.1 (by decide)
    rw [top] at q q2 ⊢
    have hbx : isb x = true := by
      rcases c3.1 with z | z | z
      · exact absurd z q
      · exact absurd z q2
      · exact z
    have hbn := isb_ne hbx
    refine y_strength ⟨fun q3 => stop (fun z => by omega), fun q3 M2 e2 => ?_⟩
    have y2 : eqy (fun a k => a = 353 ∧ (k = 30 ∨ k = 31)) M' M2 := by rw [e2]; exact (eqy.rfl' _).wi ⟨rfl, Or.inl rfl⟩
    have k30 : gi M2 353 30 = (ρ.length : Int) := by rw [e2, gi_at i30, l1]; omega
    have k371 : gi M2 371 (gi M2 353 30).toNat = x := by rw [k30, e2, gi_of (Or.inl (by omega)), tn_]; exact c2.1
    intro _
    rw [k371]
    refine y_act (r := r) (c := c0 + o'.length) ((y2.i (by omega)).trans a2) a2' ((y2.i (by omega)).trans b3) b3' (inr_z (by omega) (by omega)) ir_1 (fun M3 x3 hc z1 z2 z3 z4 => ?_)
    refine ⟨rfl, ρ, o' ++ [(x, 0)], xm_act (q := (x, 0)) h1 y2 k30 ?_ (fil_b hbx).2.1 x3 hc z1 ⟨z2, fun w => ?_, fun w => ?_⟩, ?_, ?_⟩
    · rw [e2, gi_of (Or.inr (by omega)), c4, (fil_b hbx).1]
    · exact absurd w (by have := (isb_iff x).mp hbx; show ¬ x = 2; omega)
    · exact absurd w (by have := (isb_iff x).mp hbx; show ¬ x = 1; omega)
    · rw [← h2]
      exact (if_pos ⟨hbx, by omega⟩).symm
    · rw [← h3]
      have e2 : pops v1 (x :: ρ) = (x, 0) :: pops v1 ρ := if_pos ⟨hbx, by omega⟩
      rw [e2]
      simp
theorem y_operand (h : xm T r c0 M0 M i u π cs o) (kk : ∀ M', xm T r c0 M0 M' i u (dm π) cs (o ++ negs π) → K M') : em_W_operandIsThere M K := by
  refine ⟨fun M' => ∃ π' o', xm T r c0 M0 M' i u π' cs o' ∧ dm π' = dm π ∧ o' ++ negs π' = o ++ negs π, ⟨π, o, h, rfl, rfl⟩, ?_⟩
  rintro M' ⟨π', o', h1, h2, h3⟩
  obtain ⟨⟨a1, ⟨a2, a2'⟩, a3, a4⟩, ⟨b1, b2, ⟨b3, b3'⟩, b4⟩, ⟨c1, c2, c3, ⟨c4, c4'⟩, c5, c6, c7⟩⟩ := id h1
  cases π' with
  | nil =>
    refine ⟨fun _ => kk M' (by rw [← h2, ← h3]; simpa [dm, negs] using h1), fun q => absurd ?_ q⟩
    rw [c1]; simp
  | cons x ρ =>
    have l1 : gi M' 353 30 = (ρ.length : Int) + 1 := by rw [c1]; simp
    have l2 : (gi M' 353 30 - 1).toNat = ρ.length := by rw [l1]; omega
    have top : gi M' 371 (gi M' 353 30 - 1).toNat = x := by rw [l2]; exact c2.1
    have i3 := inr_gi M' 353 30
    have i30 : inr (gi M' 353 30 - 1) := ⟨by omega, by have := i3.2; omega⟩
    refine ⟨fun q => absurd q (by omega), fun _ => ⟨i30, fun hb => ⟨fun q M1 e1 M2 e2 => ?_, fun q => kk M' ?_⟩⟩⟩
    · rw [top] at q
      subst q
      have f31 : gi M' 353 31 = ((fil ρ).length : Int) + 1 := by rw [c4, (fil_m ρ).1]; simp
      have lf : (fil ρ).length ≤ 8 := by rw [(fil_m ρ).1] at c4'; simp at c4'; omega
      have g31 : gi M1 353 31 = ((fil ρ).length : Int) + 1 := by rw [e1, gi_of (Or.inr (by omega))]; exact f31
      have y2 : eqy (fun a k => a = 353 ∧ (k = 30 ∨ k = 31)) M' M2 := by rw [e2, e1]; exact ((eqy.rfl' _).wi ⟨rfl, Or.inl rfl⟩).wi ⟨rfl, Or.inr rfl⟩
      refine y_act (r := r) (c := c0 + o'.length) ((y2.i (by omega)).trans a2) a2' ((y2.i (by omega)).trans b3) b3' (inr_z (by omega) (by omega)) ir_1 (fun M3 x3 hc z1 z2 z3 z4 => ?_)
      refine ⟨ρ, o' ++ [(3, 0)], xm_act (q := (3, 0)) h1 y2 ?_ ?_ (fil_m ρ).2.1 x3 hc z1 ⟨z2, fun w => absurd w (by decide), fun w => absurd w (by decide)⟩, ?_, ?_⟩
      · rw [e2, gi_of (Or.inr (by omega)), e1, gi_at i30, l1]; omega
      · rw [e2, gi_at (by rw [g31]; exact inr_z (by omega) (by omega)), g31]; omega
      · rw [← h2]
        exact (if_pos rfl).symm
      · rw [← h3]
        have e2 : negs (1000 :: ρ) = (3, 0) :: negs ρ := if_pos rfl
        rw [e2]
        simp
    · rw [top] at q
      have e1 : dm (x :: ρ) = x :: ρ := if_neg q
      have e2 : negs (x :: ρ) = [] := if_neg q
      rw [← h2, ← h3, e1, e2, List.append_nil]
      exact h1
theorem xm.nx {i' : Nat} (h : xm T r c0 M0 M i u π cs o) (y : eqy nxw M M') (hm : mtv M' T i') : xm T r c0 M0 M' i' u π cs o := by
  obtain ⟨⟨a1, ⟨a2, a2'⟩, a3, a4⟩, ⟨b1, b2, ⟨b3, b3'⟩, b4⟩, ⟨c1, c2, c3, ⟨c4, c4'⟩, c5, c6, c7⟩⟩ := h
  have g : ∀ a k, ¬ (a = 353 ∧ 3 ≤ k ∧ k ≤ 8) → gi M' a k = gi M a k := fun a k z => y.i z
  refine ⟨⟨hm, ⟨(g _ _ (by omega)).trans a2, a2'⟩, a3.trans (y.mono (fun a k z => by unfold nxw at z; unfold exW; omega)), (g _ _ (by omega)).trans a4⟩, ⟨(g _ _ (by omega)).trans b1, b2, ⟨(g _ _ (by omega)).trans b3, b3'⟩, b4.eq y (fun b k z _ _ => by unfold nxw; omega)⟩, ⟨(g _ _ (by omega)).trans c1, c2.eq (fun k _ => g _ _ (by omega)), c3, ⟨(g _ _ (by omega)).trans c4, c4'⟩, (g _ _ (by omega)).trans c5, c6.eq (fun k _ => g _ _ (by omega)), c7⟩⟩
theorem y_next (h : mtv M T i) (hi : i < T.length) (kk : ∀ M', eqy nxw M M' → mtv M' T (i + 1) → K M') : em_W_next M K := by
  have h1 := h.1.1
  rw [if_pos hi] at h1
  exact y_next0 h1 kk
end WXP
