section WS2
variable {M M' M0 : rf_M} {T : tK} {r i s c u pe : Nat} {X : txT} {en l : Int} {σ : skT} {P : Nat → Nat → Prop} {K : rf_M → Prop}
theorem y_isSign_f {ch : Int} {K : Int → rf_M → Prop} (k1 : K 1 M) (k0 : K 0 M) : em_W_isSign ch M K := ⟨fun _ => ⟨fun _ => ⟨Or.inr rfl, k1⟩, fun _ => ⟨Or.inl rfl, k0⟩⟩, fun _ => ⟨Or.inl rfl, k0⟩⟩
theorem y_mis_f (hb : ¬ gi M 353 9 = 0) (k : K M) : em_W_misplaced M K := ⟨fun w => absurd w hb, fun _ => k⟩
theorem y_take_f {ch : Int} (hb : ¬ gi M 353 9 = 0) (k : K M) : em_W_take ch M K := by
  show e_W_take ch M K
  unfold e_W_take
  exact y_isSign_f ⟨fun w => absurd w (by decide), fun _ => ⟨fun w => absurd w hb, fun _ => k⟩⟩ ⟨fun _ => y_mis_f hb ⟨fun w => absurd w hb, fun _ => k⟩, fun w => absurd rfl w⟩
theorem y_take {ch : Int} (h9 : gi M 353 9 = 0) (hm : mtv M T i) (hc : 20 ≤ ch) (hk : κT T i = ch) (kk : ∀ M', eqy nxw M M' → mtv M' T (i + 1) → K M') : em_W_take ch M K := by
  show e_W_take ch M K
  unfold e_W_take
  exact y_isSign hm.1 hc (fun _ => ⟨fun w => absurd w (by decide), fun _ => ⟨fun _ => y_next hm (kd_lt (by show ¬ κT T i = 0; omega)) kk, fun w => absurd h9 w⟩⟩) (fun w => absurd hk w)
theorem tok4 (hm : mtk M T i) : (gi M 353 4 = 0 ↔ κT T i = 0) ∧ (gi M 353 4 = 2 ↔ κT T i = 1) ∧ (∀ z, 10 ≤ z → z ≤ 19 → (gi M 353 4 = z ↔ κT T i = z)) ∧ (κT T i = 1 → gi M 353 6 = νT T i ∧ 0 ≤ νT T i ∧ νT T i ≤ 25) := by
  have tk := hm.2.2
  have hk := tkm_iff tk.2.2.2
  exact ⟨by rw [tk.1]; exact hk.2.2.2.1, by rw [tk.1]; exact hk.2.2.1, fun z z1 z2 => by rw [tk.1]; exact hk.2.2.2.2.1 z z1 z2, tk.2.2.1⟩
theorem y_takeWord {w : Int} (h9 : gi M 353 9 = 0) (hm : mtv M T i) (hw : 0 ≤ w ∧ w ≤ 9) (hk : κT T i = 10 + w) (kk : ∀ M', eqy nxw M M' → mtv M' T (i + 1) → K M') : em_W_takeWord w M K := by
  show e_W_takeWord w M K
  unfold e_W_takeWord
  exact ⟨inr_z (by omega) (by omega), fun _ => ⟨fun _ => y_next hm (kd_lt (by show ¬ κT T i = 0; omega)) kk, fun q => absurd h9 q⟩, fun q => absurd (((tok4 hm.1).2.2.1 (10 + w) (by omega) (by omega)).mpr hk) q⟩
theorem sA.eq (h : sA T r M0 M i s c u) (e : eqy P M M') (q1 : ∀ a k, P a k → teW r a k) (q2 : ∀ a k, (a = 353 ∧ (k = 2 ∨ (3 ≤ k ∧ k ≤ 9) ∨ k = 28)) ∨ a = 354 ∨ ((a = 355 ∨ a = 356 ∨ a = 359) ∧ k = r) → ¬ P a k) : sA T r M0 M' i s c u := by
  obtain ⟨⟨a1, ⟨a2, a2'⟩, a3, a4⟩, b1, b2, b3, b4⟩ := h
  exact ⟨⟨a1.eq e (fun a k z => q2 a k (by omega)), ⟨(e.i (q2 _ _ (by omega))).trans a2, a2'⟩, a3.trans (e.mono q1), (e.i (q2 _ _ (by omega))).trans a4⟩, (e.i (q2 _ _ (by omega))).trans b1, (e.i (q2 _ _ (by omega))).trans b2, (e.i (q2 _ _ (by omega))).trans b3, b4⟩
def opW (r d a k : Nat) : Prop := (a = 353 ∧ k = 37) ∨ (a = 357 ∧ k = r) ∨ ((373 ≤ a ∧ a ≤ 375) ∧ k = d + 1)
theorem y_opn {o : Nat} {q : Int} (hA : sA T r M0 M i s c u) (hB : sB M r σ (o : Int)) (hm : smem M r X en ((o, q) :: σ) (-1) s c pe) (hk : κT T i = 123) (hd : σ.length < 8) (hq : q = 0 ∨ q = 1) (ho : o < 40) (kk : ∀ M', sA T r M0 M' (i + 1) s c u → sB M' r ((o, q) :: σ) (-1) → smem M' r X en ((o, q) :: σ) (-1) s c pe → K M') : em_W_openBody (40 * (r : Int) + (o : Int)) q M K := by
  obtain ⟨⟨a1, ⟨a2, a2'⟩, a3, a4⟩, -⟩ := id hA
  obtain ⟨b1, b2, b3⟩ := id hB
  show e_W_openBody (40 * (r : Int) + (o : Int)) q M K
  unfold e_W_openBody
  refine y_isSign a1.1 (by omega) (fun _ => ⟨fun w => absurd w (by decide), fun _ => ⟨fun w => absurd w (by omega), fun _ M2 e2 _ => ?_⟩⟩) (fun w => absurd hk w)
  have y2 : eqy (opW r σ.length) M M2 := by rw [e2]; exact (eqy.rfl' M).wi (Or.inl ⟨rfl, rfl⟩)
  have g28 : (gi M2 353 28).toNat = r := by rw [y2.i (by unfold opW; omega), a2]; omega
  have g37 : gi M2 353 37 = (σ.length : Int) + 1 := by rw [e2, gi_at (inr_z (by omega) (by omega)), b1]
  have h73 : ∀ z, e_W_openBody_73 (40 * (r : Int) + (o : Int)) q (gi M2 353 28) z M2 K := by
    intro z _ M3 e3
    rw [g28] at e3
    have k3 : (gi M3 353 37).toNat = σ.length + 1 := by rw [e3, gi_of (Or.inl (by omega)), g37]; omega
    rw [k3]
    intro _ M4 e4
    have k4 : (gi M4 353 37).toNat = σ.length + 1 := by rw [e4, gi_of (Or.inl (by omega))]; exact k3
    rw [k4]
    intro _ M5 e5
    have k5 : (gi M5 353 37).toNat = σ.length + 1 := by rw [e5, gi_of (Or.inl (by omega))]; exact k4
    rw [k5]
    intro _ M6 e6
    have y6 : eqy (opW r σ.length) M M6 := by
      rw [e6, e5, e4, e3]
      exact (((y2.wi (Or.inr (Or.inl ⟨rfl, rfl⟩))).wi (Or.inr (Or.inr ⟨by omega, rfl⟩))).wi (Or.inr (Or.inr ⟨by omega, rfl⟩))).wi (Or.inr (Or.inr ⟨by omega, rfl⟩))
    have hA6 : sA T r M0 M6 i s c u := hA.eq y6 (fun a k z => by unfold opW at z; unfold teW; omega) (fun a k z => by unfold opW; omega)
    refine y_next hA6.1.1 (kd_lt (by show ¬ κT T i = 0; omega)) (fun M7 y7 m7 => kk M7 (hA6.nx y7 m7) ⟨?_, ?_, ?_, ?_, ?_, ?_⟩ ((hm.eq y6 (fun b k z => by unfold opW; omega)).nx y7))
    · rw [y7.i (by unfold nxw; omega), e6, gi_of (Or.inl (by omega)), e5, gi_of (Or.inl (by omega)), e4, gi_of (Or.inl (by omega)), e3, gi_of (Or.inl (by omega)), g37, List.length_cons]; omega
    · rw [List.length_cons]; omega
    · rw [y7.i (by unfold nxw; omega), e6, gi_of (Or.inl (by omega)), e5, gi_of (Or.inl (by omega)), e4, gi_at (inr_z (by omega) (by omega))]
      show _ = lf r (o : Int)
      rw [lf_nat]; omega
    · rw [y7.i (by unfold nxw; omega), e6, gi_of (Or.inl (by omega)), e5, gi_at (inr_z (by omega) (by omega))]
    · rw [y7.i (by unfold nxw; omega), e6, gi_at (inr_z (by omega) (by omega)), lf_neg (by omega)]
    · exact b3.eq (fun b k z1 z2 z3 => (y7.i (by unfold nxw; omega)).trans (y6.i (by unfold opW; omega)))
  exact ⟨fun _ _ => h73 _, fun _ => h73 _⟩
theorem getD_l {c : cdT} {q : Int × Int} {m : Nat} (h : m < c.length) : (c ++ [q]).getD m (0, 0) = c.getD m (0, 0) := by
  rw [List.getD_eq_getElem?_getD, List.getD_eq_getElem?_getD, List.getElem?_append_left h]
theorem getD_r {c : cdT} {q : Int × Int} : (c ++ [q]).getD c.length (0, 0) = q := by
  rw [List.getD_eq_getElem?_getD, List.getElem?_append_right (Nat.le_refl _), Nat.sub_self]
  rfl
theorem getD_m {c : cdT} {m : Nat} (h : m < c.length) : c.getD m (0, 0) ∈ c := by
  rw [List.getD_eq_getElem?_getD, List.getElem?_eq_getElem h]
  exact List.getElem_mem h
theorem scod.app {cd : cdT} (h : scod M r X c) (h7 : rcq M (200 * r + c) (cd ++ [(4, 0)])) (d2 : cat_ X c (cd ++ [(0, 0)])) (hd : hdc cd) : scod M r X (c + cd.length + 1) := fun k hk => by
  by_cases e : k < c
  · exact h k e
  · obtain ⟨m, rfl⟩ : ∃ m, k = c + m := ⟨k - c, by omega⟩
    have l1 : m < (cd ++ [((4 : Int), (0 : Int))]).length := by simp; omega
    have l2 : m < (cd ++ [((0 : Int), (0 : Int))]).length := by simp; omega
    obtain ⟨a1, a2, a3⟩ := h7 m l1
    obtain ⟨b1, b2⟩ := d2 m l2
    rw [Nat.add_assoc] at a1 a2 a3
    by_cases em : m < cd.length
    · rw [getD_l em] at a1 a2 a3 b1 b2
      have nz := hd.1 _ (getD_m em)
      rw [a1, b1, b2]
      refine ⟨(if_neg nz).symm, a2, a3⟩
    · have em' : m = cd.length := by omega
      subst em'
      rw [getD_r] at a1 a2 a3 b1 b2
      rw [a1, b1]
      exact ⟨rfl, fun w => absurd w (by show ¬ ((0 : Int) = 2); decide), fun w => absurd w (by show ¬ ((0 : Int) = 1); decide)⟩
theorem srec.xp {x : Nat} {p1 p2 p3 p4 p5 q5 : Prop} (h : srec M r X p1 p2 p3 p4 p5 x) (e : ∀ b, 360 ≤ b → b ≤ 367 → b ≠ 364 → gi M' b (40 * r + x) = gi M b (40 * r + x)) (h4 : gi M' 364 (40 * r + x) = 200 * (r : Int) + X.1 2 x) (hx : kxp (X.1 0 x)) (hq : ¬ q5) : srec M' r X p1 p2 p3 p4 q5 x := by
  unfold srec at h ⊢
  rw [e 360 (by omega) (by omega) (by omega), e 361 (by omega) (by omega) (by omega), e 362 (by omega) (by omega) (by omega), e 363 (by omega) (by omega) (by omega), e 365 (by omega) (by omega) (by omega), e 366 (by omega) (by omega) (by omega), e 367 (by omega) (by omega) (by omega)]
  obtain ⟨a, -, b⟩ := h
  exact ⟨a, ⟨fun _ => h4, fun w => absurd ⟨hx, hq⟩ w⟩, b⟩
theorem smem.pne {p : Nat} (h : smem M r X en σ l (p + 1) c p) (hx : ¬ kxp (X.1 0 p)) : smem M r X en σ l (p + 1) c (p + 1) := by
  obtain ⟨h1, h2, h3⟩ := h
  refine ⟨h1, fun x hx' => ?_, h3⟩
  have R := h2 x hx'
  by_cases e : x = p
  · subst e
    obtain ⟨a, b, d⟩ := R
    exact ⟨a, ⟨fun w => absurd w.1 hx, fun _ => b.2 (fun w => hx w.1)⟩, d⟩
  · exact R.cg Iff.rfl Iff.rfl Iff.rfl Iff.rfl ⟨fun w => absurd w (by omega), fun w => absurd w e⟩
theorem y_exps {v : Int} {ir : Bool} {p j c' du : Nat} {σB : skT} {lB : Int} (hv : v = 0 ↔ ir = false) (hA : sA T r M0 M i (p + 1) c u) (hB : sB M r σB lB) (hm : smem M r X en σ l (p + 1) c p) (hp : p < 40) (hx : kxp (X.1 0 p)) (h2 : X.1 2 p = (c : Int)) (hd : dEx (κT T) (νT T) ir X i c j c' du) (hu : u + du ≤ 60) (hj : κT T j = 59 ∨ κT T j = 41)
    (kb : ∀ M', sfl r M0 M' → K M') (kk : ∀ M', sA T r M0 M' j (p + 1) c' (u + du) → sB M' r σB lB → smem M' r X en σ l (p + 1) c' (p + 1) → K M') : em_W_exp v M (fun (z1 : Int) (M1 : rf_M) => (0 ≤ (40 * (r : Int) + (p : Int)) ∧ (40 * (r : Int) + (p : Int)) < 480 → (∀ M2 : rf_M, M2 = wi M1 364 (40 * (r : Int) + (p : Int)).toNat z1 → K M2))) := by
  obtain ⟨⟨a1, ⟨a2, a2'⟩, a3, a4⟩, b1, b2, b3, b4⟩ := id hA
  obtain ⟨cd, d1, d2, d3⟩ := hd
  have en' : (40 * (r : Int) + (p : Int)).toNat = 40 * r + p := by omega
  rw [en']
  refine y_exp (r := r) (c0 := c) (u0 := u) hv a1 a2 a2' a4 b2 (by omega) b3 b4 (fun M1 hx1 _ M2 e2 => ?_)
  have y2 : eqy (fun a k => a = 364 ∧ k = 40 * r + p) M1 M2 := by rw [e2]; exact (eqy.rfl' _).wi ⟨rfl, rfl⟩
  rcases xpq_d hx1 d1 hu hj with f | ⟨f1, f2, f3, f4, f5, f6, f7⟩
  · refine kb M2 ⟨(a3.trans (f.1.mono (fun a k z => by unfold exW at z; unfold teW; omega))).trans (y2.mono (fun a k z => by unfold teW; omega)), ?_⟩
    rw [y2.i (by omega)]
    exact f.2.2.1
  · have g : ∀ b k, ¬ exW r c b k → ¬ (b = 364 ∧ k = 40 * r + p) → gi M2 b k = gi M b k := fun b k z1 z2 => (y2.i z2).trans (f1.i z1)
    refine kk M2 ⟨⟨f4.eq y2 (fun a k z => by omega), ⟨(y2.i (by omega)).trans f2.1, a2'⟩, (a3.trans (f1.mono (fun a k z => by unfold exW at z; unfold teW; omega))).trans (y2.mono (fun a k z => by unfold teW; omega)), (y2.i (by omega)).trans f3⟩, (g _ _ (by unfold exW; omega) (by omega)).trans b1, (y2.i (by omega)).trans f5, ?_, by omega⟩ ((hB.eq f1 (fun b k z => by unfold exW; omega)).eq y2 (fun b k z => by omega)) ⟨?_, fun x hx' => ?_, ?_⟩
    · rw [y2.i (by omega), f6.1, d3]
    · rw [g _ _ (by unfold exW; omega) (by omega)]
      exact hm.1
    · have R := hm.2.1 x hx'
      by_cases e : x = p
      · subst e
        refine R.xp (fun b z1 z2 z3 => g _ _ (by unfold exW; omega) (by omega)) ?_ hx (by omega)
        rw [e2, gi_at (inr_z (by omega) (by omega)), h2]
      · exact (R.eq (fun b z1 z2 => g _ _ (by unfold exW; omega) (by omega))).cg Iff.rfl Iff.rfl Iff.rfl Iff.rfl ⟨fun w => absurd w (by omega), fun w => absurd w e⟩
    · rw [d3]
      exact (((hm.2.2.eq f1 (fun b k z1 z2 z3 z4 => by unfold exW; omega))).app f7 d2 (dE_hd (dU_hd 8) _ _ _ _ d1)).eq y2 (fun b k z1 z2 z3 z4 => by omega)
end WS2
/-! THE REFERENCE'S STATEMENTS: readStatement() -/
def sst (T : tK) (r : Nat) (M0 : rf_M) (X : txT) (en : Int) (S C : Nat) (M : rf_M) : Prop := ∃ σ l i s c u, sA T r M0 M i s c u ∧ sB M r σ l ∧ (okz σ l ∧ l < (s : Int) ∧ zow σ < (s : Int)) ∧ smem M r X en σ l s c s ∧ zr (κT T) (νT T) X en S C σ l i s c u
theorem okz_last : ∀ {σ : skT} {l l' : Int}, okz σ l → zow σ < l' → -1 ≤ l' → okz σ l'
  | [], _, _, _, _, h => h
  | _ :: _, _, _, h, h', _ => ⟨Or.inr h', h.2⟩
section WS3
variable {M M' M0 : rf_M} {T : tK} {r i s c u : Nat} {X : txT} {en l : Int} {σ : skT} {S C : Nat} {K : rf_M → Prop}
theorem y_rs0 (ht : gi M 353 4 = 2 ∨ gi M 353 4 = 10 ∨ gi M 353 4 = 12 ∨ gi M 353 4 = 13 ∨ gi M 353 4 = 14 ∨ gi M 353 4 = 15 ∨ gi M 353 4 = 17 ∨ gi M 353 4 = 19) (h : e_W_readStatement_57 (gi M 353 4 - 10) 1 M K) : em_W_readStatement M K := by
  have hi : inr (gi M 353 4 - 10) := inr_z (by omega) (by omega)
  exact ⟨fun _ => ⟨hi, h⟩, fun q1 => ⟨hi, ⟨fun _ => h, fun q2 => ⟨fun _ => h, fun q3 => ⟨fun _ => h, fun q4 => ⟨fun _ => h, fun q5 => ⟨fun _ => h, fun q6 => ⟨fun _ => h, fun q7 => ⟨fun _ => h, fun q8 => absurd ht (by omega)⟩⟩⟩⟩⟩⟩⟩⟩⟩
theorem f231 {z : Int} (hb : ¬ gi M 353 9 = 0) (k : K M) : e_W_readStatement_231 z M K := by
  have f256 : e_W_readStatement_256 z M K := ⟨fun w => absurd w hb, fun _ => k⟩
  have f250 : e_W_readStatement_250 z M K := y_take_f hb f256
  exact fun _ => ⟨fun _ => f250, fun _ _ => ⟨fun _ => f250, fun _ => f256⟩⟩
theorem q231 {z v : Int} {a : Nat} (ea : z.toNat = a) (h : gi M 360 a = v) (h1 : v = 0 ∨ v = 2 → e_W_readStatement_250 z M K) (h2 : v ≠ 0 → v ≠ 2 → e_W_readStatement_256 z M K) : e_W_readStatement_231 z M K := by
  unfold e_W_readStatement_231
  rw [ea, h]
  exact fun _ => ⟨fun w => h1 (Or.inl w), fun w0 _ => ⟨fun w => h1 (Or.inr w), fun w => h2 w0 w⟩⟩
theorem q167 {z v : Int} {a : Nat} (ea : z.toNat = a) (h9 : gi M 353 9 = 0) (h : gi M 360 a = v) (h1 : v = 3 ∨ v = 5 ∨ v = 7 → e_W_readStatement_231 z M K) (h2 : v = 9 → e_W_readStatement_227 z z 1 M K) (h3 : v ≠ 3 → v ≠ 5 → v ≠ 7 → v ≠ 9 → e_W_readStatement_227 z z 0 M K) : e_W_readStatement_167 z M K := by
  unfold e_W_readStatement_167
  rw [ea, h]
  exact ⟨fun _ _ => ⟨fun w => h1 (Or.inl w), fun w3 _ => ⟨fun w => h1 (Or.inr (Or.inl w)), fun w5 _ => ⟨fun w => h1 (Or.inr (Or.inr w)), fun w7 _ => ⟨fun w => h2 w, fun w => h3 w3 w5 w7 w⟩⟩⟩⟩, fun w => absurd h9 w⟩
theorem q256 {z v : Int} {a : Nat} (ea : z.toNat = a) (h9 : gi M 353 9 = 0) (h : gi M 360 a = v) (h1 : v = 0 ∨ v = 2 ∨ v = 5 ∨ v = 7 → e_W_readStatement_304 z M K) (h2 : v ≠ 0 → v ≠ 2 → v ≠ 5 → v ≠ 7 → em_W_take 59 M K) : e_W_readStatement_256 z M K := by
  unfold e_W_readStatement_256
  rw [ea, h]
  exact ⟨fun _ _ => ⟨fun w => h1 (Or.inl w), fun w0 _ => ⟨fun w => h1 (Or.inr (Or.inl w)), fun w2 _ => ⟨fun w => h1 (Or.inr (Or.inr (Or.inl w))), fun w5 _ => ⟨fun w => h1 (Or.inr (Or.inr (Or.inr w))), fun w7 => h2 w0 w2 w5 w7⟩⟩⟩⟩, fun w => absurd h9 w⟩
theorem y_head {σ' : skT} {l' : Int} (hA : sA T r M0 M i s c u) (hB : sB M r σ l) (ho : okz σ l) (hl : l < (s : Int)) (hw : zow σ < (s : Int)) (hs : s < 40) (hlk : lkq X en σ l (s : Int)) (hm : smem M r X en σ l s c s) (hk : knd (κT T i)) (x0 : X.1 0 s = κT T i) (x3 : X.1 3 s = zow σ) (x4 : X.1 4 s = zpt σ) (x1 : κT T i = 1 → X.1 1 s = νT T i) (hsel : (σ' = σ ∧ l' = (s : Int) ∧ X.1 7 s = -1 ∧ X.1 8 s = -1 ∧ κT T i ≠ 17) ∨ (σ' = (s, 0) :: σ ∧ l' = -1))
    (kk : ∀ M', sA T r M0 M' (i + 1) (s + 1) c u → sB M' r σ (s : Int) → smem M' r X en σ' l' (s + 1) c s → (κT T i = 1 → em_W_take 61 M' (fun M3 => e_W_readStatement_167 (40 * (r : Int) + (s : Int)) M3 K)) ∧ (κT T i = 10 ∨ κT T i = 12 → e_W_readStatement_161 (40 * (r : Int) + (s : Int)) M' K) ∧ (¬ κT T i = 1 → ¬ κT T i = 10 → ¬ κT T i = 12 → e_W_readStatement_167 (40 * (r : Int) + (s : Int)) M' K)) : em_W_readStatement M K := by
  obtain ⟨⟨a1, ⟨a2, a2'⟩, a3, a4⟩, b1, b2, b3, b4⟩ := id hA
  obtain ⟨t0, t2, tw, tl⟩ := tok4 a1.1
  have en' : (40 * (r : Int) + (s : Int)).toNat = 40 * r + s := by omega
  have w1 : ¬ κT T i = 1 → gi M 353 4 = κT T i := fun w => (tw _ (by unfold knd at hk; omega) (by unfold knd at hk; omega)).mpr rfl
  have ht : gi M 353 4 = 2 ∨ gi M 353 4 = 10 ∨ gi M 353 4 = 12 ∨ gi M 353 4 = 13 ∨ gi M 353 4 = 14 ∨ gi M 353 4 = 15 ∨ gi M 353 4 = 17 ∨ gi M 353 4 = 19 := by
    by_cases w : κT T i = 1
    · exact Or.inl (t2.mpr w)
    · rw [w1 w]
      unfold knd at hk
      omega
  have e0 : (gi M 353 28).toNat = r := by rw [a2]; omega
  have kfi : inr (kf (κT T i)) := by
    unfold knd at hk
    unfold kf
    split
    · exact inr_z (by omega) (by omega)
    · exact inr_z (by omega) (by omega)
  refine y_rs0 ht ⟨fun w => absurd w (by decide), fun _ _ => ?_⟩
  rw [e0, b1]
  refine ⟨fun w => absurd w (by omega), fun _ => y_new a2 a2' b1 hs hB ho hl hw hlk hm (fun M1 y1 f1 hB1 ff hm1 => ?_)⟩
  obtain ⟨g1, g2, g3, g4, g5, g6⟩ := ff
  have q4 : gi M1 353 4 = gi M 353 4 := y1.i (by unfold nwW; omega)
  have q6 : gi M1 353 6 = gi M 353 6 := y1.i (by unfold nwW; omega)
  have h127 : ∀ M2 zl, M2 = wi M1 360 (40 * r + s) (kf (κT T i)) → (κT T i = 1 → zl = νT T i) → inr zl → e_W_readStatement_127 (gi M 353 4 - 10) (40 * (r : Int) + (s : Int)) (40 * (r : Int) + (s : Int)) zl M2 K := by
    intro M2 zl e2 hzl iz _ M3 e3
    rw [en'] at e3
    have y3 : eqy (fun a k => (a = 360 ∨ a = 367) ∧ k = 40 * r + s) M1 M3 := by rw [e3, e2]; exact ((eqy.rfl' _).wi ⟨Or.inl rfl, rfl⟩).wi ⟨Or.inr rfl, rfl⟩
    have hA3 : sA T r M0 M3 i (s + 1) c u := by
      refine ⟨⟨(a1.eq y1 (fun a k z => by unfold nwW; omega)).eq y3 (fun a k z => by omega), ⟨?_, a2'⟩, (a3.trans (y1.mono (fun a k z => by unfold nwW at z; unfold teW; omega))).trans (y3.mono (fun a k z => by unfold teW; omega)), ?_⟩, ?_, ?_, ?_, b4⟩
      · rw [y3.i (by omega), y1.i (by unfold nwW; omega)]; exact a2
      · rw [y3.i (by omega), y1.i (by unfold nwW; omega)]; exact a4
      · rw [y3.i (by omega), f1]; omega
      · rw [y3.i (by omega), y1.i (by unfold nwW; omega)]; exact b2
      · rw [y3.i (by omega), y1.i (by unfold nwW; omega)]; exact b3
    have hm3 := hm1.eq y3 (fun b k z => by omega)
    have f60 : gi M3 360 (40 * r + s) = kf (κT T i) := by rw [e3, gi_of (Or.inl (by omega)), e2, gi_at kfi]
    have f67 : gi M3 367 (40 * r + s) = zl := by rw [e3, gi_at iz]
    have hs3 : smem M3 r X en σ' l' (s + 1) c s := by
      rcases hsel with ⟨e1, e2', x7, x8, n17⟩ | ⟨e1, e2'⟩
      · rw [e1, e2']
        refine ⟨⟨fun w => absurd w.2 (by omega), fun _ => hm3.1.2 (fun w => absurd w.2 (by omega))⟩, fun x hx => ?_, hm3.2.2⟩
        by_cases e : x = s
        · subst e
          refine ⟨⟨by rw [x0]; exact f60, ?_, ?_, by rw [x0]; exact hk⟩, ⟨fun w => absurd rfl w.2, fun _ => (y3.i (by omega)).trans g4⟩, ⟨fun _ => (y3.i (by omega)).trans g1, fun w => absurd (Or.inr rfl) w⟩, ⟨fun _ => (y3.i (by omega)).trans g5, fun _ => ?_⟩, ⟨fun _ => (y3.i (by omega)).trans g6, fun _ => ?_⟩, fun w => ?_⟩
          · rw [y3.i (by omega), g2, x3]
          · rw [y3.i (by omega), g3, x4]
          · rw [y3.i (by omega), g5, x7]; exact (lf_neg (by omega)).symm
          · rw [y3.i (by omega), g6, x8]; exact (lf_neg (by omega)).symm
          · rcases w with w | ⟨w, -⟩
            · rw [f67, x1 (x0.symm.trans w)]; exact hzl (x0.symm.trans w)
            · exact absurd (x0.symm.trans w) n17
        · exact hm3.2.1 x (by omega)
      · rw [e1, e2']
        refine ⟨⟨fun w => (by cases w.1), fun _ => hm3.1.2 (fun w => absurd w.2 (by omega))⟩, fun x hx => ?_, hm3.2.2⟩
        by_cases e : x = s
        · subst e
          refine ⟨⟨by rw [x0]; exact f60, ?_, ?_, by rw [x0]; exact hk⟩, ⟨fun w => absurd rfl w.2, fun _ => (y3.i (by omega)).trans g4⟩, ⟨fun _ => (y3.i (by omega)).trans g1, fun w => absurd (Or.inl (Or.inl rfl)) w⟩, ⟨fun _ => (y3.i (by omega)).trans g5, fun w => absurd ⟨⟨rfl, rfl⟩, rfl⟩ w⟩, ⟨fun _ => (y3.i (by omega)).trans g6, fun w => absurd (Or.inl (Or.inl ⟨rfl, rfl⟩)) w⟩, fun w => ?_⟩
          · rw [y3.i (by omega), g2, x3]
          · rw [y3.i (by omega), g3, x4]
          · rcases w with w | ⟨-, w⟩
            · rw [f67, x1 (x0.symm.trans w)]; exact hzl (x0.symm.trans w)
            · exact absurd (Or.inl ⟨rfl, rfl⟩) w
        · refine (hm3.2.1 x (by omega)).cg ?_ ?_ ?_ ?_ Iff.rfl
          · exact ⟨fun w => Or.inl ((w.resolve_right (by omega)).resolve_left e), fun w => Or.inl (Or.inr (w.resolve_right (by omega)))⟩
          · exact ⟨fun w => absurd w.1.1 (by show ¬ ((x : Int) = (s : Int)); omega), fun w => absurd w.2 (by omega)⟩
          · exact ⟨fun w => Or.inl ((w.resolve_right (fun w => absurd w.1.2 (by show ¬ ((0 : Int) = 1); decide))).resolve_left (fun w => e w.1)), fun w => Or.inl (Or.inr (w.resolve_right (fun w => absurd w.2 (by omega))))⟩
          · exact ⟨fun w => w.resolve_left (fun w => e w.1), fun w => Or.inr w⟩
    refine y_next hA3.1.1 (kd_lt (by show ¬ κT T i = 0; unfold knd at hk; omega)) (fun M4 y4 m4 _ => ?_)
    obtain ⟨k1, k2, k3⟩ := kk M4 (hA3.nx y4 m4) ((hB1.eq y3 (fun b k z => by omega)).nx y4) (hs3.nx y4)
    have f60' : gi M4 360 (40 * r + s) = kf (κT T i) := (y4.i (by unfold nxw; omega)).trans f60
    have ki := kf_iff hk
    rw [en', f60']
    refine ⟨fun q => k1 (ki.2.2.2.2.2.2.2.mp q), fun q => ?_⟩
    have n1 : ¬ κT T i = 1 := fun w => q (ki.2.2.2.2.2.2.2.mpr w)
    rw [w1 n1]
    exact ⟨fun q0 => k2 (Or.inl (by omega)), fun q0 => ⟨fun q2 => k2 (Or.inr (by omega)), fun q2 => k3 n1 (by omega) (by omega)⟩⟩
  have h105 : ∀ zz, zz = kf (κT T i) → e_W_readStatement_105 (gi M 353 4 - 10) (40 * (r : Int) + (s : Int)) (40 * (r : Int) + (s : Int)) zz M1 K := by
    intro zz ez _ M2 e2
    rw [ez, en'] at e2
    have k4 : gi M2 353 4 = gi M 353 4 := by rw [e2, gi_of (Or.inl (by omega))]; exact q4
    have k6 : gi M2 353 6 = gi M 353 6 := by rw [e2, gi_of (Or.inl (by omega))]; exact q6
    exact ⟨fun q => h127 M2 _ e2 (fun w => k6.trans (tl w).1) (inr_gi _ _ _), fun q => h127 M2 (-1) e2 (fun w => absurd (k4.trans (t2.mpr w)) q) (inr_z (by omega) (by omega))⟩
  by_cases w : κT T i = 1
  · exact ⟨fun _ => h105 20 (by rw [w]; rfl), fun q => absurd (q4.trans (t2.mpr w)) q⟩
  · refine ⟨fun q => absurd (t2.mp (q4.symm.trans q)) w, fun _ => h105 _ ?_⟩
    rw [w1 w]
    unfold kf
    rw [if_neg w]
theorem y_readStatement (hS : S ≤ 40) (hA : sA T r M0 M i s c u) (hB : sB M r σ l) (ho : okz σ l) (hl : l < (s : Int)) (hw : zow σ < (s : Int)) (hm : smem M r X en σ l s c s) (hz : zr (κT T) (νT T) X en S C σ l i s c u) (hk1 : ¬ (κT T i = 0 ∧ σ = [])) (hk2 : ¬ (κT T i = 125 ∧ σ ≠ [])) (kb : ∀ M', sfl r M0 M' → K M') (kk : ∀ M', sst T r M0 X en S C M' → K M') : em_W_readStatement M K := by
  obtain ⟨j1, s1, c1, u1, hd, hlk, hz'⟩ := zr_step hz hk1 hk2
  have hkd := dT_kd hd
  have hb := zr_le _ _ _ _ _ _ hz'
  have hc := (dT.congr (X' := X) (dB.congr _) hd).1
  obtain ⟨⟨x0, x2, x3, x4, x5⟩, hd⟩ := hd
  have hs : s < 40 := by omega
  have ea : (40 * (r : Int) + (s : Int)).toNat = 40 * r + s := by omega
  have F : ∀ {N : rf_M} {σ' : skT} {l' : Int} {c' pe : Nat}, smem N r X en σ' l' (s + 1) c' pe → gi N 360 (40 * r + s) = kf (κT T i) := fun h => by rw [← x0]; exact (h.2.1 s (by omega)).1.1
  have os : okz σ (s : Int) := okz_last ho hw (by omega)
  have kb' : ∀ M', sfl r M0 M' → e_W_readStatement_231 (40 * (r : Int) + (s : Int)) M' K := fun M' h => f231 h.2 (kb M' h)
  have simp1 : ∀ N c' u' j, sA T r M0 N j (s + 1) c' u' → sB N r σ (s : Int) → smem N r X en σ (s : Int) (s + 1) c' (s + 1) → κT T j = 59 → (kf (κT T i) ≠ 0 ∧ kf (κT T i) ≠ 2 ∧ kf (κT T i) ≠ 5 ∧ kf (κT T i) ≠ 7) → zr (κT T) (νT T) X en S C σ (s : Int) (j + 1) (s + 1) c' u' → e_W_readStatement_256 (40 * (r : Int) + (s : Int)) N K := by
    intro N c' u' j hA' hB' hm' hj hv hz2
    refine q256 ea hA'.1.2.2.2 (F hm') (fun w => absurd hv (by omega)) (fun _ _ _ _ => ?_)
    exact y_take hA'.1.2.2.2 hA'.1.1 (by omega) hj (fun N' y m => kk N' ⟨σ, (s : Int), j + 1, s + 1, c', u', hA'.nx y m, hB'.nx y, ⟨os, by omega, by omega⟩, hm'.nx y, hz2⟩)
  have comp : ∀ N c' u' j, sA T r M0 N j (s + 1) c' u' → sB N r σ (s : Int) → smem N r X en ((s, 0) :: σ) (-1) (s + 1) c' (s + 1) → (kf (κT T i) = 0 ∨ kf (κT T i) = 2 ∨ kf (κT T i) = 5 ∨ kf (κT T i) = 7) → (κT T j = 123 ∧ σ.length < 8 ∧ zr (κT T) (νT T) X en S C ((s, 0) :: σ) (-1) (j + 1) (s + 1) c' u') → e_W_readStatement_256 (40 * (r : Int) + (s : Int)) N K := by
    intro N c' u' j hA' hB' hm' hv hz2
    refine q256 ea hA'.1.2.2.2 (F hm') (fun _ => ?_) (fun w0 w2 w5 w7 => absurd hv (by omega))
    exact y_opn hA' hB' hm' hz2.1 hz2.2.1 (Or.inl rfl) hs (fun N' a b d => kk N' ⟨(s, 0) :: σ, -1, j + 1, s + 1, c', u', a, b, ⟨⟨Or.inl rfl, Or.inl rfl, os⟩, by omega, by show (s : Int) < ((s + 1 : Nat) : Int); omega⟩, d, hz2.2.2⟩)
  rcases hd with ⟨k, k1, ⟨z1, z7, z8⟩, rfl, j2, d, e1, rfl⟩ | ⟨k, ⟨z7, z8⟩, rfl, j2, d, e1, rfl⟩ | ⟨k, ⟨z7, z8⟩, rfl, j2, d, e1, rfl⟩ | ⟨k, ⟨z7, z8⟩, e1, rfl, rfl, rfl, rfl⟩ | ⟨k, k1, z8, j2, c2, u2, u3, d, e1, e2, rfl⟩ | ⟨k, k1, j2, c2, u2, j3, s3, c3, u3, d, e1, e2, e3⟩ | ⟨k, j2, s2, c2, u2, u3, e1, e2, e3, rfl⟩ | ⟨k, j2, s2, c2, u2, u3, e1, e2, ⟨l1, l2, l3⟩, e3, rfl⟩
  · have kv : kf (κT T i) = 20 := by rw [k]; rfl
    refine y_head (σ' := σ) (l' := (s : Int)) hA hB ho hl hw hs hlk hm hkd x0 x3 x4 (fun _ => z1) (Or.inl ⟨rfl, rfl, z7, z8, by omega⟩) (fun M1 hA1 hB1 hm1 => ⟨fun _ => ?_, fun w => absurd w (by omega), fun w => absurd k w⟩)
    refine y_take hA1.1.2.2.2 hA1.1.1 (by omega) k1 (fun M2 y2 m2 => ?_)
    have hA2 := hA1.nx y2 m2
    refine q167 ea hA2.1.2.2.2 (F (hm1.nx y2)) (fun w => absurd w (by omega)) (fun w => absurd w (by omega)) (fun _ _ _ _ => ?_)
    exact y_exps (K := fun N => e_W_readStatement_231 (40 * (r : Int) + (s : Int)) N K) (ir := false) (by simp) hA2 (hB1.nx y2) (hm1.nx y2) hs (by rw [x0, k]; unfold kxp; omega) x2 d (by omega) (Or.inl e1) kb' (fun M3 hA3 hB3 hm3 => q231 ea (F hm3) (fun w => absurd w (by omega)) (fun _ _ => simp1 M3 _ _ _ hA3 hB3 hm3 e1 (by omega) hz'))
  · have kv : kf (κT T i) = 4 := by rw [k]; rfl
    refine y_head (σ' := σ) (l' := (s : Int)) hA hB ho hl hw hs hlk hm hkd x0 x3 x4 (fun w => absurd w (by omega)) (Or.inl ⟨rfl, rfl, z7, z8, by omega⟩) (fun M1 hA1 hB1 hm1 => ⟨fun w => absurd w (by omega), fun w => absurd w (by omega), fun _ _ _ => ?_⟩)
    refine q167 ea hA1.1.2.2.2 (F hm1) (fun w => absurd w (by omega)) (fun w => absurd w (by omega)) (fun _ _ _ _ => ?_)
    exact y_exps (K := fun N => e_W_readStatement_231 (40 * (r : Int) + (s : Int)) N K) (ir := false) (by simp) hA1 hB1 hm1 hs (by rw [x0, k]; unfold kxp; omega) x2 d (by omega) (Or.inl e1) kb' (fun M3 hA3 hB3 hm3 => q231 ea (F hm3) (fun w => absurd w (by omega)) (fun _ _ => simp1 M3 _ _ _ hA3 hB3 hm3 e1 (by omega) hz'))
  · have kv : kf (κT T i) = 9 := by rw [k]; rfl
    refine y_head (σ' := σ) (l' := (s : Int)) hA hB ho hl hw hs hlk hm hkd x0 x3 x4 (fun w => absurd w (by omega)) (Or.inl ⟨rfl, rfl, z7, z8, by omega⟩) (fun M1 hA1 hB1 hm1 => ⟨fun w => absurd w (by omega), fun w => absurd w (by omega), fun _ _ _ => ?_⟩)
    refine q167 ea hA1.1.2.2.2 (F hm1) (fun w => absurd w (by omega)) (fun _ => ?_) (fun _ _ _ w => absurd kv w)
    exact y_exps (K := fun N => e_W_readStatement_231 (40 * (r : Int) + (s : Int)) N K) (ir := true) (by simp) hA1 hB1 hm1 hs (by rw [x0, k]; unfold kxp; omega) x2 d (by omega) (Or.inl e1) kb' (fun M3 hA3 hB3 hm3 => q231 ea (F hm3) (fun w => absurd w (by omega)) (fun _ _ => simp1 M3 _ _ _ hA3 hB3 hm3 e1 (by omega) hz'))
  · have kv : kf (κT T i) = 3 := by rw [k]; rfl
    refine y_head (σ' := σ) (l' := (s : Int)) hA hB ho hl hw hs hlk hm hkd x0 x3 x4 (fun w => absurd w (by omega)) (Or.inl ⟨rfl, rfl, z7, z8, by omega⟩) (fun M1 hA1 hB1 hm1 => ⟨fun w => absurd w (by omega), fun w => absurd w (by omega), fun _ _ _ => ?_⟩)
    have hm1' := hm1.pne (by rw [x0, k]; unfold kxp; omega)
    refine q167 ea hA1.1.2.2.2 (F hm1) (fun _ => ?_) (fun w => absurd w (by omega)) (fun w _ _ _ => absurd kv w)
    exact q231 ea (F hm1) (fun w => absurd w (by omega)) (fun _ _ => simp1 M1 _ _ _ hA1 hB1 hm1' e1 (by omega) hz')
  · have kv : kf (κT T i) = 2 := by rw [k]; rfl
    refine y_head (σ' := (s, 0) :: σ) (l' := -1) hA hB ho hl hw hs hlk hm hkd x0 x3 x4 (fun w => absurd w (by omega)) (Or.inr ⟨rfl, rfl⟩) (fun M1 hA1 hB1 hm1 => ⟨fun w => absurd w (by omega), fun _ => ?_, fun _ _ w => absurd k w⟩)
    refine y_take hA1.1.2.2.2 hA1.1.1 (by omega) k1 (fun M2 y2 m2 => ?_)
    have hA2 := hA1.nx y2 m2
    refine q167 ea hA2.1.2.2.2 (F (hm1.nx y2)) (fun w => absurd w (by omega)) (fun w => absurd w (by omega)) (fun _ _ _ _ => ?_)
    refine y_exps (K := fun N => e_W_readStatement_231 (40 * (r : Int) + (s : Int)) N K) (ir := false) (by simp) hA2 (hB1.nx y2) (hm1.nx y2) hs (by rw [x0, k]; unfold kxp; omega) x2 d (by omega) (Or.inr e1) kb' (fun M3 hA3 hB3 hm3 => q231 ea (F hm3) (fun _ => ?_) (fun _ w => absurd kv w))
    refine y_take hA3.1.2.2.2 hA3.1.1 (by omega) e1 (fun M4 y4 m4 => ?_)
    refine comp M4 _ _ _ (hA3.nx y4 m4) (hB3.nx y4) (hm3.nx y4) (by omega) (zr_open e2 (Or.inl ⟨rfl, rfl⟩) (Or.inr ⟨rfl, Or.inl ⟨x0.trans k, z8, ?_⟩⟩))
    rw [Nat.add_assoc]
    exact hz'
  · have kv : kf (κT T i) = 0 := by rw [k]; rfl
    have hu2 : u2 + u3 ≤ u1 := by
      rcases e3 with ⟨-, -, -, -, -, e⟩ | ⟨-, u4, -, e⟩ <;> omega
    refine y_head (σ' := (s, 0) :: σ) (l' := -1) hA hB ho hl hw hs hlk hm hkd x0 x3 x4 (fun w => absurd w (by omega)) (Or.inr ⟨rfl, rfl⟩) (fun M1 hA1 hB1 hm1 => ⟨fun w => absurd w (by omega), fun _ => ?_, fun _ w _ => absurd k w⟩)
    refine y_take hA1.1.2.2.2 hA1.1.1 (by omega) k1 (fun M2 y2 m2 => ?_)
    have hA2 := hA1.nx y2 m2
    refine q167 ea hA2.1.2.2.2 (F (hm1.nx y2)) (fun w => absurd w (by omega)) (fun w => absurd w (by omega)) (fun _ _ _ _ => ?_)
    refine y_exps (K := fun N => e_W_readStatement_231 (40 * (r : Int) + (s : Int)) N K) (ir := false) (by simp) hA2 (hB1.nx y2) (hm1.nx y2) hs (by rw [x0, k]; unfold kxp; omega) x2 d (by omega) (Or.inr e1) kb' (fun M3 hA3 hB3 hm3 => q231 ea (F hm3) (fun _ => ?_) (fun w _ => absurd kv w))
    refine y_take hA3.1.2.2.2 hA3.1.1 (by omega) e1 (fun M4 y4 m4 => ?_)
    refine comp M4 _ _ _ (hA3.nx y4 m4) (hB3.nx y4) (hm3.nx y4) (by omega) (zr_open e2 (Or.inl ⟨rfl, rfl⟩) (Or.inr ⟨rfl, Or.inr ?_⟩))
    rcases e3 with ⟨n11, z8, rfl, rfl, rfl, rfl⟩ | ⟨y11, u4, e4, rfl⟩
    · refine Or.inl ⟨x0.trans k, n11, z8, ?_⟩
      rw [Nat.add_assoc]
      exact hz'
    · refine Or.inr (Or.inl ⟨x0.trans k, y11, _, _, _, _, e4, ?_⟩)
      rw [Nat.add_assoc, Nat.add_assoc, ← Nat.add_assoc u2]
      exact hz'
  · have kv : kf (κT T i) = 5 := by rw [k]; rfl
    refine y_head (σ' := (s, 0) :: σ) (l' := -1) hA hB ho hl hw hs hlk hm hkd x0 x3 x4 (fun w => absurd w (by omega)) (Or.inr ⟨rfl, rfl⟩) (fun M1 hA1 hB1 hm1 => ⟨fun w => absurd w (by omega), fun w => absurd w (by omega), fun _ _ _ => ?_⟩)
    have hm1' := hm1.pne (by rw [x0, k]; unfold kxp; omega)
    refine q167 ea hA1.1.2.2.2 (F hm1) (fun _ => ?_) (fun w => absurd w (by omega)) (fun _ w _ _ => absurd kv w)
    refine q231 ea (F hm1) (fun w => absurd w (by omega)) (fun _ _ => comp M1 _ _ _ hA1 hB1 hm1' (by omega) (zr_open e1 (Or.inl ⟨rfl, rfl⟩) (Or.inr ⟨rfl, Or.inr (Or.inr (Or.inr (Or.inl ⟨x0.trans k, e2, _, _, _, _, e3, ?_⟩)))⟩)))
    rw [Nat.add_assoc]
    exact hz'
  · have kv : kf (κT T i) = 7 := by rw [k]; rfl
    refine y_head (σ' := (s, 0) :: σ) (l' := -1) hA hB ho hl hw hs hlk hm hkd x0 x3 x4 (fun w => absurd w (by omega)) (Or.inr ⟨rfl, rfl⟩) (fun M1 hA1 hB1 hm1 => ⟨fun w => absurd w (by omega), fun w => absurd w (by omega), fun _ _ _ => ?_⟩)
    have hm1' := hm1.pne (by rw [x0, k]; unfold kxp; omega)
    refine q167 ea hA1.1.2.2.2 (F hm1) (fun _ => ?_) (fun w => absurd w (by omega)) (fun _ _ w _ => absurd kv w)
    refine q231 ea (F hm1) (fun w => absurd w (by omega)) (fun _ _ => comp M1 _ _ _ hA1 hB1 hm1' (by omega) (zr_open e1 (Or.inl ⟨rfl, rfl⟩) (Or.inr ⟨rfl, Or.inr (Or.inr (Or.inr (Or.inr ⟨x0.trans k, e2, ⟨l1, l2, l3⟩, _, _, _, _, e3, ?_⟩)))⟩)))
    rw [Nat.add_assoc]
    exact hz'
end WS3
/-! THE REFERENCE'S STATEMENTS: closeBody(), readText() -/
