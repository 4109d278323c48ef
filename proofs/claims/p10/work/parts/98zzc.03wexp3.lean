section WS4
variable {M M' M0 : rf_M} {T : tK} {r i s c u pe : Nat} {X : txT} {en l : Int} {σ : skT} {S C : Nat} {K : rf_M → Prop}
theorem srec.all {x : Nat} {p1 p2 p3 p4 p5 q1 q2 q3 q4 : Prop} (h : srec M r X p1 p2 p3 p4 p5 x) (h1 : (q1 → gi M 361 (40 * r + x) = -1) ∧ (¬ q1 → gi M 361 (40 * r + x) = lf r (X.1 6 x))) (h2 : (q2 → gi M 365 (40 * r + x) = -1) ∧ (¬ q2 → gi M 365 (40 * r + x) = lf r (X.1 7 x))) (h3 : (q3 → gi M 366 (40 * r + x) = -1) ∧ (¬ q3 → gi M 366 (40 * r + x) = lf r (X.1 8 x))) (h4 : X.1 0 x = 17 → ¬ q4 → gi M 367 (40 * r + x) = X.1 1 x) : srec M r X q1 q2 q3 q4 p5 x := by
  obtain ⟨a, b, -, -, -, g⟩ := h
  exact ⟨a, b, h1, h2, h3, fun w => w.elim (fun w => g (Or.inl w)) (fun w => h4 w.1 w.2)⟩
theorem smem.cl {o : Nat} {q : Int} {ρ σ' : skT} {l' : Int} (h : smem M r X en ((o, q) :: ρ) l s c pe) (ho : okz ((o, q) :: ρ) l) (hlk : lkq X en ((o, q) :: ρ) l (-1)) (h17 : q = 0 → X.1 0 o = 17 → gi M 367 (40 * r + o) = X.1 1 o) (hsel : (σ' = ρ ∧ l' = (o : Int) ∧ (q = 0 → X.1 8 o = -1)) ∨ (σ' = (o, 1) :: ρ ∧ l' = -1 ∧ q = 0)) : smem M r X en σ' l' s c pe := by
  obtain ⟨o1, o2, o3⟩ := ho
  have o1 : l = -1 ∨ (o : Int) < l := o1
  have o2 : q = 0 ∨ q = 1 := o2
  have nA : ∀ x, pnA ρ x → x < o := fun x w => by
    have := pnA_lt ρ _ _ o3 w
    have e : ((o, q).1 : Int) = (o : Int) := rfl
    rw [e] at this
    omega
  have n0 : ∀ x, pn0 ρ x → x < o := fun x w => nA x (pn0_A _ _ w)
  have k6 : l ≠ -1 → X.1 6 l.toNat = -1 := hlk.1
  have k78 := fun w => (hlk.2 w).2 (o, q) ρ rfl
  have k7 : l = -1 → q = 0 → X.1 7 o = -1 := fun w => (k78 w).1
  have k8 : l = -1 → q = 1 → X.1 8 o = -1 := fun w => (k78 w).2
  have E : ¬ (σ' = [] ∧ l' = -1) := by
    rcases hsel with ⟨e1, e2, -⟩ | ⟨e1, e2, -⟩
    · exact fun w => absurd (e2.symm.trans w.2) (by omega)
    · exact fun w => absurd (e1.symm.trans w.1) (by simp)
  have P1 : ∀ x : Nat, (pnA σ' x ∨ (x : Int) = l') ↔ (x = o ∨ pnA ρ x) := by
    intro x
    rcases hsel with ⟨e1, e2, -⟩ | ⟨e1, e2, -⟩
    · rw [e1, e2]
      exact ⟨fun w => w.elim Or.inr (fun w => Or.inl (by omega)), fun w => w.elim (fun w => Or.inr (by omega)) Or.inl⟩
    · rw [e1, e2]
      exact ⟨fun w => w.elim id (fun w => absurd w (by omega)), fun w => Or.inl w⟩
  have P2 : ∀ x : Nat, ¬ (ptp 0 σ' x ∧ l' = -1) := by
    intro x
    rcases hsel with ⟨e1, e2, -⟩ | ⟨e1, e2, -⟩
    · exact fun w => absurd (e2.symm.trans w.2) (by omega)
    · rw [e1]
      exact fun w => absurd w.1.2 (by show ¬ ((1 : Int) = 0); decide)
  have P3 : ∀ x : Nat, (pn0 σ' x ∨ (ptp 1 σ' x ∧ l' = -1)) ↔ (pn0 ρ x ∨ (x = o ∧ l' = -1)) := by
    intro x
    rcases hsel with ⟨e1, e2, -⟩ | ⟨e1, e2, -⟩
    · rw [e1, e2]
      exact ⟨fun w => w.elim Or.inl (fun w => absurd w.2 (by omega)), fun w => w.elim Or.inl (fun w => absurd w.2 (by omega))⟩
    · rw [e1, e2]
      refine ⟨fun w => w.elim (fun w => w.elim (fun w => absurd w.2 (by show ¬ ((1 : Int) = 0); decide)) Or.inl) (fun w => Or.inr ⟨?_, rfl⟩), fun w => w.elim (fun w => Or.inl (Or.inr w)) (fun w => Or.inr ⟨⟨?_, rfl⟩, rfl⟩)⟩
      · have := w.1.1
        have : (x : Int) = (o : Int) := this
        omega
      · show (x : Int) = (o : Int)
        rw [w.1]
  have P4 : ∀ x : Nat, pn0 σ' x ↔ pn0 ρ x := by
    intro x
    rcases hsel with ⟨e1, e2, -⟩ | ⟨e1, e2, -⟩
    · rw [e1]
    · rw [e1]
      exact ⟨fun w => w.elim (fun w => absurd w.2 (by show ¬ ((1 : Int) = 0); decide)) id, Or.inr⟩
  have B1 : l' = -1 → q = 0 := by
    rcases hsel with ⟨-, e2, -⟩ | ⟨-, -, e3⟩
    · exact fun w => absurd (e2.symm.trans w) (by omega)
    · exact fun _ => e3
  have B2 : ¬ l' = -1 → q = 0 → X.1 8 o = -1 := by
    rcases hsel with ⟨-, -, e3⟩ | ⟨-, e2, -⟩
    · exact fun _ => e3
    · exact fun w => absurd e2 w
  clear hsel
  refine ⟨⟨fun w => absurd w E, fun _ => h.1.2 (fun w => by cases w.1)⟩, fun x hx => ?_, h.2.2⟩
  have R := h.2.1 x hx
  have lm1 : lf r (-1) = -1 := lf_neg (by omega)
  by_cases exo : x = o
  · subst exo
    have nn : ¬ pn0 ρ x := fun w => absurd (n0 x w) (by omega)
    refine R.all ⟨fun _ => R.2.2.1.1 (Or.inl (Or.inl rfl)), fun w => absurd ((P1 x).mpr (Or.inl rfl)) w⟩ ⟨fun w => absurd w (P2 x), fun _ => ?_⟩ ⟨fun w => ?_, fun w => ?_⟩ (fun w _ => ?_)
    · by_cases a : q = 0 ∧ l = -1
      · rw [R.2.2.2.1.1 ⟨⟨rfl, a.1⟩, a.2⟩, k7 a.2 a.1, lm1]
      · exact R.2.2.2.1.2 (fun w => a ⟨w.1.2, w.2⟩)
    · have b := ((P3 x).mp w).resolve_left nn
      exact R.2.2.2.2.1.1 (Or.inl (Or.inl ⟨rfl, B1 b.2⟩))
    · have nb : ¬ l' = -1 := fun b => w ((P3 x).mpr (Or.inr ⟨rfl, b⟩))
      by_cases a : q = 0
      · rw [R.2.2.2.2.1.1 (Or.inl (Or.inl ⟨rfl, a⟩)), B2 nb a, lm1]
      · by_cases b : l = -1
        · have q1 : q = 1 := by omega
          rw [R.2.2.2.2.1.1 (Or.inr ⟨⟨rfl, q1⟩, b⟩), k8 b q1, lm1]
        · exact R.2.2.2.2.1.2 (fun w => w.elim (fun w => w.elim (fun w => a w.2) nn) (fun w => b w.2))
    · by_cases a : q = 0
      · exact h17 a w
      · exact R.2.2.2.2.2 (Or.inr ⟨w, fun w => w.elim (fun w => a w.2) nn⟩)
  · by_cases exl : (x : Int) = l
    · have nl : l ≠ -1 := by omega
      have nn : ¬ pnA ρ x := fun w => absurd (nA x w) (by omega)
      have nn0 : ¬ pn0 ρ x := fun w => nn (pn0_A _ _ w)
      have k6' := k6 nl
      rw [← exl, tn_] at k6'
      refine R.all ⟨fun w => absurd ((P1 x).mp w) (fun w => w.elim exo nn), fun _ => ?_⟩ ⟨fun w => absurd w (P2 x), fun _ => R.2.2.2.1.2 (fun w => nl w.2)⟩ ⟨fun w => absurd ((P3 x).mp w) (fun w => w.elim nn0 (fun w => exo w.1)), fun _ => R.2.2.2.2.1.2 (fun w => w.elim (fun w => w.elim (fun w => exo w.1) nn0) (fun w => nl w.2))⟩ (fun w _ => R.2.2.2.2.2 (Or.inr ⟨w, fun w => w.elim (fun w => exo w.1) nn0⟩))
      rw [R.2.2.1.1 (Or.inr exl), k6', lm1]
    · refine R.cg ?_ ?_ ?_ ?_ Iff.rfl
      · exact (P1 x).trans ⟨fun w => Or.inl w, fun w => w.resolve_right exl⟩
      · exact ⟨fun w => absurd w (P2 x), fun w => absurd w.1.1 (by show ¬ ((x : Int) = (o : Int)); omega)⟩
      · exact (P3 x).trans ⟨fun w => Or.inl (Or.inr (w.resolve_right (fun w => exo w.1))), fun w => Or.inl ((w.resolve_right (fun w => absurd w.1.1 (by show ¬ ((x : Int) = (o : Int)); omega))).resolve_left (fun w => exo w.1))⟩
      · exact (P4 x).trans ⟨Or.inr, fun w => w.resolve_left (fun w => exo w.1)⟩
theorem smem.lt {o : Nat} (h : smem M r X en σ l s c pe) (y : eqy (fun a k => a = 367 ∧ k = 40 * r + o) M M') (h17 : X.1 0 o = 17) (hp : pn0 σ o) : smem M' r X en σ l s c pe := by
  refine ⟨?_, fun x hx => ?_, h.2.2.eq y (fun b k z1 z2 z3 z4 => by omega)⟩
  · rw [y.i (by omega)]; exact h.1
  · have R := h.2.1 x hx
    by_cases e : x = o
    · subst e
      unfold srec at R ⊢
      rw [y.i (a := 360) (by omega), y.i (a := 361) (by omega), y.i (a := 362) (by omega), y.i (a := 363) (by omega), y.i (a := 364) (by omega), y.i (a := 365) (by omega), y.i (a := 366) (by omega)]
      exact ⟨R.1, R.2.1, R.2.2.1, R.2.2.2.1, R.2.2.2.2.1, fun w => w.elim (fun w => absurd (h17.symm.trans w) (by decide)) (fun w => absurd hp w.2)⟩
    · exact R.eq (fun b z1 z2 => y.i (by omega))
theorem smem.fin (h : smem M r X en [] l S C S) (hlk : lkq X en [] l (-1)) : rtx M r X S C en := by
  obtain ⟨h1, h2, h3⟩ := h
  have lm1 : lf r (-1) = -1 := lf_neg (by omega)
  refine ⟨?_, fun x hx => ?_, h3⟩
  · by_cases e : l = -1
    · rw [h1.1 ⟨rfl, e⟩, (hlk.2 e).1 rfl, lm1]
    · exact h1.2 (fun w => e w.2)
  · obtain ⟨⟨a1, a2, a3, a4⟩, b, d, e, f, g⟩ := h2 x hx
    have nt : ∀ q, ¬ ptp q [] x := fun q w => absurd w.1 (by show ¬ ((x : Int) = -1); omega)
    have np : ¬ x = S := by omega
    refine ⟨a1, ?_, a2, a3, fun w => b.1 ⟨w, np⟩, fun w => b.2 (fun z => w z.1), e.2 (fun w => nt 0 w.1), f.2 (fun w => w.elim id (fun w => nt 1 w.1)), fun w => g (w.elim Or.inl (fun w => Or.inr ⟨w, id⟩))⟩
    by_cases exl : (x : Int) = l
    · have k6 := hlk.1 (by omega)
      rw [← exl, tn_] at k6
      rw [d.1 (Or.inr exl), k6, lm1]
    · exact d.2 (fun w => w.elim id exl)
theorem y_closeBody {e : Nat × Int} {ρ : skT} (hS : S ≤ 40) (hA : sA T r M0 M i s c u) (hB : sB M r (e :: ρ) l) (ho : okz (e :: ρ) l) (hl : l < (s : Int)) (hw : zow (e :: ρ) < (s : Int)) (hm : smem M r X en (e :: ρ) l s c s) (hz : zr (κT T) (νT T) X en S C (e :: ρ) l i s c u) (hk : κT T i = 125) (kk : ∀ M', sst T r M0 X en S C M' → K M') : em_W_closeBody M K := by
  obtain ⟨o, q⟩ := e
  obtain ⟨hlk, hzc⟩ := zr_close hz hk
  obtain ⟨⟨a1, ⟨a2, a2'⟩, a3, a4⟩, b1, b2, b3, b4⟩ := id hA
  obtain ⟨d1, d2, d3⟩ := id hB
  have hw' : (o : Int) < (s : Int) := hw
  have hso : o < s := by omega
  have sS := (zr_le _ _ _ _ _ _ hz).1
  rw [List.length_cons] at d1 d2
  have e37 : (gi M 353 37).toNat = ρ.length + 1 := by rw [d1]; omega
  have t3 : gi M 373 (ρ.length + 1) = ((40 * r + o : Nat) : Int) := d3.1.trans (lf_nat r o)
  have t4 : gi M 374 (ρ.length + 1) = q := d3.2.1
  have ec : ((40 * r + o : Nat) : Int) = 40 * (r : Int) + (o : Int) := by omega
  show e_W_closeBody M K
  unfold e_W_closeBody
  rw [e37, t3, t4, tn_]
  intro _ _ M1 e1
  have y1 : eqy (fun a k => a = 353 ∧ k = 37) M M1 := by rw [e1]; exact (eqy.rfl' _).wi ⟨rfl, rfl⟩
  have hA1 := hA.eq y1 (fun a k z => by unfold teW; omega) (fun a k z => by omega)
  refine y_next hA1.1.1 (kd_lt (by show ¬ κT T i = 0; omega)) (fun M2 y2 m2 => ?_)
  have hA2 := hA1.nx y2 m2
  have oo : okz ρ (o : Int) := ho.2.2
  have zw : zow ρ < (o : Int) := by
    cases ρ with
    | nil => show (-1 : Int) < (o : Int); omega
    | cons e' ρ' =>
      have := oo.1
      show (e'.1 : Int) < (o : Int)
      omega
  have hB2 : sB M2 r ρ (o : Int) := by
    refine ⟨?_, by omega, d3.2.2.2.eq (fun b k z1 z2 z3 => (y2.i (by unfold nxw; omega)).trans (y1.i (by omega)))⟩
    rw [y2.i (by unfold nxw; omega), e1, gi_at (inr_z (by omega) (by omega)), d1]
    omega
  have hm2 : smem M2 r X en ((o, q) :: ρ) l s c s := (hm.eq y1 (fun b k z => by omega)).nx y2
  have f60 : gi M2 360 (40 * r + o) = kf (X.1 0 o) := (hm2.2.1 o hso).1.1
  have hko : knd (X.1 0 o) := (hm2.2.1 o hso).1.2.2.2
  have ki := kf_iff hko
  have tw := (tok4 hA2.1.1.1).2.2.1
  have back : (q = 0 → X.1 8 o = -1) → (q = 0 → X.1 0 o ≠ 17) → zr (κT T) (νT T) X en S C ρ (o : Int) (i + 1) s c u → K M2 := fun z8 n17 hz1 => kk M2 ⟨ρ, (o : Int), i + 1, s, c, u, hA2, hB2, ⟨oo, by omega, by omega⟩, hm2.cl ho hlk (fun w1 w2 => absurd w2 (n17 w1)) (Or.inl ⟨rfl, rfl, z8⟩), hz1⟩
  have open1 : ∀ N j, sA T r M0 N j s c u → sB N r ρ (o : Int) → smem N r X en ((o, 1) :: ρ) (-1) s c s → zb (κT T) (νT T) X ρ.length (zr (κT T) (νT T) X en S C ρ (o : Int)) o j s c u → em_W_openBody ((40 * r + o : Nat) : Int) 1 N K := by
    rintro N j hA' hB' hm' ⟨j', s', c', u', g1, g2⟩
    obtain ⟨w1, w2, w3⟩ := zr_open (en := en) (S := S) (C := C) (u := u) g1 (Or.inr ⟨rfl, rfl⟩) (Or.inl ⟨rfl, g2⟩)
    rw [ec]
    exact y_opn hA' hB' hm' w1 w2 (Or.inr rfl) (by omega) (fun N' a b d => kk N' ⟨(o, 1) :: ρ, -1, j + 1, s, c, u, a, b, ⟨⟨Or.inl rfl, Or.inr rfl, oo⟩, by omega, hw'⟩, d, w3⟩)
  rw [f60]
  rcases hzc with ⟨q1, hz1⟩ | ⟨q0, hzc⟩
  · have q1 : q = 1 := q1
    exact ⟨fun _ => back (fun w => absurd w (by omega)) (fun w => absurd w (by omega)) hz1, fun w => absurd q1 w⟩
  · have q0 : q = 0 := q0
    refine ⟨fun w => absurd w (by omega), fun _ _ => ?_⟩
    rcases hzc with ⟨k, z8, hz1⟩ | ⟨k, n11, z8, hz1⟩ | ⟨k, y11, hb⟩ | ⟨k, y16, hb⟩ | ⟨k, y18, ⟨l1, l2, l3⟩, hb⟩
    · have k : X.1 0 o = 12 := k
      exact ⟨fun _ => back (fun _ => z8) (fun _ => by omega) hz1, fun w => absurd (ki.2.1.mpr k) w⟩
    · have k : X.1 0 o = 10 := k
      refine ⟨fun w => absurd (ki.2.1.mp w) (by omega), fun _ _ => ⟨fun _ => ⟨fun w => absurd ((tw 11 (by omega) (by omega)).mp w) n11, fun _ => back (fun _ => z8) (fun _ => by omega) hz1⟩, fun w => absurd (ki.1.mpr k) w⟩⟩
    · have k : X.1 0 o = 10 := k
      refine ⟨fun w => absurd (ki.2.1.mp w) (by omega), fun _ _ => ⟨fun _ => ⟨fun _ => ?_, fun w => absurd ((tw 11 (by omega) (by omega)).mpr y11) w⟩, fun w => absurd (ki.1.mpr k) w⟩⟩
      refine y_next hA2.1.1 (kd_lt (by show ¬ κT T (i + 1) = 0; omega)) (fun M3 y3 m3 => ?_)
      exact open1 M3 _ (hA2.nx y3 m3) (hB2.nx y3) ((hm2.cl ho hlk (fun _ w2 => absurd w2 (by omega)) (Or.inr ⟨rfl, rfl, q0⟩)).nx y3) hb
    · have k : X.1 0 o = 15 := k
      refine ⟨fun w => absurd (ki.2.1.mp w) (by omega), fun _ _ => ⟨fun w => absurd (ki.1.mp w) (by omega), fun _ _ => ⟨fun _ => ?_, fun w => absurd (ki.2.2.2.2.1.mpr k) w⟩⟩⟩
      refine y_takeWord hA2.1.2.2.2 hA2.1.1 (by omega) y16 (fun M3 y3 m3 _ => ?_)
      rw [tn_, (y3.i (by unfold nxw; omega) : gi M3 360 (40 * r + o) = gi M2 360 (40 * r + o)), f60]
      have hA3 := hA2.nx y3 m3
      exact ⟨fun w => absurd (ki.2.2.2.2.2.1.mp w) (by omega), fun _ => ⟨fun _ => open1 M3 _ hA3 (hB2.nx y3) ((hm2.cl ho hlk (fun _ w2 => absurd w2 (by omega)) (Or.inr ⟨rfl, rfl, q0⟩)).nx y3) hb, fun w => absurd hA3.1.2.2.2 w⟩⟩
    · have k : X.1 0 o = 17 := k
      refine ⟨fun w => absurd (ki.2.1.mp w) (by omega), fun _ _ => ⟨fun w => absurd (ki.1.mp w) (by omega), fun _ _ => ⟨fun w => absurd (ki.2.2.2.2.1.mp w) (by omega), fun _ => ?_⟩⟩⟩
      refine y_takeWord hA2.1.2.2.2 hA2.1.1 (by omega) y18 (fun M3 y3 m3 _ => ?_)
      rw [tn_, (y3.i (by unfold nxw; omega) : gi M3 360 (40 * r + o) = gi M2 360 (40 * r + o)), f60]
      have hA3 := hA2.nx y3 m3
      obtain ⟨-, t2, -, tl⟩ := tok4 hA3.1.1.1
      have tl := tl l1
      refine ⟨fun _ => ⟨fun _ => ⟨fun _ => ⟨fun _ _ M4 e4 => ?_, fun w => absurd (by rw [tl.1]; exact l2) w⟩, fun w => absurd (t2.mpr l1) w⟩, fun w => absurd hA3.1.2.2.2 w⟩, fun w => absurd (ki.2.2.2.2.2.1.mpr k) w⟩
      have y4 : eqy (fun a k => a = 367 ∧ k = 40 * r + o) M3 M4 := by rw [e4]; exact (eqy.rfl' _).wi ⟨rfl, rfl⟩
      have f67 : gi M4 367 (40 * r + o) = X.1 1 o := by rw [e4, gi_at (inr_gi _ _ _), tl.1]; exact l3.symm
      have hA4 := hA3.eq y4 (fun a k z => by unfold teW; omega) (fun a k z => by omega)
      have hB4 := (hB2.nx y3).eq y4 (fun b k z => by omega)
      have hm4 : smem M4 r X en ((o, q) :: ρ) l s c s := (hm2.nx y3).lt y4 k (Or.inl ⟨rfl, q0⟩)
      have hm4' : smem M4 r X en ((o, 1) :: ρ) (-1) s c s := hm4.cl ho hlk (fun _ _ => f67) (Or.inr ⟨rfl, rfl, q0⟩)
      refine y_next hA4.1.1 (kd_lt (by show ¬ κT T (i + 1 + 1) = 0; omega)) (fun M5 y5 m5 => ?_)
      have hA5 := hA4.nx y5 m5
      exact ⟨fun _ => open1 M5 _ hA5 (hB4.nx y5) (hm4'.nx y5) hb, fun w => absurd hA5.1.2.2.2 w⟩
theorem y_loop (hS : S ≤ 40) (h : sfl r M0 M ∨ sst T r M0 X en S C M) (kb : ∀ M', sfl r M0 M' → K M') (kk : ∀ M', eqy (teW r) M0 M' → gi M' 353 9 = 0 → rtx M' r X S C en → K M') : e_W_readText_40 M K := by
  refine ⟨fun M => sfl r M0 M ∨ sst T r M0 X en S C M, h, ?_⟩
  rintro M (h | ⟨σ, l, i, s, c, u, hA, hB, ⟨ho, hl, hw⟩, hm, hz⟩)
  · exact ⟨fun w => absurd w h.2, fun _ => kb M h⟩
  · have t0 := (tok4 hA.1.1.1).1
    have n37 : gi M 353 37 = 0 ↔ σ = [] := by
      rw [hB.1]
      cases σ with
      | nil => exact ⟨fun _ => rfl, fun _ => rfl⟩
      | cons e ρ => exact ⟨fun w => absurd w (by rw [List.length_cons]; omega), fun w => by cases w⟩
    have h84 : e_W_readText_84 M (fun M => sfl r M0 M ∨ sst T r M0 X en S C M) K := y_mis (fun M' y q => Or.inl (hA.fl y q))
    have h61 : ¬ (κT T i = 0 ∧ σ = []) → e_W_readText_61 M (fun M => sfl r M0 M ∨ sst T r M0 X en S C M) K := by
      intro hn
      have h91 : ¬ (κT T i = 125 ∧ σ = []) → e_W_readText_91 M (fun M => sfl r M0 M ∨ sst T r M0 X en S C M) K := by
        intro hn2
        unfold e_W_readText_91
        refine y_isSign hA.1.1.1 (by omega) (fun w => ⟨fun z => absurd z (by decide), fun _ => ?_⟩) (fun w => ⟨fun _ => ?_, fun z => absurd rfl z⟩)
        · cases σ with
          | nil => exact absurd ⟨w, rfl⟩ hn2
          | cons e ρ => exact y_closeBody hS hA hB ho hl hw hm hz w (fun M' h => Or.inr h)
        · exact y_readStatement hS hA hB ho hl hw hm hz hn (fun z => w z.1) (fun M' h => Or.inl h) (fun M' h => Or.inr h)
      refine ⟨fun _ => h84, fun _ => ?_⟩
      refine y_isSign hA.1.1.1 (by omega) (fun w => ⟨fun z => absurd z (by decide), fun _ => ⟨fun _ => h84, fun z => h91 (fun w => z (n37.mpr w.2))⟩⟩) (fun w => ⟨fun _ => h91 (fun z => w z.1), fun z => absurd rfl z⟩)
    refine ⟨fun _ => ⟨fun w4 => ⟨fun w37 => ?_, fun w37 => h61 (fun w => w37 (n37.mpr w.2))⟩, fun w4 => h61 (fun w => w4 (t0.mpr w.1))⟩, fun w => absurd hA.1.2.2.2 w⟩
    obtain rfl := n37.mp w37
    obtain ⟨rfl, rfl, hlk⟩ := zr_end hz (t0.mp w4)
    exact kk M hA.1.2.2.1 hA.1.2.2.2 (hm.fin hlk)
end WS4
/-! THE REFERENCE'S readText(), whatever the text: what it leaves alone -/
