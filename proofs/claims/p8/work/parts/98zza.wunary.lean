/-! the reference's readUnary() -/
/-- a fault was found -/
def xfl (r c0 : Nat) (M0 M : rf_M) : Prop := eqy (exW r c0) M0 M ∧ (gi M 353 28 = (r : Int) ∧ r < 12) ∧ ¬ gi M 353 9 = 0 ∧ ∃ c : Nat, c0 ≤ c ∧ c ≤ 2400 ∧ gi M 359 r = (c : Int)
section WUN
variable {M M' M0 : rf_M} {T : tK} {r c0 i u : Nat} {π : List Int} {cs : List Bool} {o : cdT} {K : rf_M → Prop}
theorem y_isSign {c : Int} {K : Int → rf_M → Prop} (h : mtk M T i) (hc : 20 ≤ c) (k1 : κT T i = c → K 1 M) (k2 : ¬ κT T i = c → K 0 M) : em_W_isSign c M K := by
  obtain ⟨-, -, t1, t2, t3, t4⟩ := h
  refine ⟨fun q => ⟨fun q2 => ⟨Or.inr rfl, k1 ?_⟩, fun q2 => ⟨Or.inl rfl, k2 ?_⟩⟩, fun q => ⟨Or.inl rfl, k2 ?_⟩⟩
  · rw [t1] at q
    exact (t2 ((tkm_iff t4).1.mp q)).symm.trans q2
  · intro w
    rw [t1] at q
    exact q2 ((t2 ((tkm_iff t4).1.mp q)).trans w)
  · intro w
    have h20 : 20 ≤ (kd T i).toInt := by
      have w : (kd T i).toInt = c := w
      omega
    exact q (by rw [t1]; exact (tkm_iff t4).1.mpr h20)
theorem y_mis (kk : ∀ M', eqy (fun a k => a = 353 ∧ (k = 9 ∨ k = 10)) M M' → ¬ gi M' 353 9 = 0 → K M') : em_W_misplaced M K := by
  refine ⟨fun c M1 e1 M2 e2 => kk M2 ?_ ?_, fun c => kk M (eqy.rfl' M) c⟩
  · rw [e2, e1]; exact ((eqy.rfl' M).wi ⟨rfl, Or.inl rfl⟩).wi ⟨rfl, Or.inr rfl⟩
  · rw [e2, gi_of (Or.inr (by omega)), e1, gi_at (inr_z (by omega) (by omega))]; decide
theorem xm.bad (h : xm T r c0 M0 M i u π cs o) (y : eqy (fun a k => a = 353 ∧ (k = 9 ∨ k = 10)) M M') (q : ¬ gi M' 353 9 = 0) : xfl r c0 M0 M' := by
  obtain ⟨⟨a1, ⟨a2, a2'⟩, a3, a4⟩, ⟨b1, b2, ⟨b3, b3'⟩, b4⟩, _⟩ := h
  exact ⟨a3.trans (y.mono (fun a k z => by unfold exW; omega)), ⟨(y.i (by omega)).trans a2, a2'⟩, q, c0 + o.length, by omega, b3', (y.i (by omega)).trans b3⟩
/-- a sign is pushed -/
theorem xm_push {x : Int} {cs' : List Bool} {M1 : rf_M} (h : xm T r c0 M0 M i u π cs o) (hu : u < 60) (hf : (fil π).length ≠ 8) (hx : (x = 1000 ∧ cs' = cs) ∨ (x = 40 ∧ cs' = false :: cs)) (y : eqy (fun a k => (a = 356 ∧ k = r) ∨ (a = 353 ∧ (k = 30 ∨ k = 31 ∨ k = 33)) ∨ (a = 371 ∧ k = π.length) ∨ (a = 372 ∧ k = lv π + 1)) M M1) (p0 : gi M1 356 r = (u : Int) + 1) (p1 : gi M1 353 30 = (π.length : Int) + 1) (p2 : gi M1 353 31 = ((fil π).length : Int) + 1) (p3 : gi M1 353 33 = (lv (x :: π) : Int)) (p4 : gi M1 371 π.length = x) (p5 : x = 40 → gi M1 372 (lv π + 1) = 0) : xm T r c0 M0 M1 i (u + 1) (x :: π) cs' o := by
  obtain ⟨⟨a1, ⟨a2, a2'⟩, a3, a4⟩, ⟨b1, b2, ⟨b3, b3'⟩, b4⟩, ⟨c1, c2, c3, ⟨c4, c4'⟩, c5, c6, c7⟩⟩ := h
  have hfl : (fil (x :: π)).length = (fil π).length + 1 := by
    rcases hx with ⟨e, _⟩ | ⟨e, _⟩ <;> subst e
    · rw [(fil_m π).1]; rfl
    · rw [(fil_p π).1]; rfl
  have hz : zcl M1 cs := c6.eq (fun k hk => y.i (by omega))
  refine ⟨⟨a1.eq y (fun a k z => by omega), ⟨(y.i (by omega)).trans a2, a2'⟩, a3.trans (y.mono (fun a k z => by unfold exW; omega)), (y.i (by omega)).trans a4⟩, ⟨by rw [p0]; omega, by omega, ⟨(y.i (by omega)).trans b3, b3'⟩, b4.eq y (fun b k z _ _ => by omega)⟩, ⟨by rw [p1]; simp, ⟨p4, c2.eq (fun k hk => y.i (by omega))⟩, ⟨?_, ?_, c3⟩, ⟨by rw [p2, hfl]; omega, by rw [hfl]; omega⟩, p3, ?_, ?_⟩⟩
  · rcases hx with ⟨e, _⟩ | ⟨e, _⟩ <;> subst e
    · exact Or.inr (Or.inl rfl)
    · exact Or.inl rfl
  · intro w
    rcases hx with ⟨e, _⟩ | ⟨e, _⟩ <;> subst e <;> exact absurd w (by decide)
  · rcases hx with ⟨e, e'⟩ | ⟨e, e'⟩ <;> subst e <;> subst e'
    · exact hz
    · refine ⟨?_, hz⟩
      rw [c7]
      exact p5 rfl
  · rcases hx with ⟨e, e'⟩ | ⟨e, e'⟩ <;> subst e <;> subst e'
    · rw [(fil_m π).2.1]; exact c7
    · rw [(fil_p π).2.1]; simp; exact c7
/-- a leaf is written -/
theorem xm_leaf {q : Int × Int} {M1 M2 : rf_M} (h : xm T r c0 M0 M i u π cs o) (hu : u < 60) (e1 : eqy (fun a k => a = 356 ∧ k = r) M M1) (p1 : gi M1 356 r = (u : Int) + 1) (e2 : eqy (acW r (c0 + o.length)) M1 M2) (hc : c0 + o.length < 2400) (q1 : gi M2 359 r = ((c0 + o.length + 1 : Nat) : Int)) (q2 : rcd M2 (200 * r + (c0 + o.length)) q) : xm T r c0 M0 M2 i (u + 1) π cs (o ++ [q]) := by
  obtain ⟨⟨a1, ⟨a2, a2'⟩, a3, a4⟩, ⟨b1, b2, ⟨b3, b3'⟩, b4⟩, ⟨c1, c2, c3, ⟨c4, c4'⟩, c5, c6, c7⟩⟩ := h
  have g : ∀ a k, ¬ (a = 356 ∧ k = r) → ¬ acW r (c0 + o.length) a k → gi M2 a k = gi M a k := fun a k z1 z2 => (e2.i z2).trans (e1.i z1)
  have el : (o ++ [q]).length = o.length + 1 := by simp
  refine ⟨⟨(a1.eq e1 (fun a k z => by omega)).eq e2 (fun a k z => by unfold acW; omega), ⟨(g _ _ (by omega) (by unfold acW; omega)).trans a2, a2'⟩, ?_, (g _ _ (by omega) (by unfold acW; omega)).trans a4⟩, ⟨?_, by omega, ⟨?_, ?_⟩, ?_⟩, ⟨(g _ _ (by omega) (by unfold acW; omega)).trans c1, c2.eq (fun k _ => g 371 k (by omega) (by unfold acW; omega)), c3, ⟨(g _ _ (by omega) (by unfold acW; omega)).trans c4, c4'⟩, (g _ _ (by omega) (by unfold acW; omega)).trans c5, c6.eq (fun k _ => g 372 k (by omega) (by unfold acW; omega)), c7⟩⟩
  · exact (a3.trans (e1.mono (fun a k z => by unfold exW; omega))).trans (e2.mono (fun a k z => by unfold acW at z; unfold exW; omega))
  · rw [e2.i (by unfold acW; omega), p1]; omega
  · rw [el, q1]; omega
  · rw [el]; omega
  · refine rcq.snoc ((b4.eq e1 (fun b k z _ _ => by omega)).eq e2 (fun b k z z1 z2 => by unfold acW; omega)) ?_
    rw [Nat.add_assoc]
    exact q2
theorem y_readUnary {ir : Bool} {v1 : Int} {K : Int → rf_M → Prop} (hv : v1 = 0 ↔ ir = false) (h : xm T r c0 M0 M i u π cs o) (kbad : ∀ M', xfl r c0 M0 M' → K 0 M')
    (k1 : ∀ M' π' cs', xm T r c0 M0 M' (i + 1) (u + 1) π' cs' o → xst (κT T) (νT T) ir i u true π cs o = .inl (i + 1, u + 1, true, π', cs', o) → K 1 M')
    (k2 : ∀ M' π' o', xm T r c0 M0 M' (i + 1) (u + 1) π' cs o' → π'.head? ≠ some 1000 → xst (κT T) (νT T) ir i u true π cs o = .inl (i + 1, u + 1, false, π', cs, o') → K 0 M') : em_W_readUnary v1 M K := by
  obtain ⟨⟨a1, ⟨a2, a2'⟩, a3, a4⟩, ⟨b1, b2, ⟨b3, b3'⟩, b4⟩, ⟨c1, c2, c3, ⟨c4, c4'⟩, c5, c6, c7⟩⟩ := id h
  have er : (gi M 353 28).toNat = r := by rw [a2]; omega
  have tk := a1.1.2.2
  have hk := tkm_iff tk.2.2.2
  have k3 : gi M 353 4 = 3 ↔ κT T i = 2 := by rw [tk.1]; exact hk.2.1
  have k4 : gi M 353 4 = 2 ↔ κT T i = 1 := by rw [tk.1]; exact hk.2.2.1
  have kl : κT T i = 1 → gi M 353 6 = νT T i := fun q => (tk.2.2.1 q).1
  have bad : e_W_readUnary_94 M K := y_mis (fun M' y q => kbad M' (h.bad y q))
  have lt : κT T i ≠ 0 → i < T.length := fun q => kd_lt q
  -- an operand
  have op : (κT T i = 2 ∨ (κT T i = 1 ∧ (ir = false ∨ νT T i < 16))) → u < 60 → e_W_readUnary_100 0 M K := fun hop hu => by
    show e_W_readUnary_100 0 M K
    unfold e_W_readUnary_100
    rw [er, b1]
    intro _ _ M1 e1
    refine ⟨fun _ => ?_, fun q => absurd rfl q⟩
    have y1 : eqy (fun a k => a = 356 ∧ k = r) M M1 := by rw [e1]; exact (eqy.rfl' M).wi ⟨rfl, rfl⟩
    have p1 : gi M1 356 r = (u : Int) + 1 := by rw [e1, gi_at (inr_z (by omega) (by omega))]
    have hil : i < T.length := lt (by omega)
    have step : xst (κT T) (νT T) ir i u true π cs o = .inl (i + 1, u + 1, false, dm π, cs, o ++ [(if κT T i = 2 then 1 else 2, νT T i)] ++ negs π) := by
      unfold xst
      rw [if_pos rfl, if_neg (by omega), if_neg (by omega), if_pos hop, if_neg (by omega)]
    have fin : ∀ (z1 z2 : Int) (z3 : Int64), z1 = (if κT T i = 2 then 1 else 2) → inr z1 → inr z2 → (z1 = 2 → z2 = νT T i) → (z1 = 1 → z3 = (Int32.ofInt (νT T i)).toInt64) → e_W_readUnary_244 z1 z2 z3 M1 K := fun z1 z2 z3 f0 f1 f2 f3 f4 => by
      refine y_act (r := r) (c := c0 + o.length) ((y1.i (by omega)).trans a2) a2' ((y1.i (by omega)).trans b3) b3' f1 f2 (fun M2 x2 hc w1 w2 w3 w4 => ?_)
      have hq := xm_leaf (q := (z1, νT T i)) h hu y1 p1 x2 hc w1 ⟨w2, fun e => w3.trans (f3 e), fun e => w4.trans (f4 e)⟩
      refine y_next hq.1.1 hil (fun M3 y3 m3 => y_operand (hq.nx y3 m3) (fun M4 h4 => k2 M4 _ _ h4 (dm_keep c3).2.2.2.1 ?_))
      rw [step, f0]
    have g4 : gi M1 353 4 = gi M 353 4 := y1.i (by omega)
    by_cases e2 : κT T i = 2
    · refine ⟨fun _ => ⟨fun q => absurd (k4.mp (by rw [← g4]; exact q)) (by omega), fun _ => ⟨fun _ => ?_, fun q => absurd (g4.trans (k3.mpr e2)) q⟩⟩, fun q => absurd (g4.trans (k3.mpr e2)) q⟩
      refine fin 1 (-1) _ (by rw [if_pos e2]) (inr_z (by omega) (by omega)) ir_1 (fun q => absurd q (by decide)) (fun _ => ?_)
      have e3 : kd T i = 2 := Int32.toInt_inj.mp (by show (kd T i).toInt = (2 : Int32).toInt; exact e2)
      rw [y1.l (by omega), a1.2 e3]
      show _ = (Int32.ofInt ((nb T i).toInt)).toInt64
      rw [Int32.ofInt_toInt]
    · have e1' : κT T i = 1 := by omega
      refine ⟨fun q => absurd (k3.mp (by rw [← g4]; exact q)) e2, fun _ => ⟨fun _ => ⟨fun q => absurd (k3.mp (by rw [← g4]; exact q)) e2, fun _ => ?_⟩, fun q => absurd (g4.trans (k4.mpr e1')) q⟩⟩
      refine fin 2 _ _ (by rw [if_neg e2]) (inr_z (by omega) (by omega)) (inr_gi _ _ _) (fun _ => (y1.i (by omega)).trans (kl e1')) (fun q => absurd q (by decide))
  -- a sign
  have sg : (κT T i = 45 ∨ κT T i = 40) → u < 60 → (fil π).length ≠ 8 → e_W_readUnary_100 1 M K := fun hs hu h8 => by
    show e_W_readUnary_100 1 M K
    unfold e_W_readUnary_100
    rw [er, b1]
    intro _ _ M1 e1
    refine ⟨fun q => absurd q (by decide), fun _ M2 e2 => ?_⟩
    have hil : i < T.length := lt (by omega)
    have g1 : gi M1 353 31 = ((fil π).length : Int) := by rw [e1, gi_of (Or.inl (by omega))]; exact c4
    have y2 : eqy (fun a k => (a = 356 ∧ k = r) ∨ (a = 353 ∧ k = 31)) M M2 := by rw [e2, e1]; exact ((eqy.rfl' M).wi (Or.inl ⟨rfl, rfl⟩)).wi (Or.inr ⟨rfl, rfl⟩)
    have q31 : gi M2 353 31 = ((fil π).length : Int) + 1 := by rw [e2, gi_at (by rw [g1]; exact inr_z (by omega) (by omega)), g1]
    have q56 : gi M2 356 r = (u : Int) + 1 := by rw [e2, gi_of (Or.inl (by omega)), e1, gi_at (inr_z (by omega) (by omega))]
    have q30 : gi M2 353 30 = (π.length : Int) := (y2.i (by omega)).trans c1
    have q33 : gi M2 353 33 = (lv π : Int) := (y2.i (by omega)).trans c5
    have m2 : mtk M2 T i := (a1.eq y2 (fun a k z => by omega)).1
    have lvf := lv_le π
    refine y_isSign m2 (by decide) (fun e40 => ⟨fun q => absurd q (by decide), fun _ => ?_⟩) (fun n40 => ⟨fun _ => ?_, fun q => absurd rfl q⟩)
    · intro hb M3 e3 M4 e4
      rw [q30, tn_] at e3
      rw [q30] at hb
      have y3 : eqy (fun a k => a = 371 ∧ k = π.length) M2 M3 := by rw [e3]; exact (eqy.rfl' _).wi ⟨rfl, rfl⟩
      have g30 : gi M3 353 30 = (π.length : Int) := (y3.i (by omega)).trans q30
      have y4 : eqy (fun a k => a = 353 ∧ k = 30) M3 M4 := by rw [e4]; exact (eqy.rfl' _).wi ⟨rfl, rfl⟩
      have r30 : gi M4 353 30 = (π.length : Int) + 1 := by rw [e4, gi_at (by rw [g30]; exact inr_z (by omega) (by omega)), g30]
      have m4 : mtk M4 T i := (m2.eq (fun a k z => y3.i (by omega))).eq (fun a k z => y4.i (by omega))
      refine y_isSign m4 (by decide) (fun _ => ⟨fun q => absurd q (by decide), fun _ M5 e5 hb5 M6 e6 => ?_⟩) (fun q => absurd e40 q)
      have g33 : gi M4 353 33 = (lv π : Int) := (y4.i (by omega)).trans ((y3.i (by omega)).trans q33)
      have r33 : gi M5 353 33 = ((lv π + 1 : Nat) : Int) := by rw [e5, gi_at (by rw [g33]; exact inr_z (by omega) (by omega)), g33]; omega
      rw [r33, tn_] at e6
      have y5 : eqy (fun a k => a = 353 ∧ k = 33) M4 M5 := by rw [e5]; exact (eqy.rfl' _).wi ⟨rfl, rfl⟩
      have y6 : eqy (fun a k => a = 372 ∧ k = lv π + 1) M5 M6 := by rw [e6]; exact (eqy.rfl' _).wi ⟨rfl, rfl⟩
      have hq := xm_push (x := 40) (cs' := false :: cs) (M1 := M6) h hu h8 (Or.inr ⟨rfl, rfl⟩) (((((y2.mono (fun a k z => by omega)).trans (y3.mono (fun a k z => by omega))).trans (y4.mono (fun a k z => by omega))).trans (y5.mono (fun a k z => by omega))).trans (y6.mono (fun a k z => by omega))) ?_ ?_ ?_ ?_ ?_ ?_
      · refine y_next hq.1.1 hil (fun M7 y7 m7 => k1 M7 _ _ (hq.nx y7 m7) ?_)
        unfold xst
        rw [if_pos rfl, if_neg (by omega), if_pos e40, if_neg (by omega)]
      · rw [y6.i (by omega), y5.i (by omega), y4.i (by omega), y3.i (by omega)]; exact q56
      · rw [y6.i (by omega), y5.i (by omega)]; exact r30
      · rw [y6.i (by omega), y5.i (by omega), y4.i (by omega), y3.i (by omega)]; exact q31
      · rw [y6.i (by omega), r33, (fil_p π).2.1]
      · rw [y6.i (by omega), y5.i (by omega), y4.i (by omega), e3, gi_at (inr_z (by omega) (by omega))]
      · intro _
        rw [e6, gi_at (inr_ti _)]
        decide
    · intro hb M3 e3 M4 e4
      rw [q30, tn_] at e3
      rw [q30] at hb
      have y3 : eqy (fun a k => a = 371 ∧ k = π.length) M2 M3 := by rw [e3]; exact (eqy.rfl' _).wi ⟨rfl, rfl⟩
      have g30 : gi M3 353 30 = (π.length : Int) := (y3.i (by omega)).trans q30
      have y4 : eqy (fun a k => a = 353 ∧ k = 30) M3 M4 := by rw [e4]; exact (eqy.rfl' _).wi ⟨rfl, rfl⟩
      have r30 : gi M4 353 30 = (π.length : Int) + 1 := by rw [e4, gi_at (by rw [g30]; exact inr_z (by omega) (by omega)), g30]
      have m4 : mtk M4 T i := (m2.eq (fun a k z => y3.i (by omega))).eq (fun a k z => y4.i (by omega))
      refine y_isSign m4 (by decide) (fun q => absurd q n40) (fun _ => ⟨fun _ => ?_, fun q => absurd rfl q⟩)
      have hq := xm_push (x := 1000) (cs' := cs) (M1 := M4) h hu h8 (Or.inl ⟨rfl, rfl⟩) (((y2.mono (fun a k z => by omega)).trans (y3.mono (fun a k z => by omega))).trans (y4.mono (fun a k z => by omega))) ?_ r30 ?_ ?_ ?_ (fun q => absurd q (by decide))
      · refine y_next hq.1.1 hil (fun M7 y7 m7 => k1 M7 _ _ (hq.nx y7 m7) ?_)
        unfold xst
        rw [if_pos rfl, if_pos (by omega), if_neg (by omega)]
      · rw [y4.i (by omega), y3.i (by omega)]; exact q56
      · rw [y4.i (by omega), y3.i (by omega)]; exact q31
      · rw [y4.i (by omega), y3.i (by omega), q33, (fil_m π).2.1]
      · rw [y4.i (by omega), e3, gi_at (inr_z (by omega) (by omega))]
  have e57 : ∀ x : Int, (x = 0 → (κT T i = 2 ∨ (κT T i = 1 ∧ (ir = false ∨ νT T i < 16)))) → (x ≠ 0 → x = 1 ∧ (κT T i = 45 ∨ κT T i = 40)) → e_W_readUnary_57 x M K := fun x hx0 hx1 => by
    show e_W_readUnary_62 x 1 M K
    unfold e_W_readUnary_62
    rw [er, b1]
    refine ⟨fun q => absurd q (by decide), fun _ _ => ⟨fun _ => bad, fun q60 => ⟨fun q => ?_, fun q => ⟨fun _ => bad, fun q8 => ?_⟩⟩⟩⟩
    · rw [q]; exact op (hx0 q) (by omega)
    · rw [(hx1 q).1]
      exact sg (hx1 q).2 (by omega) (fun z => q8 (by rw [c4, z]; rfl))
  have e61 : ∀ x : Int, e_W_readUnary_61 x M K := fun x => ⟨fun _ => bad, fun q => absurd rfl q⟩
  have e18 : (κT T i = 45 ∨ κT T i = 40) → e_W_readUnary_18 v1 M K := fun q => ⟨fun z => absurd z (by decide), fun _ => e57 1 (fun z => absurd z (by decide)) (fun _ => ⟨rfl, q⟩)⟩
  refine y_isSign a1.1 (by decide) (fun e => ⟨fun q => absurd q (by decide), fun _ => e18 (Or.inl e)⟩) (fun n45 => ⟨fun _ => y_isSign a1.1 (by decide) (fun e => ⟨fun q => absurd q (by decide), fun _ => e18 (Or.inr e)⟩) (fun n40 => ⟨fun _ => ?_, fun q => absurd rfl q⟩), fun q => absurd rfl q⟩)
  refine ⟨fun _ => ⟨fun q => e57 0 (fun _ => Or.inl (k3.mp q)) (fun z => absurd rfl z), fun q => ⟨fun q2 => ⟨fun qv => e57 0 (fun _ => Or.inr ⟨k4.mp q2, Or.inl (hv.mp qv)⟩) (fun z => absurd rfl z), fun qv => ⟨fun _ => e61 0, fun q16 => e57 0 (fun _ => Or.inr ⟨k4.mp q2, Or.inr ?_⟩) (fun z => absurd rfl z)⟩⟩, fun _ => e61 0⟩⟩, fun q => absurd rfl q⟩
  have := kl (k4.mp q2)
  omega
end WUN
