section FIN3

variable (fz : Bool) (L : Nat) (xs : Nat → Int32)

theorem ni_of {k : Nat} (h : k ≤ 100000) : nI k = Int32.ofInt (k : Int) := by
  refine Int32.toInt_inj.mp ?_
  rw [nI_int h, ti_ofi (inr_z (by omega) (by omega))]
theorem mI_0 {M : rf_M} {c : Nat} (hm : mIn M c) : mIn (wi M 353 0 0) c := (mQ0 hm).1
theorem mQ_fd {M M' : rf_M} {c : Nat} {P : Nat → Nat → Prop} (hm : mIn M c) (hx : eqx P M M') (hP : ∀ a k, P a k → a = 354 ∨ (a = 353 ∧ (k = 0 ∨ k = 2))) : mIn M' c := hm.eq (fun a k z => hx a k (fun w => by have := hP a k w; unfold mIc cdc at z; omega))
theorem Q_feed (a b e d g : Int32) : lw_I (cx0 fz) (HK fz L xs).2 xs (JJ fz L xs) true 13 128 [.int a, .int b, .int e, .int d, .int g] := by
  rintro M ⟨n, c, hc, hM⟩
  have h8 := hc.2.2.1.2
  have hc12 := JJ.c12 hc
  refine gx_mono (cf_feed hc a b e d g) ?_
  rintro r h' ⟨z, M1, rfl, rfl, hcase, hp, hf⟩
  have g1 : ∀ a k, 353 ≤ a → gi M1 a k = gi M a k := fun a k ha => gi_same (hf a k ha)
  have m1 : mIn M1 c := hM.1.eq (fun a k z => g1 a k (by unfold mIc cdc at z; omega))
  have r1 : ∀ q ∈ rfM, M1.2.2 353 q.1 = some q.2 := fun q hq => (hf 353 q.1 (by omega)).2.2.trans (hM.2.2.1 q hq)
  have s1 : gi M1 353 2 = (n : Int) := (g1 _ _ (by omega)).trans hM.2.1.1
  have row1 : ∀ k, M1.1 1 k = xs k := by
    rcases hcase with ⟨-, -, c1, -⟩ | ⟨-, -, c1, -⟩
    · exact c1.row
    · exact c1.row
  refine ⟨z, M1, rfl, rfl, row1, ?_⟩
  rw [← zv_i a, ← zv_i b, ← zv_i e, ← zv_i d, ← zv_i g]
  refine gx_room (gx_mono (W_feed_m (K := fun z' M2 => (n ≤ 780 ∧ z' = ((n + 20 : Nat) : Int) ∧ eqx (fdw n 20) M1 M2 ∧ gi M2 353 2 = ((n + 20 : Nat) : Int) ∧ ∀ t, t < 20 → (Int32.ofInt (gi M2 354 (n + t)) &&& Int32.ofInt 255).toInt = (fb5 a b e d g t).toInt) ∨ (780 < n ∧ z' = -1 ∧ M2 = wi M1 353 0 0)) (rk_HK r1) (fq.rfl' _) (s_feed s1 h8 (fun w M2 x2 t2 b2 => Or.inl ⟨w, rfl, x2, t2, b2⟩) (fun w => Or.inr ⟨w, rfl, rfl⟩))) ?_) (Nat.le_of_ble_eq_true rfl) (Nat.le_of_ble_eq_true rfl)
  rintro r' h'' ⟨z', M2, rfl, rfl, f2, hK⟩
  have cnt : ∀ {P : Nat → Nat → Prop}, eqx P M1 M2 → (∀ a k, P a k → a = 354 ∨ (a = 353 ∧ (k = 0 ∨ k = 2))) → ∀ i, i < c → gi M2 355 i = (M2.1 (25 + 12 * i) 0).toInt ∧ gi M2 356 i = (M2.1 (25 + 12 * i) 1).toInt ∧ gi M2 357 i = (M2.1 (25 + 12 * i) 2).toInt := fun hx hP i hi => by
    have q : ∀ a k, a = 355 ∨ a = 356 ∨ a = 357 → gi M2 a k = gi M a k := fun a k w => (hx a k (fun w2 => by have := hP a k w2; omega)).trans (g1 a k (by omega))
    rw [q 355 i (by omega), q 356 i (by omega), q 357 i (by omega), (f2.2 (25 + 12 * i) 0 (by omega)).1, (f2.2 (25 + 12 * i) 1 (by omega)).1, (f2.2 (25 + 12 * i) 2 (by omega)).1, hp i 0 (by omega), hp i 1 (by omega), hp i 2 (by omega)]
    exact hM.2.2.2 i hi
  rcases hcase with ⟨w1, rfl, c1, b1, o1⟩ | ⟨w1, rfl, c1, o1⟩
  · rcases hK with ⟨-, rfl, x2, t2, b2⟩ | ⟨w2, -⟩
    · have hP : ∀ a k, fdw n 20 a k → a = 354 ∨ (a = 353 ∧ (k = 0 ∨ k = 2)) := fun a k w => by unfold fdw at w; omega
      refine ⟨_, M2, rfl, rfl, ⟨n + 20, c, c1.fq f2, mQ_fd m1 x2 hP, ⟨t2, by omega, fun k hk => ?_⟩, fun q hq => by rw [f2.1]; exact r1 q hq, cnt x2 hP⟩, fun _ => ni_of (by omega)⟩
      rw [(f2.2 23 k (by omega)).1]
      by_cases hkn : k < n
      · rw [x2 354 k (by unfold fdw; omega), g1 354 k (by omega), o1 k hkn]
        exact hM.2.1.2.2 k hkn
      · obtain ⟨t, rfl⟩ : ∃ t, k = n + t := ⟨k - n, by omega⟩
        rw [b2 t (by omega), b1 t (by omega)]
        exact ⟨rfl, fb5_le _ _ _ _ _ _⟩
    · omega
  · rcases hK with ⟨w2, -⟩ | ⟨-, rfl, e2⟩
    · omega
    · have x2 : eqx (fun a k => a = 353 ∧ k = 0) M1 M2 := by rw [e2]; exact (eqx.rfl' M1).wi ⟨rfl, rfl⟩
      refine ⟨_, M2, rfl, rfl, ⟨n, c, c1.fq f2, by rw [e2]; exact mI_0 m1, ⟨(x2 _ _ (by omega)).trans s1, h8, fun k hk => ?_⟩, fun q hq => by rw [f2.1]; exact r1 q hq, cnt x2 (fun a k w => Or.inr ⟨w.1, Or.inl w.2⟩)⟩, fun _ => rfl⟩
      rw [(f2.2 23 k (by omega)).1, x2 354 k (by omega), g1 354 k (by omega), o1 k]
      exact hM.2.1.2.2 k hk
theorem Q_end (x : Int32) : lw_I (cx0 fz) (HK fz L xs).2 xs (JJ fz L xs) true 15 129 [.int x] := by
  rintro M ⟨n, c, hc, hM⟩
  have h8 := hc.2.2.1.2
  have hc12 := JJ.c12 hc
  refine gx_mono (cf_end hc x) ?_
  rintro r h' ⟨z, M1, rfl, rfl, hcase, h23, hp, hf⟩
  have h1 := hM.prog hc12 hf h23 hp
  have row1 : ∀ k, M1.1 1 k = xs k := by
    rcases hcase with ⟨-, -, c1⟩ | ⟨-, -, c1⟩
    · exact c1.row
    · exact c1.row
  refine ⟨z, M1, rfl, rfl, row1, ?_⟩
  rw [← zv_i x]
  refine gx_room (gx_mono (W_end_m (K := fun z' M2 => eqx (fun a k => a = 353 ∧ (k = 0 ∨ k = 2)) M1 M2 ∧ (((0 ≤ x.toInt ∧ x.toInt ≤ 20 ∧ 20 ≤ n) ∧ z' = ((n - 20 + x.toInt.toNat : Nat) : Int) ∧ gi M2 353 2 = ((n - 20 + x.toInt.toNat : Nat) : Int)) ∨ (¬ (0 ≤ x.toInt ∧ x.toInt ≤ 20 ∧ 20 ≤ n) ∧ z' = -1 ∧ gi M2 353 2 = (n : Int)))) (rk_HK h1.2.2.1) (fq.rfl' _) (s_end h1.2.1.1 h8 (fun w M2 x2 t2 => ⟨x2, Or.inl ⟨w, rfl, t2⟩⟩) (fun w => ⟨(eqx.rfl' M1).wi ⟨rfl, Or.inl rfl⟩, Or.inr ⟨w, rfl, (gi_of (by omega)).trans h1.2.1.1⟩⟩))) ?_) (Nat.le_of_ble_eq_true rfl) (Nat.le_of_ble_eq_true rfl)
  rintro r' h'' ⟨z', M2, rfl, rfl, f2, x2, hK⟩
  have fin : ∀ n' : Nat, n' ≤ n → gi M2 353 2 = (n' : Int) → mJ M2 n' c := fun n' hn' t2 => by
    refine ⟨mQ_fd h1.1 x2 (fun a k w => Or.inr w), ⟨t2, by omega, fun k hk => ?_⟩, fun q hq => by rw [f2.1]; exact h1.2.2.1 q hq, fun i hi => ?_⟩
    · rw [(f2.2 23 k (by omega)).1, x2 354 k (by omega)]
      exact h1.2.1.2.2 k (by omega)
    · rw [x2 355 i (by omega), x2 356 i (by omega), x2 357 i (by omega), (f2.2 (25 + 12 * i) 0 (by omega)).1, (f2.2 (25 + 12 * i) 1 (by omega)).1, (f2.2 (25 + 12 * i) 2 (by omega)).1]
      exact h1.2.2.2 i hi
  rcases hcase with ⟨w1, rfl, c1⟩ | ⟨w1, rfl, c1⟩
  · rcases hK with ⟨-, rfl, t2⟩ | ⟨w2, -⟩
    · exact ⟨_, M2, rfl, rfl, ⟨_, c, c1.fq f2, fin _ (by omega) t2⟩, fun _ => ni_of (by omega)⟩
    · exact absurd w1 w2
  · rcases hK with ⟨w2, -⟩ | ⟨-, rfl, t2⟩
    · exact absurd w2 w1
    · exact ⟨_, M2, rfl, rfl, ⟨n, c, c1.fq f2, fin n (Nat.le_refl _) t2⟩, fun _ => rfl⟩
theorem Q_told (a w : Int32) : lw_I (cx0 fz) (HK fz L xs).2 xs (JJ fz L xs) true 57 153 [.int a, .int w] := by
  rintro M ⟨n, c, hc, hM⟩
  have hc12 := JJ.c12 hc
  refine gx_mono (cf_told hc a w) ?_
  rintro r h' ⟨rfl, rfl⟩
  refine ⟨_, M, rfl, rfl, hc.row, ?_⟩
  rw [← zv_i a, ← zv_i w]
  refine gx_room (gx_mono (W_told_m (K := fun z' M2 => mQ c M M2 ∧ z' = (if 0 ≤ a.toInt ∧ a.toInt < (c : Int) then (if w.toInt = 0 then gi M 355 a.toInt.toNat else if w.toInt = 1 then gi M 356 a.toInt.toNat else if w.toInt = 2 then gi M 357 a.toInt.toNat else -1) else -1)) (rk_HK hM.2.2.1) (fq.rfl' _) (s_told hM.1 (fun M2 q2 => ⟨q2, rfl⟩))) ?_) (Nat.le_of_ble_eq_true rfl) (Nat.le_of_ble_eq_true rfl)
  rintro r' h'' ⟨z', M2, rfl, rfl, f2, q2, rfl⟩
  refine ⟨_, M2, rfl, rfl, ⟨n, c, hc.fq f2, hM.model hc12 f2 q2⟩, fun _ => ?_⟩
  unfold ct_told
  split
  · rename_i hin
    obtain ⟨e0, e1, e2⟩ := hM.2.2.2 a.toInt.toNat (by omega)
    rw [e0, e1, e2]
    split
    · rw [ofi_ti]
    · split
      · rw [ofi_ti]
      · split
        · rw [ofi_ti]
        · rfl
  · rfl
theorem Q_text : lw_I (cx0 fz) (HK fz L xs).2 xs (JJ fz L xs) true 16 130 [] := by
  rintro M ⟨n, c, hc, hM⟩
  have hc12 := JJ.c12 hc
  refine gx_mono (cf_text hc) ?_
  rintro r h' ⟨z, M1, rfl, rfl, hcase, hp, hf⟩
  have g1 : ∀ a k, 353 ≤ a → gi M1 a k = gi M a k := fun a k ha => gi_same (hf a k ha)
  have m1 : mIn M1 c := hM.1.eq (fun a k z => g1 a k (by unfold mIc cdc at z; omega))
  have r1 : ∀ q ∈ rfM, M1.2.2 353 q.1 = some q.2 := fun q hq => (hf 353 q.1 (by omega)).2.2.trans (hM.2.2.1 q hq)
  have tp1 : tp M1 n (M.1 23) := ⟨(g1 _ _ (by omega)).trans hM.2.1.1, hM.2.1.2.1, fun k hk => by rw [g1 354 k (by omega)]; exact hM.2.1.2.2 k hk⟩
  have row1 : ∀ k, M1.1 1 k = xs k := by
    rcases hcase with ⟨-, -, c1, -⟩ | ⟨-, -, -, c1, -⟩ | ⟨-, -, -, c1⟩
    · exact c1.row
    · exact c1.row
    · exact c1.row
  refine ⟨z, M1, rfl, rfl, row1, ?_⟩
  refine gx_room (gx_mono (W_text_m (K := fun z' M2 => (c = 12 ∧ z' = -1 ∧ M2 = wi M1 353 0 0) ∨ (c < 12 ∧ (p_all (p_T (M.1 23) n)).2.2.2.2.2 = true ∧ z' = (c : Int) ∧ eqx (txw c) M1 M2 ∧ gi M2 353 11 = (c : Int) + 1 ∧ gi M2 353 2 = 0 ∧ (∀ t, t < c + 1 → txo M2 t) ∧ gi M2 355 c = ((p_all (p_T (M.1 23) n)).2.2.1 : Int) ∧ gi M2 356 c = ((p_all (p_T (M.1 23) n)).2.2.2.1 : Int) ∧ gi M2 357 c = ((p_all (p_T (M.1 23) n)).2.2.2.2.1 : Int)) ∨ (c < 12 ∧ (p_all (p_T (M.1 23) n)).2.2.2.2.2 = false ∧ z' = -2 ∧ eqx (txw c) M1 M2 ∧ gi M2 353 11 = (c : Int) ∧ gi M2 353 2 = 0 ∧ ∀ t, t < c → txo M2 t)) (rk_HK r1) (fq.rfl' _) (s_text m1.2.1 hc12 tp1 m1.1.2 (fun w => Or.inl ⟨w, rfl, rfl⟩) (fun w1 w2 M2 x2 t2 s2 o2 u0 u1 u2 => Or.inr (Or.inl ⟨w1, w2, rfl, x2, t2, s2, o2, u0, u1, u2⟩)) (fun w1 w2 M2 x2 t2 s2 o2 => Or.inr (Or.inr ⟨w1, w2, rfl, x2, t2, s2, o2⟩)))) ?_) (Nat.le_of_ble_eq_true rfl) (Nat.le_of_ble_eq_true rfl)
  rintro r' h'' ⟨z', M2, rfl, rfl, f2, hK⟩
  -- the other parts of the invariant
  have rest : eqx (txw c) M1 M2 → ∀ c' : Nat, c ≤ c' → c' ≤ 12 → gi M2 353 11 = (c' : Int) → (∀ t, t < c' → txo M2 t) → mIn M2 c' := by
    intro x2 c' hcc hc' t2 o2
    obtain ⟨k1, k2, ⟨rc, k3, k3', k3''⟩, k4, k5, ⟨rw, k6, k6', k6''⟩⟩ := m1
    have q : ∀ a k, (376 ≤ a ∨ (a = 353 ∧ k = 69)) → gi M2 a k = gi M1 a k := fun a k w => x2 a k (by unfold txw tew; omega)
    refine ⟨⟨hc', o2⟩, t2, ⟨rc, (q _ _ (by omega)).trans k3, k3', fun k hk => ?_⟩, fun l hl => ?_, k5.eq (fun k => q _ _ (by omega)), ⟨rw, (q _ _ (by omega)).trans k6, k6', fun i hi => ?_⟩⟩
    · rw [q 379 _ (by omega)]
      obtain ⟨e, t, cc, j1, j2, j3, j4, kk, j5, j6, j7, j8⟩ := k3'' k hk
      have qt : ∀ a k, txk t a k → gi M2 a k = gi M1 a k := fun a k w => x2 a k (txw_tx w j2)
      have qt' : ∀ a k, (355 ≤ a ∧ a ≤ 359 ∧ k = t) ∨ (360 ≤ a ∧ a ≤ 367 ∧ 40 * t ≤ k ∧ k < 40 * t + 40) ∨ ((a = 368 ∨ a = 369) ∧ 200 * t ≤ k ∧ k < 200 * t + 200) → gi M2 a k = gi M1 a k := qt
      refine ⟨e, t, cc, j1, by omega, (qt' _ _ (by omega)).trans j3, j4, kk, j5, j6, ?_, (qt' _ _ (by omega)).trans j8⟩
      rw [wd_congr (A := gi M1 368) (B := gi M1 369) _ (fun t' ht => ⟨qt' _ _ (by omega), qt' _ _ (by omega)⟩)]
      exact j7
    · obtain ⟨q0, b1, b2, b3⟩ := k4 l hl
      refine ⟨q0, (q _ _ (by omega)).trans b1, b2, fun k hk => ?_⟩
      obtain ⟨t, t1, t2'⟩ := b3 k hk
      exact ⟨t, (q _ _ (by omega)).trans t1, by omega⟩
    · obtain ⟨x, y1, y2⟩ := k6'' i hi
      refine ⟨x, (q _ _ (by omega)).trans y1, ?_⟩
      rw [q 400 i (by omega)]
      rcases y2 with w | w
      · exact Or.inl w
      · exact Or.inr ⟨w.1, by omega⟩
  have old : eqx (txw c) M1 M2 → ∀ i, i < c → gi M2 355 i = (M2.1 (25 + 12 * i) 0).toInt ∧ gi M2 356 i = (M2.1 (25 + 12 * i) 1).toInt ∧ gi M2 357 i = (M2.1 (25 + 12 * i) 2).toInt := fun x2 i hi => by
    have q : ∀ a k, (a = 355 ∨ a = 356 ∨ a = 357) → k = i → gi M2 a k = gi M a k := fun a k w w2 => (x2 a k (by unfold txw tew; omega)).trans (g1 a k (by omega))
    rw [q 355 i (by omega) rfl, q 356 i (by omega) rfl, q 357 i (by omega) rfl, (f2.2 (25 + 12 * i) 0 (by omega)).1, (f2.2 (25 + 12 * i) 1 (by omega)).1, (f2.2 (25 + 12 * i) 2 (by omega)).1, hp i 0 hi, hp i 1 hi, hp i 2 hi]
    exact hM.2.2.2 i hi
  have tp0 : gi M2 353 2 = 0 → tp M2 0 (M2.1 23) := fun w => ⟨w, by omega, fun k hk => absurd hk (Nat.not_lt_zero _)⟩
  rcases hcase with ⟨w1, rfl, c1, o1⟩ | ⟨w1, v1, rfl, c1, u0, u1, u2⟩ | ⟨w1, v1, rfl, c1⟩
  · rcases hK with ⟨-, rfl, e2⟩ | ⟨w2, -⟩ | ⟨w2, -⟩
    · have x2 : eqx (fun a k => a = 353 ∧ k = 0) M1 M2 := by rw [e2]; exact (eqx.rfl' M1).wi ⟨rfl, rfl⟩
      refine ⟨_, M2, rfl, rfl, ⟨n, c, c1.fq f2, by rw [e2]; exact mI_0 m1, ⟨(x2 _ _ (by omega)).trans tp1.1, tp1.2.1, fun k hk => ?_⟩, fun q hq => by rw [f2.1]; exact r1 q hq, old (x2.mono (fun a k w => Or.inr ⟨w.1, Or.inl w.2⟩))⟩, fun _ => rfl⟩
      rw [(f2.2 23 k (by omega)).1, x2 354 k (by omega), o1 k]
      exact tp1.2.2 k hk
    · omega
    · omega
  · rcases hK with ⟨w2, -⟩ | ⟨-, -, rfl, x2, t2, s2, o2, n0, n1, n2⟩ | ⟨-, v2, -⟩
    · omega
    · refine ⟨_, M2, rfl, rfl, ⟨0, c + 1, c1.fq f2, rest x2 (c + 1) (by omega) (by omega) (by rw [t2]; omega) o2, tp0 s2, fun q hq => by rw [f2.1]; exact r1 q hq, fun i hi => ?_⟩, fun _ => ni_of (by omega)⟩
      by_cases hic : i = c
      · have big : ∀ {k : Nat} {z : Int}, z = (k : Int) → inr z → (nI k).toInt = (k : Int) := fun {k z} e i => by
          unfold nI
          exact Int32.toInt_ofNat_of_lt (by have := i.2; omega)
        rw [hic, (f2.2 (25 + 12 * c) 0 (by omega)).1, (f2.2 (25 + 12 * c) 1 (by omega)).1, (f2.2 (25 + 12 * c) 2 (by omega)).1, u0, u1, u2, big n0 (inr_gi _ _ _), big n1 (inr_gi _ _ _), big n2 (inr_gi _ _ _)]
        exact ⟨n0, n1, n2⟩
      · exact old x2 i (by omega)
    · rw [v1] at v2; cases v2
  · rcases hK with ⟨w2, -⟩ | ⟨-, v2, -⟩ | ⟨-, -, rfl, x2, t2, s2, o2⟩
    · omega
    · rw [v1] at v2; cases v2
    · exact ⟨_, M2, rfl, rfl, ⟨0, c, c1.fq f2, rest x2 c (Nat.le_refl _) hc12 t2 o2, tp0 s2, fun q hq => by rw [f2.1]; exact r1 q hq, old x2⟩, fun _ => rfl⟩
theorem z0_ : ∀ fz : Bool, ([(353, 2), (353, 11), (353, 69), (378, 0), (381, 0), (381, 1), (381, 2), (381, 3), (381, 4), (381, 5), (381, 6), (381, 7), (383, 0), (383, 1), (383, 2), (383, 3), (383, 4), (383, 5), (383, 6), (383, 7)] : List (Nat × Nat)).all (fun q => decide ((K2 fz).1.1 q.1 q.2 = 0)) = true := by
  intro fz
  cases fz <;> decide +kernel
theorem rfM_K : ∀ q ∈ rfM, (353, q.1, q.2) ∈ rfK := by decide +kernel
theorem JJ_0 : JJ fz L xs (HK fz L xs).1 := by
  refine ⟨0, 0, cJ_0 fz L xs, ?_⟩
  have z : ∀ a k, (a, k) ∈ ([(353, 2), (353, 11), (353, 69), (378, 0), (381, 0), (381, 1), (381, 2), (381, 3), (381, 4), (381, 5), (381, 6), (381, 7), (383, 0), (383, 1), (383, 2), (383, 3), (383, 4), (383, 5), (383, 6), (383, 7)] : List (Nat × Nat)) → 1 < a → gi (HK fz L xs).1 a k = 0 := fun a k hm ha => by
    have := List.all_eq_true.mp (z0_ fz) (a, k) hm
    simp only [decide_eq_true_eq] at this
    unfold gi
    rw [HK_i fz L xs a k ha, this]
    rfl
  have l8 : ∀ l, l < 8 → (381, l) ∈ ([(353, 2), (353, 11), (353, 69), (378, 0), (381, 0), (381, 1), (381, 2), (381, 3), (381, 4), (381, 5), (381, 6), (381, 7), (383, 0), (383, 1), (383, 2), (383, 3), (383, 4), (383, 5), (383, 6), (383, 7)] : List (Nat × Nat)) ∧ (383, l) ∈ ([(353, 2), (353, 11), (353, 69), (378, 0), (381, 0), (381, 1), (381, 2), (381, 3), (381, 4), (381, 5), (381, 6), (381, 7), (383, 0), (383, 1), (383, 2), (383, 3), (383, 4), (383, 5), (383, 6), (383, 7)] : List (Nat × Nat)) := by decide
  refine ⟨⟨⟨by omega, fun t ht => absurd ht (Nat.not_lt_zero _)⟩, z 353 11 (by decide) (by omega), ⟨0, z 378 0 (by decide) (by omega), by omega, fun k hk => absurd hk (Nat.not_lt_zero _)⟩, fun l hl => ⟨0, z 381 l (l8 l hl).1 (by omega), by omega, fun k hk => absurd hk (Nat.not_lt_zero _)⟩, fun l hl => ⟨0, z 383 l (l8 l hl).2 (by omega), by omega⟩, ⟨0, z 353 69 (by decide) (by omega), by omega, fun k hk => absurd hk (Nat.not_lt_zero _)⟩⟩, ⟨z 353 2 (by decide) (by omega), by omega, fun k hk => absurd hk (Nat.not_lt_zero _)⟩, fun q hq => ?_, fun i hi => absurd hi (Nat.not_lt_zero _)⟩
  have hr := List.all_eq_true.mp (K2_rf fz) (353, q.1, q.2) (rfM_K q hq)
  simp only [decide_eq_true_eq] at hr
  rw [HK_r]
  exact hr
end FIN3
/-! the program: its objects and what they hold -/
def k0 : List Nat := [22]
def k1 : List Nat := [25, 37, 49, 61, 73, 85, 97, 109, 121, 133, 145, 157]
def k2 : List Nat := [169]
def k3 : List Nat := [170]
def k4 : List Nat := [187, 332]
def k5 : List Nat := [193, 210, 226, 242, 258, 274, 290, 306, 322, 338, 351]
def k6 : List Nat := [196, 212, 228, 244, 260, 276, 292, 308]
def k7 : List Nat := [199, 215, 231, 247, 263, 279, 295, 311, 340]
def k8 : List Nat := [201, 217, 233, 249, 265, 281, 297, 313, 342]
def k9 : List Nat := [324]
def k10 : List Nat := [331]
def k11 : List Nat := [353]
def rfF : List (Nat × Nat × Nat) := [(22, 0, 23), (22, 2, 24), (22, 5, 169), (22, 6, 187), (22, 7, 195), (22, 8, 324), (22, 9, 331), (24, 0, 25), (24, 1, 37), (24, 2, 49), (24, 3, 61), (24, 4, 73), (24, 5, 85), (24, 6, 97), (24, 7, 109), (24, 8, 121), (24, 9, 133), (24, 10, 145), (24, 11, 157), (25, 5, 26), (25, 6, 27), (25, 7, 28), (25, 8, 29), (25, 9, 30), (25, 10, 31), (25, 11, 32), (25, 12, 33), (25, 13, 34), (25, 14, 35), (25, 15, 36), (37, 5, 38), (37, 6, 39), (37, 7, 40), (37, 8, 41), (37, 9, 42), (37, 10, 43), (37, 11, 44), (37, 12, 45), (37, 13, 46), (37, 14, 47), (37, 15, 48), (49, 5, 50), (49, 6, 51), (49, 7, 52), (49, 8, 53), (49, 9, 54), (49, 10, 55), (49, 11, 56), (49, 12, 57), (49, 13, 58), (49, 14, 59), (49, 15, 60), (61, 5, 62), (61, 6, 63), (61, 7, 64), (61, 8, 65), (61, 9, 66), (61, 10, 67), (61, 11, 68), (61, 12, 69), (61, 13, 70), (61, 14, 71), (61, 15, 72), (73, 5, 74), (73, 6, 75), (73, 7, 76), (73, 8, 77), (73, 9, 78), (73, 10, 79), (73, 11, 80), (73, 12, 81), (73, 13, 82), (73, 14, 83), (73, 15, 84), (85, 5, 86), (85, 6, 87), (85, 7, 88), (85, 8, 89), (85, 9, 90), (85, 10, 91), (85, 11, 92), (85, 12, 93), (85, 13, 94), (85, 14, 95), (85, 15, 96), (97, 5, 98), (97, 6, 99), (97, 7, 100), (97, 8, 101), (97, 9, 102), (97, 10, 103), (97, 11, 104), (97, 12, 105), (97, 13, 106), (97, 14, 107), (97, 15, 108), (109, 5, 110), (109, 6, 111), (109, 7, 112), (109, 8, 113), (109, 9, 114), (109, 10, 115), (109, 11, 116), (109, 12, 117), (109, 13, 118), (109, 14, 119), (109, 15, 120), (121, 5, 122), (121, 6, 123), (121, 7, 124), (121, 8, 125), (121, 9, 126), (121, 10, 127), (121, 11, 128), (121, 12, 129), (121, 13, 130), (121, 14, 131), (121, 15, 132), (133, 5, 134), (133, 6, 135), (133, 7, 136), (133, 8, 137), (133, 9, 138), (133, 10, 139), (133, 11, 140), (133, 12, 141), (133, 13, 142), (133, 14, 143), (133, 15, 144), (145, 5, 146), (145, 6, 147), (145, 7, 148), (145, 8, 149), (145, 9, 150), (145, 10, 151), (145, 11, 152), (145, 12, 153), (145, 13, 154), (145, 14, 155), (145, 15, 156), (157, 5, 158), (157, 6, 159), (157, 7, 160), (157, 8, 161), (157, 9, 162), (157, 10, 163), (157, 11, 164), (157, 12, 165), (157, 13, 166), (157, 14, 167), (157, 15, 168), (169, 0, 170), (170, 0, 171), (170, 1, 172), (170, 2, 173), (187, 0, 188), (187, 1, 189), (187, 3, 190), (187, 4, 191), (187, 5, 192), (187, 6, 193), (193, 0, 194), (195, 0, 196), (195, 1, 212), (195, 2, 228), (195, 3, 244), (195, 4, 260), (195, 5, 276), (195, 6, 292), (195, 7, 308), (196, 3, 197), (196, 4, 199), (196, 7, 198), (199, 4, 200), (199, 5, 201), (199, 7, 209), (199, 8, 187), (199, 9, 210), (201, 1, 202), (201, 2, 203), (201, 4, 204), (201, 5, 205), (201, 6, 206), (201, 7, 207), (201, 8, 208), (210, 0, 211), (212, 3, 213), (212, 4, 215), (212, 7, 214), (215, 4, 216), (215, 5, 217), (215, 7, 225), (215, 8, 187), (215, 9, 226), (217, 1, 218), (217, 2, 219), (217, 4, 220), (217, 5, 221), (217, 6, 222), (217, 7, 223), (217, 8, 224), (226, 0, 227), (228, 3, 229), (228, 4, 231), (228, 7, 230), (231, 4, 232), (231, 5, 233), (231, 7, 241), (231, 8, 187), (231, 9, 242), (233, 1, 234), (233, 2, 235), (233, 4, 236), (233, 5, 237), (233, 6, 238), (233, 7, 239), (233, 8, 240), (242, 0, 243), (244, 3, 245), (244, 4, 247), (244, 7, 246), (247, 4, 248), (247, 5, 249), (247, 7, 257), (247, 8, 187), (247, 9, 258), (249, 1, 250), (249, 2, 251), (249, 4, 252), (249, 5, 253), (249, 6, 254), (249, 7, 255), (249, 8, 256), (258, 0, 259), (260, 3, 261), (260, 4, 263), (260, 7, 262), (263, 4, 264), (263, 5, 265), (263, 7, 273), (263, 8, 187), (263, 9, 274), (265, 1, 266), (265, 2, 267), (265, 4, 268), (265, 5, 269), (265, 6, 270), (265, 7, 271), (265, 8, 272), (274, 0, 275), (276, 3, 277), (276, 4, 279), (276, 7, 278), (279, 4, 280), (279, 5, 281), (279, 7, 289), (279, 8, 187), (279, 9, 290), (281, 1, 282), (281, 2, 283), (281, 4, 284), (281, 5, 285), (281, 6, 286), (281, 7, 287), (281, 8, 288), (290, 0, 291), (292, 3, 293), (292, 4, 295), (292, 7, 294), (295, 4, 296), (295, 5, 297), (295, 7, 305), (295, 8, 187), (295, 9, 306), (297, 1, 298), (297, 2, 299), (297, 4, 300), (297, 5, 301), (297, 6, 302), (297, 7, 303), (297, 8, 304), (306, 0, 307), (308, 3, 309), (308, 4, 311), (308, 7, 310), (311, 4, 312), (311, 5, 313), (311, 7, 321), (311, 8, 187), (311, 9, 322), (313, 1, 314), (313, 2, 315), (313, 4, 316), (313, 5, 317), (313, 6, 318), (313, 7, 319), (313, 8, 320), (322, 0, 323), (324, 1, 325), (324, 2, 326), (324, 3, 327), (324, 4, 328), (324, 5, 329), (324, 6, 330), (331, 0, 332), (331, 3, 24), (331, 4, 340), (332, 0, 333), (332, 1, 334), (332, 3, 335), (332, 4, 336), (332, 5, 337), (332, 6, 338), (338, 0, 339), (340, 4, 341), (340, 5, 342), (340, 7, 350), (340, 8, 332), (340, 9, 351), (342, 1, 343), (342, 2, 344), (342, 4, 345), (342, 5, 346), (342, 6, 347), (342, 7, 348), (342, 8, 349), (351, 0, 352), (353, 1, 354), (353, 12, 355), (353, 13, 356), (353, 14, 357), (353, 15, 358), (353, 16, 359), (353, 17, 360), (353, 18, 361), (353, 19, 362), (353, 20, 363), (353, 21, 364), (353, 22, 365), (353, 23, 366), (353, 24, 367), (353, 25, 368), (353, 26, 369), (353, 27, 370), (353, 29, 371), (353, 32, 372), (353, 34, 373), (353, 35, 374), (353, 36, 375), (353, 38, 376), (353, 39, 377), (353, 40, 378), (353, 41, 379), (353, 43, 380), (353, 44, 381), (353, 45, 382), (353, 46, 383), (353, 47, 384), (353, 48, 385), (353, 49, 386), (353, 50, 387), (353, 51, 388), (353, 53, 389), (353, 54, 390), (353, 56, 391), (353, 57, 392), (353, 59, 393), (353, 61, 394), (353, 62, 395), (353, 63, 396), (353, 64, 397), (353, 67, 398), (353, 68, 399), (353, 70, 400), (353, 71, 401), (353, 72, 402), (353, 73, 403), (353, 74, 404), (353, 75, 405)]
