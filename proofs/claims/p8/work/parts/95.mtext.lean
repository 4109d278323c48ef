/-! THE REFERENCE: text(), feed(), end() -/
theorem sp_scan_let {b : Nat → Int32} {n : Nat} : ∀ (f p : Nat), ∀ e ∈ sp_scan b n f p, e.1.toInt = 1 → 0 ≤ e.2.2.toInt
  | 0, _, e, he, _ => by cases he
  | f + 1, p, e, he, h1 => by
    unfold sp_scan at he
    split at he
    · split at he
      · exact sp_scan_let f (p + 1) e he h1
      · rcases List.mem_cons.mp he with z | z
        · subst z
          dsimp only at h1 ⊢
          unfold sp_tok at h1 ⊢
          split
          · rename_i hl
            rw [if_pos hl] at h1
            have hl' : 97 ≤ (b p).toInt ∧ (b p).toInt ≤ 122 := by
              unfold sp_l at hl
              simp at hl
              exact hl
            split
            · show 0 ≤ (b p - 97).toInt
              rw [Int32.toInt_sub, show (97 : Int32).toInt = 97 from rfl, Int.bmod_eq_of_le (by omega) (by omega)]
              omega
            · show 0 ≤ (0 : Int32).toInt
              decide
          · rename_i hl
            rw [if_neg hl] at h1
            split
            · rename_i hd
              rw [if_pos hd] at h1
              split at h1
              · exact absurd (show (3 : Int32).toInt = 1 from h1) (by decide)
              · exact absurd (show (2 : Int32).toInt = 1 from h1) (by decide)
            · show 0 ≤ (0 : Int32).toInt
              decide
        · exact sp_scan_let f _ e z h1
    · cases he
theorem p_T_let (b : Nat → Int32) (n : Nat) : ∀ i, (kd (p_T b n) i).toInt = 1 → 0 ≤ (nb (p_T b n) i).toInt := by
  intro i h
  unfold kd at h
  unfold nb
  cases ht : (p_T b n)[i]? with
  | none => rw [ht] at h; exact absurd h (by decide)
  | some e =>
    rw [ht] at h
    exact sp_scan_let 800 0 e (List.mem_of_getElem? ht) h
/-- a text that was read -/
def txo (M : rf_M) (t : Nat) : Prop := ∃ n c : Nat, gi M 355 t = (n : Int) ∧ n ≤ 40 ∧ gi M 359 t = (c : Int) ∧ c ≤ 160 ∧ (∀ x, 40 * t ≤ x → x < 40 * t + n → zs1 M t n x ∧ zs2 M t c x ∧ (gi M 360 x = 7 → 16 ≤ gi M 367 x ∧ gi M 367 x ≤ 25)) ∧ fst_ M t n
/-- what a text is made of -/
def txk (t a k : Nat) : Prop := (355 ≤ a ∧ a ≤ 359 ∧ k = t) ∨ (360 ≤ a ∧ a ≤ 367 ∧ 40 * t ≤ k ∧ k < 40 * t + 40) ∨ ((a = 368 ∨ a = 369) ∧ 200 * t ≤ k ∧ k < 200 * t + 200)
theorem txo.eq {M M' : rf_M} {t : Nat} (h : txo M t) (q : ∀ a k, txk t a k → gi M' a k = gi M a k) : txo M' t := by
  obtain ⟨n, c, h1, h2, h3, h4, h5, h6⟩ := h
  have q' : ∀ a k, (355 ≤ a ∧ a ≤ 359 ∧ k = t) ∨ (360 ≤ a ∧ a ≤ 367 ∧ 40 * t ≤ k ∧ k < 40 * t + 40) ∨ ((a = 368 ∨ a = 369) ∧ 200 * t ≤ k ∧ k < 200 * t + 200) → gi M' a k = gi M a k := q
  refine ⟨n, c, (q' _ _ (by omega)).trans h1, h2, (q' _ _ (by omega)).trans h3, h4, fun x x1 x2 => ?_, ?_⟩
  · obtain ⟨⟨a1, a2, a3, a4, a5⟩, ⟨b1, b2, b3, b4⟩, d⟩ := h5 x x1 x2
    have hc : ∀ {lim : Int} {e : Nat}, cod M t c lim e → cod M' t c lim e := by
      rintro lim e ⟨k, k1, k2, k3, k4⟩
      refine ⟨k, k1, k2, ?_, (q' _ _ (by omega)).trans k4⟩
      rw [wd_congr (A := gi M 368) (B := gi M 369) _ (fun t' ht => ⟨q' _ _ (by omega), q' _ _ (by omega)⟩)]
      exact k3
    refine ⟨⟨?_, ?_, ?_, ?_, ?_⟩, ⟨?_, ?_, ?_, ?_⟩, ?_⟩
    · rw [q' 362 x (by omega)]; exact a1
    · rw [q' 363 x (by omega)]; exact a2
    · rw [q' 361 x (by omega), q' 362 x (by omega), q' 363 x (by omega)]
      exact a3.imp (fun y hy => by rw [q' 362 y (by omega), q' 363 y (by omega)]; exact hy)
    · rw [q' 365 x (by omega)]
      exact a4.imp (fun y hy => by rw [q' 362 y (by omega), q' 363 y (by omega)]; exact hy)
    · rw [q' 366 x (by omega)]
      exact a5.imp (fun y hy => by rw [q' 362 y (by omega), q' 363 y (by omega)]; exact hy)
    · rw [q' 360 x (by omega)]; exact b1
    · rw [q' 360 x (by omega), q' 367 x (by omega)]; exact b2
    · rw [q' 360 x (by omega), q' 364 x (by omega)]; exact fun z => (b3 z).imp (fun e he => hc he)
    · rw [q' 360 x (by omega), q' 364 x (by omega)]; exact fun z => by obtain ⟨e, e1, e2⟩ := b4 z; exact ⟨e, e1, hc e2⟩
    · rw [q' 360 x (by omega), q' 367 x (by omega)]; exact d
  · unfold fst_
    rw [q' 358 t (by omega)]
    exact h6.imp (fun x hx => by rw [q' 362 x (by omega)]; exact hx)
/-- what text() writes -/
def txw (r a k : Nat) : Prop := tew r a k ∨ (a = 353 ∧ (k = 0 ∨ k = 2 ∨ k = 11 ∨ k = 28))
section TXM
variable {M M' M0 : rf_M} {n c : Nat} {b : Nat → Int32}
theorem txw_11 {r : Nat} : ¬ tew r 353 11 := by unfold tew; omega
theorem txw_tx {r t a k : Nat} (h : txk t a k) (ht : t < r) : ¬ txw r a k := by
  unfold txk at h
  unfold txw tew
  omega
theorem s_text2 {K : Int → rf_M → Prop} {N6 : rf_M} (hc11 : c < 12) (htx : ∀ t, t < c → txo M t) (hfr : eqx (txw c) M N6) (h11 : gi N6 353 11 = (c : Int)) (hy : yq (p_T b n) c N6 N6 (0, false, 0, 0, 0, true) [] (fun _ => False) 0)
    (kg : (p_all (p_T b n)).2.2.2.2.2 = true → ∀ M', eqx (txw c) M M' → gi M' 353 11 = (c : Int) + 1 → gi M' 353 2 = 0 → (∀ t, t < c + 1 → txo M' t) → gi M' 355 c = ((p_all (p_T b n)).2.2.1 : Int) → gi M' 356 c = ((p_all (p_T b n)).2.2.2.1 : Int) → gi M' 357 c = ((p_all (p_T b n)).2.2.2.2.1 : Int) → K (c : Int) M')
    (kb : (p_all (p_T b n)).2.2.2.2.2 = false → ∀ M', eqx (txw c) M M' → gi M' 353 11 = (c : Int) → gi M' 353 2 = 0 → (∀ t, t < c → txo M' t) → K (-2) M') : w_readText_40 N6 (fun M10 => ∀ M11 : rf_M, M11 = wi M10 353 2 0 → (((gi M11 353 9) = 0 → (∀ M12 : rf_M, M12 = wi M11 353 11 ((gi M11 353 11) + 1) → (K ((gi M12 353 11) - 1) M12))) ∧ (¬ ((gi M11 353 9) = 0) → (K (-2) M11)))) := by
  obtain ⟨m, F, hev, hF1, hF2⟩ := y_main (p_T b n)
  have frame : ∀ MA : rf_M, eqx (tew c) N6 MA → ∀ MB : rf_M, eqx (fun a k => a = 353 ∧ (k = 2 ∨ k = 11)) MA MB → eqx (txw c) M MB ∧ ∀ t, t < c → txo MB t := by
    intro MA hA MB hB
    have hfr : eqx (txw c) M MB := (hfr.trans (hA.mono (fun a k z => Or.inl z))).trans (hB.mono (fun a k z => Or.inr ⟨z.1, by have := z.2; omega⟩))
    exact ⟨hfr, fun t ht => (htx t ht).eq (fun a k z => hfr a k (txw_tx z ht))⟩
  refine s_readText_40 (p_T_let b n) hy hev (fun hok MA e' hyA hk0 => ?_) (fun hok MA hb => ?_)
  · have hall := hF1.symm.trans hok
    have hcnt := hF2 hok
    have hA := hyA.1.2.2.2.1
    intro MB eB
    have gB : ∀ a k, ¬ (a = 353 ∧ k = 2) → gi MB a k = gi MA a k := fun a k z => by rw [eB, gi_of (by omega)]
    refine ⟨fun _ MC eC => ?_, fun z => absurd ((gB _ _ (by omega)).trans hyA.1.2.2.2.2) z⟩
    have tB : gi MB 353 11 = (c : Int) := (gB _ _ (by omega)).trans ((hA 353 11 txw_11).trans h11)
    rw [tB] at eC
    have tC : gi MC 353 11 = (c : Int) + 1 := by rw [eC, gi_at (inr_z (by omega) (by omega))]
    have gC : eqx (fun a k => a = 353 ∧ (k = 2 ∨ k = 11)) MA MC := by
      rw [eC, eB]
      exact ((eqx.rfl' MA).wi ⟨rfl, Or.inl rfl⟩).wi ⟨rfl, Or.inr rfl⟩
    have s2 : gi MC 353 2 = 0 := by rw [eC, gi_of (by omega), eB, gi_at (inr_z (by omega) (by omega))]
    obtain ⟨fr1, fr2⟩ := frame MA hA MC gC
    rw [tC, show (c : Int) + 1 - 1 = (c : Int) by omega]
    obtain ⟨A, B, ⟨c1, c2, c3, c4, c5, c6⟩, ⟨cc, d1, d2, d3⟩, f, g, -, h8⟩ := hyA
    refine kg hall MC fr1 tC s2 (fun t ht => ?_) ?_ ?_ ?_
    · by_cases htc : t = c
      · rw [htc]
        have hcc : cc ≤ 160 := by omega
        have : txo MA c := ⟨F.2.2.1, cc, c1, c2, d1, hcc, fun x x1 x2 => ⟨(f x x1 x2).1, d3 x x1 x2 id, fun w => ?_⟩, g⟩
        · exact this.eq (fun a k z => gC a k (by unfold txk at z; omega))
        · rcases (f x x1 x2).2 id w with w2 | ⟨j, j1, j2, -⟩
          · exact w2
          · have j2 : j ≤ 0 := j2
            omega
      · exact fr2 t (by omega)
    · rw [gC _ _ (by omega), c1, ← hcnt]
    · rw [gC _ _ (by omega), c3, ← hcnt]
    · rw [gC _ _ (by omega), c5, ← hcnt]
  · have hall := hF1.symm.trans hok
    intro MB eB
    have gB : ∀ a k, ¬ (a = 353 ∧ k = 2) → gi MB a k = gi MA a k := fun a k z => by rw [eB, gi_of (by omega)]
    refine ⟨fun z => ?_, fun _ => ?_⟩
    · rw [gB _ _ (by omega), hb.2.2.2] at z; exact absurd z (by decide)
    · obtain ⟨fr1, fr2⟩ := frame MA hb.2.2.1 MB (fun a k z => gB a k (fun w => z ⟨w.1, Or.inl w.2⟩))
      exact kb hall MB fr1 ((gB _ _ (by omega)).trans ((hb.2.2.1 353 11 txw_11).trans h11)) (by rw [eB, gi_at (inr_z (by omega) (by omega))]) fr2
theorem s_text {K : Int → rf_M → Prop} (hc : gi M 353 11 = (c : Int)) (hc12 : c ≤ 12) (htp : tp M n b) (htx : ∀ t, t < c → txo M t)
    (k12 : c = 12 → K (-1) (wi M 353 0 0))
    (kg : c < 12 → (p_all (p_T b n)).2.2.2.2.2 = true → ∀ M', eqx (txw c) M M' → gi M' 353 11 = (c : Int) + 1 → gi M' 353 2 = 0 → (∀ t, t < c + 1 → txo M' t) → gi M' 355 c = ((p_all (p_T b n)).2.2.1 : Int) → gi M' 356 c = ((p_all (p_T b n)).2.2.2.1 : Int) → gi M' 357 c = ((p_all (p_T b n)).2.2.2.2.1 : Int) → K (c : Int) M')
    (kb : c < 12 → (p_all (p_T b n)).2.2.2.2.2 = false → ∀ M', eqx (txw c) M M' → gi M' 353 11 = (c : Int) → gi M' 353 2 = 0 → (∀ t, t < c → txo M' t) → K (-2) M') : wm_text M K := by
  intro M1 e1
  have x1 : eqx (txw c) M M1 := by rw [e1]; exact (eqx.rfl' M).wi (Or.inr ⟨rfl, by omega⟩)
  have s1 : gi M1 353 2 = n := by rw [e1, gi_of (by omega)]; exact htp.1
  have t1 : gi M1 353 11 = (c : Int) := by rw [e1, gi_of (by omega)]; exact hc
  refine ⟨fun z => by rw [e1]; exact k12 (by omega), fun z M2 e2 M3 e3 => ?_⟩
  have hc11 : c < 12 := by omega
  replace kg := kg hc11
  replace kb := kb hc11
  clear k12 hc12 z
  have x2 : eqx (txw c) M M2 := by rw [e2]; exact x1.wi (Or.inl (Or.inl ⟨rfl, by omega⟩))
  have s2 : gi M2 353 2 = n := by rw [e2, gi_of (by omega)]; exact s1
  have t2 : gi M2 353 11 = (c : Int) := by rw [e2, gi_of (by omega)]; exact t1
  rw [t2] at e3
  have x3 : eqx (txw c) M M3 := by rw [e3]; exact x2.wi (Or.inr ⟨rfl, by omega⟩)
  have s3 : gi M3 353 2 = n := by rw [e3, gi_of (by omega)]; exact s2
  have t3 : gi M3 353 11 = (c : Int) := by rw [e3, gi_of (by omega)]; exact t2
  have r3 : gi M3 353 28 = (c : Int) := by rw [e3, gi_at (inr_z (by omega) (by omega))]
  have tn : ((c : Nat) : Int).toNat = c := by omega
  have hin : 0 ≤ (c : Int) ∧ (c : Int) < 12 := ⟨by omega, by omega⟩
  clear e1 e2 e3 x1 x2 s1 s2 t1 t2
  have ht : ∀ {a : Nat}, 355 ≤ a → a ≤ 359 → txw c a c := fun h1 h2 => Or.inl (Or.inr (Or.inl ⟨h1, h2, rfl⟩))
  rw [r3, tn]
  refine ⟨hin, fun M4 e4 => ?_⟩
  have x4 : eqx (txw c) M M4 := by rw [e4]; exact x3.wi (ht (by omega) (by omega))
  have s4 : gi M4 353 2 = n := by rw [e4, gi_of (by omega)]; exact s3
  have t4 : gi M4 353 11 = (c : Int) := by rw [e4, gi_of (by omega)]; exact t3
  have r4 : gi M4 353 28 = (c : Int) := by rw [e4, gi_of (by omega)]; exact r3
  have u4 : gi M4 355 c = 0 := by rw [e4, gi_at (inr_z (by omega) (by omega))]
  clear e4 x3 s3 t3 r3
  rw [r4, tn]
  refine ⟨hin, fun M5 e5 => ?_⟩
  have x5 : eqx (txw c) M M5 := by rw [e5]; exact x4.wi (ht (by omega) (by omega))
  have s5 : gi M5 353 2 = n := by rw [e5, gi_of (by omega)]; exact s4
  have t5 : gi M5 353 11 = (c : Int) := by rw [e5, gi_of (by omega)]; exact t4
  have r5 : gi M5 353 28 = (c : Int) := by rw [e5, gi_of (by omega)]; exact r4
  have u5 : gi M5 355 c = 0 := by rw [e5, gi_of (by omega)]; exact u4
  have v5 : gi M5 356 c = 0 := by rw [e5, gi_at (inr_z (by omega) (by omega))]
  clear e5 x4 s4 t4 r4 u4
  rw [r5, tn]
  refine ⟨hin, fun M6 e6 => ?_⟩
  have x6 : eqx (txw c) M M6 := by rw [e6]; exact x5.wi (ht (by omega) (by omega))
  have s6 : gi M6 353 2 = n := by rw [e6, gi_of (by omega)]; exact s5
  have t6 : gi M6 353 11 = (c : Int) := by rw [e6, gi_of (by omega)]; exact t5
  have r6 : gi M6 353 28 = (c : Int) := by rw [e6, gi_of (by omega)]; exact r5
  have u6 : gi M6 355 c = 0 := by rw [e6, gi_of (by omega)]; exact u5
  have v6 : gi M6 356 c = 0 := by rw [e6, gi_of (by omega)]; exact v5
  have w6 : gi M6 357 c = 0 := by rw [e6, gi_at (inr_z (by omega) (by omega))]
  clear e6 x5 s5 t5 r5 u5 v5
  rw [r6, tn]
  refine ⟨hin, fun M7 e7 M8 e8 M9 e9 => ?_⟩
  have x9 : eqx (txw c) M M9 := by
    rw [e9, e8, e7]
    exact ((x6.wi (ht (by omega) (by omega))).wi (Or.inl (Or.inl ⟨rfl, by omega⟩))).wi (Or.inl (Or.inl ⟨rfl, by omega⟩))
  have g9 : ∀ a k, ¬ (a = 353 ∧ (k = 3 ∨ k = 9)) → ¬ (a = 359 ∧ k = c) → gi M9 a k = gi M6 a k := fun a k z1 z2 => by rw [e9, gi_of (by omega), e8, gi_of (by omega), e7, gi_of (by omega)]
  have y9 : gi M9 359 c = 0 := by rw [e9, gi_of (by omega), e8, gi_of (by omega), e7, gi_at (inr_z (by omega) (by omega))]
  have a9 : gi M9 353 3 = 0 := by rw [e9, gi_of (by omega), e8, gi_at (inr_z (by omega) (by omega))]
  have b9 : gi M9 353 9 = 0 := by rw [e9, gi_at (inr_z (by omega) (by omega))]
  have s9 := (g9 353 2 (by omega) (by omega)).trans s6
  have t9 := (g9 353 11 (by omega) (by omega)).trans t6
  have r9 := (g9 353 28 (by omega) (by omega)).trans r6
  have u9 := (g9 355 c (by omega) (by omega)).trans u6
  have v9 := (g9 356 c (by omega) (by omega)).trans v6
  have w9 := (g9 357 c (by omega) (by omega)).trans w6
  clear g9 e7 e8 e9 x6 s6 t6 r6 u6 v6 w6
  -- readText
  intro N1 a1
  refine ⟨⟨by omega, by omega⟩, fun N2 a2 => ⟨⟨by omega, by omega⟩, fun N3 a3 => ⟨⟨by omega, by omega⟩, fun N4 a4 => ?_⟩⟩⟩
  have g4 : ∀ a k, ¬ (a = 353 ∧ k = 37) → ¬ ((a = 373 ∨ a = 374 ∨ a = 375) ∧ k = 0) → gi N4 a k = gi M9 a k := fun a k z1 z2 => by
    rw [a4, gi_of (by omega), a3, gi_of (by omega), a2, gi_of (by omega), a1, gi_of (by omega)]
  have rN : gi N4 353 28 = (c : Int) := (g4 _ _ (by omega) (by omega)).trans r9
  have x4 : eqx (txw c) M N4 := by
    rw [a4, a3, a2, a1]
    exact (((x9.wi (Or.inl (Or.inl ⟨rfl, by omega⟩))).wi (Or.inl (Or.inr (Or.inr (Or.inr (Or.inr ⟨by omega, by omega⟩)))))).wi (Or.inl (Or.inr (Or.inr (Or.inr (Or.inr ⟨by omega, by omega⟩)))))).wi (Or.inl (Or.inr (Or.inr (Or.inr (Or.inr ⟨by omega, by omega⟩)))))
  have n37 : gi N4 353 37 = 0 := by rw [a4, gi_of (by omega), a3, gi_of (by omega), a2, gi_of (by omega), a1, gi_at (inr_z (by omega) (by omega))]
  have n373 : gi N4 373 0 = -1 := by rw [a4, gi_of (by omega), a3, gi_of (by omega), a2, gi_at (inr_z (by omega) (by omega))]
  have n374 : gi N4 374 0 = 0 := by rw [a4, gi_of (by omega), a3, gi_at (inr_z (by omega) (by omega))]
  have n375 : gi N4 375 0 = -1 := by rw [a4, gi_at (inr_z (by omega) (by omega))]
  clear a1 a2 a3 a4
  rw [rN, tn]
  refine ⟨hin, fun N5 a5 => ?_⟩
  have x5 : eqx (txw c) M N5 := by rw [a5]; exact x4.wi (ht (by omega) (by omega))
  have g5 : ∀ a k, ¬ (a = 358 ∧ k = c) → gi N5 a k = gi N4 a k := fun a k z => by rw [a5, gi_of (by omega)]
  have n358 : gi N5 358 c = -1 := by rw [a5, gi_at (inr_z (by omega) (by omega))]
  have h54 : ∀ a k, ¬ (a = 353 ∧ k = 37) → ¬ ((a = 373 ∨ a = 374 ∨ a = 375) ∧ k = 0) → ¬ (a = 358 ∧ k = c) → gi N5 a k = gi M9 a k := fun a k z1 z2 z3 => (g5 a k z3).trans (g4 a k z1 z2)
  have htpN : tp N5 n b := ⟨(h54 _ _ (by omega) (by omega) (by omega)).trans s9, htp.2.1, fun k hk => by rw [x5 354 k (by unfold txw tew; omega)]; exact htp.2.2 k hk⟩
  have hnx : nxk N5 (p_T b n) 0 := ⟨n, b, 0, 800, htpN, (h54 _ _ (by omega) (by omega) (by omega)).trans a9, Nat.zero_le _, by have := htp.2.1; omega, by rw [List.drop_zero]; rfl, Nat.zero_le _⟩
  refine s_next hnx (fun N6 x6 hm6 => ?_)
  have q6 : ∀ a k, ¬ (a = 353 ∧ 3 ≤ k ∧ k ≤ 8) → gi N6 a k = gi N5 a k := fun a k z => x6 a k z
  have hall : ∀ a k, ¬ (a = 353 ∧ ((3 ≤ k ∧ k ≤ 8) ∨ k = 37)) → ¬ ((a = 373 ∨ a = 374 ∨ a = 375) ∧ k = 0) → ¬ (a = 358 ∧ k = c) → gi N6 a k = gi M9 a k := fun a k z1 z2 z3 => (q6 a k (by omega)).trans (h54 a k (by omega) z2 z3)
  refine s_text2 hc11 htx (x5.trans (x6.mono (fun a k z => Or.inl (Or.inl ⟨z.1, Or.inl ⟨z.2.1, by have := z.2.2; omega⟩⟩)))) ((hall _ _ (by omega) (by omega) (by omega)).trans t9) ?_ kg kb
  refine ⟨⟨hm6, (hall _ _ (by omega) (by omega) (by omega)).trans r9, hc11, eqx.rfl' N6, (hall _ _ (by omega) (by omega) (by omega)).trans b9⟩, ⟨rfl, rfl⟩, ⟨(hall _ _ (by omega) (by omega) (by omega)).trans u9, by decide, (hall _ _ (by omega) (by omega) (by omega)).trans v9, by decide, (hall _ _ (by omega) (by omega) (by omega)).trans w9, by decide⟩, ⟨0, (hall _ _ (by omega) (by omega) (by omega)).trans y9, by decide, fun x x1 x2 => ?_⟩, fun x x1 x2 => ?_, Or.inl ((q6 _ _ (by omega)).trans n358), ⟨((q6 _ _ (by omega)).trans (g5 _ _ (by omega))).trans n37, by decide, ((q6 _ _ (by omega)).trans (g5 _ _ (by omega))).trans n373, ((q6 _ _ (by omega)).trans (g5 _ _ (by omega))).trans n374, Or.inl (((q6 _ _ (by omega)).trans (g5 _ _ (by omega))).trans n375)⟩, Nat.le_refl _⟩
  · have x2 : x < 40 * c + 0 := x2
    omega
  · have x2 : x < 40 * c + 0 := x2
    omega
theorem s_end {x : Int32} {K : Int → rf_M → Prop} (hn : gi M 353 2 = (n : Int)) (h8 : n ≤ 800) (kg : (0 ≤ x.toInt ∧ x.toInt ≤ 20 ∧ 20 ≤ n) → ∀ M', eqx (fun a k => a = 353 ∧ (k = 0 ∨ k = 2)) M M' → gi M' 353 2 = ((n - 20 + x.toInt.toNat : Nat) : Int) → K ((n - 20 + x.toInt.toNat : Nat) : Int) M') (kb : ¬ (0 ≤ x.toInt ∧ x.toInt ≤ 20 ∧ 20 ≤ n) → K (-1) (wi M 353 0 0)) : wm_end x.toInt M K := by
  intro M1 e1
  have s1 : gi M1 353 2 = (n : Int) := by rw [e1, gi_of (by omega)]; exact hn
  refine ⟨inr_ti _, fun z => ?_, fun z => ⟨inr_ti _, fun z2 => ?_, fun z2 => ⟨fun z3 M2 e2 => ?_, fun z3 => ?_⟩⟩⟩
  · rw [e1]; exact kb (by omega)
  · rw [e1]; exact kb (by omega)
  · rw [s1] at z3 e2
    have s2 : gi M2 353 2 = ((n - 20 + x.toInt.toNat : Nat) : Int) := by rw [e2, gi_at (inr_z (by omega) (by omega))]; omega
    rw [s2]
    refine kg ⟨by omega, by omega, by omega⟩ M2 ?_ s2
    rw [e2, e1]
    exact ((eqx.rfl' M).wi ⟨rfl, Or.inl rfl⟩).wi ⟨rfl, Or.inr rfl⟩
  · rw [s1] at z3
    show K (-1) M1
    rw [e1]; exact kb (by omega)
end TXM
