/-! THE REFERENCE'S STATEMENTS: readStatement() -/
def sst (T : tK) (r : Nat) (M0 : rf_M) (X : txT) (en : Int) (S C : Nat) (M : rf_M) : Prop := ∃ σ l i s c u, sA T r M0 M i s c u ∧ sB M r σ l ∧ (okz σ l ∧ l < (s : Int) ∧ zow σ < (s : Int)) ∧ smem M r X en σ l s c s ∧ zr (κT T) (νT T) X en S C σ l i s c u
theorem okz_last : ∀ {σ : skT} {l l' : Int}, okz σ l → zow σ < l' → -1 ≤ l' → okz σ l'
  | [], _, _, _, _, h => h
  | _ :: _, _, _, h, h', _ => ⟨Or.inr h', h.2⟩
section WS3
variable {M M' M0 : rf_M} {T : tK} {r i s c u : Nat} {X : txT} {en l : Int} {σ : skT} {S C : Nat} {K : rf_M → Prop}
theorem y_rs0 (ht : gi M 353 4 = 2 ∨ gi M 353 4 = 10 ∨ gi M 353 4 = 12 ∨ gi M 353 4 = 13 ∨ gi M 353 4 = 14 ∨ gi M 353 4 = 15 ∨ gi M 353 4 = 17 ∨ gi M 353 4 = 19) (h : e_W_readStatement_57 (gi M 353 4 - 10) 1 M K) : em_W_readStatement M K := by
  have hi : inr (gi M 353 4 - 10) := inr_z (by omega) (by omega)
  exact ⟨fun _ => ⟨hi, h⟩, fun q1 => ⟨hi, ⟨fun _ => h, fun q2 => ⟨fun _ => h, fun q3 => ⟨fun _ => h, fun q4 => ⟨fun _ => h, fun q5 => ⟨fun _ => h, fun q6 => ⟨fun _ => h, fun q7 => ⟨fun _ => h, fun q8 => absurd ht (by omega)⟩⟩⟩⟩⟩⟩⟩⟩⟩
theorem f231 {z : Int} (hb : ¬ gi M 353 9 = 0) (k : K M) : e_W_readStatement_231 z M K := by
  have f256 : e_W_readStatement_256 z M K := ⟨fun w => absurd w hb, fun _ => k⟩
  have f250 : e_W_readStatement_250 z M K := y_take_f hb f256
  exact fun _ => ⟨fun _ => f250, fun _ _ => ⟨fun _ => f250, fun _ => f256⟩⟩
theorem q231 {z v : Int} {a : Nat} (ea : z.toNat = a) (h : gi M 360 a = v) (h1 : v = 0 ∨ v = 2 → e_W_readStatement_250 z M K) (h2 : v ≠ 0 → v ≠ 2 → e_W_readStatement_256 z M K) : e_W_readStatement_231 z M K := by
  unfold e_W_readStatement_231
  rw [ea, h]
  exact fun _ => ⟨fun w => h1 (Or.inl w), fun w0 _ => ⟨fun w => h1 (Or.inr w), fun w => h2 w0 w⟩⟩
theorem q167 {z v : Int} {a : Nat} (ea : z.toNat = a) (h9 : gi M 353 9 = 0) (h : gi M 360 a = v) (h1 : v = 3 ∨ v = 5 ∨ v = 7 → e_W_readStatement_231 z M K) (h2 : v = 9 → e_W_readStatement_227 z z 1 M K) (h3 : v ≠ 3 → v ≠ 5 → v ≠ 7 → v ≠ 9 → e_W_readStatement_227 z z 0 M K) : e_W_readStatement_167 z M K := by
  unfold e_W_readStatement_167
  rw [ea, h]
  exact ⟨fun _ _ => ⟨fun w => h1 (Or.inl w), fun w3 _ => ⟨fun w => h1 (Or.inr (Or.inl w)), fun w5 _ => ⟨fun w => h1 (Or.inr (Or.inr w)), fun w7 _ => ⟨fun w => h2 w, fun w => h3 w3 w5 w7 w⟩⟩⟩⟩, fun w => absurd h9 w⟩
theorem q256 {z v : Int} {a : Nat} (ea : z.toNat = a) (h9 : gi M 353 9 = 0) (h : gi M 360 a = v) (h1 : v = 0 ∨ v = 2 ∨ v = 5 ∨ v = 7 → e_W_readStatement_304 z M K) (h2 : v ≠ 0 → v ≠ 2 → v ≠ 5 → v ≠ 7 → em_W_take 59 M K) : e_W_readStatement_256 z M K := by
  unfold e_W_readStatement_256
  rw [ea, h]
  exact ⟨fun _ _ => ⟨fun w => h1 (Or.inl w), fun w0 _ => ⟨fun w => h1 (Or.inr (Or.inl w)), fun w2 _ => ⟨fun w => h1 (Or.inr (Or.inr (Or.inl w))), fun w5 _ => ⟨fun w => h1 (Or.inr (Or.inr (Or.inr w))), fun w7 => h2 w0 w2 w5 w7⟩⟩⟩⟩, fun w => absurd h9 w⟩
theorem y_head {σ' : skT} {l' : Int} (hA : sA T r M0 M i s c u) (hB : sB M r σ l) (ho : okz σ l) (hl : l < (s : Int)) (hw : zow σ < (s : Int)) (hs : s < 40) (hlk : lkq X en σ l (s : Int)) (hm : smem M r X en σ l s c s) (hk : knd (κT T i)) (x0 : X.1 0 s = κT T i) (x3 : X.1 3 s = zow σ) (x4 : X.1 4 s = zpt σ) (x1 : κT T i = 1 → X.1 1 s = νT T i) (hsel : (σ' = σ ∧ l' = (s : Int) ∧ X.1 7 s = -1 ∧ X.1 8 s = -1 ∧ κT T i ≠ 17) ∨ (σ' = (s, 0) :: σ ∧ l' = -1))
    (kk : ∀ M', sA T r M0 M' (i + 1) (s + 1) c u → sB M' r σ (s : Int) → smem M' r X en σ' l' (s + 1) c s → (κT T i = 1 → em_W_take 61 M' (fun M3 => e_W_readStatement_167 (40 * (r : Int) + (s : Int)) M3 K)) ∧ (κT T i = 10 ∨ κT T i = 12 → e_W_readStatement_161 (40 * (r : Int) + (s : Int)) M' K) ∧ (¬ κT T i = 1 → ¬ κT T i = 10 → ¬ κT T i = 12 → e_W_readStatement_167 (40 * (r : Int) + (s : Int)) M' K)) : em_W_readStatement M K := by
  obtain ⟨⟨a1, ⟨a2, a2'⟩, a3, a4⟩, b1, b2, b3, b4⟩ := id hA
  obtain ⟨t0, t2, tw, tl⟩ := tok4 a1.1
  have en' : (40 * (r : Int) + (s : Int)).toNat = 40 * r + s := by omega
  have w1 : ¬ κT T i = 1 → gi M 353 4 = κT T i := fun w => (tw _ (by unfold knd at hk; omega) (by unfold knd at hk; omega)).mpr rfl
  have ht : gi M 353 4 = 2 ∨ gi M 353 4 = 10 ∨ gi M 353 4 = 12 ∨ gi M 353 4 = 13 ∨ gi M 353 4 = 14 ∨ gi M 353 4 = 15 ∨ gi M 353 4 = 17 ∨ gi M 353 4 = 19 := by
    by_cases w : κT T i = 1
    · exact Or.inl (t2.mpr w)
    · rw [w1 w]
      unfold knd at hk
      omega
  have e0 : (gi M 353 28).toNat = r := by rw [a2]; omega
  have kfi : inr (kf (κT T i)) := by
    unfold knd at hk
    unfold kf
    split
    · exact inr_z (by omega) (by omega)
    · exact inr_z (by omega) (by omega)
  refine y_rs0 ht ⟨fun w => absurd w (by decide), fun _ _ => ?_⟩
  rw [e0, b1]
  refine ⟨fun w => absurd w (by omega), fun _ => y_new a2 a2' b1 hs hB ho hl hw hlk hm (fun M1 y1 f1 hB1 ff hm1 => ?_)⟩
  obtain ⟨g1, g2, g3, g4, g5, g6⟩ := ff
  have q4 : gi M1 353 4 = gi M 353 4 := y1.i (by unfold nwW; omega)
  have q6 : gi M1 353 6 = gi M 353 6 := y1.i (by unfold nwW; omega)
  have h127 : ∀ M2 zl, M2 = wi M1 360 (40 * r + s) (kf (κT T i)) → (κT T i = 1 → zl = νT T i) → inr zl → e_W_readStatement_127 (gi M 353 4 - 10) (40 * (r : Int) + (s : Int)) (40 * (r : Int) + (s : Int)) zl M2 K := by
    intro M2 zl e2 hzl iz _ M3 e3
    rw [en'] at e3
    have y3 : eqy (fun a k => (a = 360 ∨ a = 367) ∧ k = 40 * r + s) M1 M3 := by rw [e3, e2]; exact ((eqy.rfl' _).wi ⟨Or.inl rfl, rfl⟩).wi ⟨Or.inr rfl, rfl⟩
    have hA3 : sA T r M0 M3 i (s + 1) c u := by
      refine ⟨⟨(a1.eq y1 (fun a k z => by unfold nwW; omega)).eq y3 (fun a k z => by omega), ⟨?_, a2'⟩, (a3.trans (y1.mono (fun a k z => by unfold nwW at z; unfold teW; omega))).trans (y3.mono (fun a k z => by unfold teW; omega)), ?_⟩, ?_, ?_, ?_, b4⟩
      · rw [y3.i (by omega), y1.i (by unfold nwW; omega)]; exact a2
      · rw [y3.i (by omega), y1.i (by unfold nwW; omega)]; exact a4
      · rw [y3.i (by omega), f1]; omega
      · rw [y3.i (by omega), y1.i (by unfold nwW; omega)]; exact b2
      · rw [y3.i (by omega), y1.i (by unfold nwW; omega)]; exact b3
    have hm3 := hm1.eq y3 (fun b k z => by omega)
    have f60 : gi M3 360 (40 * r + s) = kf (κT T i) := by rw [e3, gi_of (Or.inl (by omega)), e2, gi_at kfi]
    have f67 : gi M3 367 (40 * r + s) = zl := by rw [e3, gi_at iz]
    have hs3 : smem M3 r X en σ' l' (s + 1) c s := by
      rcases hsel with ⟨e1, e2', x7, x8, n17⟩ | ⟨e1, e2'⟩
      · rw [e1, e2']
        refine ⟨⟨fun w => absurd w.2 (by omega), fun _ => hm3.1.2 (fun w => absurd w.2 (by omega))⟩, fun x hx => ?_, hm3.2.2⟩
        by_cases e : x = s
        · subst e
          refine ⟨⟨by rw [x0]; exact f60, ?_, ?_, by rw [x0]; exact hk⟩, ⟨fun w => absurd rfl w.2, fun _ => (y3.i (by omega)).trans g4⟩, ⟨fun _ => (y3.i (by omega)).trans g1, fun w => absurd (Or.inr rfl) w⟩, ⟨fun _ => (y3.i (by omega)).trans g5, fun _ => ?_⟩, ⟨fun _ => (y3.i (by omega)).trans g6, fun _ => ?_⟩, fun w => ?_⟩
          · rw [y3.i (by omega), g2, x3]
          · rw [y3.i (by omega), g3, x4]
          · rw [y3.i (by omega), g5, x7]; exact (lf_neg (by omega)).symm
          · rw [y3.i (by omega), g6, x8]; exact (lf_neg (by omega)).symm
          · rcases w with w | ⟨w, -⟩
            · rw [f67, x1 (x0.symm.trans w)]; exact hzl (x0.symm.trans w)
            · exact absurd (x0.symm.trans w) n17
        · exact hm3.2.1 x (by omega)
      · rw [e1, e2']
        refine ⟨⟨fun w => (by cases w.1), fun _ => hm3.1.2 (fun w => absurd w.2 (by omega))⟩, fun x hx => ?_, hm3.2.2⟩
        by_cases e : x = s
        · subst e
          refine ⟨⟨by rw [x0]; exact f60, ?_, ?_, by rw [x0]; exact hk⟩, ⟨fun w => absurd rfl w.2, fun _ => (y3.i (by omega)).trans g4⟩, ⟨fun _ => (y3.i (by omega)).trans g1, fun w => absurd (Or.inl (Or.inl rfl)) w⟩, ⟨fun _ => (y3.i (by omega)).trans g5, fun w => absurd ⟨⟨rfl, rfl⟩, rfl⟩ w⟩, ⟨fun _ => (y3.i (by omega)).trans g6, fun w => absurd (Or.inl (Or.inl ⟨rfl, rfl⟩)) w⟩, fun w => ?_⟩
          · rw [y3.i (by omega), g2, x3]
          · rw [y3.i (by omega), g3, x4]
          · rcases w with w | ⟨-, w⟩
            · rw [f67, x1 (x0.symm.trans w)]; exact hzl (x0.symm.trans w)
            · exact absurd (Or.inl ⟨rfl, rfl⟩) w
        · refine (hm3.2.1 x (by omega)).cg ?_ ?_ ?_ ?_ Iff.rfl
          · exact ⟨fun w => Or.inl ((w.resolve_right (by omega)).resolve_left e), fun w => Or.inl (Or.inr (w.resolve_right (by omega)))⟩
          · exact ⟨fun w => absurd w.1.1 (by show ¬ ((x : Int) = (s : Int)); omega), fun w => absurd w.2 (by omega)⟩
          · exact ⟨fun w => Or.inl ((w.resolve_right (fun w => absurd w.1.2 (by show ¬ ((0 : Int) = 1); decide))).resolve_left (fun w => e w.1)), fun w => Or.inl (Or.inr (w.resolve_right (fun w => absurd w.2 (by omega))))⟩
          · exact ⟨fun w => w.resolve_left (fun w => e w.1), fun w => Or.inr w⟩
    refine y_next hA3.1.1 (kd_lt (by show ¬ κT T i = 0; unfold knd at hk; omega)) (fun M4 y4 m4 _ => ?_)
    obtain ⟨k1, k2, k3⟩ := kk M4 (hA3.nx y4 m4) ((hB1.eq y3 (fun b k z => by omega)).nx y4) (hs3.nx y4)
    have f60' : gi M4 360 (40 * r + s) = kf (κT T i) := (y4.i (by unfold nxw; omega)).trans f60
    have ki := kf_iff hk
    rw [en', f60']
    refine ⟨fun q => k1 (ki.2.2.2.2.2.2.2.mp q), fun q => ?_⟩
    have n1 : ¬ κT T i = 1 := fun w => q (ki.2.2.2.2.2.2.2.mpr w)
    rw [w1 n1]
    exact ⟨fun q0 => k2 (Or.inl (by omega)), fun q0 => ⟨fun q2 => k2 (Or.inr (by omega)), fun q2 => k3 n1 (by omega) (by omega)⟩⟩
  have h105 : ∀ zz, zz = kf (κT T i) → e_W_readStatement_105 (gi M 353 4 - 10) (40 * (r : Int) + (s : Int)) (40 * (r : Int) + (s : Int)) zz M1 K := by
    intro zz ez _ M2 e2
    rw [ez, en'] at e2
    have k4 : gi M2 353 4 = gi M 353 4 := by rw [e2, gi_of (Or.inl (by omega))]; exact q4
    have k6 : gi M2 353 6 = gi M 353 6 := by rw [e2, gi_of (Or.inl (by omega))]; exact q6
    exact ⟨fun q => h127 M2 _ e2 (fun w => k6.trans (tl w).1) (inr_gi _ _ _), fun q => h127 M2 (-1) e2 (fun w => absurd (k4.trans (t2.mpr w)) q) (inr_z (by omega) (by omega))⟩
  by_cases w : κT T i = 1
  · exact ⟨fun _ => h105 20 (by rw [w]; rfl), fun q => absurd (q4.trans (t2.mpr w)) q⟩
  · refine ⟨fun q => absurd (t2.mp (q4.symm.trans q)) w, fun _ => h105 _ ?_⟩
    rw [w1 w]
    unfold kf
    rw [if_neg w]
theorem y_readStatement (hS : S ≤ 40) (hA : sA T r M0 M i s c u) (hB : sB M r σ l) (ho : okz σ l) (hl : l < (s : Int)) (hw : zow σ < (s : Int)) (hm : smem M r X en σ l s c s) (hz : zr (κT T) (νT T) X en S C σ l i s c u) (hk1 : ¬ (κT T i = 0 ∧ σ = [])) (hk2 : ¬ (κT T i = 125 ∧ σ ≠ [])) (kb : ∀ M', sfl r M0 M' → K M') (kk : ∀ M', sst T r M0 X en S C M' → K M') : em_W_readStatement M K := by
  obtain ⟨j1, s1, c1, u1, hd, hlk, hz'⟩ := zr_step hz hk1 hk2
  have hkd := dT_kd hd
  have hb := zr_le _ _ _ _ _ _ hz'
  have hc := (dT.congr (X' := X) (dB.congr _) hd).1
  obtain ⟨⟨x0, x2, x3, x4, x5⟩, hd⟩ := hd
  have hs : s < 40 := by omega
  have ea : (40 * (r : Int) + (s : Int)).toNat = 40 * r + s := by omega
  have F : ∀ {N : rf_M} {σ' : skT} {l' : Int} {c' pe : Nat}, smem N r X en σ' l' (s + 1) c' pe → gi N 360 (40 * r + s) = kf (κT T i) := fun h => by rw [← x0]; exact (h.2.1 s (by omega)).1.1
  have os : okz σ (s : Int) := okz_last ho hw (by omega)
  have kb' : ∀ M', sfl r M0 M' → e_W_readStatement_231 (40 * (r : Int) + (s : Int)) M' K := fun M' h => f231 h.2 (kb M' h)
  have simp1 : ∀ N c' u' j, sA T r M0 N j (s + 1) c' u' → sB N r σ (s : Int) → smem N r X en σ (s : Int) (s + 1) c' (s + 1) → κT T j = 59 → (kf (κT T i) ≠ 0 ∧ kf (κT T i) ≠ 2 ∧ kf (κT T i) ≠ 5 ∧ kf (κT T i) ≠ 7) → zr (κT T) (νT T) X en S C σ (s : Int) (j + 1) (s + 1) c' u' → e_W_readStatement_256 (40 * (r : Int) + (s : Int)) N K := by
    intro N c' u' j hA' hB' hm' hj hv hz2
    refine q256 ea hA'.1.2.2.2 (F hm') (fun w => absurd hv (by omega)) (fun _ _ _ _ => ?_)
    exact y_take hA'.1.2.2.2 hA'.1.1 (by omega) hj (fun N' y m => kk N' ⟨σ, (s : Int), j + 1, s + 1, c', u', hA'.nx y m, hB'.nx y, ⟨os, by omega, by omega⟩, hm'.nx y, hz2⟩)
  have comp : ∀ N c' u' j, sA T r M0 N j (s + 1) c' u' → sB N r σ (s : Int) → smem N r X en ((s, 0) :: σ) (-1) (s + 1) c' (s + 1) → (kf (κT T i) = 0 ∨ kf (κT T i) = 2 ∨ kf (κT T i) = 5 ∨ kf (κT T i) = 7) → (κT T j = 123 ∧ σ.length < 8 ∧ zr (κT T) (νT T) X en S C ((s, 0) :: σ) (-1) (j + 1) (s + 1) c' u') → e_W_readStatement_256 (40 * (r : Int) + (s : Int)) N K := by
    intro N c' u' j hA' hB' hm' hv hz2
    refine q256 ea hA'.1.2.2.2 (F hm') (fun _ => ?_) (fun w0 w2 w5 w7 => absurd hv (by omega))
    exact y_opn hA' hB' hm' hz2.1 hz2.2.1 (Or.inl rfl) hs (fun N' a b d => kk N' ⟨(s, 0) :: σ, -1, j + 1, s + 1, c', u', a, b, ⟨⟨Or.inl rfl, Or.inl rfl, os⟩, by omega, by show (s : Int) < ((s + 1 : Nat) : Int); omega⟩, d, hz2.2.2⟩)
  rcases hd with ⟨k, k1, ⟨z1, z7, z8⟩, rfl, j2, d, e1, rfl⟩ | ⟨k, ⟨z7, z8⟩, rfl, j2, d, e1, rfl⟩ | ⟨k, ⟨z7, z8⟩, rfl, j2, d, e1, rfl⟩ | ⟨k, ⟨z7, z8⟩, e1, rfl, rfl, rfl, rfl⟩ | ⟨k, k1, z8, j2, c2, u2, u3, d, e1, e2, rfl⟩ | ⟨k, k1, j2, c2, u2, j3, s3, c3, u3, d, e1, e2, e3⟩ | ⟨k, j2, s2, c2, u2, u3, e1, e2, e3, rfl⟩ | ⟨k, j2, s2, c2, u2, u3, e1, e2, ⟨l1, l2, l3⟩, e3, rfl⟩
  · have kv : kf (κT T i) = 20 := by rw [k]; rfl
    refine y_head (σ' := σ) (l' := (s : Int)) hA hB ho hl hw hs hlk hm hkd x0 x3 x4 (fun _ => z1) (Or.inl ⟨rfl, rfl, z7, z8, by omega⟩) (fun M1 hA1 hB1 hm1 => ⟨fun _ => ?_, fun w => absurd w (by omega), fun w => absurd k w⟩)
    refine y_take hA1.1.2.2.2 hA1.1.1 (by omega) k1 (fun M2 y2 m2 => ?_)
    have hA2 := hA1.nx y2 m2
    refine q167 ea hA2.1.2.2.2 (F (hm1.nx y2)) (fun w => absurd w (by omega)) (fun w => absurd w (by omega)) (fun _ _ _ _ => ?_)
    exact y_exps (K := fun N => e_W_readStatement_231 (40 * (r : Int) + (s : Int)) N K) (ir := false) (by simp) hA2 (hB1.nx y2) (hm1.nx y2) hs (by rw [x0, k]; unfold kxp; omega) x2 d (by omega) (Or.inl e1) kb' (fun M3 hA3 hB3 hm3 => q231 ea (F hm3) (fun w => absurd w (by omega)) (fun _ _ => simp1 M3 _ _ _ hA3 hB3 hm3 e1 (by omega) hz'))
  · have kv : kf (κT T i) = 4 := by rw [k]; rfl
    refine y_head (σ' := σ) (l' := (s : Int)) hA hB ho hl hw hs hlk hm hkd x0 x3 x4 (fun w => absurd w (by omega)) (Or.inl ⟨rfl, rfl, z7, z8, by omega⟩) (fun M1 hA1 hB1 hm1 => ⟨fun w => absurd w (by omega), fun w => absurd w (by omega), fun _ _ _ => ?_⟩)
    refine q167 ea hA1.1.2.2.2 (F hm1) (fun w => absurd w (by omega)) (fun w => absurd w (by omega)) (fun _ _ _ _ => ?_)
    exact y_exps (K := fun N => e_W_readStatement_231 (40 * (r : Int) + (s : Int)) N K) (ir := false) (by simp) hA1 hB1 hm1 hs (by rw [x0, k]; unfold kxp; omega) x2 d (by omega) (Or.inl e1) kb' (fun M3 hA3 hB3 hm3 => q231 ea (F hm3) (fun w => absurd w (by omega)) (fun _ _ => simp1 M3 _ _ _ hA3 hB3 hm3 e1 (by omega) hz'))
  · have kv : kf (κT T i) = 9 := by rw [k]; rfl
    refine y_head (σ' := σ) (l' := (s : Int)) hA hB ho hl hw hs hlk hm hkd x0 x3 x4 (fun w => absurd w (by omega)) (Or.inl ⟨rfl, rfl, z7, z8, by omega⟩) (fun M1 hA1 hB1 hm1 => ⟨fun w => absurd w (by omega), fun w => absurd w (by omega), fun _ _ _ => ?_⟩)
    refine q167 ea hA1.1.2.2.2 (F hm1) (fun w => absurd w (by omega)) (fun _ => ?_) (fun _ _ _ w => absurd kv w)
    exact y_exps (K := fun N => e_W_readStatement_231 (40 * (r : Int) + (s : Int)) N K) (ir := true) (by simp) hA1 hB1 hm1 hs (by rw [x0, k]; unfold kxp; omega) x2 d (by omega) (Or.inl e1) kb' (fun M3 hA3 hB3 hm3 => q231 ea (F hm3) (fun w => absurd w (by omega)) (fun _ _ => simp1 M3 _ _ _ hA3 hB3 hm3 e1 (by omega) hz'))
  · have kv : kf (κT T i) = 3 := by rw [k]; rfl
    refine y_head (σ' := σ) (l' := (s : Int)) hA hB ho hl hw hs hlk hm hkd x0 x3 x4 (fun w => absurd w (by omega)) (Or.inl ⟨rfl, rfl, z7, z8, by omega⟩) (fun M1 hA1 hB1 hm1 => ⟨fun w => absurd w (by omega), fun w => absurd w (by omega), fun _ _ _ => ?_⟩)
    have hm1' := hm1.pne (by rw [x0, k]; unfold kxp; omega)
    refine q167 ea hA1.1.2.2.2 (F hm1) (fun _ => ?_) (fun w => absurd w (by omega)) (fun w _ _ _ => absurd kv w)
    exact q231 ea (F hm1) (fun w => absurd w (by omega)) (fun _ _ => simp1 M1 _ _ _ hA1 hB1 hm1' e1 (by omega) hz')
  · have kv : kf (κT T i) = 2 := by rw [k]; rfl
    refine y_head (σ' := (s, 0) :: σ) (l' := -1) hA hB ho hl hw hs hlk hm hkd x0 x3 x4 (fun w => absurd w (by omega)) (Or.inr ⟨rfl, rfl⟩) (fun M1 hA1 hB1 hm1 => ⟨fun w => absurd w (by omega), fun _ => ?_, fun _ _ w => absurd k w⟩)
    refine y_take hA1.1.2.2.2 hA1.1.1 (by omega) k1 (fun M2 y2 m2 => ?_)
    have hA2 := hA1.nx y2 m2
    refine q167 ea hA2.1.2.2.2 (F (hm1.nx y2)) (fun w => absurd w (by omega)) (fun w => absurd w (by omega)) (fun _ _ _ _ => ?_)
    refine y_exps (K := fun N => e_W_readStatement_231 (40 * (r : Int) + (s : Int)) N K) (ir := false) (by simp) hA2 (hB1.nx y2) (hm1.nx y2) hs (by rw [x0, k]; unfold kxp; omega) x2 d (by omega) (Or.inr e1) kb' (fun M3 hA3 hB3 hm3 => q231 ea (F hm3) (fun _ => ?_) (fun _ w => absurd kv w))
    refine y_take hA3.1.2.2.2 hA3.1.1 (by omega) e1 (fun M4 y4 m4 => ?_)
    refine comp M4 _ _ _ (hA3.nx y4 m4) (hB3.nx y4) (hm3.nx y4) (by omega) (zr_open e2 (Or.inl ⟨rfl, rfl⟩) (Or.inr ⟨rfl, Or.inl ⟨x0.trans k, z8, ?_⟩⟩))
    rw [Nat.add_assoc]
    exact hz'
  · have kv : kf (κT T i) = 0 := by rw [k]; rfl
    have hu2 : u2 + u3 ≤ u1 := by
      rcases e3 with ⟨-, -, -, -, -, e⟩ | ⟨-, u4, -, e⟩ <;> omega
    refine y_head (σ' := (s, 0) :: σ) (l' := -1) hA hB ho hl hw hs hlk hm hkd x0 x3 x4 (fun w => absurd w (by omega)) (Or.inr ⟨rfl, rfl⟩) (fun M1 hA1 hB1 hm1 => ⟨fun w => absurd w (by omega), fun _ => ?_, fun _ w _ => absurd k w⟩)
    refine y_take hA1.1.2.2.2 hA1.1.1 (by omega) k1 (fun M2 y2 m2 => ?_)
    have hA2 := hA1.nx y2 m2
    refine q167 ea hA2.1.2.2.2 (F (hm1.nx y2)) (fun w => absurd w (by omega)) (fun w => absurd w (by omega)) (fun _ _ _ _ => ?_)
    refine y_exps (K := fun N => e_W_readStatement_231 (40 * (r : Int) + (s : Int)) N K) (ir := false) (by simp) hA2 (hB1.nx y2) (hm1.nx y2) hs (by rw [x0, k]; unfold kxp; omega) x2 d (by omega) (Or.inr e1) kb' (fun M3 hA3 hB3 hm3 => q231 ea (F hm3) (fun _ => ?_) (fun w _ => absurd kv w))
    refine y_take hA3.1.2.2.2 hA3.1.1 (by omega) e1 (fun M4 y4 m4 => ?_)
    refine comp M4 _ _ _ (hA3.nx y4 m4) (hB3.nx y4) (hm3.nx y4) (by omega) (zr_open e2 (Or.inl ⟨rfl, rfl⟩) (Or.inr ⟨rfl, Or.inr ?_⟩))
    rcases e3 with ⟨n11, z8, rfl, rfl, rfl, rfl⟩ | ⟨y11, u4, e4, rfl⟩
    · refine Or.inl ⟨x0.trans k, n11, z8, ?_⟩
      rw [Nat.add_assoc]
      exact hz'
    · refine Or.inr (Or.inl ⟨x0.trans k, y11, _, _, _, _, e4, ?_⟩)
      rw [Nat.add_assoc, Nat.add_assoc, ← Nat.add_assoc u2]
      exact hz'
  · have kv : kf (κT T i) = 5 := by rw [k]; rfl
    refine y_head (σ' := (s, 0) :: σ) (l' := -1) hA hB ho hl hw hs hlk hm hkd x0 x3 x4 (fun w => absurd w (by omega)) (Or.inr ⟨rfl, rfl⟩) (fun M1 hA1 hB1 hm1 => ⟨fun w => absurd w (by omega), fun w => absurd w (by omega), fun _ _ _ => ?_⟩)
    have hm1' := hm1.pne (by rw [x0, k]; unfold kxp; omega)
    refine q167 ea hA1.1.2.2.2 (F hm1) (fun _ => ?_) (fun w => absurd w (by omega)) (fun _ w _ _ => absurd kv w)
    refine q231 ea (F hm1) (fun w => absurd w (by omega)) (fun _ _ => comp M1 _ _ _ hA1 hB1 hm1' (by omega) (zr_open e1 (Or.inl ⟨rfl, rfl⟩) (Or.inr ⟨rfl, Or.inr (Or.inr (Or.inr (Or.inl ⟨x0.trans k, e2, _, _, _, _, e3, ?_⟩)))⟩)))
    rw [Nat.add_assoc]
    exact hz'
  · have kv : kf (κT T i) = 7 := by rw [k]; rfl
    refine y_head (σ' := (s, 0) :: σ) (l' := -1) hA hB ho hl hw hs hlk hm hkd x0 x3 x4 (fun w => absurd w (by omega)) (Or.inr ⟨rfl, rfl⟩) (fun M1 hA1 hB1 hm1 => ⟨fun w => absurd w (by omega), fun w => absurd w (by omega), fun _ _ _ => ?_⟩)
    have hm1' := hm1.pne (by rw [x0, k]; unfold kxp; omega)
    refine q167 ea hA1.1.2.2.2 (F hm1) (fun _ => ?_) (fun w => absurd w (by omega)) (fun _ _ w _ => absurd kv w)
    refine q231 ea (F hm1) (fun w => absurd w (by omega)) (fun _ _ => comp M1 _ _ _ hA1 hB1 hm1' (by omega) (zr_open e1 (Or.inl ⟨rfl, rfl⟩) (Or.inr ⟨rfl, Or.inr (Or.inr (Or.inr (Or.inr ⟨x0.trans k, e2, ⟨l1, l2, l3⟩, _, _, _, _, e3, ?_⟩)))⟩)))
    rw [Nat.add_assoc]
    exact hz'
end WS3
