section SX8
variable {U : sxU} {W : sxW} {E : sxE} {M M' M0 : rf_M} {sst : List sxV} {st : List Value} {md : List (Nat × Nat)}
theorem sx_fa_a {a k len g : Nat} {ty : FieldType} {e f : sxF} (h : U.1.2.1[g]? = some ((.inr (ty, len, e)))) (hf : sx_fa U.1.2.1 g k = some f) : f = e ∧ k < len := by
  unfold sx_fa at hf
  rw [h] at hf
  dsimp only at hf
  split at hf
  · cases hf; exact ⟨rfl, by assumption⟩
  · cases hf
theorem sx_fa_i {k len g : Nat} {ty : FieldType} {e : sxF} (h : U.1.2.1[g]? = some ((.inr (ty, len, e)))) (hk : k < len) : sx_fa U.1.2.1 g k = some e := by
  unfold sx_fa
  rw [h]
  exact if_pos hk
/-- an element is read -/
theorem sx_alo {p : FieldType → Bool} {J : Instr} {aux : List (Int × Nat)} {q : List sxV × sxE} (hJ : ∀ (ty : FieldType) (a n : Nat) (j : Int32) (r : List Value), p ty = true → ga U.1.1 U.1.2.2.2.1 a ty n → ¬ (j < 0 ∨ n ≤ j.toNatClampNeg) → rf_hp U.1.1 J aux (.int j :: .ref a :: r) (M, U.1.2.2.2.1) = some (rf_rd M ty a j.toNatClampNeg :: r, (M, U.1.2.2.2.1))) (hE : sx_e U W E M) (hin : sx_in U M) (hs : sx_vs W sst st) (h : sx_al U p sst E = some q) : ∃ st' W', rf_hp U.1.1 J aux st (M, U.1.2.2.2.1) = some (st', (M, U.1.2.2.2.1)) ∧ sx_le W W' ∧ sx_e U W' q.2 M ∧ sx_vs W' q.1 st' := by
  unfold sx_al at h
  split at h
  · obtain ⟨vj, r1, rfl, hj, hs1⟩ := sx_cons hs
    obtain ⟨v, r, rfl, h1, hs2⟩ := sx_cons hs1
    split at h
    · rename_i g ty len e haa
      obtain ⟨a, rfl, a2, a3, a4⟩ := sx_aao hE haa h1
      dsimp only at a2 a3 a4
      split at h
      · rename_i hc
        cases h
        obtain ⟨z, rfl, z1, z2⟩ := sx_ixo hE hc.2.2 hj
        obtain ⟨W', w1, w2, w3, -⟩ := sx_newo hE (hin.1 a z.toNatClampNeg e a3.1 a3.2.2.1 (sx_fa_i a4 z2)) hc.2.1
        exact ⟨_, W', hJ ty a len z r hc.1 a3 z1, w1, w2, w3, hs2.mono w1⟩
      · cases h
    · cases h
  · cases h
theorem sx_jI {aux : List (Int × Nat)} {J : Instr} {ty0 : FieldType} (hJ : ∀ (a : Nat) (j : Int32) (r : List Value), rf_hp U.1.1 J aux (.int j :: .ref a :: r) (M, U.1.2.2.2.1) = match rf_el (M, U.1.2.2.2.1) ty0 a j with | some v => some (v :: r, (M, U.1.2.2.2.1)) | none => none) {p : FieldType → Bool} (hp : ∀ ty, p ty = true → ty = ty0) : ∀ (ty : FieldType) (a n : Nat) (j : Int32) (r : List Value), p ty = true → ga U.1.1 U.1.2.2.2.1 a ty n → ¬ (j < 0 ∨ n ≤ j.toNatClampNeg) → rf_hp U.1.1 J aux (.int j :: .ref a :: r) (M, U.1.2.2.2.1) = some (rf_rd M ty a j.toNatClampNeg :: r, (M, U.1.2.2.2.1)) := by
  intro ty a n j r h1 h2 h3
  have := hp ty h1
  subst this
  rw [hJ, h2.el _ h3]
theorem sx_jB {aux : List (Int × Nat)} : ∀ (ty : FieldType) (a n : Nat) (j : Int32) (r : List Value), sx_pB ty = true → ga U.1.1 U.1.2.2.2.1 a ty n → ¬ (j < 0 ∨ n ≤ j.toNatClampNeg) → rf_hp U.1.1 .baload aux (.int j :: .ref a :: r) (M, U.1.2.2.2.1) = some (rf_rd M ty a j.toNatClampNeg :: r, (M, U.1.2.2.2.1)) := by
  intro ty a n j r h1 h2 h3
  show (match rf_el (M, U.1.2.2.2.1) .byte a j with
    | some v => some (v :: r, (M, U.1.2.2.2.1))
    | none => match rf_el (M, U.1.2.2.2.1) .boolean a j with
      | some v => some (v :: r, (M, U.1.2.2.2.1))
      | none => none) = _
  cases ty <;> first | (rw [h2.el _ h3]; done) | skip
  all_goals first | cases h1; done | skip
  have e : rf_el (M, U.1.2.2.2.1) .byte a j = none := by
    unfold rf_el
    rw [h2.aa M]
    exact if_neg (fun z => by cases z.1)
  rw [e, h2.el _ h3]
theorem sx_jO {aux : List (Int × Nat)} : ∀ (ty : FieldType) (a n : Nat) (j : Int32) (r : List Value), sx_pO ty = true → ga U.1.1 U.1.2.2.2.1 a ty n → ¬ (j < 0 ∨ n ≤ j.toNatClampNeg) → rf_hp U.1.1 .aaload aux (.int j :: .ref a :: r) (M, U.1.2.2.2.1) = some (rf_rd M ty a j.toNatClampNeg :: r, (M, U.1.2.2.2.1)) := by
  intro ty a n j r h1 h2 h3
  cases ty <;> first | (cases h1; done) | skip
  rename_i C
  show (match rf_aa (M, U.1.2.2.2.1) a with
    | some (.object C, n) => match rf_el (M, U.1.2.2.2.1) (.object C) a j with
      | some v => some (v :: r, (M, U.1.2.2.2.1))
      | none => none
    | some (.array t, n) => match rf_el (M, U.1.2.2.2.1) (.array t) a j with
      | some v => some (v :: r, (M, U.1.2.2.2.1))
      | none => none
    | _ => none) = _
  rw [h2.aa M]
  dsimp only
  rw [h2.el _ h3]
/-- an element is written -/
theorem sx_aw {a k len : Nat} {ty : FieldType} {e : sxF} (hE : sx_e U W E M) (hin : sx_in U M) (hfr : sx_fr U md M0 M) (a3 : ga U.1.1 U.1.2.2.2.1 a ty len) (a4 : U.1.2.1[U.1.2.2.1 a]? = some ((.inr (ty, len, e)))) (hu : sx_upd M M' a k) (hf : sx_f U M' a k e) (hm : (U.1.2.2.1 a, 0) ∈ md) : sx_e U W E M' ∧ sx_in U M' ∧ sx_fr U md M0 M' :=
  ⟨sx_e_a hE hu a3.2.2.2, sx_in_w hin a3.1 hu (fun f hf' => by rw [(sx_fa_a (a := a) a4 hf').1]; exact hf), sx_fr_w hfr hu a3.1 (Or.inl hm)⟩
theorem sx_iso {aux : List (Int × Nat)} {q : List sxV × sxE} (hE : sx_e U W E M) (hin : sx_in U M) (hfr : sx_fr U md M0 M) (hs : sx_vs W sst st) (h : sx_as U md sx_pI sst E = some q) : ∃ st' M', rf_hp U.1.1 .iastore aux st (M, U.1.2.2.2.1) = some (st', (M', U.1.2.2.2.1)) ∧ sx_e U W q.2 M' ∧ sx_in U M' ∧ sx_fr U md M0 M' ∧ sx_vs W q.1 st' := by
  unfold sx_as at h
  split at h
  · obtain ⟨vv, r0, rfl, hv, hs0⟩ := sx_cons hs
    obtain ⟨vj, r1, rfl, hj, hs1⟩ := sx_cons hs0
    obtain ⟨v, r, rfl, h1, hs2⟩ := sx_cons hs1
    split at h
    · rename_i g ty len e haa
      obtain ⟨a, rfl, a2, a3, a4⟩ := sx_aao hE haa h1
      dsimp only at a2 a3 a4
      split at h
      · rename_i hc
        cases h
        obtain ⟨z, rfl, z1, z2⟩ := sx_ixo hE hc.2.2.1 hj
        have ht : ty = .int := by revert hc; cases ty <;> intro hc <;> first | rfl | cases hc.1
        subst ht
        have hf := sx_woko hE hv hc.2.2.2.1
        rcases e with ⟨lo, hi⟩ | (_ | ⟨g, nul⟩)
        · obtain ⟨y, rfl, y1, y2⟩ := hf
          have em : (rf_wi M a z.toNatClampNeg y).1 a z.toNatClampNeg = y := rf_up2s _ _ _ _
          obtain ⟨r1, r2, r3⟩ := sx_aw hE hin hfr a3 a4 (sx_upd_i M a z.toNatClampNeg y) (show lo ≤ ((rf_wi M a z.toNatClampNeg y).1 a z.toNatClampNeg).toInt ∧ ((rf_wi M a z.toNatClampNeg y).1 a z.toNatClampNeg).toInt ≤ hi by rw [em]; exact ⟨y1, y2⟩) (by rw [a2.2.2]; exact List.elem_iff.mp hc.2.2.2.2)
          refine ⟨r, _, ?_, r1, r2, r3, hs2⟩
          show (if a < U.1.1.2.2.2.2 then none else match rf_el (M, U.1.2.2.2.1) .int a z with | some _ => some (r, (rf_wi M a z.toNatClampNeg y, U.1.2.2.2.1)) | none => none) = _
          rw [if_neg (Nat.not_lt.mpr a3.1), a3.el _ z1]
        · cases hc.2.1
        · cases hc.2.1
      · cases h
    · cases h
  · cases h
theorem sx_lso {aux : List (Int × Nat)} {q : List sxV × sxE} (hE : sx_e U W E M) (hin : sx_in U M) (hfr : sx_fr U md M0 M) (hs : sx_vs W sst st) (h : sx_as U md sx_pL sst E = some q) : ∃ st' M', rf_hp U.1.1 .lastore aux st (M, U.1.2.2.2.1) = some (st', (M', U.1.2.2.2.1)) ∧ sx_e U W q.2 M' ∧ sx_in U M' ∧ sx_fr U md M0 M' ∧ sx_vs W q.1 st' := by
  unfold sx_as at h
  split at h
  · obtain ⟨vv, r0, rfl, hv, hs0⟩ := sx_cons hs
    obtain ⟨vj, r1, rfl, hj, hs1⟩ := sx_cons hs0
    obtain ⟨v, r, rfl, h1, hs2⟩ := sx_cons hs1
    split at h
    · rename_i g ty len e haa
      obtain ⟨a, rfl, a2, a3, a4⟩ := sx_aao hE haa h1
      dsimp only at a2 a3 a4
      split at h
      · rename_i hc
        cases h
        obtain ⟨z, rfl, z1, z2⟩ := sx_ixo hE hc.2.2.1 hj
        have ht : ty = .long := by revert hc; cases ty <;> intro hc <;> first | rfl | cases hc.1
        subst ht
        have hf := sx_woko hE hv hc.2.2.2.1
        rcases e with ⟨lo, hi⟩ | (_ | ⟨g, nul⟩)
        · cases hc.2.1
        · obtain ⟨y, rfl⟩ := hf
          obtain ⟨r1, r2, r3⟩ := sx_aw hE hin hfr a3 a4 (sx_upd_l M a z.toNatClampNeg y) trivial (by rw [a2.2.2]; exact List.elem_iff.mp hc.2.2.2.2)
          refine ⟨r, _, ?_, r1, r2, r3, hs2⟩
          show (if a < U.1.1.2.2.2.2 then none else match rf_el (M, U.1.2.2.2.1) .long a z with | some _ => some (r, (rf_wl M a z.toNatClampNeg y, U.1.2.2.2.1)) | none => none) = _
          rw [if_neg (Nat.not_lt.mpr a3.1), a3.el _ z1]
        · cases hc.2.1
      · cases h
    · cases h
  · cases h
theorem sx_and1 (x : Int32) : 0 ≤ (x &&& 1).toInt ∧ (x &&& 1).toInt ≤ 1 := sx_and_le x 1 (by decide)
theorem sx_bso {aux : List (Int × Nat)} {q : List sxV × sxE} (hE : sx_e U W E M) (hin : sx_in U M) (hfr : sx_fr U md M0 M) (hs : sx_vs W sst st) (h : sx_bs U md sst E = some q) : ∃ st' M', rf_hp U.1.1 .bastore aux st (M, U.1.2.2.2.1) = some (st', (M', U.1.2.2.2.1)) ∧ sx_e U W q.2 M' ∧ sx_in U M' ∧ sx_fr U md M0 M' ∧ sx_vs W q.1 st' := by
  unfold sx_bs at h
  split at h
  · obtain ⟨vv, r0, rfl, hv, hs0⟩ := sx_cons hs
    obtain ⟨vj, r1, rfl, hj, hs1⟩ := sx_cons hs0
    obtain ⟨v, r, rfl, h1, hs2⟩ := sx_cons hs1
    split at h
    · rename_i g ty len lo hi haa
      obtain ⟨a, rfl, a2, a3, a4⟩ := sx_aao hE haa h1
      dsimp only at a2 a3 a4
      split at h
      · rename_i hc
        cases h
        obtain ⟨z, rfl, z1, z2⟩ := sx_ixo hE hc.2.1 hj
        obtain ⟨y, rfl⟩ := sx_vI hc.1 hv
        have fin : ∀ w : Int32, lo ≤ w.toInt → w.toInt ≤ hi → sx_e U W E (rf_wi M a z.toNatClampNeg w) ∧ sx_in U (rf_wi M a z.toNatClampNeg w) ∧ sx_fr U md M0 (rf_wi M a z.toNatClampNeg w) := by
          intro w w1 w2
          have em : (rf_wi M a z.toNatClampNeg w).1 a z.toNatClampNeg = w := rf_up2s _ _ _ _
          exact sx_aw hE hin hfr a3 a4 (sx_upd_i M a z.toNatClampNeg w) (show lo ≤ ((rf_wi M a z.toNatClampNeg w).1 a z.toNatClampNeg).toInt ∧ ((rf_wi M a z.toNatClampNeg w).1 a z.toNatClampNeg).toInt ≤ hi by rw [em]; exact ⟨w1, w2⟩) (by rw [a2.2.2]; exact List.elem_iff.mp hc.2.2.1)
        rcases hc.2.2.2 with ⟨rfl, l1, l2⟩ | ⟨rfl, l1, l2⟩
        · have k1 := Int8.le_toInt y.toInt8
          have k2 := Int8.toInt_lt y.toInt8
          obtain ⟨r1, r2, r3⟩ := fin y.toInt8.toInt32 (by rw [Int8.toInt_toInt32]; omega) (by rw [Int8.toInt_toInt32]; omega)
          refine ⟨r, _, ?_, r1, r2, r3, hs2⟩
          show (if a < U.1.1.2.2.2.2 then none else match rf_el (M, U.1.2.2.2.1) .byte a z with
            | some _ => some (r, (rf_wi M a z.toNatClampNeg y.toInt8.toInt32, U.1.2.2.2.1))
            | none => match rf_el (M, U.1.2.2.2.1) .boolean a z with
              | some _ => some (r, (rf_wi M a z.toNatClampNeg (y &&& 1), U.1.2.2.2.1))
              | none => none) = _
          rw [if_neg (Nat.not_lt.mpr a3.1), a3.el _ z1]
        · obtain ⟨k1, k2⟩ := sx_and1 y
          obtain ⟨r1, r2, r3⟩ := fin (y &&& 1) (by omega) (by omega)
          refine ⟨r, _, ?_, r1, r2, r3, hs2⟩
          show (if a < U.1.1.2.2.2.2 then none else match rf_el (M, U.1.2.2.2.1) .byte a z with
            | some _ => some (r, (rf_wi M a z.toNatClampNeg y.toInt8.toInt32, U.1.2.2.2.1))
            | none => match rf_el (M, U.1.2.2.2.1) .boolean a z with
              | some _ => some (r, (rf_wi M a z.toNatClampNeg (y &&& 1), U.1.2.2.2.1))
              | none => none) = _
          have e : rf_el (M, U.1.2.2.2.1) .byte a z = none := by
            unfold rf_el
            rw [a3.aa M]
            exact if_neg (fun z => by cases z.1)
          rw [if_neg (Nat.not_lt.mpr a3.1), e, a3.el _ z1]
      · cases h
    · cases h
  · cases h
theorem sx_oso {aux : List (Int × Nat)} {q : List sxV × sxE} (hE : sx_e U W E M) (hin : sx_in U M) (hfr : sx_fr U md M0 M) (hs : sx_vs W sst st) (h : sx_os U md sst E = some q) : ∃ st' M', rf_hp U.1.1 .aastore aux st (M, U.1.2.2.2.1) = some (st', (M', U.1.2.2.2.1)) ∧ sx_e U W q.2 M' ∧ sx_in U M' ∧ sx_fr U md M0 M' ∧ sx_vs W q.1 st' := by
  unfold sx_os at h
  split at h
  · obtain ⟨vv, r0, rfl, hv, hs0⟩ := sx_cons hs
    obtain ⟨vj, r1, rfl, hj, hs1⟩ := sx_cons hs0
    obtain ⟨v, r, rfl, h1, hs2⟩ := sx_cons hs1
    split at h
    · rename_i g C len e s' g' ci fs haa hob
      obtain ⟨a, rfl, a2, a3, a4⟩ := sx_aao hE haa h1
      obtain ⟨b, rfl, b1, b2, b3, b4⟩ := sx_obo hE hob hv
      dsimp only at a2 a3 a4 b1 b2 b3 b4
      split at h
      · rename_i hc
        cases h
        obtain ⟨z, rfl, z1, z2⟩ := sx_ixo hE hc.1 hj
        have hf := sx_woko hE hv hc.2.1
        have em : (rf_wq M a z.toNatClampNeg (some b)).2.2 a z.toNatClampNeg = some b := rf_up2s _ _ _ _
        have hfe : sx_f U (rf_wq M a z.toNatClampNeg (some b)) a z.toNatClampNeg e := by
          rcases e with ⟨lo, hi⟩ | (_ | ⟨g, nul⟩)
          · obtain ⟨y, y1, -⟩ := hf; cases y1
          · trivial
          · obtain ⟨o, o1, o2⟩ := hf
            cases o with
            | none => cases o1
            | some c =>
              cases o1
              show match (rf_wq M a z.toNatClampNeg (some b)).2.2 a z.toNatClampNeg with | none => nul = true | some b => sx_rc U g b
              rw [em]; exact o2
        obtain ⟨r1, r2, r3⟩ := sx_aw hE hin hfr a3 a4 (sx_upd_q M a z.toNatClampNeg (some b)) hfe (by rw [a2.2.2]; exact List.elem_iff.mp hc.2.2.1)
        refine ⟨r, _, ?_, r1, r2, r3, hs2⟩
        show (if a < U.1.1.2.2.2.2 ∨ b < U.1.1.2.2.2.2 then none else match rf_aa (M, U.1.2.2.2.1) a, rf_ob (M, U.1.2.2.2.1) b with
          | some (.object C, n), some ci => if (U.1.1.2.2.2.1[ci]?).map (fun q => q.1) = some C ∧ ¬ (z < 0 ∨ n ≤ z.toNatClampNeg) then some (r, (rf_wq M a z.toNatClampNeg (some b), U.1.2.2.2.1)) else none
          | _, _ => none) = _
        rw [if_neg (fun w => w.elim (fun w => Nat.not_lt.mpr a3.1 w) (fun w => Nat.not_lt.mpr b3.1 w)), a3.aa, b3.ob]
        dsimp only
        rw [if_pos ⟨hc.2.2.2, z1⟩]
      · cases h
    · cases h
  · cases h
theorem sx_lno {aux : List (Int × Nat)} {q : List sxV × sxE} (hE : sx_e U W E M) (hs : sx_vs W sst st) (h : sx_ln U sst E = some q) : ∃ st', rf_hp U.1.1 .arraylength aux st (M, U.1.2.2.2.1) = some (st', (M, U.1.2.2.2.1)) ∧ sx_e U W q.2 M ∧ sx_vs W q.1 st' := by
  unfold sx_ln at h
  split at h
  · obtain ⟨v, r, rfl, h1, hs1⟩ := sx_cons hs
    split at h
    · rename_i g ty len e haa
      obtain ⟨a, rfl, a2, a3, a4⟩ := sx_aao hE haa h1
      dsimp only at a2 a3 a4
      split at h
      · rename_i hc
        cases h
        refine ⟨.int (nI len) :: r, ?_, hE, ⟨nI len, rfl, ?_⟩, hs1⟩
        · show (match rf_aa (M, U.1.2.2.2.1) a with | some q => some (Value.int (nI q.2) :: r, (M, U.1.2.2.2.1)) | none => none) = _
          rw [a3.aa]
        · unfold nI
          rw [Int32.toInt_ofNat']
          exact Int.bmod_eq_of_le (by have : Int32.size = 4294967296 := rfl; omega) (by have : Int32.size = 4294967296 := rfl; omega)
      · cases h
    · cases h
  · cases h
theorem sx_hpo {J : Instr} {aux : List (Int × Nat)} {q : List sxV × sxE} (hE : sx_e U W E M) (hin : sx_in U M) (hfr : sx_fr U md M0 M) (hs : sx_vs W sst st) (h : sx_hp U md J aux sst E = some q) : ∃ st' M' W', rf_hp U.1.1 J aux st (M, U.1.2.2.2.1) = some (st', (M', U.1.2.2.2.1)) ∧ sx_le W W' ∧ sx_e U W' q.2 M' ∧ sx_in U M' ∧ sx_fr U md M0 M' ∧ sx_vs W' q.1 st' := by
  unfold sx_hp at h
  split at h
  · obtain ⟨st', W', h1, h2, h3, h4⟩ := sx_gfo hE hin hs h
    exact ⟨st', M, W', h1, h2, h3, hin, hfr, h4⟩
  · obtain ⟨st', M', h1, h2, h3, h4, h5⟩ := sx_pfo hE hin hfr hs h
    exact ⟨st', M', W, h1, sx_le_rfl W, h2, h3, h4, h5⟩
  · obtain ⟨st', W', h1, h2, h3, h4⟩ := sx_alo (sx_jI (J := .iaload) (aux := aux) (fun _ _ _ => rfl) (p := sx_pI) (ty0 := .int) (fun ty ht => by cases ty <;> first | rfl | cases ht)) hE hin hs h
    exact ⟨st', M, W', h1, h2, h3, hin, hfr, h4⟩
  · obtain ⟨st', W', h1, h2, h3, h4⟩ := sx_alo (sx_jI (J := .laload) (aux := aux) (fun _ _ _ => rfl) (p := sx_pL) (ty0 := .long) (fun ty ht => by cases ty <;> first | rfl | cases ht)) hE hin hs h
    exact ⟨st', M, W', h1, h2, h3, hin, hfr, h4⟩
  · obtain ⟨st', W', h1, h2, h3, h4⟩ := sx_alo sx_jB hE hin hs h
    exact ⟨st', M, W', h1, h2, h3, hin, hfr, h4⟩
  · obtain ⟨st', W', h1, h2, h3, h4⟩ := sx_alo sx_jO hE hin hs h
    exact ⟨st', M, W', h1, h2, h3, hin, hfr, h4⟩
  · obtain ⟨st', M', h1, h2, h3, h4, h5⟩ := sx_iso hE hin hfr hs h
    exact ⟨st', M', W, h1, sx_le_rfl W, h2, h3, h4, h5⟩
  · obtain ⟨st', M', h1, h2, h3, h4, h5⟩ := sx_lso hE hin hfr hs h
    exact ⟨st', M', W, h1, sx_le_rfl W, h2, h3, h4, h5⟩
  · obtain ⟨st', M', h1, h2, h3, h4, h5⟩ := sx_bso hE hin hfr hs h
    exact ⟨st', M', W, h1, sx_le_rfl W, h2, h3, h4, h5⟩
  · obtain ⟨st', M', h1, h2, h3, h4, h5⟩ := sx_oso hE hin hfr hs h
    exact ⟨st', M', W, h1, sx_le_rfl W, h2, h3, h4, h5⟩
  · obtain ⟨st', h1, h2, h3⟩ := sx_lno hE hs h
    exact ⟨st', M, W, h1, sx_le_rfl W, h2, hin, hfr, h3⟩
  · cases h
end SX8
/-! constants of the pool, answers, calls of the JDK, arguments -/
def sx_po (aux : List (Int × Nat)) (st : List sxV) (E : sxE) : Option (List sxV × sxE) := match aux with
  | [(0, k)] => some ((.inr (.inl ((k : Int).bmod 4294967296))) :: st, E)
  | [(1, k)] => some ((sx_nl E ((k : Int).bmod 18446744073709551616) ((k : Int).bmod 18446744073709551616) false).1 :: st, (sx_nl E ((k : Int).bmod 18446744073709551616) ((k : Int).bmod 18446744073709551616) false).2)
  | _ => none
def sx_rt (J : Instr) (ret : Option FieldType) (st : List sxV) (E : sxE) : Option (Option sxV) := match J, ret, st with
  | .ireturn, some .int, [x] => if sx_isI x = true then some (some x) else none
  | .ireturn, some .boolean, [x] => if sx_wty E x .boolean = true then some (some x) else none
  | .lreturn, some .long, [x] => if sx_isL x = true then some (some x) else none
  | .areturn, some (.object _), [x] => if sx_isR x = true then some (some x) else none
  | .areturn, some (.array _), [x] => if sx_isR x = true then some (some x) else none
  | .return_, none, [] => some none
  | _, _, _ => none
def sx_ov (W : sxW) (o : Option sxV) (v : Option Value) : Prop := match o, v with
  | none, none => True
  | some x, some w => sx_v W x w
  | _, _ => False
def sx_cts (st : List sxV) : Nat := (st.map sx_ct).sum
def sx_nn0 (E : sxE) (x : sxV) : Bool := match sx_b E x with
  | some b => decide (0 ≤ b.1)
  | none => false
def sx_hi (E : sxE) (x : sxV) : Int := match sx_b E x with
  | some b => b.2
  | none => 0
def sx_sub (e2 e1 : sxF) : Bool := match e2, e1 with
  | (.inl (a, b)), (.inl (c, d)) => decide (c ≤ a) && decide (b ≤ d)
  | (.inr none), (.inr none) => true
  | _, _ => false
def sx_bi (U : sxU) (md : List (Nat × Nat)) (kd : Int) (st : List sxV) (E : sxE) : Option (List sxV × sxE) := if kd = 11 then (match st with
    | nn :: dp :: x1 :: sp :: x2 :: r => (match sx_aa U.1.2.1 E x1, sx_aa U.1.2.1 E x2 with
      | some (g1, t1, n1, e1), some (_, t2, n2, e2) => if ((sx_pI t1 = true ∧ sx_pI t2 = true) ∨ (sx_pL t1 = true ∧ sx_pL t2 = true)) ∧ sx_tyok t1 e1 = true ∧ sx_sub e2 e1 = true ∧ sx_nn0 E nn = true ∧ sx_nn0 E dp = true ∧ sx_nn0 E sp = true ∧ sx_hi E sp + sx_hi E nn ≤ (n2 : Int) ∧ sx_hi E dp + sx_hi E nn ≤ (n1 : Int) ∧ md.elem (g1, 0) = true ∧ sx_cts r ≤ 8 then some (r, E) else none
      | _, _ => none)
    | _ => none)
  else if kd = 12 ∨ kd = 13 then (match st with
    | y :: x :: r => (match sx_b E x, sx_b E y with
      | some a, some b => if sx_cts r ≤ 8 then (if kd = 12 then sx_fit E (some (min a.1 b.1, min a.2 b.2)) r else sx_fit E (some (max a.1 b.1, max a.2 b.2)) r) else none
      | _, _ => none)
    | _ => none)
  else none
section SX9
variable {U : sxU} {W : sxW} {E : sxE} {M M' M0 : rf_M} {sst : List sxV} {st : List Value} {md : List (Nat × Nat)}
theorem sx_poo {aux : List (Int × Nat)} {q : List sxV × sxE} (hE : sx_e U W E M) (hs : sx_vs W sst st) (h : sx_po aux sst E = some q) : ∃ st' W', rf_po aux st = some st' ∧ sx_le W W' ∧ sx_e U W' q.2 M ∧ sx_vs W' q.1 st' := by
  unfold sx_po at h
  split at h
  · rename_i k
    cases h
    exact ⟨_, W, rfl, sx_le_rfl W, hE, ⟨_, rfl, Int32.toInt_ofNat'⟩, hs⟩
  · rename_i k
    cases h
    have e : (Int64.ofNat k).toInt = (k : Int).bmod 18446744073709551616 := Int64.toInt_ofNat'
    obtain ⟨W', w1, w2, w3⟩ := sx_fl hE (nz := false) (Int64.ofNat k) (Int.le_of_eq e.symm) (Int.le_of_eq e) (fun z => by cases z)
    exact ⟨_, W', rfl, w1, w2, w3, hs.mono w1⟩
  · cases h
theorem sx_rto {J : Instr} {ret : Option FieldType} {o : Option sxV} (hE : sx_e U W E M) (hs : sx_vs W sst st) (h : sx_rt J ret sst E = some o) : ∃ v, rf_rt J ret st = some v ∧ sx_ov W o v := by
  unfold sx_rt at h
  split at h
  · obtain ⟨v, r, rfl, h1, hs1⟩ := sx_cons hs
    cases sx_nil hs1
    split at h
    · rename_i hc
      cases h
      obtain ⟨z, rfl⟩ := sx_vI hc h1
      exact ⟨_, rfl, h1⟩
    · cases h
  · obtain ⟨v, r, rfl, h1, hs1⟩ := sx_cons hs
    cases sx_nil hs1
    split at h
    · rename_i x hc
      cases h
      have h2 : (match sx_b E x with | some b => decide (0 ≤ b.1) && decide (b.2 ≤ 1) | none => false) = true := hc
      split at h2
      · rename_i b hb
        simp only [Bool.and_eq_true, decide_eq_true_eq] at h2
        obtain ⟨z, rfl, z1, z2⟩ := sx_bo hE hb h1
        have hz01 : z = 0 ∨ z = 1 := by
          have : z.toInt = 0 ∨ z.toInt = 1 := by omega
          rcases this with h | h
          · exact Or.inl (Int32.toInt_inj.mp (by rw [h]; rfl))
          · exact Or.inr (Int32.toInt_inj.mp (by rw [h]; rfl))
        refine ⟨some (.int z), ?_, h1⟩
        show (if narrow .boolean (.int z) = .int z then some (some (Value.int z)) else none) = _
        rw [if_pos]
        rcases hz01 with rfl | rfl
        · decide +kernel
        · decide +kernel
      · cases h2
    · cases h
  · obtain ⟨v, r, rfl, h1, hs1⟩ := sx_cons hs
    cases sx_nil hs1
    split at h
    · rename_i hc
      cases h
      obtain ⟨z, rfl⟩ := sx_vL hc h1
      exact ⟨_, rfl, h1⟩
    · cases h
  · obtain ⟨v, r, rfl, h1, hs1⟩ := sx_cons hs
    cases sx_nil hs1
    split at h
    · rename_i hc
      cases h
      obtain ⟨z, rfl⟩ := sx_vR hc h1
      cases z <;> exact ⟨_, rfl, h1⟩
    · cases h
  · obtain ⟨v, r, rfl, h1, hs1⟩ := sx_cons hs
    cases sx_nil hs1
    split at h
    · rename_i hc
      cases h
      obtain ⟨z, rfl⟩ := sx_vR hc h1
      cases z <;> exact ⟨_, rfl, h1⟩
    · cases h
  · cases sx_nil hs
    cases h
    exact ⟨none, rfl, trivial⟩
  · cases h
theorem sx_ctso : ∀ {sst : List sxV} {st : List Value}, sx_vs W sst st → (st.map fun v => v.category).sum = sx_cts sst
  | [], [], _ => rfl
  | x :: xs, v :: vs, h => by
    show ((v :: vs).map fun v => v.category).sum = ((x :: xs).map sx_ct).sum
    rw [List.map_cons, List.map_cons, List.sum_cons, List.sum_cons, sx_cto h.1, sx_ctso h.2]
    rfl
  | [], _ :: _, h => h.elim
  | _ :: _, [], h => h.elim
theorem sx_nn0o (hE : sx_e U W E M) {x : sxV} {v : Value} (h : sx_nn0 E x = true) (hv : sx_v W x v) : ∃ z : Int32, v = .int z ∧ 0 ≤ z.toInt ∧ z.toInt ≤ sx_hi E x := by
  unfold sx_nn0 at h
  unfold sx_hi
  split at h
  · rename_i b hb
    obtain ⟨z, rfl, z1, z2⟩ := sx_bo hE hb hv
    simp only [decide_eq_true_eq] at h
    exact ⟨z, rfl, by omega, z2⟩
  · cases h
/-- only cell a has changed, an array -/
theorem sx_cell {a len : Nat} {ty : FieldType} {e : sxF} (hE : sx_e U W E M) (hin : sx_in U M) (hfr : sx_fr U md M0 M) (a3 : ga U.1.1 U.1.2.2.2.1 a ty len) (a4 : U.1.2.1[U.1.2.2.1 a]? = some ((.inr (ty, len, e)))) (hu : ∀ a' k', a' ≠ a → sx_same M M' a' k') (hf : ∀ k, k < len → sx_f U M' a k e) (hm : (U.1.2.2.1 a, 0) ∈ md) : sx_e U W E M' ∧ sx_in U M' ∧ sx_fr U md M0 M' := by
  refine ⟨⟨hE.1, hE.2.1, hE.2.2.1, hE.2.2.2.1, hE.2.2.2.2.1, hE.2.2.2.2.2.1, ?_, hE.2.2.2.2.2.2.2⟩, ?_, ?_⟩
  · intro s k' x hx
    obtain ⟨b, ci, h1, h2, h3, h4⟩ := hE.2.2.2.2.2.2.1 s k' x hx
    have hne : b ≠ a := fun e => by rw [e, a3.2.2.2] at h3; cases h3
    exact ⟨b, ci, h1, h2, h3, by rw [sx_rd_same (hu b k' hne)]; exact h4⟩
  · refine ⟨fun a' k' f h1 h2 h3 => ?_, fun a' k' h => ?_⟩
    · by_cases ea : a' = a
      · subst ea
        obtain ⟨e1, e2⟩ := sx_fa_a (a := a') a4 h3
        rw [e1]
        exact hf k' e2
      · exact sx_f_same (hu a' k' ea) (hin.1 a' k' f h1 h2 h3)
    · have h1 := hin.2 a' k' h
      have h2 := hu a' k' (by have := a3.1; omega)
      exact ⟨h2.1.trans h1.1, h2.2.1.trans h1.2.1, h2.2.2.trans h1.2.2⟩
  · intro a' k' h
    have h1 := hfr a' k' h
    have h2 : a' ≠ a := by
      intro e
      subst e
      rcases h with h | h
      · have := a3.1; omega
      · exact h.1 hm
    have h3 := hu a' k' h2
    exact ⟨h3.1.trans h1.1, h3.2.1.trans h1.2.1, h3.2.2.trans h1.2.2⟩
theorem sx_ok8 {d : Nat × Nat} {r : List Value} {rs : List sxV} (hr : sx_vs W rs r) (hc : sx_cts rs ≤ 8) (d1 : 1 ≤ d.1) (d2 : 30 ≤ d.2) {w : Nat} (hw : w ≤ 22) : rf_ok8 r d w = true := by
  unfold rf_ok8
  simp only [Bool.and_eq_true, decide_eq_true_eq]
  rw [sx_ctso hr]
  omega
theorem sx_bio {kd : Int} {q : List sxV × sxE} {d : Nat × Nat} (d1 : 1 ≤ d.1) (d2 : 30 ≤ d.2) (hE : sx_e U W E M) (hin : sx_in U M) (hfr : sx_fr U md M0 M) (hs : sx_vs W sst st) (h : sx_bi U md kd sst E = some q) : ∃ st' M' W', rf_bi U.1.1 kd d st (M, U.1.2.2.2.1) = some (st', (M', U.1.2.2.2.1)) ∧ sx_le W W' ∧ sx_e U W' q.2 M' ∧ sx_in U M' ∧ sx_fr U md M0 M' ∧ sx_vs W' q.1 st' := by
  unfold sx_bi at h
  split at h
  · rename_i hk
    subst hk
    split at h
    · rename_i nn dp x1 sp x2 r
      obtain ⟨vn, r0, rfl, hn, hs0⟩ := sx_cons hs
      obtain ⟨vd, r1, rfl, hd, hs1⟩ := sx_cons hs0
      obtain ⟨v1, r2, rfl, h1, hs2⟩ := sx_cons hs1
      obtain ⟨vs, r3, rfl, hsp, hs3⟩ := sx_cons hs2
      obtain ⟨v2, r4, rfl, h2, hs4⟩ := sx_cons hs3
      split at h
      · rename_i g1 t1 n1 e1 g2 t2 n2 e2 ha1 ha2
        obtain ⟨a1, rfl, p2, p3, p4⟩ := sx_aao hE ha1 h1
        obtain ⟨a2, rfl, q2, q3, q4⟩ := sx_aao hE ha2 h2
        dsimp only at p2 p3 p4 q2 q3 q4
        split at h
        · rename_i hc
          cases h
          obtain ⟨c1, c2, c3, c4, c5, c6, c7, c8, c9, c10⟩ := hc
          obtain ⟨zn, rfl, zn1, zn2⟩ := sx_nn0o hE c4 hn
          obtain ⟨zd, rfl, zd1, zd2⟩ := sx_nn0o hE c5 hd
          obtain ⟨zs, rfl, zs1, zs2⟩ := sx_nn0o hE c6 hsp
          have en : zn.toNatClampNeg = zn.toInt.toNat := rfl
          have ed : zd.toNatClampNeg = zd.toInt.toNat := rfl
          have es : zs.toNatClampNeg = zs.toInt.toNat := rfl
          have b1 : zs.toNatClampNeg + zn.toNatClampNeg ≤ n2 := by rw [es, en]; omega
          have b2 : zd.toNatClampNeg + zn.toNatClampNeg ≤ n1 := by rw [ed, en]; omega
          have hm : (U.1.2.2.1 a1, 0) ∈ md := by rw [p2.2.2]; exact List.elem_iff.mp c9
          have hg : rf_ok8 r4 d 18 = true ∧ ¬ a1 < U.1.1.2.2.2.2 ∧ ¬ a2 < U.1.1.2.2.2.2 ∧ ¬ zs < 0 ∧ ¬ zd < 0 ∧ ¬ zn < 0 := by
            refine ⟨sx_ok8 hs4 c10 d1 d2 (by omega), Nat.not_lt.mpr p3.1, Nat.not_lt.mpr q3.1, ?_, ?_, ?_⟩ <;> rw [Int32.lt_iff_toInt_lt, Int32.toInt_zero] <;> omega
          rcases c1 with ⟨t1I, t2I⟩ | ⟨t1L, t2L⟩
          · have e1' : t1 = .int := by cases t1 <;> first | rfl | cases t1I
            have e2' : t2 = .int := by cases t2 <;> first | rfl | cases t2I
            subst e1' e2'
            have fin : sx_e U W E ((va_up M.1 a1 (va_cpy (M.1 a2) (M.1 a1) zs.toNatClampNeg zd.toNatClampNeg zn.toNatClampNeg), M.2.1, M.2.2) : rf_M) ∧ sx_in U (va_up M.1 a1 (va_cpy (M.1 a2) (M.1 a1) zs.toNatClampNeg zd.toNatClampNeg zn.toNatClampNeg), M.2.1, M.2.2) ∧ sx_fr U md M0 (va_up M.1 a1 (va_cpy (M.1 a2) (M.1 a1) zs.toNatClampNeg zd.toNatClampNeg zn.toNatClampNeg), M.2.1, M.2.2) := by
              refine sx_cell hE hin hfr p3 p4 (fun a' k' hne => ⟨?_, rfl, rfl⟩) (fun k hk => ?_) hm
              · show va_up M.1 a1 _ a' k' = M.1 a' k'
                unfold va_up
                rw [if_neg hne]
              · rcases e1 with ⟨lo, hi⟩ | (_ | ⟨g, nul⟩)
                · rcases e2 with ⟨lo2, hi2⟩ | (_ | ⟨g, nul⟩)
                  · unfold sx_sub at c3
                    simp only [Bool.and_eq_true, decide_eq_true_eq] at c3
                    show lo ≤ (va_up M.1 a1 _ a1 k).toInt ∧ (va_up M.1 a1 _ a1 k).toInt ≤ hi
                    rw [va_up_self]
                    unfold va_cpy
                    split
                    · rename_i hr
                      have g := hin.1 a2 (zs.toNatClampNeg + (k - zd.toNatClampNeg)) _ q3.1 q3.2.2.1 (sx_fa_i q4 (by omega))
                      have g : lo2 ≤ (M.1 a2 (zs.toNatClampNeg + (k - zd.toNatClampNeg))).toInt ∧ (M.1 a2 (zs.toNatClampNeg + (k - zd.toNatClampNeg))).toInt ≤ hi2 := g
                      omega
                    · exact hin.1 a1 k _ p3.1 p3.2.2.1 (sx_fa_i p4 hk)
                  · cases c3
                  · cases c3
                · cases c2
                · cases c2
            refine ⟨r4, _, W, ?_, sx_le_rfl W, fin.1, fin.2.1, fin.2.2, hs4⟩
            show (if rf_ok8 r4 d 18 = true ∧ ¬ a1 < U.1.1.2.2.2.2 ∧ ¬ a2 < U.1.1.2.2.2.2 ∧ ¬ zs < 0 ∧ ¬ zd < 0 ∧ ¬ zn < 0 then (match rf_aa (M, U.1.2.2.2.1) a1, rf_aa (M, U.1.2.2.2.1) a2 with
              | some (.int, n1), some (.int, n2) => if zs.toNatClampNeg + zn.toNatClampNeg ≤ n2 ∧ zd.toNatClampNeg + zn.toNatClampNeg ≤ n1 then some (r4, ((va_up M.1 a1 (va_cpy (M.1 a2) (M.1 a1) zs.toNatClampNeg zd.toNatClampNeg zn.toNatClampNeg), M.2.1, M.2.2), U.1.2.2.2.1)) else none
              | some (.long, n1), some (.long, n2) => if zs.toNatClampNeg + zn.toNatClampNeg ≤ n2 ∧ zd.toNatClampNeg + zn.toNatClampNeg ≤ n1 then some (r4, ((M.1, va_up M.2.1 a1 (va_cpy (M.2.1 a2) (M.2.1 a1) zs.toNatClampNeg zd.toNatClampNeg zn.toNatClampNeg), M.2.2), U.1.2.2.2.1)) else none
              | _, _ => none) else none) = _
            rw [if_pos hg, p3.aa, q3.aa]
            dsimp only
            rw [if_pos ⟨b1, b2⟩]
          · have e1' : t1 = .long := by cases t1 <;> first | rfl | cases t1L
            have e2' : t2 = .long := by cases t2 <;> first | rfl | cases t2L
            subst e1' e2'
            have fin : sx_e U W E ((M.1, va_up M.2.1 a1 (va_cpy (M.2.1 a2) (M.2.1 a1) zs.toNatClampNeg zd.toNatClampNeg zn.toNatClampNeg), M.2.2) : rf_M) ∧ sx_in U (M.1, va_up M.2.1 a1 (va_cpy (M.2.1 a2) (M.2.1 a1) zs.toNatClampNeg zd.toNatClampNeg zn.toNatClampNeg), M.2.2) ∧ sx_fr U md M0 (M.1, va_up M.2.1 a1 (va_cpy (M.2.1 a2) (M.2.1 a1) zs.toNatClampNeg zd.toNatClampNeg zn.toNatClampNeg), M.2.2) := by
              refine sx_cell hE hin hfr p3 p4 (fun a' k' hne => ⟨rfl, ?_, rfl⟩) (fun k hk => ?_) hm
              · show va_up M.2.1 a1 _ a' k' = M.2.1 a' k'
                unfold va_up
                rw [if_neg hne]
              · rcases e1 with ⟨lo, hi⟩ | (_ | ⟨g, nul⟩)
                · cases c2
                · trivial
                · cases c2
            refine ⟨r4, _, W, ?_, sx_le_rfl W, fin.1, fin.2.1, fin.2.2, hs4⟩
            show (if rf_ok8 r4 d 18 = true ∧ ¬ a1 < U.1.1.2.2.2.2 ∧ ¬ a2 < U.1.1.2.2.2.2 ∧ ¬ zs < 0 ∧ ¬ zd < 0 ∧ ¬ zn < 0 then (match rf_aa (M, U.1.2.2.2.1) a1, rf_aa (M, U.1.2.2.2.1) a2 with
              | some (.int, n1), some (.int, n2) => if zs.toNatClampNeg + zn.toNatClampNeg ≤ n2 ∧ zd.toNatClampNeg + zn.toNatClampNeg ≤ n1 then some (r4, ((va_up M.1 a1 (va_cpy (M.1 a2) (M.1 a1) zs.toNatClampNeg zd.toNatClampNeg zn.toNatClampNeg), M.2.1, M.2.2), U.1.2.2.2.1)) else none
              | some (.long, n1), some (.long, n2) => if zs.toNatClampNeg + zn.toNatClampNeg ≤ n2 ∧ zd.toNatClampNeg + zn.toNatClampNeg ≤ n1 then some (r4, ((M.1, va_up M.2.1 a1 (va_cpy (M.2.1 a2) (M.2.1 a1) zs.toNatClampNeg zd.toNatClampNeg zn.toNatClampNeg), M.2.2), U.1.2.2.2.1)) else none
              | _, _ => none) else none) = _
            rw [if_pos hg, p3.aa, q3.aa]
            dsimp only
            rw [if_pos ⟨b1, b2⟩]
        · cases h
      · cases h
    · cases h
  · rename_i hk11
    split at h
    · rename_i hk
      split at h
      · obtain ⟨vy, r0, rfl, hy, hs0⟩ := sx_cons hs
        obtain ⟨vx, r1, rfl, hx, hs1⟩ := sx_cons hs0
        split at h
        · rename_i a b ha hb
          obtain ⟨zx, rfl, x1, x2⟩ := sx_bo hE ha hx
          obtain ⟨zy, rfl, y1, y2⟩ := sx_bo hE hb hy
          split at h
          · rename_i hc
            have h10 : ¬ kd = 10 := by omega
            split at h
            · rename_i h12
              subst h12
              obtain ⟨W', w1, w2, w3⟩ := sx_fito hE hs1 h (if zy < zx then zy else zx) (fun b' e g1 g2 => by
                simp only [Option.some.injEq] at e
                subst e
                dsimp only
                split <;> rename_i hl <;> rw [Int32.lt_iff_toInt_lt] at hl <;> omega)
              refine ⟨_, M, W', ?_, w1, w2, hin, hfr, w3⟩
              show (if rf_ok8 r1 d 13 = true then some (Value.int (if zy < zx then zy else zx) :: r1, (M, U.1.2.2.2.1)) else none) = _
              rw [if_pos (sx_ok8 hs1 hc d1 d2 (by omega))]
            · rename_i h12
              have h13 : kd = 13 := by omega
              subst h13
              obtain ⟨W', w1, w2, w3⟩ := sx_fito hE hs1 h (if zx < zy then zy else zx) (fun b' e g1 g2 => by
                simp only [Option.some.injEq] at e
                subst e
                dsimp only
                split <;> rename_i hl <;> rw [Int32.lt_iff_toInt_lt] at hl <;> omega)
              refine ⟨_, M, W', ?_, w1, w2, hin, hfr, w3⟩
              show (if rf_ok8 r1 d 13 = true then some (Value.int (if zx < zy then zy else zx) :: r1, (M, U.1.2.2.2.1)) else none) = _
              rw [if_pos (sx_ok8 hs1 hc d1 d2 (by omega))]
          · cases h
        · cases h
      · cases h
    · cases h
end SX9
/-! THE WALK -/
def sx_ca (U : sxU) (J : Instr) (aux : List (Int × Nat)) (st : List sxV) (E : sxE) : Option (Nat × List sxV × List sxV) := match aux with
  | q :: tg => (match J with
    | .invokevirtual _ => (match st.drop q.2 with
      | x :: r => (match sx_ob U.1.2.1 E x with
        | some (_, _, ci, _) => (match rf_lk tg (ci : Int) with
          | some j => if q.2 ≤ st.length ∧ sx_cts r ≤ 8 then some (j, x :: (st.take q.2).reverse, r) else none
          | none => none)
        | none => none)
      | [] => none)
    | .invokestatic _ => (match tg with
      | [(_, j)] => if q.2 ≤ st.length ∧ sx_cts (st.drop q.2) ≤ 8 then some (j, (st.take q.2).reverse, st.drop q.2) else none
      | _ => none)
    | _ => none)
  | [] => none
def sx_args : List sxV → List (Option sxV)
  | [] => []
  | x :: xs => if sx_ct x = 2 then some x :: none :: sx_args xs else some x :: sx_args xs
def sx_frm (xs : List sxV) (nL : Nat) : List (Option sxV) := sx_args xs ++ List.replicate (nL - (sx_args xs).length) none
/-- a piece of a measure: a number; top minus a slot; a slot minus low -/
abbrev sxM : Type := Nat ⊕ (Nat × Int) ⊕ (Nat × Int)
/-- the same of ghosts -/
abbrev sxN : Type := Nat ⊕ (Nat × Int) ⊕ (Nat × Int)
/-- a place where walks end and begin anew: pc, locals (inl: a parameter as it came; inr: something of a kind), a measure -/
abbrev sxK : Type := Nat × List (Option (Nat ⊕ sxF)) × sxM × sxM × sxM
/-- a contract: method, parameters, answer, what it may write; base, coef, par, top: measure base + coef * (top - parameter par); cuts -/
abbrev sxC : Type := Nat × List sxF × Option sxF × List (Nat × Nat) × Nat × Nat × Nat × Int × List sxK
/-- methods walked into, with their measures; contracts; contracts shown elsewhere; room of a frame -/
abbrev sxT : Type := List (Nat × Nat) × List sxC × List sxC × Nat
/-- a walk: what it may write; measure; the place of the measure's parameter; contract and measure it began with -/
abbrev sxQ : Type := List (Nat × Nat) × Nat × Option (Nat × Nat × Int) × Option (sxC × Option (sxN × sxN × sxN))
def sx_pe : List sxF → sxE → List sxV × sxE
  | [], E => ([], E)
  | f :: t, E => ((sx_new E f).1 :: (sx_pe t (sx_new E f).2).1, (sx_pe t (sx_new E f).2).2)
def sx_E0 : sxE := ([], [], [], [], [])
def sx_eq (x y : sxV) : Bool := match x, y with
  | (.inl (s, c)), (.inl (t, d)) => decide (s = t) && decide (c = d)
  | (.inr (.inr (.inl s))), (.inr (.inr (.inl t))) => decide (s = t)
  | (.inr (.inr (.inr (some s)))), (.inr (.inr (.inr (some t)))) => decide (s = t)
  | _, _ => false
def sx_lfit (ps : List sxV) (E : sxE) (sl : List (Option sxV)) : List (Option (Nat ⊕ sxF)) → Nat → Bool
  | [], _ => true
  | none :: t, i => sx_lfit ps E sl t (i + 1)
  | some (.inl p) :: t, i => (match sx_ld sl i, ps[p]? with
    | some x, some y => sx_eq x y
    | _, _ => false) && sx_lfit ps E sl t (i + 1)
  | some (.inr f) :: t, i => (match sx_ld sl i with
    | some x => sx_wok E x f
    | none => false) && sx_lfit ps E sl t (i + 1)
def sx_kl (ps : List sxV) : List (Option (Nat ⊕ sxF)) → sxE → List (Option sxV) × sxE
  | [], E => ([], E)
  | none :: t, E => (none :: (sx_kl ps t E).1, (sx_kl ps t E).2)
  | some (.inl p) :: t, E => (ps[p]? :: (sx_kl ps t E).1, (sx_kl ps t E).2)
  | some (.inr f) :: t, E => (some (sx_new E f).1 :: (sx_kl ps t (sx_new E f).2).1, (sx_kl ps t (sx_new E f).2).2)
def sx_res (sl : List (Option sxV)) (m : sxM) : Option sxN := match m with
  | (.inl n) => some ((.inl n))
  | (.inr (.inl (j, hi))) => (match sx_ld sl j with
    | some ((.inl (s, c))) => if c = 0 then some ((.inr (.inl (s, hi)))) else none
    | _ => none)
  | (.inr (.inr (j, lo))) => (match sx_ld sl j with
    | some ((.inl (s, c))) => if c = 0 then some ((.inr (.inr (s, lo)))) else none
    | _ => none)
def sx_nv (W : sxW) (a : sxN) : Nat := match a with
  | (.inl n) => n
  | (.inr (.inl (s, hi))) => (hi - (W.1[s]?).getD 0).toNat
  | (.inr (.inr (s, lo))) => ((W.1[s]?).getD 0 - lo).toNat
def sx_cmp (strict : Bool) (E : sxE) (sl : List (Option sxV)) (a : sxN) (m : sxM) : Bool := match a, m with
  | (.inl n), (.inl k) => if strict then decide (k < n) else decide (k ≤ n)
  | (.inr (.inl (s, hi))), (.inr (.inl (j, hi'))) => (match sx_ld sl j with
    | some ((.inl (t, c))) => (match E.1[t]? with
      | some b => decide (s = t) && decide (hi = hi') && (if strict then decide (1 ≤ c) else decide (0 ≤ c)) && decide (b.2 + c ≤ hi)
      | none => false)
    | _ => false)
  | (.inr (.inr (s, lo))), (.inr (.inr (j, lo'))) => (match sx_ld sl j with
    | some ((.inl (t, c))) => (match E.1[t]? with
      | some b => decide (s = t) && decide (lo = lo') && (if strict then decide (c ≤ -1) else decide (c ≤ 0)) && decide (lo ≤ b.1 + c)
      | none => false)
    | _ => false)
  | _, _ => false
def sx_dec (E : sxE) (sl : List (Option sxV)) (src : Option (sxN × sxN × sxN)) (K : sxK) : Bool := match src with
  | none => true
  | some a => sx_cmp true E sl a.1 K.2.2.1 || (sx_cmp false E sl a.1 K.2.2.1 && (sx_cmp true E sl a.2.1 K.2.2.2.1 || (sx_cmp false E sl a.2.1 K.2.2.2.1 && sx_cmp true E sl a.2.2 K.2.2.2.2)))
def sx_tr (q : sxQ) (pc : Nat) : Option (sxC × Option (sxN × sxN × sxN) × sxK) := match q.2.2.2 with
  | some c => (match c.1.2.2.2.2.2.2.2.2.find? (fun K => K.1 == pc) with
    | some K => some (c.1, c.2, K)
    | none => none)
  | none => none
def sx_atk (c : sxC) (src : Option (sxN × sxN × sxN)) (K : sxK) (sl : List (Option sxV)) (st : List sxV) (E : sxE) : Bool := st.isEmpty && sx_lfit (sx_pe c.2.1 sx_E0).1 E sl K.2.1 0 && sx_dec E sl src K
abbrev sxO : Type := List (Option sxV × sxE)
def sx_nxt (q : sxQ) (F : Nat → List (Option sxV) → List sxV → sxE → Option sxO) (pc : Nat) (sl : List (Option sxV)) (st : List sxV) (E : sxE) : Option sxO := match sx_tr q pc with
  | some t => if sx_atk t.1 t.2.1 t.2.2 sl st E = true then some [] else none
  | none => F pc sl st E
def sx_all {α β : Type} (f : α → Option (List β)) : List α → Option (List β)
  | [] => some []
  | x :: xs => match f x, sx_all f xs with
    | some a, some b => some (a ++ b)
    | _, _ => none
def sx_pfit (E : sxE) : List sxV → List sxF → Bool
  | [], [] => true
  | x :: xs, f :: fs => sx_wok E x f && sx_pfit E xs fs
  | _, _ => false
/-- does the measure of c at these arguments lie below the walk's -/
def sx_mlt (q : sxQ) (c : sxC) (xs : List sxV) (E : sxE) : Bool := if c.2.2.2.2.2.1 = 0 then decide (c.2.2.2.2.1 < q.2.1) else (match xs[c.2.2.2.2.2.2.1]? with
  | some x => (match sx_b E x with
    | some b => decide (c.2.2.2.2.1 + c.2.2.2.2.2.1 * (c.2.2.2.2.2.2.2.1 - b.1).toNat < q.2.1) || (match x, q.2.2.1 with
      | (.inl (s, d)), some m => decide (m.1 = c.2.2.2.2.2.1) && decide (m.2.1 = s) && decide (m.2.2 = c.2.2.2.2.2.2.2.1) && decide (b.2 ≤ c.2.2.2.2.2.2.2.1) && decide ((c.2.2.2.2.1 : Int) < (q.2.1 : Int) + (c.2.2.2.2.2.1 : Int) * d)
      | _, _ => false)
    | none => false)
  | none => false)
def sx_kp (md : List (Nat × Nat)) (E : sxE) : sxE := (E.1, E.2.1, E.2.2.1, E.2.2.2.1.filter (fun p => match E.2.2.1[p.1.1]? with
  | some b => !(md.elem (b.1, p.1.2 + 1)) && !(md.elem (b.1, 0))
  | none => false), E.2.2.2.2)
def sx_con (T : sxT) (q : sxQ) (j : Nat) (xs : List sxV) (E : sxE) : Option sxC := (T.2.1 ++ T.2.2.1).find? (fun c => decide (c.1 = j) && sx_pfit E xs c.2.1 && sx_mlt q c xs E && c.2.2.2.1.all (fun p => q.1.elem p))
def sx_push (post : Option sxF) (r : List sxV) (E : sxE) : List sxV × sxE := match post with
  | none => (r, E)
  | some f => ((sx_new E f).1 :: r, (sx_new E f).2)
def sx_go (T : sxT) (U : sxU) : Nat → sxQ → Nat → Nat → List (Option sxV) → List sxV → sxE → Option sxO
  | 0, _, _, _, _, _, _ => none
  | n + 1, q, j, pc, sl, st, E => match U.1.1.1 j pc with
    | none => none
    | some I => match rf_kd I.1 with
      | 0 => (sx_ar I.1 st E).bind (fun r => sx_nxt q (sx_go T U n q j) (pc + 1) sl r.1 r.2)
      | 1 => (sx_lo I.1 sl st E).bind (fun r => sx_nxt q (sx_go T U n q j) (pc + rf_len I.1) sl r.1 r.2)
      | 2 => (sx_so I.1 (U.1.1.2.1 j).2.2.1 sl st E).bind (fun r => sx_nxt q (sx_go T U n q j) (pc + rf_len I.1) r.1 r.2.1 r.2.2)
      | 3 => (sx_br I.1 I.2 pc st E).bind (fun r => sx_all (fun o => sx_nxt q (sx_go T U n q j) o.1 sl o.2.1 o.2.2) r)
      | 4 => (sx_hp U q.1 I.1 I.2 st E).bind (fun r => sx_nxt q (sx_go T U n q j) (pc + rf_len I.1) sl r.1 r.2)
      | 5 => if 10 ≤ (I.2.headD (0, 0)).1 then (sx_bi U q.1 (I.2.headD (0, 0)).1 st E).bind (fun r => sx_nxt q (sx_go T U n q j) (pc + 3) sl r.1 r.2) else (sx_ca U I.1 I.2 st E).bind (fun a => if (sx_args a.2.1).length ≤ (U.1.1.2.1 a.1).2.2.1 ∧ (U.1.1.2.1 a.1).2.2.1 + 19 ≤ T.2.2.2 then (match T.1.find? (fun p => p.1 == a.1) with
        | some p => if p.2 < q.2.1 then (sx_go T U n (q.1, p.2, none, none) a.1 0 (sx_frm a.2.1 (U.1.1.2.1 a.1).2.2.1) [] E).bind (fun outs => sx_all (fun o => sx_nxt q (sx_go T U n q j) (pc + 3) sl (o.1.toList ++ a.2.2) o.2) outs) else none
        | none => (sx_con T q a.1 a.2.1 E).bind (fun c => sx_nxt q (sx_go T U n q j) (pc + 3) sl (sx_push c.2.2.1 a.2.2 (sx_kp c.2.2.2.1 E)).1 (sx_push c.2.2.1 a.2.2 (sx_kp c.2.2.2.1 E)).2)) else none)
      | 6 => (sx_rt I.1 (U.1.1.2.1 j).2.2.2 st E).bind (fun v => some [(v, E)])
      | 7 => (sx_po I.2 st E).bind (fun r => sx_nxt q (sx_go T U n q j) (pc + rf_len I.1) sl r.1 r.2)
      | _ => none
def sx_post (post : Option sxF) (o : Option sxV × sxE) : Bool := match post, o.1 with
  | none, none => true
  | some f, some x => sx_wok o.2 x f
  | _, _ => false
def sx_mcq (c : sxC) : Option (Nat × Nat × Int) := match (sx_pe c.2.1 sx_E0).1[c.2.2.2.2.2.2.1]? with
  | some ((.inl (s, d))) => if d = 0 then some (c.2.2.2.2.2.1, s, c.2.2.2.2.2.2.2.1) else none
  | _ => none
def sx_ends (c : sxC) (o : Option sxO) : Bool := match o with
  | some outs => outs.all (sx_post c.2.2.1)
  | none => false
def sx_ckk (T : sxT) (U : sxU) (fuel : Nat) (c : sxC) (K : sxK) : Bool := match sx_res (sx_kl (sx_pe c.2.1 sx_E0).1 K.2.1 (sx_pe c.2.1 sx_E0).2).1 K.2.2.1, sx_res (sx_kl (sx_pe c.2.1 sx_E0).1 K.2.1 (sx_pe c.2.1 sx_E0).2).1 K.2.2.2.1, sx_res (sx_kl (sx_pe c.2.1 sx_E0).1 K.2.1 (sx_pe c.2.1 sx_E0).2).1 K.2.2.2.2 with
  | some a, some b, some d => sx_ends c (sx_go T U fuel (c.2.2.2.1, c.2.2.2.2.1, sx_mcq c, some (c, some (a, b, d))) c.1 K.1 (sx_kl (sx_pe c.2.1 sx_E0).1 K.2.1 (sx_pe c.2.1 sx_E0).2).1 [] (sx_kl (sx_pe c.2.1 sx_E0).1 K.2.1 (sx_pe c.2.1 sx_E0).2).2)
  | _, _, _ => false
/-- the contract is kept -/
def sx_ckc (T : sxT) (U : sxU) (fuel : Nat) (c : sxC) : Bool := sx_ends c (sx_go T U fuel (c.2.2.2.1, c.2.2.2.2.1, sx_mcq c, some (c, none)) c.1 0 (sx_frm (sx_pe c.2.1 sx_E0).1 (U.1.1.2.1 c.1).2.2.1) [] (sx_pe c.2.1 sx_E0).2) && c.2.2.2.2.2.2.2.2.all (sx_ckk T U fuel c) && decide (1 ≤ c.2.2.2.2.1) && (decide (c.2.2.2.2.2.1 = 0) || (sx_mcq c).isSome)
def sx_ck (T : sxT) (U : sxU) (fuel : Nat) : Bool := T.2.1.all (sx_ckc T U fuel) && T.1.all (fun p => decide (1 ≤ p.2))
/-! the walk is sound: its pieces -/
section SXA
variable {U : sxU} {W : sxW} {E : sxE} {M M' M0 : rf_M} {sst : List sxV} {st : List Value} {md : List (Nat × Nat)}
theorem sx_vs_len : ∀ {sst : List sxV} {st : List Value}, sx_vs W sst st → st.length = sst.length
  | [], [], _ => rfl
  | _ :: _, _ :: _, h => by rw [List.length_cons, List.length_cons, sx_vs_len h.2]
  | [], _ :: _, h => h.elim
  | _ :: _, [], h => h.elim
theorem sx_vs_app : ∀ {xs : List sxV} {vs : List Value} {ys : List sxV} {ws : List Value}, sx_vs W xs vs → sx_vs W ys ws → sx_vs W (xs ++ ys) (vs ++ ws)
  | [], [], _, _, _, h => h
  | _ :: _, _ :: _, _, _, h, h2 => ⟨h.1, sx_vs_app h.2 h2⟩
  | [], _ :: _, _, _, h, _ => h.elim
  | _ :: _, [], _, _, h, _ => h.elim
theorem sx_vs_rev : ∀ {xs : List sxV} {vs : List Value}, sx_vs W xs vs → sx_vs W xs.reverse vs.reverse
  | [], [], _ => trivial
  | _ :: _, _ :: _, h => by
    rw [List.reverse_cons, List.reverse_cons]
    exact sx_vs_app (sx_vs_rev h.2) ⟨h.1, trivial⟩
  | [], _ :: _, h => h.elim
  | _ :: _, [], h => h.elim
theorem sx_vs_drop : ∀ (n : Nat) {xs : List sxV} {vs : List Value}, sx_vs W xs vs → sx_vs W (xs.drop n) (vs.drop n)
  | 0, _, _, h => h
  | _ + 1, [], [], _ => trivial
  | n + 1, _ :: _, _ :: _, h => sx_vs_drop n h.2
  | _ + 1, [], _ :: _, h => h.elim
  | _ + 1, _ :: _, [], h => h.elim
theorem sx_vs_take : ∀ (n : Nat) {xs : List sxV} {vs : List Value}, sx_vs W xs vs → sx_vs W (xs.take n) (vs.take n)
  | 0, _, _, _ => trivial
  | _ + 1, [], [], _ => trivial
  | n + 1, _ :: _, _ :: _, h => ⟨h.1, sx_vs_take n h.2⟩
  | _ + 1, [], _ :: _, h => h.elim
  | _ + 1, _ :: _, [], h => h.elim
theorem sx_cao {J : Instr} {aux : List (Int × Nat)} {a : Nat × List sxV × List sxV} (hE : sx_e U W E M) (hs : sx_vs W sst st) (h : sx_ca U J aux sst E = some a) : ∃ as r, rf_ca U.1.1 J aux st (M, U.1.2.2.2.1) = some (a.1, as, r) ∧ sx_vs W a.2.1 as ∧ sx_vs W a.2.2 r := by
  unfold sx_ca at h
  split at h
  · rename_i q tg
    split at h
    · split at h
      · rename_i x r hd
        have hdr := sx_vs_drop q.2 hs
        rw [hd] at hdr
        cases hst : st.drop q.2 with
        | nil => rw [hst] at hdr; exact hdr.elim
        | cons v r' =>
          rw [hst] at hdr
          obtain ⟨h1, h2⟩ := hdr
          split at h
          · rename_i s g ci fs hob
            obtain ⟨b, rfl, b1, b2, b3, b4⟩ := sx_obo hE hob h1
            dsimp only at b3
            split at h
            · rename_i j hj
              split at h
              · rename_i hc
                cases h
                refine ⟨.ref b :: (st.take q.2).reverse, r', ?_, ⟨h1, sx_vs_rev (sx_vs_take _ hs)⟩, h2⟩
                unfold rf_ca
                dsimp only
                rw [hst]
                dsimp only
                rw [b3.ob]
                dsimp only
                rw [b3.ky, hj]
                dsimp only
                rw [if_pos ⟨by rw [sx_vs_len hs]; exact hc.1, by rw [sx_ctso h2]; exact hc.2⟩]
              · cases h
            · cases h
          · cases h
      · cases h
    · split at h
      · rename_i z j
        split at h
        · rename_i hc
          cases h
          refine ⟨(st.take q.2).reverse, st.drop q.2, ?_, sx_vs_rev (sx_vs_take _ hs), sx_vs_drop _ hs⟩
          unfold rf_ca
          dsimp only
          rw [if_pos ⟨by rw [sx_vs_len hs]; exact hc.1, by rw [sx_ctso (sx_vs_drop _ hs)]; exact hc.2⟩]
        · cases h
      · cases h
    · cases h
  · cases h
theorem sx_argso : ∀ {xs : List sxV} {vs : List Value} (i : Nat), sx_vs W xs vs → ∀ j x, sx_ld (sx_args xs) j = some x → ∃ v, rf_ld (lv_args i vs) (i + j) = some v ∧ sx_v W x v
  | [], [], _, _, j, x, h => by
    unfold sx_ld sx_args at h
    simp at h
  | y :: xs, v :: vs, i, hv, j, x, h => by
    have hc := sx_cto hv.1
    unfold sx_args at h
    unfold lv_args
    split at h
    · rename_i h2
      rw [if_pos (by rw [hc]; exact h2)]
      match j, h with
      | 0, h =>
        cases h
        exact ⟨v, rf_ld_hd _ _ _, hv.1⟩
      | 1, h => cases h
      | t + 2, h =>
        obtain ⟨w, w1, w2⟩ := sx_argso (i + 2) hv.2 t x h
        refine ⟨w, ?_, w2⟩
        rw [rf_ld_tl _ _ (by omega), ← w1]
        congr 1
        omega
    · rename_i h2
      rw [if_neg (by rw [hc]; exact h2)]
      match j, h with
      | 0, h =>
        cases h
        exact ⟨v, rf_ld_hd _ _ _, hv.1⟩
      | t + 1, h =>
        obtain ⟨w, w1, w2⟩ := sx_argso (i + 1) hv.2 t x h
        refine ⟨w, ?_, w2⟩
        rw [rf_ld_tl _ _ (by omega), ← w1]
        congr 1
        omega
  | [], _ :: _, _, h, _, _, _ => h.elim
  | _ :: _, [], _, h, _, _, _ => h.elim
theorem sx_argl : ∀ {xs : List sxV} {vs : List Value}, sx_vs W xs vs → (lg_sl vs).length = (sx_args xs).length
  | [], [], _ => rfl
  | x :: xs, v :: vs, h => by
    have hc := sx_cto h.1
    have ih := sx_argl h.2
    unfold lg_sl at ih ⊢
    have e : sx_args (x :: xs) = if sx_ct x = 2 then some x :: none :: sx_args xs else some x :: sx_args xs := rfl
    rw [List.flatMap_cons, List.length_append, ih, e]
    by_cases h2 : sx_ct x = 2
    · rw [if_pos (by rw [hc]; exact h2), if_pos h2]
      simp only [List.length_cons, List.length_nil]
      omega
    · rw [if_neg (by rw [hc]; exact h2), if_neg h2]
      simp only [List.length_cons, List.length_nil]
      omega
  | [], _ :: _, h => h.elim
  | _ :: _, [], h => h.elim
theorem sx_frmo {xs : List sxV} {vs : List Value} {nL : Nat} (h : sx_vs W xs vs) : sx_ls W (sx_frm xs nL) (lv_args 0 vs) := by
  intro j x hj
  have h2 : sx_ld (sx_args xs) j = some x := by
    unfold sx_ld sx_frm at hj
    unfold sx_ld
    by_cases hl : j < (sx_args xs).length
    · rw [List.getElem?_append_left hl] at hj
      exact hj
    · rw [List.getElem?_append_right (by omega)] at hj
      split at hj
      · rename_i y hy
        have := List.eq_of_mem_replicate (List.mem_of_getElem? hy)
        subst this
        cases hj
      · cases hj
  obtain ⟨v, v1, v2⟩ := sx_argso 0 h j x h2
  exact ⟨v, by rw [Nat.zero_add] at v1; exact v1, v2⟩
theorem sx_newf (hE : sx_e U W E M) {f : sxF} {v : Value} (hf : sx_fits U f v) : ∃ W', sx_le W W' ∧ sx_e U W' (sx_new E f).2 M ∧ sx_v W' (sx_new E f).1 v := by
  rcases f with ⟨lo, hi⟩ | (_ | ⟨g, nul⟩)
  · obtain ⟨z, rfl, z1, z2⟩ := hf; exact sx_fi hE z z1 z2
  · obtain ⟨z, rfl⟩ := hf; exact sx_flo hE z
  · obtain ⟨o, rfl, ho⟩ := hf; exact sx_frr hE o ho
def sx_fitl (U : sxU) : List sxF → List Value → Prop
  | [], [] => True
  | f :: fs, v :: vs => sx_fits U f v ∧ sx_fitl U fs vs
  | _, _ => False
theorem sx_peo : ∀ {fs : List sxF} {vs : List Value} {W : sxW} {E : sxE}, sx_e U W E M → sx_fitl U fs vs → ∃ W', sx_le W W' ∧ sx_e U W' (sx_pe fs E).2 M ∧ sx_vs W' (sx_pe fs E).1 vs
  | [], [], W, E, hE, _ => ⟨W, sx_le_rfl W, hE, trivial⟩
  | f :: fs, v :: vs, W, E, hE, h => by
    obtain ⟨W1, w1, w2, w3⟩ := sx_newf hE h.1
    obtain ⟨W2, v1, v2, v3⟩ := sx_peo w2 h.2
    exact ⟨W2, w1.trans v1, v2, w3.mono v1, v3⟩
  | [], _ :: _, _, _, _, h => h.elim
  | _ :: _, [], _, _, _, h => h.elim
theorem sx_pfito (hE : sx_e U W E M) : ∀ {xs : List sxV} {fs : List sxF} {vs : List Value}, sx_pfit E xs fs = true → sx_vs W xs vs → sx_fitl U fs vs
  | [], [], [], _, _ => trivial
  | x :: xs, f :: fs, v :: vs, h, hv => by
    unfold sx_pfit at h
    rw [Bool.and_eq_true] at h
    exact ⟨sx_woko hE hv.1 h.1, sx_pfito hE h.2 hv.2⟩
  | [], _ :: _, _, h, _ => by cases h
  | _ :: _, [], _, h, _ => by cases h
  | [], [], _ :: _, _, h => h.elim
  | _ :: _, _ :: _, [], _, h => h.elim
theorem sx_new_kn (E : sxE) (f : sxF) : (sx_new E f).2.2.2.2.1 = E.2.2.2.1 ∧ (sx_new E f).2.2.2.2.2 = E.2.2.2.2 := by rcases f with ⟨_, _⟩ | (_ | ⟨_, _⟩) <;> exact ⟨rfl, rfl⟩
theorem sx_pe_kn : ∀ (fs : List sxF) (E : sxE), (sx_pe fs E).2.2.2.2.1 = E.2.2.2.1 ∧ (sx_pe fs E).2.2.2.2.2 = E.2.2.2.2
  | [], _ => ⟨rfl, rfl⟩
  | f :: fs, E => by
    obtain ⟨h1, h2⟩ := sx_pe_kn fs (sx_new E f).2
    obtain ⟨h3, h4⟩ := sx_new_kn E f
    exact ⟨h1.trans h3, h2.trans h4⟩
/-- where nothing is known of fields, the memory doesn't matter -/
theorem sx_e_mem (hE : sx_e U W E M) (hk : E.2.2.2.1 = []) (M' : rf_M) : sx_e U W E M' := ⟨hE.1, hE.2.1, hE.2.2.1, hE.2.2.2.1, hE.2.2.2.2.1, hE.2.2.2.2.2.1, (fun s k x hx => by rw [hk] at hx; cases hx), hE.2.2.2.2.2.2.2⟩
theorem sx_e0 (M : rf_M) : sx_e U ([], [], []) sx_E0 M := ⟨rfl, rfl, rfl, (fun s b h => by cases h), (fun s b h => by cases h), (fun s b h => by cases h), (fun s k x h => by cases h), (fun t s h => by cases h)⟩
theorem sx_v_det {x : sxV} {v w : Value} (h1 : sx_v W x v) (h2 : sx_v W x w) : v = w := by
  rcases x with ⟨s, c⟩ | c | s | (_ | s)
  · obtain ⟨z, y, rfl, e1, e2⟩ := h1
    obtain ⟨z', y', rfl, e3, e4⟩ := h2
    rw [e1] at e3; cases e3
    exact congrArg Value.int (Int32.toInt_inj.mp (e2.trans e4.symm))
  · obtain ⟨z, rfl, e2⟩ := h1
    obtain ⟨z', rfl, e4⟩ := h2
    exact congrArg Value.int (Int32.toInt_inj.mp (e2.trans e4.symm))
  · obtain ⟨y, rfl, e1⟩ := h1
    obtain ⟨y', rfl, e3⟩ := h2
    rw [e1] at e3; cases e3; rfl
  · cases h1; cases h2; rfl
  · obtain ⟨y, rfl, e1⟩ := h1
    obtain ⟨y', rfl, e3⟩ := h2
    rw [e1] at e3; cases e3; rfl
theorem sx_eqo {x y : sxV} (h : sx_eq x y = true) : x = y := by
  unfold sx_eq at h
  split at h
  · simp only [Bool.and_eq_true, decide_eq_true_eq] at h
    rw [h.1, h.2]
  · simp only [decide_eq_true_eq] at h; rw [h]
  · simp only [decide_eq_true_eq] at h; rw [h]
  · cases h
theorem sx_vs_get : ∀ {xs : List sxV} {vs : List Value} {p : Nat} {x : sxV}, sx_vs W xs vs → xs[p]? = some x → ∃ v, vs[p]? = some v ∧ sx_v W x v
  | x0 :: xs, v :: vs, 0, x, h, hp => by cases hp; exact ⟨v, rfl, h.1⟩
  | x0 :: xs, v :: vs, p + 1, x, h, hp => sx_vs_get (xs := xs) (vs := vs) (p := p) h.2 hp
  | [], [], _, _, _, hp => by cases hp
  | [], _ :: _, _, _, h, _ => h.elim
  | _ :: _, [], _, _, h, _ => h.elim
/-- at a place where walks end: the locals as they are there, with ghosts of their own -/
theorem sx_klo {W0 : sxW} {ps : List sxV} {args : List Value} {sl : List (Option sxV)} {ls : rf_L} (hps : sx_vs W0 ps args) (hw0 : sx_le W0 W) (hE : sx_e U W E M) (hl : sx_ls W sl ls) : ∀ (loc : List (Option (Nat ⊕ sxF))) (i : Nat) (Wc : sxW) (Ec : sxE), sx_le W0 Wc → sx_e U Wc Ec M → sx_lfit ps E sl loc i = true → ∃ W', sx_le Wc W' ∧ sx_e U W' (sx_kl ps loc Ec).2 M ∧ ∀ j x, sx_ld (sx_kl ps loc Ec).1 j = some x → ∃ v, rf_ld ls (i + j) = some v ∧ sx_v W' x v := by
  intro loc
  induction loc with
  | nil =>
    intro i Wc Ec _ hEc _
    refine ⟨Wc, sx_le_rfl Wc, hEc, fun j x hj => ?_⟩
    unfold sx_ld sx_kl at hj
    simp at hj
  | cons o t ih =>
    intro i Wc Ec hc hEc hf
    have tail : ∀ (W' : sxW) (y : Option sxV) (sl' : List (Option sxV)), (∀ x, y = some x → ∃ v, rf_ld ls i = some v ∧ sx_v W' x v) → (∀ j x, sx_ld sl' j = some x → ∃ v, rf_ld ls (i + 1 + j) = some v ∧ sx_v W' x v) → ∀ j x, sx_ld (y :: sl') j = some x → ∃ v, rf_ld ls (i + j) = some v ∧ sx_v W' x v := by
      intro W' y sl' h1 h2 j x hj
      match j, hj with
      | 0, hj => exact h1 x hj
      | j + 1, hj =>
        obtain ⟨v, v1, v2⟩ := h2 j x hj
        exact ⟨v, by rw [← v1]; congr 1; omega, v2⟩
    match o with
    | none =>
      obtain ⟨W', h1, h2, h3⟩ := ih (i + 1) Wc Ec hc hEc hf
      exact ⟨W', h1, h2, tail W' none _ (fun x h => by cases h) h3⟩
    | some (.inl p) =>
      unfold sx_lfit at hf
      rw [Bool.and_eq_true] at hf
      obtain ⟨W', h1, h2, h3⟩ := ih (i + 1) Wc Ec hc hEc hf.2
      refine ⟨W', h1, h2, tail W' ps[p]? _ (fun x hx => ?_) h3⟩
      have hf1 := hf.1
      split at hf1
      · rename_i y z hy hz
        rw [hx] at hz
        cases hz
        have e := sx_eqo hf1
        subst e
        obtain ⟨v, v1, v2⟩ := hl i y hy
        obtain ⟨v0, u1, u2⟩ := sx_vs_get hps hx
        have := sx_v_det v2 (u2.mono hw0)
        subst this
        exact ⟨v, v1, u2.mono (hc.trans h1)⟩
      · cases hf1
    | some (.inr f) =>
      unfold sx_lfit at hf
      rw [Bool.and_eq_true] at hf
      have hf1 := hf.1
      split at hf1
      · rename_i y hy
        obtain ⟨v, v1, v2⟩ := hl i y hy
        obtain ⟨W1, w1, w2, w3⟩ := sx_newf hEc (sx_woko hE v2 hf1)
        obtain ⟨W', h1, h2, h3⟩ := ih (i + 1) W1 (sx_new Ec f).2 (hc.trans w1) w2 hf.2
        refine ⟨W', w1.trans h1, h2, tail W' _ _ (fun x hx => ?_) h3⟩
        cases hx
        exact ⟨v, v1, w3.mono h1⟩
      · cases hf1
theorem sx_cmpo {b : Bool} {sl slK : List (Option sxV)} {ls : rf_L} {W' : sxW} {a a' : sxN} {m : sxM} (hE : sx_e U W E M) (hl : sx_ls W sl ls) (hl' : sx_ls W' slK ls) (h : sx_cmp b E sl a m = true) (hr : sx_res slK m = some a') : if b = true then sx_nv W' a' < sx_nv W a else sx_nv W' a' ≤ sx_nv W a := by
  unfold sx_cmp at h
  split at h
  · cases hr
    cases b
    · simpa [sx_nv] using h
    · simpa [sx_nv] using h
  · rename_i s hi j hi'
    split at h
    · rename_i t c hj
      split at h
      · rename_i bb hb
        simp only [Bool.and_eq_true, decide_eq_true_eq] at h
        obtain ⟨⟨⟨rfl, rfl⟩, h3⟩, h4⟩ := h
        unfold sx_res at hr
        dsimp only at hr
        split at hr
        · rename_i s' c' hj'
          split at hr
          · rename_i hc0
            cases hr
            subst hc0
            obtain ⟨v, v1, z, y, rfl, v2, v3⟩ := hl j _ hj
            obtain ⟨v', u1, z', y', e, u2, u3⟩ := hl' j _ hj'
            rw [v1] at u1
            cases u1
            cases e
            obtain ⟨y0, g1, g2, g3⟩ := hE.2.2.2.1 _ _ hb
            rw [v2] at g1
            cases g1
            unfold sx_nv
            dsimp only
            rw [u2, v2]
            simp only [Option.getD_some]
            cases b
            · simp only [Bool.false_eq_true, if_false, decide_eq_true_eq] at h3 ⊢
              omega
            · simp only [if_true, decide_eq_true_eq] at h3 ⊢
              omega
          · cases hr
        · cases hr
      · cases h
    · cases h
  · rename_i s lo j lo'
    split at h
    · rename_i t c hj
      split at h
      · rename_i bb hb
        simp only [Bool.and_eq_true, decide_eq_true_eq] at h
        obtain ⟨⟨⟨rfl, rfl⟩, h3⟩, h4⟩ := h
        unfold sx_res at hr
        dsimp only at hr
        split at hr
        · rename_i s' c' hj'
          split at hr
          · rename_i hc0
            cases hr
            subst hc0
            obtain ⟨v, v1, z, y, rfl, v2, v3⟩ := hl j _ hj
            obtain ⟨v', u1, z', y', e, u2, u3⟩ := hl' j _ hj'
            rw [v1] at u1
            cases u1
            cases e
            obtain ⟨y0, g1, g2, g3⟩ := hE.2.2.2.1 _ _ hb
            rw [v2] at g1
            cases g1
            unfold sx_nv
            dsimp only
            rw [u2, v2]
            simp only [Option.getD_some]
            cases b
            · simp only [Bool.false_eq_true, if_false, decide_eq_true_eq] at h3 ⊢
              omega
            · simp only [if_true, decide_eq_true_eq] at h3 ⊢
              omega
          · cases hr
        · cases hr
      · cases h
    · cases h
  · cases h
def sx_lt3 (a b : Nat × Nat × Nat) : Prop := a.1 < b.1 ∨ (a.1 ≤ b.1 ∧ (a.2.1 < b.2.1 ∨ (a.2.1 ≤ b.2.1 ∧ a.2.2 < b.2.2)))
theorem sx_ind3 {P : Nat × Nat × Nat → Prop} (h : ∀ x, (∀ y, sx_lt3 y x → P y) → P x) : ∀ x, P x := by
  have key : ∀ a b c, P (a, b, c) := by
    intro a
    induction a using Nat.strongRecOn with
    | _ a iha =>
      intro b
      induction b using Nat.strongRecOn with
      | _ b ihb =>
        intro c
        induction c using Nat.strongRecOn with
        | _ c ihc =>
          refine h _ (fun y hy => ?_)
          obtain ⟨y1, y2, y3⟩ := y
          unfold sx_lt3 at hy
          dsimp only at hy
          by_cases e1 : y1 < a
          · exact iha y1 e1 y2 y3
          · have e1 : y1 = a := by omega
            subst e1
            by_cases e2 : y2 < b
            · exact ihb y2 e2 y3
            · have e2 : y2 = b := by omega
              subst e2
              exact ihc y3 (by omega)
  exact fun x => key x.1 x.2.1 x.2.2
theorem sx_all_mem {α β : Type} {f : α → Option (List β)} : ∀ {l : List α} {r : List β}, sx_all f l = some r → ∀ x ∈ l, ∃ a, f x = some a ∧ ∀ b ∈ a, b ∈ r
  | [], _, _, x, hx => by cases hx
  | y :: l, r, h, x, hx => by
    unfold sx_all at h
    split at h
    · rename_i a b ha hb
      cases h
      rcases List.mem_cons.mp hx with e | e
      · subst e
        exact ⟨a, ha, fun z hz => List.mem_append_left _ hz⟩
      · obtain ⟨a', g1, g2⟩ := sx_all_mem hb x e
        exact ⟨a', g1, fun z hz => List.mem_append_right _ (g2 z hz)⟩
    · cases h
end SXA
/-! THE WALK IS SOUND -/
def sx_mv (c : sxC) (args : List Value) : Nat := c.2.2.2.2.1 + c.2.2.2.2.2.1 * (match args[c.2.2.2.2.2.2.1]? with
  | some (.int z) => (c.2.2.2.2.2.2.2.1 - z.toInt).toNat
  | _ => 0)
def sx_rm (T : sxT) (d : Nat × Nat) (μ : Nat) : Prop := μ ≤ d.1 ∧ μ * T.2.2.2 + 30 ≤ d.2
def sx_pok (U : sxU) (post : Option sxF) (v : Option Value) : Prop := match post, v with
  | none, none => True
  | some f, some w => sx_fits U f w
  | _, _ => False
def sx_cok (T : sxT) (U : sxU) (c : sxC) (args : List Value) : Prop := ∀ (M : rf_M) (d : Nat × Nat), sx_rm T d (sx_mv c args) → sx_in U M → sx_fitl U c.2.1 args → gx U.1.1 d c.1 0 (lv_args 0 args) [] (M, U.1.2.2.2.1) (fun v h' => ∃ M', h' = (M', U.1.2.2.2.1) ∧ sx_in U M' ∧ sx_fr U c.2.2.2.1 M M' ∧ sx_pok U c.2.2.1 v)
def sx_mu (q : sxQ) (W : sxW) (μ : Nat) : Prop := match q.2.2.1 with
  | none => μ = q.2.1
  | some m => ∃ y, W.1[m.2.1]? = some y ∧ μ = q.2.1 + m.1 * (m.2.2 - y).toNat
section SXB
variable {T : sxT} {U : sxU} {W W' : sxW} {E : sxE} {M M' M0 : rf_M} {sst : List sxV} {st : List Value}
theorem sx_mu.mono {q : sxQ} {μ : Nat} (hw : sx_le W W') (h : sx_mu q W μ) : sx_mu q W' μ := by
  unfold sx_mu at h ⊢
  split
  · rename_i e
    rw [e] at h
    exact h
  · rename_i m e
    rw [e] at h
    obtain ⟨y, h1, h2⟩ := h
    exact ⟨y, hw.1 _ _ h1, h2⟩
theorem sx_mu.base {q : sxQ} {μ : Nat} (h : sx_mu q W μ) : q.2.1 ≤ μ := by
  unfold sx_mu at h
  split at h
  · omega
  · obtain ⟨y, h1, h2⟩ := h
    rw [h2]
    exact Nat.le_add_right _ _
theorem sx_mlto {q : sxQ} {c : sxC} {xs : List sxV} {args : List Value} {μ : Nat} (hE : sx_e U W E M) (hv : sx_vs W xs args) (hm : sx_mu q W μ) (h : sx_mlt q c xs E = true) : sx_mv c args < μ := by
  unfold sx_mlt at h
  unfold sx_mv
  split at h
  · rename_i hc
    rw [hc, Nat.zero_mul, Nat.add_zero]
    have := hm.base
    simp only [decide_eq_true_eq] at h
    omega
  · split at h
    · rename_i x hx
      obtain ⟨v, v1, v2⟩ := sx_vs_get hv hx
      split at h
      · rename_i b hb
        obtain ⟨z, rfl, z1, z2⟩ := sx_bo hE hb v2
        rw [v1]
        dsimp only
        rw [Bool.or_eq_true] at h
        rcases h with h | h
        · simp only [decide_eq_true_eq] at h
          have h1 : (c.2.2.2.2.2.2.2.1 - z.toInt).toNat ≤ (c.2.2.2.2.2.2.2.1 - b.1).toNat := by omega
          have h2 := Nat.mul_le_mul_left c.2.2.2.2.2.1 h1
          have := hm.base
          omega
        · split at h
          · rename_i s d m hq
            simp only [Bool.and_eq_true, decide_eq_true_eq] at h
            obtain ⟨⟨⟨⟨h1, h2⟩, h3⟩, h4⟩, h5⟩ := h
            unfold sx_mu at hm
            rw [hq] at hm
            obtain ⟨y, y1, y2⟩ := hm
            obtain ⟨z', y', e1, e2, e3⟩ := v2
            cases e1
            rw [h2, e2] at y1
            have e0 : y = y' := (Option.some.inj y1).symm
            rw [y2, h1, h3, e0]
            have e4 : (c.2.2.2.2.2.2.2.1 - z.toInt).toNat = c.2.2.2.2.2.2.2.1 - z.toInt := Int.toNat_of_nonneg (by omega)
            have e5 : c.2.2.2.2.2.2.2.1 - y' ≤ ((c.2.2.2.2.2.2.2.1 - y').toNat : Int) := Int.self_le_toNat _
            have e6 : (c.2.2.2.2.2.1 : Int) * (c.2.2.2.2.2.2.2.1 - y') ≤ (c.2.2.2.2.2.1 : Int) * ((c.2.2.2.2.2.2.2.1 - y').toNat : Int) := Int.mul_le_mul_of_nonneg_left e5 (Int.natCast_nonneg _)
            have e7 : (c.2.2.2.2.2.1 : Int) * (c.2.2.2.2.2.2.2.1 - z.toInt) = (c.2.2.2.2.2.1 : Int) * (c.2.2.2.2.2.2.2.1 - y') - (c.2.2.2.2.2.1 : Int) * d := by
              rw [e3, ← Int.mul_sub]
              congr 1
              omega
            have : ((c.2.2.2.2.1 + c.2.2.2.2.2.1 * (c.2.2.2.2.2.2.2.1 - z.toInt).toNat : Nat) : Int) < ((q.2.1 + c.2.2.2.2.2.1 * (c.2.2.2.2.2.2.2.1 - y').toNat : Nat) : Int) := by
              push_cast
              rw [e4, e7]
              omega
            exact_mod_cast this
          · cases h
      · cases h
    · cases h
theorem sx_kpo {md : List (Nat × Nat)} (hE : sx_e U W E M) (hfr : sx_fr U md M M') : sx_e U W (sx_kp md E) M' := by
  refine ⟨hE.1, hE.2.1, hE.2.2.1, hE.2.2.2.1, hE.2.2.2.2.1, hE.2.2.2.2.2.1, ?_, hE.2.2.2.2.2.2.2⟩
  intro s k x hx
  obtain ⟨h1, h2⟩ := List.mem_filter.mp hx
  obtain ⟨a, ci, a1, a2, a3, a4⟩ := hE.2.2.2.2.2.2.1 s k x h1
  refine ⟨a, ci, a1, a2, a3, ?_⟩
  dsimp only at h2
  split at h2
  · rename_i b hb
    obtain ⟨o, o1, o2⟩ := hE.2.2.2.2.2.1 _ _ hb
    rw [a1] at o1
    cases o1
    have o2 : sx_rc U b.1 a := o2
    simp only [Bool.and_eq_true, Bool.not_eq_true'] at h2
    have hs : sx_same M M' a k := hfr a k (Or.inr (by
      rw [o2.2.2]
      constructor
      · intro hm
        have := List.elem_iff.mpr hm
        rw [this] at h2
        cases h2.2
      · intro hm
        have := List.elem_iff.mpr hm
        rw [this] at h2
        cases h2.1))
    rw [sx_rd_same hs]
    exact a4
  · cases h2
theorem sx_fr_sub {md md' : List (Nat × Nat)} (h0 : sx_fr U md M0 M) (h1 : sx_fr U md' M M') (hs : ∀ p ∈ md', p ∈ md) : sx_fr U md M0 M' := by
  intro a k h
  have g0 := h0 a k h
  have g1 := h1 a k (h.imp id (fun z => ⟨fun w => z.1 (hs _ w), fun w => z.2 (hs _ w)⟩))
  exact ⟨g1.1.trans g0.1, g1.2.1.trans g0.2.1, g1.2.2.trans g0.2.2⟩
theorem sx_pusho {post : Option sxF} {v : Option Value} {r : List sxV} {rc : List Value} (hE : sx_e U W E M) (hr : sx_vs W r rc) (hp : sx_pok U post v) : ∃ W', sx_le W W' ∧ sx_e U W' (sx_push post r E).2 M ∧ sx_vs W' (sx_push post r E).1 (v.toList ++ rc) := by
  unfold sx_pok at hp
  split at hp
  · exact ⟨W, sx_le_rfl W, hE, hr⟩
  · obtain ⟨W', w1, w2, w3⟩ := sx_newf hE hp
    exact ⟨W', w1, w2, w3, hr.mono w1⟩
  · exact hp.elim
theorem sx_ovo {o : Option sxV} {v : Option Value} {r : List sxV} {rc : List Value} (h : sx_ov W o v) (hr : sx_vs W r rc) : sx_vs W (o.toList ++ r) (v.toList ++ rc) := by
  unfold sx_ov at h
  split at h
  · exact hr
  · exact ⟨h, hr⟩
  · exact h.elim
theorem sx_room {d : Nat × Nat} {μ μ' ml : Nat} (h : sx_rm T d μ) (hl : μ' < μ) (hm : ml + 19 ≤ T.2.2.2) : 1 ≤ d.1 ∧ ml + 19 ≤ d.2 ∧ sx_rm T (d.1 - 1, d.2 - (ml + 19)) μ' := by
  obtain ⟨h1, h2⟩ := h
  have h3 : (μ' + 1) * T.2.2.2 ≤ μ * T.2.2.2 := Nat.mul_le_mul_right _ hl
  rw [Nat.add_mul, Nat.one_mul] at h3
  refine ⟨by omega, by omega, ?_, ?_⟩
  · dsimp only; omega
  · dsimp only; omega
set_option maxHeartbeats 1000000 in
theorem sx_goo (hinl : ∀ p ∈ T.1, 1 ≤ p.2) : ∀ (n : Nat) (q : sxQ) (j pc : Nat) (sl : List (Option sxV)) (sst : List sxV) (E : sxE) (outs : sxO), sx_go T U n q j pc sl sst E = some outs → ∀ (W : sxW) (ls : rf_L) (st : List Value) (M M0 : rf_M) (d : Nat × Nat) (Q : Option Value → rf_H → Prop) (μ : Nat), sx_ls W sl ls → sx_vs W sst st → sx_e U W E M → sx_in U M → sx_fr U q.1 M0 M → sx_mu q W μ → 1 ≤ μ → sx_rm T d μ → (∀ c ∈ T.2.1 ++ T.2.2.1, ∀ args, sx_mv c args < μ → sx_cok T U c args) →
    (∀ pc' t, sx_tr q pc' = some t → ∀ (W' : sxW) (sl' : List (Option sxV)) (sst' : List sxV) (E' : sxE) (ls' : rf_L) (st' : List Value) (M' : rf_M), sx_le W W' → sx_ls W' sl' ls' → sx_vs W' sst' st' → sx_e U W' E' M' → sx_in U M' → sx_fr U q.1 M0 M' → sx_atk t.1 t.2.1 t.2.2 sl' sst' E' = true → gx U.1.1 d j pc' ls' st' (M', U.1.2.2.2.1) Q) →
    (∀ o ∈ outs, ∀ (W' : sxW) (v : Option Value) (M' : rf_M), sx_le W W' → sx_e U W' o.2 M' → sx_in U M' → sx_fr U q.1 M0 M' → sx_ov W' o.1 v → Q v (M', U.1.2.2.2.1)) →
    gx U.1.1 d j pc ls st (M, U.1.2.2.2.1) Q := by
  intro n
  induction n with
  | zero =>
    intro q j pc sl sst E outs h
    unfold sx_go at h
    cases h
  | succ n ih =>
    intro q j pc sl sst E outs h W ls st M M0 d Q μ hl hs hE hin hfr hmu hmu1 hrm hch hcut hout
    have nx : ∀ (pc' : Nat) (sl' : List (Option sxV)) (sst' : List sxV) (E' : sxE) (outs' : sxO), sx_nxt q (sx_go T U n q j) pc' sl' sst' E' = some outs' → (∀ o ∈ outs', o ∈ outs) → ∀ (W' : sxW) (ls' : rf_L) (st' : List Value) (M' : rf_M), sx_le W W' → sx_ls W' sl' ls' → sx_vs W' sst' st' → sx_e U W' E' M' → sx_in U M' → sx_fr U q.1 M0 M' → gx U.1.1 d j pc' ls' st' (M', U.1.2.2.2.1) Q := by
      intro pc' sl' sst' E' outs' h' hsub W' ls' st' M' hw hl' hs' hE' hin' hfr'
      unfold sx_nxt at h'
      split at h'
      · rename_i t ht
        split at h'
        · rename_i ha
          exact hcut pc' t ht W' sl' sst' E' ls' st' M' hw hl' hs' hE' hin' hfr' ha
        · cases h'
      · exact ih q j pc' sl' sst' E' outs' h' W' ls' st' M' M0 d Q μ hl' hs' hE' hin' hfr' (hmu.mono hw) hmu1 hrm hch
          (fun pc'' t ht W'' sl'' sst'' E'' ls'' st'' M'' hw'' => hcut pc'' t ht W'' sl'' sst'' E'' ls'' st'' M'' (hw.trans hw''))
          (fun o ho W'' v M'' hw'' => hout o (hsub o ho) W'' v M'' (hw.trans hw''))
    unfold sx_go at h
    split at h
    · cases h
    · rename_i I hI
      obtain ⟨J, aux⟩ := I
      dsimp only at h
      split at h
      · rename_i hk
        obtain ⟨r, h1, h2⟩ := Option.bind_eq_some_iff.mp h
        obtain ⟨st', W', g1, g2, g3, g4⟩ := sx_aro hE h1 hs
        exact g0 hI hk g1 (nx _ _ _ _ _ h2 (fun _ z => z) W' ls st' M g2 (hl.mono g2) g4 g3 hin hfr)
      · rename_i hk
        obtain ⟨r, h1, h2⟩ := Option.bind_eq_some_iff.mp h
        obtain ⟨st', W', g1', g2, g3, g4⟩ := sx_loo (aux := aux) hl hE hs h1
        exact g1 hI hk rfl g1' (nx _ _ _ _ _ h2 (fun _ z => z) W' ls st' M g2 (hl.mono g2) g4 g3 hin hfr)
      · rename_i hk
        obtain ⟨r, h1, h2⟩ := Option.bind_eq_some_iff.mp h
        obtain ⟨ls', st', W', g1', g2', g3, g4, g5⟩ := sx_soo hl hE hs h1
        exact g2 hI hk rfl g1' (nx _ _ _ _ _ h2 (fun _ z => z) W' ls' st' M g2' g4 g5 g3 hin hfr)
      · rename_i hk
        obtain ⟨r, h1, h2⟩ := Option.bind_eq_some_iff.mp h
        obtain ⟨pc', st', g1', o, o1, o2, o3, o4⟩ := sx_bro hE hs h1
        obtain ⟨outs', k1, k2⟩ := sx_all_mem h2 o o1
        refine g3 hI hk g1' ?_
        rw [← o2]
        exact nx _ _ _ _ _ k1 k2 W ls st' M (sx_le_rfl W) hl o4 o3 hin hfr
      · rename_i hk
        obtain ⟨r, h1, h2⟩ := Option.bind_eq_some_iff.mp h
        obtain ⟨st', M', W', g1', g2', g3, g4', g5, g6⟩ := sx_hpo hE hin hfr hs h1
        exact g4 hI hk rfl g1' (nx _ _ _ _ _ h2 (fun _ z => z) W' ls st' M' g2' (hl.mono g2') g6 g3 g4' g5)
      · rename_i hk
        split at h
        · rename_i hkd
          obtain ⟨r, h1, h2⟩ := Option.bind_eq_some_iff.mp h
          obtain ⟨st', M', W', g1', g2', g3, g4', g5, g6⟩ := sx_bio (d := d) (by have := hrm.1; omega) (by have := hrm.2; omega) hE hin hfr hs h1
          refine gx_step hI (pc' := pc + 3) (ls' := ls) (st' := st') (h' := (M', U.1.2.2.2.1)) ?_ (nx _ _ _ _ _ h2 (fun _ z => z) W' ls st' M' g2' (hl.mono g2') g6 g3 g4' g5)
          unfold rf_ex
          simp only [hk]
          rw [if_pos hkd, g1']
          rfl
        · rename_i hkd
          obtain ⟨a, h1, h2⟩ := Option.bind_eq_some_iff.mp h
          obtain ⟨as, r, g1', g2', g3⟩ := sx_cao hE hs h1
          have hex : rf_ex U.1.1 d j pc (J, aux) ls st (M, U.1.2.2.2.1) = some (.inr (.inl (a.1, as, r))) := by
            unfold rf_ex
            simp only [hk]
            rw [if_neg hkd, g1']
            rfl
          split at h2
          · rename_i hsz
            split at h2
            · rename_i p hp
              split at h2
              · rename_i hlt
                obtain ⟨outs1, k1, k2⟩ := Option.bind_eq_some_iff.mp h2
                have hb := hmu.base
                obtain ⟨r1, r2, r3⟩ := sx_room (μ' := p.2) hrm (by omega) hsz.2
                refine gx_call hI hex ⟨r1, r2, by rw [sx_argl g2']; exact hsz.1⟩ ?_
                refine ih (q.1, p.2, none, none) a.1 0 _ [] E outs1 k1 W (lv_args 0 as) [] M M0 _ _ p.2 (sx_frmo g2') trivial hE hin hfr rfl (hinl p (List.mem_of_find?_eq_some hp)) r3 (fun c hc args hlt' => hch c hc args (by omega)) (fun pc' t ht => by cases ht) ?_
                intro o ho W' v M' hw hE' hin' hfr' hov
                obtain ⟨outs', m1, m2⟩ := sx_all_mem k2 o ho
                exact nx _ _ _ _ _ m1 m2 W' ls (v.toList ++ r) M' hw (hl.mono hw) (sx_ovo hov (g3.mono hw)) hE' hin' hfr'
              · cases h2
            · obtain ⟨c, k1, k2⟩ := Option.bind_eq_some_iff.mp h2
              have hc1 := List.mem_of_find?_eq_some k1
              have hc2 := List.find?_some k1
              simp only [Bool.and_eq_true, decide_eq_true_eq, List.all_eq_true] at hc2
              obtain ⟨⟨⟨c1, c2⟩, c3⟩, c4⟩ := hc2
              have hlt := sx_mlto hE g2' hmu c3
              obtain ⟨r1, r2, r3⟩ := sx_room hrm hlt hsz.2
              refine gx_call hI hex ⟨r1, r2, by rw [sx_argl g2']; exact hsz.1⟩ ?_
              have hc := hch c hc1 as hlt M _ r3 hin (sx_pfito hE c2 g2')
              rw [c1] at hc
              refine gx_mono hc ?_
              rintro v h' ⟨M', rfl, hin', hfr', hp⟩
              obtain ⟨W', w1, w2, w3⟩ := sx_pusho (sx_kpo hE hfr') g3 hp
              exact nx _ _ _ _ _ k2 (fun _ z => z) W' ls (v.toList ++ r) M' w1 (hl.mono w1) w3 w2 hin' (sx_fr_sub hfr hfr' (fun p hp => List.elem_iff.mp (c4 p hp)))
          · cases h2
      · rename_i hk
        obtain ⟨v, h1, h2⟩ := Option.bind_eq_some_iff.mp h
        cases h2
        obtain ⟨w, g1', g2'⟩ := sx_rto hE hs h1
        refine gx_ret hI (v := w) ?_ (hout _ (List.mem_singleton_self _) W w M (sx_le_rfl W) hE hin hfr g2')
        unfold rf_ex
        simp only [hk]
        rw [g1']
        rfl
      · rename_i hk
        obtain ⟨r, h1, h2⟩ := Option.bind_eq_some_iff.mp h
        obtain ⟨st', W', g1', g2', g3, g4'⟩ := sx_poo hE hs h1
        exact g7 hI hk rfl g1' (nx _ _ _ _ _ h2 (fun _ z => z) W' ls st' M g2' (hl.mono g2') g4' g3 hin hfr)
      · cases h
end SXB
/-! all contracts hold -/
section SXC
variable {T : sxT} {U : sxU} {W W' : sxW} {E : sxE} {M M' M0 : rf_M}
theorem sx_nv_mono {sl : List (Option sxV)} {ls : rf_L} {m : sxM} {a : sxN} (hl : sx_ls W sl ls) (hr : sx_res sl m = some a) (hw : sx_le W W') : sx_nv W' a = sx_nv W a := by
  unfold sx_res at hr
  split at hr
  · cases hr; rfl
  · split at hr
    · rename_i s c hj
      split at hr
      · cases hr
        obtain ⟨v, v1, z, y, -, v2, -⟩ := hl _ _ hj
        unfold sx_nv
        dsimp only
        rw [v2, hw.1 _ _ v2]
      · cases hr
    · cases hr
  · split at hr
    · rename_i s c hj
      split at hr
      · cases hr
        obtain ⟨v, v1, z, y, -, v2, -⟩ := hl _ _ hj
        unfold sx_nv
        dsimp only
        rw [v2, hw.1 _ _ v2]
      · cases hr
    · cases hr
theorem sx_deco {sl slK : List (Option sxV)} {ls : rf_L} {K : sxK} {a b e a' b' e' : sxN} (hE : sx_e U W E M) (hl : sx_ls W sl ls) (hl' : sx_ls W' slK ls) (h : sx_dec E sl (some (a, b, e)) K = true) (h1 : sx_res slK K.2.2.1 = some a') (h2 : sx_res slK K.2.2.2.1 = some b') (h3 : sx_res slK K.2.2.2.2 = some e') : sx_lt3 (sx_nv W' a', sx_nv W' b', sx_nv W' e') (sx_nv W a, sx_nv W b, sx_nv W e) := by
  unfold sx_dec at h
  simp only [Bool.or_eq_true, Bool.and_eq_true] at h
  unfold sx_lt3
  dsimp only
  rcases h with h | ⟨h, h⟩
  · exact Or.inl (by simpa using sx_cmpo hE hl hl' h h1)
  · rename_i hle
    have q1 : sx_nv W' a' ≤ sx_nv W a := by simpa using sx_cmpo hE hl hl' hle h1
    rcases h with h | ⟨hle2, h⟩
    · exact Or.inr ⟨q1, Or.inl (by simpa using sx_cmpo hE hl hl' h h2)⟩
    · exact Or.inr ⟨q1, Or.inr ⟨by simpa using sx_cmpo hE hl hl' hle2 h2, by simpa using sx_cmpo hE hl hl' h h3⟩⟩
theorem sx_posto {post : Option sxF} {o : Option sxV × sxE} {v : Option Value} (hE : sx_e U W o.2 M) (h : sx_post post o = true) (hv : sx_ov W o.1 v) : sx_pok U post v := by
  unfold sx_post at h
  split at h
  · rename_i e
    rw [e] at hv
    cases v with
    | none => trivial
    | some w => exact hv.elim
  · rename_i f x e
    rw [e] at hv
    cases v with
    | none => exact hv.elim
    | some w => exact sx_woko hE hv h
  · cases h
theorem sx_muo {c : sxC} {args : List Value} {src : Option (sxN × sxN × sxN)} (hv : sx_vs W (sx_pe c.2.1 sx_E0).1 args) (hc : c.2.2.2.2.2.1 = 0 ∨ (sx_mcq c).isSome = true) : sx_mu (c.2.2.2.1, c.2.2.2.2.1, sx_mcq c, some (c, src)) W (sx_mv c args) := by
  unfold sx_mu
  dsimp only
  unfold sx_mv
  cases hq : sx_mcq c with
  | none =>
    rw [hq] at hc
    rcases hc with hc | hc
    · dsimp only
      rw [hc, Nat.zero_mul, Nat.add_zero]
    · cases hc
  | some m =>
    dsimp only
    unfold sx_mcq at hq
    split at hq
    · rename_i s d hp
      split at hq
      · rename_i hd
        cases hq
        obtain ⟨v, v1, z, y, rfl, v2, v3⟩ := sx_vs_get hv hp
        refine ⟨y, v2, ?_⟩
        rw [v1]
        dsimp only
        rw [v3, hd, Int.add_zero]
      · cases hq
    · cases hq
set_option maxHeartbeats 1000000 in
theorem sx_main {fuel : Nat} (hext : ∀ c ∈ T.2.2.1, ∀ args, sx_cok T U c args) (hck : sx_ck T U fuel = true) : ∀ c ∈ T.2.1, ∀ args, sx_cok T U c args := by
  unfold sx_ck at hck
  simp only [Bool.and_eq_true, List.all_eq_true, decide_eq_true_eq] at hck
  obtain ⟨hct, hinl⟩ := hck
  have key : ∀ μ, ∀ c ∈ T.2.1, ∀ args, sx_mv c args = μ → sx_cok T U c args := by
    intro μ
    induction μ using Nat.strongRecOn with
    | _ μ ihμ =>
      intro c hc args hmv M d hrm hin hfit
      have hk := hct c hc
      unfold sx_ckc at hk
      simp only [Bool.and_eq_true, List.all_eq_true, decide_eq_true_eq, Bool.or_eq_true] at hk
      obtain ⟨⟨⟨hent, hcuts⟩, hbase⟩, hcoef⟩ := hk
      obtain ⟨W0, -, hE0, hps⟩ := sx_peo (sx_e0 (U := U) M) hfit
      have hkn : (sx_pe c.2.1 sx_E0).2.2.2.2.1 = [] := (sx_pe_kn c.2.1 sx_E0).1
      have hmu : ∀ (src : Option (sxN × sxN × sxN)) (W' : sxW), sx_le W0 W' → sx_mu (c.2.2.2.1, c.2.2.2.2.1, sx_mcq c, some (c, src)) W' (sx_mv c args) := fun src W' hw => (sx_muo hps hcoef).mono hw
      have hmu1 : 1 ≤ sx_mv c args := by unfold sx_mv; omega
      have hch : ∀ c' ∈ T.2.1 ++ T.2.2.1, ∀ args', sx_mv c' args' < sx_mv c args → sx_cok T U c' args' := fun c' hc' args' hlt => (List.mem_append.mp hc').elim (fun z => ihμ _ (by omega) c' z args' rfl) (fun z => hext c' z args')
      -- the end of a walk
      have hfin : ∀ (outs : sxO), outs.all (sx_post c.2.2.1) = true → ∀ o ∈ outs, ∀ (W' : sxW) (v : Option Value) (M' : rf_M), sx_e U W' o.2 M' → sx_in U M' → sx_fr U c.2.2.2.1 M M' → sx_ov W' o.1 v → ∃ M'', (M', U.1.2.2.2.1) = (M'', U.1.2.2.2.1) ∧ sx_in U M'' ∧ sx_fr U c.2.2.2.1 M M'' ∧ sx_pok U c.2.2.1 v := by
        intro outs hall o ho W' v M' hE' hin' hfr' hov
        exact ⟨M', rfl, hin', hfr', sx_posto hE' (List.all_eq_true.mp hall o ho) hov⟩
      -- a walk that comes to a cut
      have hat : ∀ (K : sxK) (W' : sxW) (sl' : List (Option sxV)) (sst' : List sxV) (E' : sxE) (ls' : rf_L) (st' : List Value) (M' : rf_M) (src : Option (sxN × sxN × sxN)), sx_le W0 W' → sx_ls W' sl' ls' → sx_vs W' sst' st' → sx_e U W' E' M' → sx_atk c src K sl' sst' E' = true → st' = [] ∧ sx_dec E' sl' src K = true ∧ ∃ W3, sx_le W0 W3 ∧ sx_e U W3 (sx_kl (sx_pe c.2.1 sx_E0).1 K.2.1 (sx_pe c.2.1 sx_E0).2).2 M' ∧ sx_ls W3 (sx_kl (sx_pe c.2.1 sx_E0).1 K.2.1 (sx_pe c.2.1 sx_E0).2).1 ls' := by
        intro K W' sl' sst' E' ls' st' M' src hw hl' hs' hE' ha
        unfold sx_atk at ha
        simp only [Bool.and_eq_true] at ha
        obtain ⟨⟨a1, a2⟩, a3⟩ := ha
        have hst : st' = [] := by
          cases sst' with
          | nil => exact sx_nil hs'
          | cons x xs => cases a1
        obtain ⟨W3, w1, w2, w3⟩ := sx_klo hps hw hE' hl' K.2.1 0 W0 _ (sx_le_rfl W0) (sx_e_mem hE0 hkn M') a2
        refine ⟨hst, a3, W3, w1, w2, fun j x hj => ?_⟩
        obtain ⟨v, v1, v2⟩ := w3 j x hj
        exact ⟨v, by rw [Nat.zero_add] at v1; exact v1, v2⟩
      have hcut : ∀ (m : Nat × Nat × Nat), ∀ K ∈ c.2.2.2.2.2.2.2.2, ∀ (a b e : sxN), sx_res (sx_kl (sx_pe c.2.1 sx_E0).1 K.2.1 (sx_pe c.2.1 sx_E0).2).1 K.2.2.1 = some a → sx_res (sx_kl (sx_pe c.2.1 sx_E0).1 K.2.1 (sx_pe c.2.1 sx_E0).2).1 K.2.2.2.1 = some b → sx_res (sx_kl (sx_pe c.2.1 sx_E0).1 K.2.1 (sx_pe c.2.1 sx_E0).2).1 K.2.2.2.2 = some e → ∀ (W' : sxW) (ls' : rf_L) (M' : rf_M), sx_le W0 W' → sx_e U W' (sx_kl (sx_pe c.2.1 sx_E0).1 K.2.1 (sx_pe c.2.1 sx_E0).2).2 M' → sx_ls W' (sx_kl (sx_pe c.2.1 sx_E0).1 K.2.1 (sx_pe c.2.1 sx_E0).2).1 ls' → sx_in U M' → sx_fr U c.2.2.2.1 M M' → (sx_nv W' a, sx_nv W' b, sx_nv W' e) = m → gx U.1.1 d c.1 K.1 ls' [] (M', U.1.2.2.2.1) (fun v h' => ∃ M', h' = (M', U.1.2.2.2.1) ∧ sx_in U M' ∧ sx_fr U c.2.2.2.1 M M' ∧ sx_pok U c.2.2.1 v) := by
        intro m
        induction m using sx_ind3 with
        | h m ihm =>
          intro K hK a b e ha hb he W' ls' M' hw hE' hl' hin' hfr' hm
          have hkk := hcuts K hK
          unfold sx_ckk at hkk
          rw [ha, hb, he] at hkk
          dsimp only at hkk
          unfold sx_ends at hkk
          split at hkk
          · rename_i outs ho
            refine sx_goo hinl _ _ _ _ _ _ _ _ ho W' ls' [] M' M d _ (sx_mv c args) hl' trivial hE' hin' hfr' (hmu _ W' hw) hmu1 hrm hch ?_ (fun o ho' W'' v M'' hw'' hE'' hin'' hfr'' hov => hfin outs hkk o ho' W'' v M'' hE'' hin'' hfr'' hov)
            intro pc' t ht W'' sl'' sst'' E'' ls'' st'' M'' hw'' hl'' hs'' hE'' hin'' hfr'' hat'
            unfold sx_tr at ht
            dsimp only at ht
            split at ht
            · rename_i K' hK'
              cases ht
              dsimp only at hat'
              have hmem := List.mem_of_find?_eq_some hK'
              have hpc : K'.1 = pc' := by simpa using List.find?_some hK'
              obtain ⟨rfl, hdec, W3, w1, w2, w3⟩ := hat K' W'' sl'' sst'' E'' ls'' st'' M'' _ (hw.trans hw'') hl'' hs'' hE'' hat'
              have hkk' := hcuts K' hmem
              unfold sx_ckk at hkk'
              split at hkk'
              · rename_i a' b' e' ha' hb' he'
                have hlt := sx_deco hE'' hl'' w3 hdec ha' hb' he'
                rw [sx_nv_mono hl' ha hw'', sx_nv_mono hl' hb hw'', sx_nv_mono hl' he hw'', hm] at hlt
                have := ihm _ hlt K' hmem a' b' e' ha' hb' he' W3 ls'' M'' w1 w2 w3 hin'' hfr'' rfl
                rw [hpc] at this
                exact this
              · cases hkk'
            · cases ht
          · cases hkk
      unfold sx_ends at hent
      split at hent
      · rename_i outs ho
        refine sx_goo hinl _ _ _ _ _ _ _ _ ho W0 (lv_args 0 args) [] M M d _ (sx_mv c args) (sx_frmo hps) trivial hE0 hin (fun _ _ _ => ⟨rfl, rfl, rfl⟩) (hmu _ W0 (sx_le_rfl W0)) hmu1 hrm hch ?_ (fun o ho' W'' v M'' hw'' hE'' hin'' hfr'' hov => hfin outs hent o ho' W'' v M'' hE'' hin'' hfr'' hov)
        intro pc' t ht W'' sl'' sst'' E'' ls'' st'' M'' hw'' hl'' hs'' hE'' hin'' hfr'' hat'
        unfold sx_tr at ht
        dsimp only at ht
        split at ht
        · rename_i K' hK'
          cases ht
          dsimp only at hat'
          have hmem := List.mem_of_find?_eq_some hK'
          have hpc : K'.1 = pc' := by simpa using List.find?_some hK'
          obtain ⟨rfl, -, W3, w1, w2, w3⟩ := hat K' W'' sl'' sst'' E'' ls'' st'' M'' _ hw'' hl'' hs'' hE'' hat'
          have hkk' := hcuts K' hmem
          unfold sx_ckk at hkk'
          split at hkk'
          · rename_i a' b' e' ha' hb' he'
            have := hcut _ K' hmem a' b' e' ha' hb' he' W3 ls'' M'' w1 w2 w3 hin'' hfr'' rfl
            rw [hpc] at this
            exact this
          · cases hkk'
        · cases ht
      · cases hent
  exact fun c hc args => key _ c hc args rfl
end SXC
theorem sx_go_cg (T : sxT) (cx : rf_C) (G : List sxR) (rg rg' : Nat → Nat) (S S' : gS) (m m' : rf_M) (p : 0 < cx.2.2.2.2) (s : ∀ a, cx.2.2.2.2 ≤ a → a < S.2.1 → sx_sh G (rg a) (S.1 a)) (s' : ∀ a, cx.2.2.2.2 ≤ a → a < S'.2.1 → sx_sh G (rg' a) (S'.1 a)) : sx_go T ⟨(cx, G, rg, S, m), p, s⟩ = sx_go T ⟨(cx, G, rg', S', m'), p, s'⟩ := by
  funext n
  induction n with
  | zero => rfl
  | succ n ih =>
    funext q j pc sl st E
    unfold sx_go
    rw [ih]
    rfl
theorem sx_ck_cg (T : sxT) (cx : rf_C) (G : List sxR) (rg rg' : Nat → Nat) (S S' : gS) (m m' : rf_M) (p : 0 < cx.2.2.2.2) (s : ∀ a, cx.2.2.2.2 ≤ a → a < S.2.1 → sx_sh G (rg a) (S.1 a)) (s' : ∀ a, cx.2.2.2.2 ≤ a → a < S'.2.1 → sx_sh G (rg' a) (S'.1 a)) (c : sxC) (n : Nat) : sx_ckc T ⟨(cx, G, rg, S, m), p, s⟩ n c = sx_ckc T ⟨(cx, G, rg', S', m'), p, s'⟩ n c := by
  unfold sx_ckc sx_ckk
  rw [sx_go_cg T cx G rg rg' S S' m m' p s s']
