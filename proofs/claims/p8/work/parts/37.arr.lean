section SX8
variable {U : sxU} {W : sxW} {E : sxE} {M M' M0 : rf_M} {sst : List sxV} {st : List Value} {md : List (Nat × Nat)}
theorem sx_fa_a {a k len g : Nat} {ty : FieldType} {e f : sxF} (h : U.1.2.1[g]? = some ((.inr (ty, len, e)))) (hf : sx_fa U.1.2.1 g k = some f) : f = e ∧ k < len := by
  unfold sx_fa at hf
  rw [h] at hf
  dsimp only at hf
  split at hf
  · cases hf; exact ⟨rfl, by assumption⟩
  · cases hf
theorem sx_fa_i {k len g : Nat} {ty : FieldType} {e : sxF} (h : U.1.2.1[g]? = some ((.inr (ty, len, e)))) (hk : k < len) : sx_fa U.1.2.1 g k = some e := by
  unfold sx_fa
  rw [h]
  exact if_pos hk
/-- an element is read -/
theorem sx_alo {p : FieldType → Bool} {J : Instr} {aux : List (Int × Nat)} {q : List sxV × sxE} (hJ : ∀ (ty : FieldType) (a n : Nat) (j : Int32) (r : List Value), p ty = true → ga U.1.1 U.1.2.2.2.1 a ty n → ¬ (j < 0 ∨ n ≤ j.toNatClampNeg) → rf_hp U.1.1 J aux (.int j :: .ref a :: r) (M, U.1.2.2.2.1) = some (rf_rd M ty a j.toNatClampNeg :: r, (M, U.1.2.2.2.1))) (hE : sx_e U W E M) (hin : sx_in U M) (hs : sx_vs W sst st) (h : sx_al U p sst E = some q) : ∃ st' W', rf_hp U.1.1 J aux st (M, U.1.2.2.2.1) = some (st', (M, U.1.2.2.2.1)) ∧ sx_le W W' ∧ sx_e U W' q.2 M ∧ sx_vs W' q.1 st' := by
  unfold sx_al at h
  split at h
  · obtain ⟨vj, r1, rfl, hj, hs1⟩ := sx_cons hs
    obtain ⟨v, r, rfl, h1, hs2⟩ := sx_cons hs1
    split at h
    · rename_i g ty len e haa
      obtain ⟨a, rfl, a2, a3, a4⟩ := sx_aao hE haa h1
      dsimp only at a2 a3 a4
      split at h
      · rename_i hc
        cases h
        obtain ⟨z, rfl, z1, z2⟩ := sx_ixo hE hc.2.2 hj
        obtain ⟨W', w1, w2, w3, -⟩ := sx_newo hE (hin.1 a z.toNatClampNeg e a3.1 a3.2.2.1 (sx_fa_i a4 z2)) hc.2.1
        exact ⟨_, W', hJ ty a len z r hc.1 a3 z1, w1, w2, w3, hs2.mono w1⟩
      · cases h
    · cases h
  · cases h
theorem sx_jI {aux : List (Int × Nat)} {J : Instr} {ty0 : FieldType} (hJ : ∀ (a : Nat) (j : Int32) (r : List Value), rf_hp U.1.1 J aux (.int j :: .ref a :: r) (M, U.1.2.2.2.1) = match rf_el (M, U.1.2.2.2.1) ty0 a j with | some v => some (v :: r, (M, U.1.2.2.2.1)) | none => none) {p : FieldType → Bool} (hp : ∀ ty, p ty = true → ty = ty0) : ∀ (ty : FieldType) (a n : Nat) (j : Int32) (r : List Value), p ty = true → ga U.1.1 U.1.2.2.2.1 a ty n → ¬ (j < 0 ∨ n ≤ j.toNatClampNeg) → rf_hp U.1.1 J aux (.int j :: .ref a :: r) (M, U.1.2.2.2.1) = some (rf_rd M ty a j.toNatClampNeg :: r, (M, U.1.2.2.2.1)) := by
  intro ty a n j r h1 h2 h3
  have := hp ty h1
  subst this
  rw [hJ, h2.el _ h3]
theorem sx_jB {aux : List (Int × Nat)} : ∀ (ty : FieldType) (a n : Nat) (j : Int32) (r : List Value), sx_pB ty = true → ga U.1.1 U.1.2.2.2.1 a ty n → ¬ (j < 0 ∨ n ≤ j.toNatClampNeg) → rf_hp U.1.1 .baload aux (.int j :: .ref a :: r) (M, U.1.2.2.2.1) = some (rf_rd M ty a j.toNatClampNeg :: r, (M, U.1.2.2.2.1)) := by
  intro ty a n j r h1 h2 h3
  show (match rf_el (M, U.1.2.2.2.1) .byte a j with
    | some v => some (v :: r, (M, U.1.2.2.2.1))
    | none => match rf_el (M, U.1.2.2.2.1) .boolean a j with
      | some v => some (v :: r, (M, U.1.2.2.2.1))
      | none => none) = _
  cases ty <;> first | (rw [h2.el _ h3]; done) | skip
  all_goals first | cases h1; done | skip
  have e : rf_el (M, U.1.2.2.2.1) .byte a j = none := by
    unfold rf_el
    rw [h2.aa M]
    exact if_neg (fun z => by cases z.1)
  rw [e, h2.el _ h3]
theorem sx_jO {aux : List (Int × Nat)} : ∀ (ty : FieldType) (a n : Nat) (j : Int32) (r : List Value), sx_pO ty = true → ga U.1.1 U.1.2.2.2.1 a ty n → ¬ (j < 0 ∨ n ≤ j.toNatClampNeg) → rf_hp U.1.1 .aaload aux (.int j :: .ref a :: r) (M, U.1.2.2.2.1) = some (rf_rd M ty a j.toNatClampNeg :: r, (M, U.1.2.2.2.1)) := by
  intro ty a n j r h1 h2 h3
  cases ty <;> first | (cases h1; done) | skip
  rename_i C
  show (match rf_aa (M, U.1.2.2.2.1) a with
    | some (.object C, n) => match rf_el (M, U.1.2.2.2.1) (.object C) a j with
      | some v => some (v :: r, (M, U.1.2.2.2.1))
      | none => none
    | some (.array t, n) => match rf_el (M, U.1.2.2.2.1) (.array t) a j with
      | some v => some (v :: r, (M, U.1.2.2.2.1))
      | none => none
    | _ => none) = _
  rw [h2.aa M]
  dsimp only
  rw [h2.el _ h3]
/-- an element is written -/
theorem sx_aw {a k len : Nat} {ty : FieldType} {e : sxF} (hE : sx_e U W E M) (hin : sx_in U M) (hfr : sx_fr U md M0 M) (a3 : ga U.1.1 U.1.2.2.2.1 a ty len) (a4 : U.1.2.1[U.1.2.2.1 a]? = some ((.inr (ty, len, e)))) (hu : sx_upd M M' a k) (hf : sx_f U M' a k e) (hm : (U.1.2.2.1 a, 0) ∈ md) : sx_e U W E M' ∧ sx_in U M' ∧ sx_fr U md M0 M' :=
  ⟨sx_e_a hE hu a3.2.2.2, sx_in_w hin a3.1 hu (fun f hf' => by rw [(sx_fa_a (a := a) a4 hf').1]; exact hf), sx_fr_w hfr hu a3.1 (Or.inl hm)⟩
theorem sx_iso {aux : List (Int × Nat)} {q : List sxV × sxE} (hE : sx_e U W E M) (hin : sx_in U M) (hfr : sx_fr U md M0 M) (hs : sx_vs W sst st) (h : sx_as U md sx_pI sst E = some q) : ∃ st' M', rf_hp U.1.1 .iastore aux st (M, U.1.2.2.2.1) = some (st', (M', U.1.2.2.2.1)) ∧ sx_e U W q.2 M' ∧ sx_in U M' ∧ sx_fr U md M0 M' ∧ sx_vs W q.1 st' := by
  unfold sx_as at h
  split at h
  · obtain ⟨vv, r0, rfl, hv, hs0⟩ := sx_cons hs
    obtain ⟨vj, r1, rfl, hj, hs1⟩ := sx_cons hs0
    obtain ⟨v, r, rfl, h1, hs2⟩ := sx_cons hs1
    split at h
    · rename_i g ty len e haa
      obtain ⟨a, rfl, a2, a3, a4⟩ := sx_aao hE haa h1
      dsimp only at a2 a3 a4
      split at h
      · rename_i hc
        cases h
        obtain ⟨z, rfl, z1, z2⟩ := sx_ixo hE hc.2.2.1 hj
        have ht : ty = .int := by revert hc; cases ty <;> intro hc <;> first | rfl | cases hc.1
        subst ht
        have hf := sx_woko hE hv hc.2.2.2.1
        rcases e with ⟨lo, hi⟩ | (_ | ⟨g, nul⟩)
        · obtain ⟨y, rfl, y1, y2⟩ := hf
          have em : (rf_wi M a z.toNatClampNeg y).1 a z.toNatClampNeg = y := rf_up2s _ _ _ _
          obtain ⟨r1, r2, r3⟩ := sx_aw hE hin hfr a3 a4 (sx_upd_i M a z.toNatClampNeg y) (show lo ≤ ((rf_wi M a z.toNatClampNeg y).1 a z.toNatClampNeg).toInt ∧ ((rf_wi M a z.toNatClampNeg y).1 a z.toNatClampNeg).toInt ≤ hi by rw [em]; exact ⟨y1, y2⟩) (by rw [a2.2.2]; exact List.elem_iff.mp hc.2.2.2.2)
          refine ⟨r, _, ?_, r1, r2, r3, hs2⟩
          show (if a < U.1.1.2.2.2.2 then none else match rf_el (M, U.1.2.2.2.1) .int a z with | some _ => some (r, (rf_wi M a z.toNatClampNeg y, U.1.2.2.2.1)) | none => none) = _
          rw [if_neg (Nat.not_lt.mpr a3.1), a3.el _ z1]
        · cases hc.2.1
        · cases hc.2.1
      · cases h
    · cases h
  · cases h
theorem sx_lso {aux : List (Int × Nat)} {q : List sxV × sxE} (hE : sx_e U W E M) (hin : sx_in U M) (hfr : sx_fr U md M0 M) (hs : sx_vs W sst st) (h : sx_as U md sx_pL sst E = some q) : ∃ st' M', rf_hp U.1.1 .lastore aux st (M, U.1.2.2.2.1) = some (st', (M', U.1.2.2.2.1)) ∧ sx_e U W q.2 M' ∧ sx_in U M' ∧ sx_fr U md M0 M' ∧ sx_vs W q.1 st' := by
  unfold sx_as at h
  split at h
  · obtain ⟨vv, r0, rfl, hv, hs0⟩ := sx_cons hs
    obtain ⟨vj, r1, rfl, hj, hs1⟩ := sx_cons hs0
    obtain ⟨v, r, rfl, h1, hs2⟩ := sx_cons hs1
    split at h
    · rename_i g ty len e haa
      obtain ⟨a, rfl, a2, a3, a4⟩ := sx_aao hE haa h1
      dsimp only at a2 a3 a4
      split at h
      · rename_i hc
        cases h
        obtain ⟨z, rfl, z1, z2⟩ := sx_ixo hE hc.2.2.1 hj
        have ht : ty = .long := by revert hc; cases ty <;> intro hc <;> first | rfl | cases hc.1
        subst ht
        have hf := sx_woko hE hv hc.2.2.2.1
        rcases e with ⟨lo, hi⟩ | (_ | ⟨g, nul⟩)
        · cases hc.2.1
        · obtain ⟨y, rfl⟩ := hf
          obtain ⟨r1, r2, r3⟩ := sx_aw hE hin hfr a3 a4 (sx_upd_l M a z.toNatClampNeg y) trivial (by rw [a2.2.2]; exact List.elem_iff.mp hc.2.2.2.2)
          refine ⟨r, _, ?_, r1, r2, r3, hs2⟩
          show (if a < U.1.1.2.2.2.2 then none else match rf_el (M, U.1.2.2.2.1) .long a z with | some _ => some (r, (rf_wl M a z.toNatClampNeg y, U.1.2.2.2.1)) | none => none) = _
          rw [if_neg (Nat.not_lt.mpr a3.1), a3.el _ z1]
        · cases hc.2.1
      · cases h
    · cases h
  · cases h
theorem sx_and1 (x : Int32) : 0 ≤ (x &&& 1).toInt ∧ (x &&& 1).toInt ≤ 1 := sx_and_le x 1 (by decide)
theorem sx_bso {aux : List (Int × Nat)} {q : List sxV × sxE} (hE : sx_e U W E M) (hin : sx_in U M) (hfr : sx_fr U md M0 M) (hs : sx_vs W sst st) (h : sx_bs U md sst E = some q) : ∃ st' M', rf_hp U.1.1 .bastore aux st (M, U.1.2.2.2.1) = some (st', (M', U.1.2.2.2.1)) ∧ sx_e U W q.2 M' ∧ sx_in U M' ∧ sx_fr U md M0 M' ∧ sx_vs W q.1 st' := by
  unfold sx_bs at h
  split at h
  · obtain ⟨vv, r0, rfl, hv, hs0⟩ := sx_cons hs
    obtain ⟨vj, r1, rfl, hj, hs1⟩ := sx_cons hs0
    obtain ⟨v, r, rfl, h1, hs2⟩ := sx_cons hs1
    split at h
    · rename_i g ty len lo hi haa
      obtain ⟨a, rfl, a2, a3, a4⟩ := sx_aao hE haa h1
      dsimp only at a2 a3 a4
      split at h
      · rename_i hc
        cases h
        obtain ⟨z, rfl, z1, z2⟩ := sx_ixo hE hc.2.1 hj
        obtain ⟨y, rfl⟩ := sx_vI hc.1 hv
        have fin : ∀ w : Int32, lo ≤ w.toInt → w.toInt ≤ hi → sx_e U W E (rf_wi M a z.toNatClampNeg w) ∧ sx_in U (rf_wi M a z.toNatClampNeg w) ∧ sx_fr U md M0 (rf_wi M a z.toNatClampNeg w) := by
          intro w w1 w2
          have em : (rf_wi M a z.toNatClampNeg w).1 a z.toNatClampNeg = w := rf_up2s _ _ _ _
          exact sx_aw hE hin hfr a3 a4 (sx_upd_i M a z.toNatClampNeg w) (show lo ≤ ((rf_wi M a z.toNatClampNeg w).1 a z.toNatClampNeg).toInt ∧ ((rf_wi M a z.toNatClampNeg w).1 a z.toNatClampNeg).toInt ≤ hi by rw [em]; exact ⟨w1, w2⟩) (by rw [a2.2.2]; exact List.elem_iff.mp hc.2.2.1)
        rcases hc.2.2.2 with ⟨rfl, l1, l2⟩ | ⟨rfl, l1, l2⟩
        · have k1 := Int8.le_toInt y.toInt8
          have k2 := Int8.toInt_lt y.toInt8
          obtain ⟨r1, r2, r3⟩ := fin y.toInt8.toInt32 (by rw [Int8.toInt_toInt32]; omega) (by rw [Int8.toInt_toInt32]; omega)
          refine ⟨r, _, ?_, r1, r2, r3, hs2⟩
          show (if a < U.1.1.2.2.2.2 then none else match rf_el (M, U.1.2.2.2.1) .byte a z with
            | some _ => some (r, (rf_wi M a z.toNatClampNeg y.toInt8.toInt32, U.1.2.2.2.1))
            | none => match rf_el (M, U.1.2.2.2.1) .boolean a z with
              | some _ => some (r, (rf_wi M a z.toNatClampNeg (y &&& 1), U.1.2.2.2.1))
              | none => none) = _
          rw [if_neg (Nat.not_lt.mpr a3.1), a3.el _ z1]
        · obtain ⟨k1, k2⟩ := sx_and1 y
          obtain ⟨r1, r2, r3⟩ := fin (y &&& 1) (by omega) (by omega)
          refine ⟨r, _, ?_, r1, r2, r3, hs2⟩
          show (if a < U.1.1.2.2.2.2 then none else match rf_el (M, U.1.2.2.2.1) .byte a z with
            | some _ => some (r, (rf_wi M a z.toNatClampNeg y.toInt8.toInt32, U.1.2.2.2.1))
            | none => match rf_el (M, U.1.2.2.2.1) .boolean a z with
              | some _ => some (r, (rf_wi M a z.toNatClampNeg (y &&& 1), U.1.2.2.2.1))
              | none => none) = _
          have e : rf_el (M, U.1.2.2.2.1) .byte a z = none := by
            unfold rf_el
            rw [a3.aa M]
            exact if_neg (fun z => by cases z.1)
          rw [if_neg (Nat.not_lt.mpr a3.1), e, a3.el _ z1]
      · cases h
    · cases h
  · cases h
theorem sx_oso {aux : List (Int × Nat)} {q : List sxV × sxE} (hE : sx_e U W E M) (hin : sx_in U M) (hfr : sx_fr U md M0 M) (hs : sx_vs W sst st) (h : sx_os U md sst E = some q) : ∃ st' M', rf_hp U.1.1 .aastore aux st (M, U.1.2.2.2.1) = some (st', (M', U.1.2.2.2.1)) ∧ sx_e U W q.2 M' ∧ sx_in U M' ∧ sx_fr U md M0 M' ∧ sx_vs W q.1 st' := by
  unfold sx_os at h
  split at h
  · obtain ⟨vv, r0, rfl, hv, hs0⟩ := sx_cons hs
    obtain ⟨vj, r1, rfl, hj, hs1⟩ := sx_cons hs0
    obtain ⟨v, r, rfl, h1, hs2⟩ := sx_cons hs1
    split at h
    · rename_i g C len e s' g' ci fs haa hob
      obtain ⟨a, rfl, a2, a3, a4⟩ := sx_aao hE haa h1
      obtain ⟨b, rfl, b1, b2, b3, b4⟩ := sx_obo hE hob hv
      dsimp only at a2 a3 a4 b1 b2 b3 b4
      split at h
      · rename_i hc
        cases h
        obtain ⟨z, rfl, z1, z2⟩ := sx_ixo hE hc.1 hj
        have hf := sx_woko hE hv hc.2.1
        have em : (rf_wq M a z.toNatClampNeg (some b)).2.2 a z.toNatClampNeg = some b := rf_up2s _ _ _ _
        have hfe : sx_f U (rf_wq M a z.toNatClampNeg (some b)) a z.toNatClampNeg e := by
          rcases e with ⟨lo, hi⟩ | (_ | ⟨g, nul⟩)
          · obtain ⟨y, y1, -⟩ := hf; cases y1
          · trivial
          · obtain ⟨o, o1, o2⟩ := hf
            cases o with
            | none => cases o1
            | some c =>
              cases o1
              show match (rf_wq M a z.toNatClampNeg (some b)).2.2 a z.toNatClampNeg with | none => nul = true | some b => sx_rc U g b
              rw [em]; exact o2
        obtain ⟨r1, r2, r3⟩ := sx_aw hE hin hfr a3 a4 (sx_upd_q M a z.toNatClampNeg (some b)) hfe (by rw [a2.2.2]; exact List.elem_iff.mp hc.2.2.1)
        refine ⟨r, _, ?_, r1, r2, r3, hs2⟩
        show (if a < U.1.1.2.2.2.2 ∨ b < U.1.1.2.2.2.2 then none else match rf_aa (M, U.1.2.2.2.1) a, rf_ob (M, U.1.2.2.2.1) b with
          | some (.object C, n), some ci => if (U.1.1.2.2.2.1[ci]?).map (fun q => q.1) = some C ∧ ¬ (z < 0 ∨ n ≤ z.toNatClampNeg) then some (r, (rf_wq M a z.toNatClampNeg (some b), U.1.2.2.2.1)) else none
          | _, _ => none) = _
        rw [if_neg (fun w => w.elim (fun w => Nat.not_lt.mpr a3.1 w) (fun w => Nat.not_lt.mpr b3.1 w)), a3.aa, b3.ob]
        dsimp only
        rw [if_pos ⟨hc.2.2.2, z1⟩]
      · cases h
    · cases h
  · cases h
theorem sx_lno {aux : List (Int × Nat)} {q : List sxV × sxE} (hE : sx_e U W E M) (hs : sx_vs W sst st) (h : sx_ln U sst E = some q) : ∃ st', rf_hp U.1.1 .arraylength aux st (M, U.1.2.2.2.1) = some (st', (M, U.1.2.2.2.1)) ∧ sx_e U W q.2 M ∧ sx_vs W q.1 st' := by
  unfold sx_ln at h
  split at h
  · obtain ⟨v, r, rfl, h1, hs1⟩ := sx_cons hs
    split at h
    · rename_i g ty len e haa
      obtain ⟨a, rfl, a2, a3, a4⟩ := sx_aao hE haa h1
      dsimp only at a2 a3 a4
      split at h
      · rename_i hc
        cases h
        refine ⟨.int (nI len) :: r, ?_, hE, ⟨nI len, rfl, ?_⟩, hs1⟩
        · show (match rf_aa (M, U.1.2.2.2.1) a with | some q => some (Value.int (nI q.2) :: r, (M, U.1.2.2.2.1)) | none => none) = _
          rw [a3.aa]
        · unfold nI
          rw [Int32.toInt_ofNat']
          exact Int.bmod_eq_of_le (by have : Int32.size = 4294967296 := rfl; omega) (by have : Int32.size = 4294967296 := rfl; omega)
      · cases h
    · cases h
  · cases h
theorem sx_hpo {J : Instr} {aux : List (Int × Nat)} {q : List sxV × sxE} (hE : sx_e U W E M) (hin : sx_in U M) (hfr : sx_fr U md M0 M) (hs : sx_vs W sst st) (h : sx_hp U md J aux sst E = some q) : ∃ st' M' W', rf_hp U.1.1 J aux st (M, U.1.2.2.2.1) = some (st', (M', U.1.2.2.2.1)) ∧ sx_le W W' ∧ sx_e U W' q.2 M' ∧ sx_in U M' ∧ sx_fr U md M0 M' ∧ sx_vs W' q.1 st' := by
  unfold sx_hp at h
  split at h
  · obtain ⟨st', W', h1, h2, h3, h4⟩ := sx_gfo hE hin hs h
    exact ⟨st', M, W', h1, h2, h3, hin, hfr, h4⟩
  · obtain ⟨st', M', h1, h2, h3, h4, h5⟩ := sx_pfo hE hin hfr hs h
    exact ⟨st', M', W, h1, sx_le_rfl W, h2, h3, h4, h5⟩
  · obtain ⟨st', W', h1, h2, h3, h4⟩ := sx_alo (sx_jI (J := .iaload) (aux := aux) (fun _ _ _ => rfl) (p := sx_pI) (ty0 := .int) (fun ty ht => by cases ty <;> first | rfl | cases ht)) hE hin hs h
    exact ⟨st', M, W', h1, h2, h3, hin, hfr, h4⟩
  · obtain ⟨st', W', h1, h2, h3, h4⟩ := sx_alo (sx_jI (J := .laload) (aux := aux) (fun _ _ _ => rfl) (p := sx_pL) (ty0 := .long) (fun ty ht => by cases ty <;> first | rfl | cases ht)) hE hin hs h
    exact ⟨st', M, W', h1, h2, h3, hin, hfr, h4⟩
  · obtain ⟨st', W', h1, h2, h3, h4⟩ := sx_alo sx_jB hE hin hs h
    exact ⟨st', M, W', h1, h2, h3, hin, hfr, h4⟩
  · obtain ⟨st', W', h1, h2, h3, h4⟩ := sx_alo sx_jO hE hin hs h
    exact ⟨st', M, W', h1, h2, h3, hin, hfr, h4⟩
  · obtain ⟨st', M', h1, h2, h3, h4, h5⟩ := sx_iso hE hin hfr hs h
    exact ⟨st', M', W, h1, sx_le_rfl W, h2, h3, h4, h5⟩
  · obtain ⟨st', M', h1, h2, h3, h4, h5⟩ := sx_lso hE hin hfr hs h
    exact ⟨st', M', W, h1, sx_le_rfl W, h2, h3, h4, h5⟩
  · obtain ⟨st', M', h1, h2, h3, h4, h5⟩ := sx_bso hE hin hfr hs h
    exact ⟨st', M', W, h1, sx_le_rfl W, h2, h3, h4, h5⟩
  · obtain ⟨st', M', h1, h2, h3, h4, h5⟩ := sx_oso hE hin hfr hs h
    exact ⟨st', M', W, h1, sx_le_rfl W, h2, h3, h4, h5⟩
  · obtain ⟨st', h1, h2, h3⟩ := sx_lno hE hs h
    exact ⟨st', M, W, h1, sx_le_rfl W, h2, hin, hfr, h3⟩
  · cases h
end SX8
