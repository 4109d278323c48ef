def sx_fit (E : sxE) (q : Option (Int × Int)) (r : List sxV) : Option (List sxV × sxE) := q.map (fun b => ((sx_mk E b).1 :: r, (sx_mk E b).2))
def sx_a2 (J : Instr) (st : List sxV) (E : sxE) : Option (List sxV × sxE) := match st with
  | y :: x :: r => match sx_b E x, sx_b E y with
    | some a, some b => sx_fit E (sx_iv J a b) r
    | _, _ => none
  | _ => none
def sx_aadd (st : List sxV) (E : sxE) : Option (List sxV × sxE) := match st with
  | (.inr (.inl d)) :: x :: r => (sx_add E x d).map (fun q => (q.1 :: r, q.2))
  | x :: (.inr (.inl d)) :: r => (sx_add E x d).map (fun q => (q.1 :: r, q.2))
  | _ => sx_a2 .iadd st E
def sx_asub (st : List sxV) (E : sxE) : Option (List sxV × sxE) := match st with
  | (.inr (.inl d)) :: x :: r => (sx_add E x (-d)).map (fun q => (q.1 :: r, q.2))
  | _ => sx_a2 .isub st E
def sx_lf (E : sxE) (r : List sxV) : Option (List sxV × sxE) := some ((sx_nl E (-9223372036854775808) 9223372036854775807 false).1 :: r, (sx_nl E (-9223372036854775808) 9223372036854775807 false).2)
def sx_l2 (st : List sxV) (E : sxE) : Option (List sxV × sxE) := match st with
  | (.inr (.inr (.inl _))) :: (.inr (.inr (.inl _))) :: r => sx_lf E r
  | _ => none
def sx_ldv (st : List sxV) (E : sxE) : Option (List sxV × sxE) := match st with
  | (.inr (.inr (.inl t))) :: (.inr (.inr (.inl _))) :: r => match E.2.1[t]? with
    | some b => if b.2.2 = true ∨ 0 < b.1 ∨ b.2.1 < 0 then sx_lf E r else none
    | none => none
  | _ => none
def sx_lsh (st : List sxV) (E : sxE) : Option (List sxV × sxE) := match st with
  | y :: (.inr (.inr (.inl _))) :: r => match sx_b E y with
    | some _ => sx_lf E r
    | none => none
  | _ => none
def sx_lus (st : List sxV) (E : sxE) : Option (List sxV × sxE) := match st with
  | (.inr (.inl d)) :: (.inr (.inr (.inl s))) :: r => if d = 61 then some ((sx_nl E 0 7 false).1 :: r, (sx_nl E 0 7 false).2) else sx_lf E r
  | y :: (.inr (.inr (.inl _))) :: r => match sx_b E y with
    | some _ => sx_lf E r
    | none => none
  | _ => none
def sx_lcm (st : List sxV) (E : sxE) : Option (List sxV × sxE) := match st with
  | (.inr (.inr (.inl t))) :: (.inr (.inr (.inl s))) :: r => match E.2.1[t]? with
    | some b => if b.1 = 0 ∧ b.2.1 = 0 then some ((sx_ni E (-1) 1).1 :: r, ((sx_ni E (-1) 1).2.1, (sx_ni E (-1) 1).2.2.1, (sx_ni E (-1) 1).2.2.2.1, (sx_ni E (-1) 1).2.2.2.2.1, (E.1.length, s) :: E.2.2.2.2)) else some ((sx_ni E (-1) 1).1 :: r, (sx_ni E (-1) 1).2)
    | none => none
  | _ => none
def sx_st (J : Instr) (st : List sxV) : Option (List sxV) := match J, st with
  | .dup, v :: r => if sx_ct v = 1 then some (v :: v :: r) else none
  | .pop, v :: r => if sx_ct v = 1 then some r else none
  | .pop2, v :: r => if sx_ct v = 2 then some r else none
  | .dup_x1, v :: w :: r => if sx_ct v = 1 ∧ sx_ct w = 1 then some (v :: w :: v :: r) else none
  | .dup_x2, v :: w :: u :: r => if sx_ct v = 1 ∧ sx_ct w = 1 ∧ sx_ct u = 1 then some (v :: w :: u :: v :: r) else none
  | .dup2, v :: w :: r => if sx_ct v = 1 ∧ sx_ct w = 1 then some (v :: w :: v :: w :: r) else if sx_ct v = 2 then some (v :: v :: w :: r) else none
  | .aconst_null, r => some ((.inr (.inr (.inr none))) :: r)
  | _, _ => none
def sx_cneg (st : List sxV) (E : sxE) : Option (List sxV × sxE) := match st with
  | x :: r => match sx_b E x with
    | some b => sx_fit E (some (-b.2, -b.1)) r
    | none => none
  | _ => none
def sx_ci2l (st : List sxV) (E : sxE) : Option (List sxV × sxE) := match st with
  | x :: r => match sx_b E x with
    | some b => some ((sx_nl E b.1 b.2 false).1 :: r, (sx_nl E b.1 b.2 false).2)
    | none => none
  | _ => none
def sx_cl2i (st : List sxV) (E : sxE) : Option (List sxV × sxE) := match st with
  | (.inr (.inr (.inl s))) :: r => match E.2.1[s]? with
    | some b => sx_fit E (some (b.1, b.2.1)) r
    | none => none
  | _ => none
def sx_ci2b (st : List sxV) (E : sxE) : Option (List sxV × sxE) := match st with
  | x :: r => match sx_b E x with
    | some _ => sx_fit E (some (-128, 127)) r
    | none => none
  | _ => none
def sx_clneg (st : List sxV) (E : sxE) : Option (List sxV × sxE) := match st with
  | (.inr (.inr (.inl _))) :: r => sx_lf E r
  | _ => none
def sx_ar (J : Instr) (st : List sxV) (E : sxE) : Option (List sxV × sxE) := match J with
  | .iadd => sx_aadd st E
  | .isub => sx_asub st E
  | .imul => sx_a2 .imul st E
  | .iand => sx_a2 .iand st E
  | .ior => sx_a2 .ior st E
  | .ixor => sx_a2 .ixor st E
  | .ishl => sx_a2 .ishl st E
  | .ishr => sx_a2 .ishr st E
  | .iushr => sx_a2 .iushr st E
  | .idiv => sx_a2 .idiv st E
  | .irem => sx_a2 .irem st E
  | .ladd => sx_l2 st E
  | .lsub => sx_l2 st E
  | .lmul => sx_l2 st E
  | .land => sx_l2 st E
  | .lor => sx_l2 st E
  | .lxor => sx_l2 st E
  | .ldiv => sx_ldv st E
  | .lrem => sx_ldv st E
  | .lshl => sx_lsh st E
  | .lshr => sx_lsh st E
  | .lushr => sx_lus st E
  | .lcmp => sx_lcm st E
  | .ineg => sx_cneg st E
  | .i2l => sx_ci2l st E
  | .l2i => sx_cl2i st E
  | .i2b => sx_ci2b st E
  | .lneg => sx_clneg st E
  | .dup => (sx_st .dup st).map (fun q => (q, E))
  | .pop => (sx_st .pop st).map (fun q => (q, E))
  | .pop2 => (sx_st .pop2 st).map (fun q => (q, E))
  | .dup_x1 => (sx_st .dup_x1 st).map (fun q => (q, E))
  | .dup_x2 => (sx_st .dup_x2 st).map (fun q => (q, E))
  | .dup2 => (sx_st .dup2 st).map (fun q => (q, E))
  | .aconst_null => (sx_st .aconst_null st).map (fun q => (q, E))
  | _ => none
section SX3
variable {U : sxU} {W : sxW} {E : sxE} {M : rf_M} {sst : List sxV} {st : List Value} {q : List sxV × sxE}
theorem sx_fito (hE : sx_e U W E M) {b : Option (Int × Int)} {xs : List sxV} {r : List Value} (hr : sx_vs W xs r) (h : sx_fit E b xs = some q) (z : Int32) (hz : ∀ b', b = some b' → (-2147483648) ≤ b'.1 → b'.2 ≤ 2147483647 → b'.1 ≤ z.toInt ∧ z.toInt ≤ b'.2) : ∃ W', sx_le W W' ∧ sx_e U W' q.2 M ∧ sx_vs W' q.1 (.int z :: r) := by
  obtain ⟨b', hb, rfl⟩ := Option.map_eq_some_iff.mp h
  obtain ⟨W', w1, w2, w3⟩ := sx_mko hE z (hz b' hb)
  exact ⟨W', w1, w2, w3, hr.mono w1⟩
theorem sx_a2o (J : Instr) (hE : sx_e U W E M) (h : sx_a2 J sst E = some q) (hs : sx_vs W sst st) : ∃ st' W', rf_ar J st = some st' ∧ sx_le W W' ∧ sx_e U W' q.2 M ∧ sx_vs W' q.1 st' := by
  unfold sx_a2 at h
  split at h
  · rename_i y x r
    obtain ⟨vy, s1, rfl, hy, hs1⟩ := sx_cons hs
    obtain ⟨vx, s2, rfl, hx, hs2⟩ := sx_cons hs1
    split at h
    · rename_i a b ha hb
      obtain ⟨zx, rfl, x1, x2⟩ := sx_bo hE ha hx
      obtain ⟨zy, rfl, y1, y2⟩ := sx_bo hE hb hy
      cases hq : sx_iv J a b with
      | none => rw [hq] at h; cases h
      | some c =>
        rw [hq] at h
        obtain ⟨z, hz, hc⟩ := sx_ivo (r := s2) hq x1 x2 y1 y2
        obtain ⟨W', w1, w2, w3⟩ := sx_fito hE hs2 h z (fun b' e => by simp only [Option.some.injEq] at e; subst e; exact hc)
        exact ⟨_, W', hz, w1, w2, w3⟩
    · cases h
  · cases h
theorem sx_lfo (hE : sx_e U W E M) {xs : List sxV} {r : List Value} (hr : sx_vs W xs r) (h : sx_lf E xs = some q) (z : Int64) : ∃ W', sx_le W W' ∧ sx_e U W' q.2 M ∧ sx_vs W' q.1 (.long z :: r) := by
  cases h
  obtain ⟨W', w1, w2, w3⟩ := sx_flo hE z
  exact ⟨W', w1, w2, w3, hr.mono w1⟩
theorem sx_l2o (f : Int64 → Int64 → Int64) (J : Instr) (hJ : ∀ (x y : Int64) r, rf_ar J (.long y :: .long x :: r) = some (.long (f x y) :: r)) (hE : sx_e U W E M) (h : sx_l2 sst E = some q) (hs : sx_vs W sst st) : ∃ st' W', rf_ar J st = some st' ∧ sx_le W W' ∧ sx_e U W' q.2 M ∧ sx_vs W' q.1 st' := by
  unfold sx_l2 at h
  split at h
  · obtain ⟨vy, s1, rfl, ⟨y, rfl, -⟩, hs1⟩ := sx_cons hs
    obtain ⟨vx, s2, rfl, ⟨x, rfl, -⟩, hs2⟩ := sx_cons hs1
    obtain ⟨W', w1, w2, w3⟩ := sx_lfo hE hs2 h (f x y)
    exact ⟨_, W', hJ x y s2, w1, w2, w3⟩
  · cases h
theorem sx_ldvo (f : Int64 → Int64 → Int64) (J : Instr) (hJ : ∀ (x y : Int64) r, rf_ar J (.long y :: .long x :: r) = if y = 0 then none else some (.long (f x y) :: r)) (hE : sx_e U W E M) (h : sx_ldv sst E = some q) (hs : sx_vs W sst st) : ∃ st' W', rf_ar J st = some st' ∧ sx_le W W' ∧ sx_e U W' q.2 M ∧ sx_vs W' q.1 st' := by
  unfold sx_ldv at h
  split at h
  · obtain ⟨vy, s1, rfl, ⟨y, rfl, hy⟩, hs1⟩ := sx_cons hs
    obtain ⟨vx, s2, rfl, ⟨x, rfl, -⟩, hs2⟩ := sx_cons hs1
    split at h
    · rename_i b hb
      split at h
      · rename_i hc
        obtain ⟨y', g1, g2, g3, g4⟩ := hE.2.2.2.2.1 _ _ hb
        rw [hy] at g1
        cases g1
        have hn : ¬ y = 0 := by
          intro e
          rcases hc with hc | hc | hc
          · exact g4 hc e
          · rw [e, Int64.toInt_zero] at g2; omega
          · rw [e, Int64.toInt_zero] at g3; omega
        obtain ⟨W', w1, w2, w3⟩ := sx_lfo hE hs2 h (f x y)
        exact ⟨_, W', by rw [hJ, if_neg hn], w1, w2, w3⟩
      · cases h
    · cases h
  · cases h
theorem sx_lsho (f : Int64 → Int32 → Int64) (J : Instr) (hJ : ∀ (x : Int64) (y : Int32) r, rf_ar J (.int y :: .long x :: r) = some (.long (f x y) :: r)) (hE : sx_e U W E M) (h : sx_lsh sst E = some q) (hs : sx_vs W sst st) : ∃ st' W', rf_ar J st = some st' ∧ sx_le W W' ∧ sx_e U W' q.2 M ∧ sx_vs W' q.1 st' := by
  unfold sx_lsh at h
  split at h
  · obtain ⟨vy, s1, rfl, hy, hs1⟩ := sx_cons hs
    obtain ⟨vx, s2, rfl, ⟨x, rfl, -⟩, hs2⟩ := sx_cons hs1
    split at h
    · rename_i b hb
      obtain ⟨y, rfl, -, -⟩ := sx_bo hE hb hy
      obtain ⟨W', w1, w2, w3⟩ := sx_lfo hE hs2 h (f x y)
      exact ⟨_, W', hJ x y s2, w1, w2, w3⟩
    · cases h
  · cases h
theorem sx_us61 (x : Int64) (y : Int32) (hy : y.toInt = 61) : 0 ≤ (x.toUInt64 >>> (y.toInt64.toUInt64 &&& Int64.toUInt64 63)).toInt64.toInt ∧ (x.toUInt64 >>> (y.toInt64.toUInt64 &&& Int64.toUInt64 63)).toInt64.toInt ≤ 7 := by
  have e : y = 61 := Int32.toInt_inj.mp (by rw [hy]; rfl)
  subst e
  have e2 : (Int32.toInt64 61).toUInt64 &&& Int64.toUInt64 63 = 61 := by decide +kernel
  rw [e2]
  have h1 : (x.toUInt64 >>> 61).toNat = x.toUInt64.toNat / 2 ^ 61 := by
    rw [UInt64.toNat_shiftRight, Nat.shiftRight_eq_div_pow]
    rfl
  have h2 := x.toUInt64.toNat_lt
  have h3 : (x.toUInt64 >>> 61).toNat ≤ 7 := by rw [h1]; omega
  have h4 : (x.toUInt64 >>> 61).toInt64.toInt = ((x.toUInt64 >>> 61).toNat : Int) := by
    show (x.toUInt64 >>> 61).toBitVec.toInt = _
    rw [BitVec.toInt_eq_toNat_of_lt]
    · rfl
    · show 2 * (x.toUInt64 >>> 61).toNat < 2 ^ 64
      omega
  rw [h4]
  omega
theorem sx_sto (J : Instr) {xs : List sxV} (h : sx_st J sst = some xs) (hs : sx_vs W sst st) : ∃ st', rf_ar J st = some st' ∧ sx_vs W xs st' := by
  unfold sx_st at h
  split at h
  · obtain ⟨v, r, rfl, h1, hs1⟩ := sx_cons hs
    split at h
    · rename_i hc
      cases h
      exact ⟨v :: v :: r, by show (if v.category = 1 then _ else _) = _; rw [if_pos (by rw [sx_cto h1]; exact hc)], h1, h1, hs1⟩
    · cases h
  · obtain ⟨v, r, rfl, h1, hs1⟩ := sx_cons hs
    split at h
    · rename_i hc
      cases h
      exact ⟨r, by show (if v.category = 1 then _ else _) = _; rw [if_pos (by rw [sx_cto h1]; exact hc)], hs1⟩
    · cases h
  · obtain ⟨v, r, rfl, h1, hs1⟩ := sx_cons hs
    split at h
    · rename_i hc
      cases h
      exact ⟨r, by show (if v.category = 2 then _ else _) = _; rw [if_pos (by rw [sx_cto h1]; exact hc)], hs1⟩
    · cases h
  · obtain ⟨v, r, rfl, h1, hs1⟩ := sx_cons hs
    obtain ⟨w, r, rfl, h2, hs2⟩ := sx_cons hs1
    split at h
    · rename_i hc
      cases h
      exact ⟨v :: w :: v :: r, by show (if v.category = 1 ∧ w.category = 1 then _ else _) = _; rw [if_pos (by rw [sx_cto h1, sx_cto h2]; exact hc)], h1, h2, h1, hs2⟩
    · cases h
  · obtain ⟨v, r, rfl, h1, hs1⟩ := sx_cons hs
    obtain ⟨w, r, rfl, h2, hs2⟩ := sx_cons hs1
    obtain ⟨u, r, rfl, h3, hs3⟩ := sx_cons hs2
    split at h
    · rename_i hc
      cases h
      exact ⟨v :: w :: u :: v :: r, by show (if v.category = 1 ∧ w.category = 1 ∧ u.category = 1 then _ else _) = _; rw [if_pos (by rw [sx_cto h1, sx_cto h2, sx_cto h3]; exact hc)], h1, h2, h3, h1, hs3⟩
    · cases h
  · obtain ⟨v, r, rfl, h1, hs1⟩ := sx_cons hs
    obtain ⟨w, r, rfl, h2, hs2⟩ := sx_cons hs1
    split at h
    · rename_i hc
      cases h
      exact ⟨v :: w :: v :: w :: r, by show (if v.category = 1 ∧ w.category = 1 then _ else _) = _; rw [if_pos (by rw [sx_cto h1, sx_cto h2]; exact hc)], h1, h2, h1, h2, hs2⟩
    · rename_i hn
      split at h
      · rename_i hc
        cases h
        exact ⟨v :: v :: w :: r, by show (if v.category = 1 ∧ w.category = 1 then _ else if v.category = 2 then _ else _) = _; rw [if_neg (by rw [sx_cto h1, sx_cto h2]; exact hn), if_pos (by rw [sx_cto h1]; exact hc)], h1, h1, h2, hs2⟩
      · cases h
  · cases h
    exact ⟨.null :: st, rfl, rfl, hs⟩
  · cases h
theorem sx_aro {J : Instr} (hE : sx_e U W E M) (h : sx_ar J sst E = some q) (hs : sx_vs W sst st) : ∃ st' W', rf_ar J st = some st' ∧ sx_le W W' ∧ sx_e U W' q.2 M ∧ sx_vs W' q.1 st' := by
  have stk : ∀ J : Instr, (sx_st J sst).map (fun q => (q, E)) = some q → ∃ st' W', rf_ar J st = some st' ∧ sx_le W W' ∧ sx_e U W' q.2 M ∧ sx_vs W' q.1 st' := by
    intro J h
    obtain ⟨xs, h1, rfl⟩ := Option.map_eq_some_iff.mp h
    obtain ⟨st', g1, g2⟩ := sx_sto J h1 hs
    exact ⟨st', W, g1, sx_le_rfl W, hE, g2⟩
  unfold sx_ar at h
  split at h
  · -- iadd
    unfold sx_aadd at h
    split at h
    · rename_i d x r
      obtain ⟨vy, s1, rfl, ⟨y, rfl, hy⟩, hs1⟩ := sx_cons hs
      obtain ⟨vx, s2, rfl, hx, hs2⟩ := sx_cons hs1
      obtain ⟨q', h1, rfl⟩ := Option.map_eq_some_iff.mp h
      have hvx : ∃ z, vx = .int z := by
        rcases x with ⟨s, c⟩ | c | s | (_ | s)
        · obtain ⟨z, y, h1, -⟩ := hx; exact ⟨z, h1⟩
        · obtain ⟨z, h1, -⟩ := hx; exact ⟨z, h1⟩
        · cases h1
        · cases h1
        · cases h1
      obtain ⟨z, rfl⟩ := hvx
      obtain ⟨W', w1, w2, w3⟩ := sx_addo hE h1 hx (u := z + y) (by rw [Int32.toInt_add, hy])
      exact ⟨_, W', rfl, w1, w2, w3, hs2.mono w1⟩
    · rename_i x d r hne
      obtain ⟨vy, s1, rfl, hx, hs1⟩ := sx_cons hs
      obtain ⟨vx, s2, rfl, ⟨y, rfl, hy⟩, hs2⟩ := sx_cons hs1
      obtain ⟨q', h1, rfl⟩ := Option.map_eq_some_iff.mp h
      have hvx : ∃ z, vy = .int z := by
        rcases x with ⟨s, c⟩ | c | s | (_ | s)
        · obtain ⟨z, y, h1, -⟩ := hx; exact ⟨z, h1⟩
        · obtain ⟨z, h1, -⟩ := hx; exact ⟨z, h1⟩
        · cases h1
        · cases h1
        · cases h1
      obtain ⟨z, rfl⟩ := hvx
      obtain ⟨W', w1, w2, w3⟩ := sx_addo hE h1 hx (u := y + z) (by rw [Int32.toInt_add, hy, Int.add_comm])
      exact ⟨_, W', rfl, w1, w2, w3, hs2.mono w1⟩
    · exact sx_a2o .iadd hE h hs
  · -- isub
    unfold sx_asub at h
    split at h
    · rename_i d x r
      obtain ⟨vy, s1, rfl, ⟨y, rfl, hy⟩, hs1⟩ := sx_cons hs
      obtain ⟨vx, s2, rfl, hx, hs2⟩ := sx_cons hs1
      obtain ⟨q', h1, rfl⟩ := Option.map_eq_some_iff.mp h
      have hvx : ∃ z, vx = .int z := by
        rcases x with ⟨s, c⟩ | c | s | (_ | s)
        · obtain ⟨z, y, h1, -⟩ := hx; exact ⟨z, h1⟩
        · obtain ⟨z, h1, -⟩ := hx; exact ⟨z, h1⟩
        · cases h1
        · cases h1
        · cases h1
      obtain ⟨z, rfl⟩ := hvx
      obtain ⟨W', w1, w2, w3⟩ := sx_addo hE h1 hx (u := z - y) (by rw [Int32.toInt_sub, hy, Int.sub_eq_add_neg])
      exact ⟨_, W', rfl, w1, w2, w3, hs2.mono w1⟩
    · exact sx_a2o .isub hE h hs
  · exact sx_a2o _ hE h hs
  · exact sx_a2o _ hE h hs
  · exact sx_a2o _ hE h hs
  · exact sx_a2o _ hE h hs
  · exact sx_a2o _ hE h hs
  · exact sx_a2o _ hE h hs
  · exact sx_a2o _ hE h hs
  · exact sx_a2o _ hE h hs
  · exact sx_a2o _ hE h hs
  · exact sx_l2o _ _ (fun _ _ _ => rfl) hE h hs
  · exact sx_l2o _ _ (fun _ _ _ => rfl) hE h hs
  · exact sx_l2o _ _ (fun _ _ _ => rfl) hE h hs
  · exact sx_l2o _ _ (fun _ _ _ => rfl) hE h hs
  · exact sx_l2o _ _ (fun _ _ _ => rfl) hE h hs
  · exact sx_l2o _ _ (fun _ _ _ => rfl) hE h hs
  · exact sx_ldvo _ _ (fun _ _ _ => rfl) hE h hs
  · exact sx_ldvo _ _ (fun _ _ _ => rfl) hE h hs
  · exact sx_lsho _ _ (fun _ _ _ => rfl) hE h hs
  · exact sx_lsho _ _ (fun _ _ _ => rfl) hE h hs
  · -- lushr
    unfold sx_lus at h
    split at h
    · obtain ⟨vy, s1, rfl, ⟨y, rfl, hy⟩, hs1⟩ := sx_cons hs
      obtain ⟨vx, s2, rfl, ⟨x, rfl, -⟩, hs2⟩ := sx_cons hs1
      split at h
      · rename_i hd
        cases h
        obtain ⟨b1, b2⟩ := sx_us61 x y (hy.trans hd)
        obtain ⟨W', w1, w2, w3⟩ := sx_fl hE (nz := false) _ b1 b2 (fun e => by cases e)
        exact ⟨_, W', rfl, w1, w2, w3, hs2.mono w1⟩
      · obtain ⟨W', w1, w2, w3⟩ := sx_lfo hE hs2 h (x.toUInt64 >>> (y.toInt64.toUInt64 &&& Int64.toUInt64 63)).toInt64
        exact ⟨_, W', rfl, w1, w2, w3⟩
    · obtain ⟨vy, s1, rfl, hy, hs1⟩ := sx_cons hs
      obtain ⟨vx, s2, rfl, ⟨x, rfl, -⟩, hs2⟩ := sx_cons hs1
      split at h
      · rename_i b hb
        obtain ⟨y, rfl, -, -⟩ := sx_bo hE hb hy
        obtain ⟨W', w1, w2, w3⟩ := sx_lfo hE hs2 h (x.toUInt64 >>> (y.toInt64.toUInt64 &&& Int64.toUInt64 63)).toInt64
        exact ⟨_, W', rfl, w1, w2, w3⟩
      · cases h
    · cases h
  · -- lcmp
    unfold sx_lcm at h
    split at h
    · rename_i t s r
      obtain ⟨vy, s1, rfl, ⟨y, rfl, hy⟩, hs1⟩ := sx_cons hs
      obtain ⟨vx, s2, rfl, ⟨x, rfl, hx⟩, hs2⟩ := sx_cons hs1
      have hb1 : (-1 : Int) ≤ (lg_cmp x y).toInt ∧ (lg_cmp x y).toInt ≤ 1 := by
        unfold lg_cmp
        split
        · exact ⟨by decide, by decide⟩
        · split
          · exact ⟨by decide, by decide⟩
          · exact ⟨by decide, by decide⟩
      obtain ⟨W', w1, w2, w3⟩ := sx_fi hE (lg_cmp x y) hb1.1 hb1.2
      split at h
      · rename_i b hb
        split at h
        · rename_i hc
          cases h
          refine ⟨_, W', rfl, w1, ⟨w2.1, w2.2.1, w2.2.2.1, w2.2.2.2.1, w2.2.2.2.2.1, w2.2.2.2.2.2.1, w2.2.2.2.2.2.2.1, ?_⟩, w3, hs2.mono w1⟩
          intro t' s' hts
          rcases List.mem_cons.mp hts with e | e
          · cases e
            obtain ⟨z', y', e1, e2, e3⟩ := w3
            cases e1
            obtain ⟨y0, g1, g2, g3, -⟩ := hE.2.2.2.2.1 _ _ hb
            rw [hy] at g1
            cases g1
            have hy0 : y = 0 := Int64.toInt_inj.mp (by rw [Int64.toInt_zero]; omega)
            refine ⟨y', x, e2, w1.2.1 _ _ hx, ?_⟩
            have e4 : y' = (lg_cmp x y).toInt := by omega
            rw [e4, hy0]
            unfold lg_cmp
            constructor
            · intro hh
              split at hh
              · exact absurd hh (by decide)
              · split at hh
                · assumption
                · exact absurd hh (by decide)
            · intro hh
              subst hh
              decide
          · exact w2.2.2.2.2.2.2.2 t' s' e
        · cases h
          exact ⟨_, W', rfl, w1, w2, w3, hs2.mono w1⟩
      · cases h
    · cases h
  · -- ineg
    unfold sx_cneg at h
    split at h
    · obtain ⟨v, r, rfl, h1, hs1⟩ := sx_cons hs
      split at h
      · rename_i b hb
        obtain ⟨z, rfl, z1, z2⟩ := sx_bo hE hb h1
        obtain ⟨W', w1, w2, w3⟩ := sx_fito hE hs1 h (-z) (fun b' e g1 g2 => by
          simp only [Option.some.injEq] at e
          subst e
          dsimp only at g1 g2 ⊢
          rw [Int32.toInt_neg, sx_bm (by omega) (by omega)]
          omega)
        exact ⟨_, W', rfl, w1, w2, w3⟩
      · cases h
    · cases h
  · -- i2l
    unfold sx_ci2l at h
    split at h
    · obtain ⟨v, r, rfl, h1, hs1⟩ := sx_cons hs
      split at h
      · rename_i b hb
        obtain ⟨z, rfl, z1, z2⟩ := sx_bo hE hb h1
        cases h
        obtain ⟨W', w1, w2, w3⟩ := sx_fl hE (nz := false) z.toInt64 (by rw [Int32.toInt_toInt64]; exact z1) (by rw [Int32.toInt_toInt64]; exact z2) (fun e => by cases e)
        exact ⟨_, W', rfl, w1, w2, w3, hs1.mono w1⟩
      · cases h
    · cases h
  · -- l2i
    unfold sx_cl2i at h
    split at h
    · obtain ⟨v, r, rfl, ⟨x, rfl, hx⟩, hs1⟩ := sx_cons hs
      split at h
      · rename_i b hb
        obtain ⟨y', g1, g2, g3, -⟩ := hE.2.2.2.2.1 _ _ hb
        rw [hx] at g1
        cases g1
        obtain ⟨W', w1, w2, w3⟩ := sx_fito hE hs1 h x.toInt32 (fun b' e g1 g2 => by
          simp only [Option.some.injEq] at e
          subst e
          dsimp only at g1 g2 ⊢
          rw [Int64.toInt_toInt32, sx_bm (by omega) (by omega)]
          omega)
        exact ⟨_, W', rfl, w1, w2, w3⟩
      · cases h
    · cases h
  · -- i2b
    unfold sx_ci2b at h
    split at h
    · obtain ⟨v, r, rfl, h1, hs1⟩ := sx_cons hs
      split at h
      · rename_i b hb
        obtain ⟨z, rfl, z1, z2⟩ := sx_bo hE hb h1
        obtain ⟨W', w1, w2, w3⟩ := sx_fito hE hs1 h z.toInt8.toInt32 (fun b' e g1 g2 => by
          simp only [Option.some.injEq] at e
          subst e
          dsimp only
          rw [Int8.toInt_toInt32]
          have k1 := Int8.le_toInt z.toInt8
          have k2 := Int8.toInt_lt z.toInt8
          omega)
        exact ⟨_, W', rfl, w1, w2, w3⟩
      · cases h
    · cases h
  · -- lneg
    unfold sx_clneg at h
    split at h
    · obtain ⟨v, r, rfl, ⟨x, rfl, hx⟩, hs1⟩ := sx_cons hs
      obtain ⟨W', w1, w2, w3⟩ := sx_lfo hE hs1 h (-x)
      exact ⟨_, W', rfl, w1, w2, w3⟩
    · cases h
  · exact stk _ h
  · exact stk _ h
  · exact stk _ h
  · exact stk _ h
  · exact stk _ h
  · exact stk _ h
  · exact stk _ h
  · cases h
end SX3
