/-! constants of the pool, answers, calls of the JDK, arguments -/
def sx_po (aux : List (Int × Nat)) (st : List sxV) (E : sxE) : Option (List sxV × sxE) := match aux with
  | [(0, k)] => some ((.inr (.inl ((k : Int).bmod 4294967296))) :: st, E)
  | [(1, k)] => some ((sx_nl E ((k : Int).bmod 18446744073709551616) ((k : Int).bmod 18446744073709551616) false).1 :: st, (sx_nl E ((k : Int).bmod 18446744073709551616) ((k : Int).bmod 18446744073709551616) false).2)
  | _ => none
def sx_rt (J : Instr) (ret : Option FieldType) (st : List sxV) (E : sxE) : Option (Option sxV) := match J, ret, st with
  | .ireturn, some .int, [x] => if sx_isI x = true then some (some x) else none
  | .ireturn, some .boolean, [x] => if sx_wty E x .boolean = true then some (some x) else none
  | .lreturn, some .long, [x] => if sx_isL x = true then some (some x) else none
  | .areturn, some (.object _), [x] => if sx_isR x = true then some (some x) else none
  | .areturn, some (.array _), [x] => if sx_isR x = true then some (some x) else none
  | .return_, none, [] => some none
  | _, _, _ => none
def sx_ov (W : sxW) (o : Option sxV) (v : Option Value) : Prop := match o, v with
  | none, none => True
  | some x, some w => sx_v W x w
  | _, _ => False
def sx_cts (st : List sxV) : Nat := (st.map sx_ct).sum
def sx_nn0 (E : sxE) (x : sxV) : Bool := match sx_b E x with
  | some b => decide (0 ≤ b.1)
  | none => false
def sx_hi (E : sxE) (x : sxV) : Int := match sx_b E x with
  | some b => b.2
  | none => 0
def sx_sub (e2 e1 : sxF) : Bool := match e2, e1 with
  | (.inl (a, b)), (.inl (c, d)) => decide (c ≤ a) && decide (b ≤ d)
  | (.inr none), (.inr none) => true
  | _, _ => false
def sx_bi (U : sxU) (md : List (Nat × Nat)) (kd : Int) (st : List sxV) (E : sxE) : Option (List sxV × sxE) := if kd = 11 then (match st with
    | nn :: dp :: x1 :: sp :: x2 :: r => (match sx_aa U.1.2.1 E x1, sx_aa U.1.2.1 E x2 with
      | some (g1, t1, n1, e1), some (_, t2, n2, e2) => if ((sx_pI t1 = true ∧ sx_pI t2 = true) ∨ (sx_pL t1 = true ∧ sx_pL t2 = true)) ∧ sx_tyok t1 e1 = true ∧ sx_sub e2 e1 = true ∧ sx_nn0 E nn = true ∧ sx_nn0 E dp = true ∧ sx_nn0 E sp = true ∧ sx_hi E sp + sx_hi E nn ≤ (n2 : Int) ∧ sx_hi E dp + sx_hi E nn ≤ (n1 : Int) ∧ md.elem (g1, 0) = true ∧ sx_cts r ≤ 8 then some (r, E) else none
      | _, _ => none)
    | _ => none)
  else if kd = 12 ∨ kd = 13 then (match st with
    | y :: x :: r => (match sx_b E x, sx_b E y with
      | some a, some b => if sx_cts r ≤ 8 then (if kd = 12 then sx_fit E (some (min a.1 b.1, min a.2 b.2)) r else sx_fit E (some (max a.1 b.1, max a.2 b.2)) r) else none
      | _, _ => none)
    | _ => none)
  else none
section SX9
variable {U : sxU} {W : sxW} {E : sxE} {M M' M0 : rf_M} {sst : List sxV} {st : List Value} {md : List (Nat × Nat)}
theorem sx_poo {aux : List (Int × Nat)} {q : List sxV × sxE} (hE : sx_e U W E M) (hs : sx_vs W sst st) (h : sx_po aux sst E = some q) : ∃ st' W', rf_po aux st = some st' ∧ sx_le W W' ∧ sx_e U W' q.2 M ∧ sx_vs W' q.1 st' := by
  unfold sx_po at h
  split at h
  · rename_i k
    cases h
    exact ⟨_, W, rfl, sx_le_rfl W, hE, ⟨_, rfl, Int32.toInt_ofNat'⟩, hs⟩
  · rename_i k
    cases h
    have e : (Int64.ofNat k).toInt = (k : Int).bmod 18446744073709551616 := Int64.toInt_ofNat'
    obtain ⟨W', w1, w2, w3⟩ := sx_fl hE (nz := false) (Int64.ofNat k) (Int.le_of_eq e.symm) (Int.le_of_eq e) (fun z => by cases z)
    exact ⟨_, W', rfl, w1, w2, w3, hs.mono w1⟩
  · cases h
theorem sx_rto {J : Instr} {ret : Option FieldType} {o : Option sxV} (hE : sx_e U W E M) (hs : sx_vs W sst st) (h : sx_rt J ret sst E = some o) : ∃ v, rf_rt J ret st = some v ∧ sx_ov W o v := by
  unfold sx_rt at h
  split at h
  · obtain ⟨v, r, rfl, h1, hs1⟩ := sx_cons hs
    cases sx_nil hs1
    split at h
    · rename_i hc
      cases h
      obtain ⟨z, rfl⟩ := sx_vI hc h1
      exact ⟨_, rfl, h1⟩
    · cases h
  · obtain ⟨v, r, rfl, h1, hs1⟩ := sx_cons hs
    cases sx_nil hs1
    split at h
    · rename_i x hc
      cases h
      have h2 : (match sx_b E x with | some b => decide (0 ≤ b.1) && decide (b.2 ≤ 1) | none => false) = true := hc
      split at h2
      · rename_i b hb
        simp only [Bool.and_eq_true, decide_eq_true_eq] at h2
        obtain ⟨z, rfl, z1, z2⟩ := sx_bo hE hb h1
        have hz01 : z = 0 ∨ z = 1 := by
          have : z.toInt = 0 ∨ z.toInt = 1 := by omega
          rcases this with h | h
          · exact Or.inl (Int32.toInt_inj.mp (by rw [h]; rfl))
          · exact Or.inr (Int32.toInt_inj.mp (by rw [h]; rfl))
        refine ⟨some (.int z), ?_, h1⟩
        show (if narrow .boolean (.int z) = .int z then some (some (Value.int z)) else none) = _
        rw [if_pos]
        rcases hz01 with rfl | rfl
        · decide +kernel
        · decide +kernel
      · cases h2
    · cases h
  · obtain ⟨v, r, rfl, h1, hs1⟩ := sx_cons hs
    cases sx_nil hs1
    split at h
    · rename_i hc
      cases h
      obtain ⟨z, rfl⟩ := sx_vL hc h1
      exact ⟨_, rfl, h1⟩
    · cases h
  · obtain ⟨v, r, rfl, h1, hs1⟩ := sx_cons hs
    cases sx_nil hs1
    split at h
    · rename_i hc
      cases h
      obtain ⟨z, rfl⟩ := sx_vR hc h1
      cases z <;> exact ⟨_, rfl, h1⟩
    · cases h
  · obtain ⟨v, r, rfl, h1, hs1⟩ := sx_cons hs
    cases sx_nil hs1
    split at h
    · rename_i hc
      cases h
      obtain ⟨z, rfl⟩ := sx_vR hc h1
      cases z <;> exact ⟨_, rfl, h1⟩
    · cases h
  · cases sx_nil hs
    cases h
    exact ⟨none, rfl, trivial⟩
  · cases h
theorem sx_ctso : ∀ {sst : List sxV} {st : List Value}, sx_vs W sst st → (st.map fun v => v.category).sum = sx_cts sst
  | [], [], _ => rfl
  | x :: xs, v :: vs, h => by
    show ((v :: vs).map fun v => v.category).sum = ((x :: xs).map sx_ct).sum
    rw [List.map_cons, List.map_cons, List.sum_cons, List.sum_cons, sx_cto h.1, sx_ctso h.2]
    rfl
  | [], _ :: _, h => h.elim
  | _ :: _, [], h => h.elim
theorem sx_nn0o (hE : sx_e U W E M) {x : sxV} {v : Value} (h : sx_nn0 E x = true) (hv : sx_v W x v) : ∃ z : Int32, v = .int z ∧ 0 ≤ z.toInt ∧ z.toInt ≤ sx_hi E x := by
  unfold sx_nn0 at h
  unfold sx_hi
  split at h
  · rename_i b hb
    obtain ⟨z, rfl, z1, z2⟩ := sx_bo hE hb hv
    simp only [decide_eq_true_eq] at h
    exact ⟨z, rfl, by omega, z2⟩
  · cases h
/-- only cell a has changed, an array -/
theorem sx_cell {a len : Nat} {ty : FieldType} {e : sxF} (hE : sx_e U W E M) (hin : sx_in U M) (hfr : sx_fr U md M0 M) (a3 : ga U.1.1 U.1.2.2.2.1 a ty len) (a4 : U.1.2.1[U.1.2.2.1 a]? = some ((.inr (ty, len, e)))) (hu : ∀ a' k', a' ≠ a → sx_same M M' a' k') (hf : ∀ k, k < len → sx_f U M' a k e) (hm : (U.1.2.2.1 a, 0) ∈ md) : sx_e U W E M' ∧ sx_in U M' ∧ sx_fr U md M0 M' := by
  refine ⟨⟨hE.1, hE.2.1, hE.2.2.1, hE.2.2.2.1, hE.2.2.2.2.1, hE.2.2.2.2.2.1, ?_, hE.2.2.2.2.2.2.2⟩, ?_, ?_⟩
  · intro s k' x hx
    obtain ⟨b, ci, h1, h2, h3, h4⟩ := hE.2.2.2.2.2.2.1 s k' x hx
    have hne : b ≠ a := fun e => by rw [e, a3.2.2.2] at h3; cases h3
    exact ⟨b, ci, h1, h2, h3, by rw [sx_rd_same (hu b k' hne)]; exact h4⟩
  · refine ⟨fun a' k' f h1 h2 h3 => ?_, fun a' k' h => ?_⟩
    · by_cases ea : a' = a
      · subst ea
        obtain ⟨e1, e2⟩ := sx_fa_a (a := a') a4 h3
        rw [e1]
        exact hf k' e2
      · exact sx_f_same (hu a' k' ea) (hin.1 a' k' f h1 h2 h3)
    · have h1 := hin.2 a' k' h
      have h2 := hu a' k' (by have := a3.1; omega)
      exact ⟨h2.1.trans h1.1, h2.2.1.trans h1.2.1, h2.2.2.trans h1.2.2⟩
  · intro a' k' h
    have h1 := hfr a' k' h
    have h2 : a' ≠ a := by
      intro e
      subst e
      rcases h with h | h
      · have := a3.1; omega
      · exact h.1 hm
    have h3 := hu a' k' h2
    exact ⟨h3.1.trans h1.1, h3.2.1.trans h1.2.1, h3.2.2.trans h1.2.2⟩
theorem sx_ok8 {d : Nat × Nat} {r : List Value} {rs : List sxV} (hr : sx_vs W rs r) (hc : sx_cts rs ≤ 8) (d1 : 1 ≤ d.1) (d2 : 30 ≤ d.2) {w : Nat} (hw : w ≤ 22) : rf_ok8 r d w = true := by
  unfold rf_ok8
  simp only [Bool.and_eq_true, decide_eq_true_eq]
  rw [sx_ctso hr]
  omega
theorem sx_bio {kd : Int} {q : List sxV × sxE} {d : Nat × Nat} (d1 : 1 ≤ d.1) (d2 : 30 ≤ d.2) (hE : sx_e U W E M) (hin : sx_in U M) (hfr : sx_fr U md M0 M) (hs : sx_vs W sst st) (h : sx_bi U md kd sst E = some q) : ∃ st' M' W', rf_bi U.1.1 kd d st (M, U.1.2.2.2.1) = some (st', (M', U.1.2.2.2.1)) ∧ sx_le W W' ∧ sx_e U W' q.2 M' ∧ sx_in U M' ∧ sx_fr U md M0 M' ∧ sx_vs W' q.1 st' := by
  unfold sx_bi at h
  split at h
  · rename_i hk
    subst hk
    split at h
    · rename_i nn dp x1 sp x2 r
      obtain ⟨vn, r0, rfl, hn, hs0⟩ := sx_cons hs
      obtain ⟨vd, r1, rfl, hd, hs1⟩ := sx_cons hs0
      obtain ⟨v1, r2, rfl, h1, hs2⟩ := sx_cons hs1
      obtain ⟨vs, r3, rfl, hsp, hs3⟩ := sx_cons hs2
      obtain ⟨v2, r4, rfl, h2, hs4⟩ := sx_cons hs3
      split at h
      · rename_i g1 t1 n1 e1 g2 t2 n2 e2 ha1 ha2
        obtain ⟨a1, rfl, p2, p3, p4⟩ := sx_aao hE ha1 h1
        obtain ⟨a2, rfl, q2, q3, q4⟩ := sx_aao hE ha2 h2
        dsimp only at p2 p3 p4 q2 q3 q4
        split at h
        · rename_i hc
          cases h
          obtain ⟨c1, c2, c3, c4, c5, c6, c7, c8, c9, c10⟩ := hc
          obtain ⟨zn, rfl, zn1, zn2⟩ := sx_nn0o hE c4 hn
          obtain ⟨zd, rfl, zd1, zd2⟩ := sx_nn0o hE c5 hd
          obtain ⟨zs, rfl, zs1, zs2⟩ := sx_nn0o hE c6 hsp
          have en : zn.toNatClampNeg = zn.toInt.toNat := rfl
          have ed : zd.toNatClampNeg = zd.toInt.toNat := rfl
          have es : zs.toNatClampNeg = zs.toInt.toNat := rfl
          have b1 : zs.toNatClampNeg + zn.toNatClampNeg ≤ n2 := by rw [es, en]; omega
          have b2 : zd.toNatClampNeg + zn.toNatClampNeg ≤ n1 := by rw [ed, en]; omega
          have hm : (U.1.2.2.1 a1, 0) ∈ md := by rw [p2.2.2]; exact List.elem_iff.mp c9
          have hg : rf_ok8 r4 d 18 = true ∧ ¬ a1 < U.1.1.2.2.2.2 ∧ ¬ a2 < U.1.1.2.2.2.2 ∧ ¬ zs < 0 ∧ ¬ zd < 0 ∧ ¬ zn < 0 := by
            refine ⟨sx_ok8 hs4 c10 d1 d2 (by omega), Nat.not_lt.mpr p3.1, Nat.not_lt.mpr q3.1, ?_, ?_, ?_⟩ <;> rw [Int32.lt_iff_toInt_lt, Int32.toInt_zero] <;> omega
          rcases c1 with ⟨t1I, t2I⟩ | ⟨t1L, t2L⟩
          · have e1' : t1 = .int := by cases t1 <;> first | rfl | cases t1I
            have e2' : t2 = .int := by cases t2 <;> first | rfl | cases t2I
            subst e1' e2'
            have fin : sx_e U W E ((va_up M.1 a1 (va_cpy (M.1 a2) (M.1 a1) zs.toNatClampNeg zd.toNatClampNeg zn.toNatClampNeg), M.2.1, M.2.2) : rf_M) ∧ sx_in U (va_up M.1 a1 (va_cpy (M.1 a2) (M.1 a1) zs.toNatClampNeg zd.toNatClampNeg zn.toNatClampNeg), M.2.1, M.2.2) ∧ sx_fr U md M0 (va_up M.1 a1 (va_cpy (M.1 a2) (M.1 a1) zs.toNatClampNeg zd.toNatClampNeg zn.toNatClampNeg), M.2.1, M.2.2) := by
              refine sx_cell hE hin hfr p3 p4 (fun a' k' hne => ⟨?_, rfl, rfl⟩) (fun k hk => ?_) hm
              · show va_up M.1 a1 _ a' k' = M.1 a' k'
                unfold va_up
                rw [if_neg hne]
              · rcases e1 with ⟨lo, hi⟩ | (_ | ⟨g, nul⟩)
                · rcases e2 with ⟨lo2, hi2⟩ | (_ | ⟨g, nul⟩)
                  · unfold sx_sub at c3
                    simp only [Bool.and_eq_true, decide_eq_true_eq] at c3
                    show lo ≤ (va_up M.1 a1 _ a1 k).toInt ∧ (va_up M.1 a1 _ a1 k).toInt ≤ hi
                    rw [va_up_self]
                    unfold va_cpy
                    split
                    · rename_i hr
                      have g := hin.1 a2 (zs.toNatClampNeg + (k - zd.toNatClampNeg)) _ q3.1 q3.2.2.1 (sx_fa_i q4 (by omega))
                      have g : lo2 ≤ (M.1 a2 (zs.toNatClampNeg + (k - zd.toNatClampNeg))).toInt ∧ (M.1 a2 (zs.toNatClampNeg + (k - zd.toNatClampNeg))).toInt ≤ hi2 := g
                      omega
                    · exact hin.1 a1 k _ p3.1 p3.2.2.1 (sx_fa_i p4 hk)
                  · cases c3
                  · cases c3
                · cases c2
                · cases c2
            refine ⟨r4, _, W, ?_, sx_le_rfl W, fin.1, fin.2.1, fin.2.2, hs4⟩
            show (if rf_ok8 r4 d 18 = true ∧ ¬ a1 < U.1.1.2.2.2.2 ∧ ¬ a2 < U.1.1.2.2.2.2 ∧ ¬ zs < 0 ∧ ¬ zd < 0 ∧ ¬ zn < 0 then (match rf_aa (M, U.1.2.2.2.1) a1, rf_aa (M, U.1.2.2.2.1) a2 with
              | some (.int, n1), some (.int, n2) => if zs.toNatClampNeg + zn.toNatClampNeg ≤ n2 ∧ zd.toNatClampNeg + zn.toNatClampNeg ≤ n1 then some (r4, ((va_up M.1 a1 (va_cpy (M.1 a2) (M.1 a1) zs.toNatClampNeg zd.toNatClampNeg zn.toNatClampNeg), M.2.1, M.2.2), U.1.2.2.2.1)) else none
              | some (.long, n1), some (.long, n2) => if zs.toNatClampNeg + zn.toNatClampNeg ≤ n2 ∧ zd.toNatClampNeg + zn.toNatClampNeg ≤ n1 then some (r4, ((M.1, va_up M.2.1 a1 (va_cpy (M.2.1 a2) (M.2.1 a1) zs.toNatClampNeg zd.toNatClampNeg zn.toNatClampNeg), M.2.2), U.1.2.2.2.1)) else none
              | _, _ => none) else none) = _
            rw [if_pos hg, p3.aa, q3.aa]
            dsimp only
            rw [if_pos ⟨b1, b2⟩]
          · have e1' : t1 = .long := by cases t1 <;> first | rfl | cases t1L
            have e2' : t2 = .long := by cases t2 <;> first | rfl | cases t2L
            subst e1' e2'
            have fin : sx_e U W E ((M.1, va_up M.2.1 a1 (va_cpy (M.2.1 a2) (M.2.1 a1) zs.toNatClampNeg zd.toNatClampNeg zn.toNatClampNeg), M.2.2) : rf_M) ∧ sx_in U (M.1, va_up M.2.1 a1 (va_cpy (M.2.1 a2) (M.2.1 a1) zs.toNatClampNeg zd.toNatClampNeg zn.toNatClampNeg), M.2.2) ∧ sx_fr U md M0 (M.1, va_up M.2.1 a1 (va_cpy (M.2.1 a2) (M.2.1 a1) zs.toNatClampNeg zd.toNatClampNeg zn.toNatClampNeg), M.2.2) := by
              refine sx_cell hE hin hfr p3 p4 (fun a' k' hne => ⟨rfl, ?_, rfl⟩) (fun k hk => ?_) hm
              · show va_up M.2.1 a1 _ a' k' = M.2.1 a' k'
                unfold va_up
                rw [if_neg hne]
              · rcases e1 with ⟨lo, hi⟩ | (_ | ⟨g, nul⟩)
                · cases c2
                · trivial
                · cases c2
            refine ⟨r4, _, W, ?_, sx_le_rfl W, fin.1, fin.2.1, fin.2.2, hs4⟩
            show (if rf_ok8 r4 d 18 = true ∧ ¬ a1 < U.1.1.2.2.2.2 ∧ ¬ a2 < U.1.1.2.2.2.2 ∧ ¬ zs < 0 ∧ ¬ zd < 0 ∧ ¬ zn < 0 then (match rf_aa (M, U.1.2.2.2.1) a1, rf_aa (M, U.1.2.2.2.1) a2 with
              | some (.int, n1), some (.int, n2) => if zs.toNatClampNeg + zn.toNatClampNeg ≤ n2 ∧ zd.toNatClampNeg + zn.toNatClampNeg ≤ n1 then some (r4, ((va_up M.1 a1 (va_cpy (M.1 a2) (M.1 a1) zs.toNatClampNeg zd.toNatClampNeg zn.toNatClampNeg), M.2.1, M.2.2), U.1.2.2.2.1)) else none
              | some (.long, n1), some (.long, n2) => if zs.toNatClampNeg + zn.toNatClampNeg ≤ n2 ∧ zd.toNatClampNeg + zn.toNatClampNeg ≤ n1 then some (r4, ((M.1, va_up M.2.1 a1 (va_cpy (M.2.1 a2) (M.2.1 a1) zs.toNatClampNeg zd.toNatClampNeg zn.toNatClampNeg), M.2.2), U.1.2.2.2.1)) else none
              | _, _ => none) else none) = _
            rw [if_pos hg, p3.aa, q3.aa]
            dsimp only
            rw [if_pos ⟨b1, b2⟩]
        · cases h
      · cases h
    · cases h
  · rename_i hk11
    split at h
    · rename_i hk
      split at h
      · obtain ⟨vy, r0, rfl, hy, hs0⟩ := sx_cons hs
        obtain ⟨vx, r1, rfl, hx, hs1⟩ := sx_cons hs0
        split at h
        · rename_i a b ha hb
          obtain ⟨zx, rfl, x1, x2⟩ := sx_bo hE ha hx
          obtain ⟨zy, rfl, y1, y2⟩ := sx_bo hE hb hy
          split at h
          · rename_i hc
            have h10 : ¬ kd = 10 := by omega
            split at h
            · rename_i h12
              subst h12
              obtain ⟨W', w1, w2, w3⟩ := sx_fito hE hs1 h (if zy < zx then zy else zx) (fun b' e g1 g2 => by
                simp only [Option.some.injEq] at e
                subst e
                dsimp only
                split <;> rename_i hl <;> rw [Int32.lt_iff_toInt_lt] at hl <;> omega)
              refine ⟨_, M, W', ?_, w1, w2, hin, hfr, w3⟩
              show (if rf_ok8 r1 d 13 = true then some (Value.int (if zy < zx then zy else zx) :: r1, (M, U.1.2.2.2.1)) else none) = _
              rw [if_pos (sx_ok8 hs1 hc d1 d2 (by omega))]
            · rename_i h12
              have h13 : kd = 13 := by omega
              subst h13
              obtain ⟨W', w1, w2, w3⟩ := sx_fito hE hs1 h (if zx < zy then zy else zx) (fun b' e g1 g2 => by
                simp only [Option.some.injEq] at e
                subst e
                dsimp only
                split <;> rename_i hl <;> rw [Int32.lt_iff_toInt_lt] at hl <;> omega)
              refine ⟨_, M, W', ?_, w1, w2, hin, hfr, w3⟩
              show (if rf_ok8 r1 d 13 = true then some (Value.int (if zx < zy then zy else zx) :: r1, (M, U.1.2.2.2.1)) else none) = _
              rw [if_pos (sx_ok8 hs1 hc d1 d2 (by omega))]
          · cases h
        · cases h
      · cases h
    · cases h
end SX9
