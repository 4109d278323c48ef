/-! rows for lx where an instruction may fail: what fails ends no run -/
section LB
variable {cx : rf_C} {n0 : Nat} {i pc : Nat} {ls : rf_L} {st : List Value} {h : rf_H} {Q : Option Value → rf_H → Prop} {M : rf_M} {S : gS} {aux : List (Int × Nat)} {a b z : Int}
theorem ix_no {n : Nat} (ha : inr a) (h : ¬ (0 ≤ a ∧ a < n)) : Int32.ofInt a < 0 ∨ n ≤ (Int32.ofInt a).toNatClampNeg := by
  by_cases q : a < 0
  · left
    rw [Int32.lt_iff_toInt_lt, ti_ofi ha]
    exact q
  · right
    have e : (Int32.ofInt a).toInt = ((a.toNat : Nat) : Int) := by rw [ti_ofi ha]; omega
    rw [ix_nat e]
    omega
theorem ga.el_no {c n : Nat} {ty : FieldType} (hs : ga cx S c ty n) (M : rf_M) (ha : inr a) (h : ¬ (0 ≤ a ∧ a < n)) : rf_el (M, S) ty c (Int32.ofInt a) = none := by
  unfold rf_el
  rw [hs.aa M]
  exact if_neg (fun q => q.2 (ix_no ha h))
theorem l4_no {J : Instr} (hf : cx.1 i pc = some (J, aux)) (hk : rf_kd J = 4) (he : rf_hp cx J aux st h = none) : lx cx n0 i pc ls st h Q := by
  refine lx_no hf (fun d => ?_)
  unfold rf_ex
  simp only [hk, he, Option.map_none]
theorem l0_no {J : Instr} (hf : cx.1 i pc = some (J, aux)) (hk : rf_kd J = 0) (he : rf_ar J st = none) : lx cx n0 i pc ls st h Q := by
  refine lx_no hf (fun d => ?_)
  unfold rf_ex
  simp only [hk, he, Option.map_none]
theorem b_ia {c n : Nat} (hf : cx.1 i pc = some (.iaload, aux)) (hs : ga cx S c .int n) (hn : n ≤ 100000) (ha : inr a) (kk : 0 ≤ a ∧ a < n → lx cx (n0 - 1) i (pc + 1) ls (zv (gi M c a.toNat) :: st) (M, S) Q) : lx cx n0 i pc ls (zv a :: .ref c :: st) (M, S) Q := by
  by_cases q : 0 ≤ a ∧ a < n
  · exact l_ia hf hs hn q (kk q)
  · refine l4_no hf rfl ?_
    show (match rf_el (M, S) .int c (Int32.ofInt a) with | some v => some (v :: st, (M, S)) | none => none) = none
    rw [hs.el_no M ha q]
theorem b_la {c n : Nat} (hf : cx.1 i pc = some (.laload, aux)) (hs : ga cx S c .long n) (hn : n ≤ 100000) (ha : inr a) (kk : 0 ≤ a ∧ a < n → lx cx (n0 - 1) i (pc + 1) ls (.long (gl M c a.toNat) :: st) (M, S) Q) : lx cx n0 i pc ls (zv a :: .ref c :: st) (M, S) Q := by
  by_cases q : 0 ≤ a ∧ a < n
  · exact l_la hf hs hn q (kk q)
  · refine l4_no hf rfl ?_
    show (match rf_el (M, S) .long c (Int32.ofInt a) with | some v => some (v :: st, (M, S)) | none => none) = none
    rw [hs.el_no M ha q]
theorem ga_nob2 {c n : Nat} (hs : ga cx S c .byte n) (M : rf_M) (j : Int32) : rf_el (M, S) .boolean c j = none := by
  unfold rf_el
  rw [hs.aa M]
  exact if_neg (fun q => by cases q.1)
theorem b_ba {c n : Nat} (hf : cx.1 i pc = some (.baload, aux)) (hs : ga cx S c .byte n) (hn : n ≤ 100000) (ha : inr a) (kk : 0 ≤ a ∧ a < n → lx cx (n0 - 1) i (pc + 1) ls (zv (gi M c a.toNat) :: st) (M, S) Q) : lx cx n0 i pc ls (zv a :: .ref c :: st) (M, S) Q := by
  by_cases q : 0 ≤ a ∧ a < n
  · exact l_ba hf hs hn q (kk q)
  · refine l4_no hf rfl ?_
    show (match rf_el (M, S) .byte c (Int32.ofInt a) with
      | some v => some (v :: st, (M, S))
      | none => match rf_el (M, S) .boolean c (Int32.ofInt a) with
        | some v => some (v :: st, (M, S))
        | none => none) = none
    rw [hs.el_no M ha q, ga_nob2 hs]
theorem b_za {c n : Nat} (hf : cx.1 i pc = some (.baload, aux)) (hs : ga cx S c .boolean n) (hn : n ≤ 100000) (ha : inr a) (kk : 0 ≤ a ∧ a < n → lx cx (n0 - 1) i (pc + 1) ls (zv (gi M c a.toNat) :: st) (M, S) Q) : lx cx n0 i pc ls (zv a :: .ref c :: st) (M, S) Q := by
  by_cases q : 0 ≤ a ∧ a < n
  · exact l_za hf hs hn q (kk q)
  · refine l4_no hf rfl ?_
    show (match rf_el (M, S) .byte c (Int32.ofInt a) with
      | some v => some (v :: st, (M, S))
      | none => match rf_el (M, S) .boolean c (Int32.ofInt a) with
        | some v => some (v :: st, (M, S))
        | none => none) = none
    rw [ga_nob hs, hs.el_no M ha q]
theorem b_is {c n : Nat} (hf : cx.1 i pc = some (.iastore, aux)) (hs : ga cx S c .int n) (hn : n ≤ 100000) (ha : inr a) (kk : 0 ≤ a ∧ a < n → ∀ M', M' = wi M c a.toNat z → lx cx (n0 - 1) i (pc + 1) ls st (M', S) Q) : lx cx n0 i pc ls (zv z :: zv a :: .ref c :: st) (M, S) Q := by
  by_cases q : 0 ≤ a ∧ a < n
  · exact l_ist hf hs hn q (kk q)
  · refine l4_no hf rfl ?_
    show (if c < cx.2.2.2.2 then none else match rf_el (M, S) .int c (Int32.ofInt a) with | some _ => some (st, (rf_wi M c (Int32.ofInt a).toNatClampNeg (Int32.ofInt z), S)) | none => none) = none
    rw [if_neg (Nat.not_lt.mpr hs.1), hs.el_no M ha q]
theorem b_ls {c n : Nat} {x : Int64} (hf : cx.1 i pc = some (.lastore, aux)) (hs : ga cx S c .long n) (hn : n ≤ 100000) (ha : inr a) (kk : 0 ≤ a ∧ a < n → ∀ M', M' = wl M c a.toNat x → lx cx (n0 - 1) i (pc + 1) ls st (M', S) Q) : lx cx n0 i pc ls (.long x :: zv a :: .ref c :: st) (M, S) Q := by
  by_cases q : 0 ≤ a ∧ a < n
  · exact l_ls hf hs hn q (kk q)
  · refine l4_no hf rfl ?_
    show (if c < cx.2.2.2.2 then none else match rf_el (M, S) .long c (Int32.ofInt a) with | some _ => some (st, (rf_wl M c (Int32.ofInt a).toNatClampNeg x, S)) | none => none) = none
    rw [if_neg (Nat.not_lt.mpr hs.1), hs.el_no M ha q]
theorem b_bs {c n : Nat} (hf : cx.1 i pc = some (.bastore, aux)) (hs : ga cx S c .byte n) (hn : n ≤ 100000) (ha : inr a) (kk : 0 ≤ a ∧ a < n → ∀ M', M' = wi M c a.toNat (Int32.ofInt z).toInt8.toInt32.toInt → lx cx (n0 - 1) i (pc + 1) ls st (M', S) Q) : lx cx n0 i pc ls (zv z :: zv a :: .ref c :: st) (M, S) Q := by
  by_cases q : 0 ≤ a ∧ a < n
  · refine l4 hf rfl rfl (st' := st) (h' := (wi M c a.toNat (Int32.ofInt z).toInt8.toInt32.toInt, S)) ?_ (kk q _ rfl)
    show (if c < cx.2.2.2.2 then none else match rf_el (M, S) .byte c (Int32.ofInt a) with
      | some _ => some (st, (rf_wi M c (Int32.ofInt a).toNatClampNeg (Int32.ofInt z).toInt8.toInt32, S))
      | none => match rf_el (M, S) .boolean c (Int32.ofInt a) with
        | some _ => some (st, (rf_wi M c (Int32.ofInt a).toNatClampNeg (Int32.ofInt z &&& 1), S))
        | none => none) = some (st, (rf_wi M c a.toNat (Int32.ofInt (Int32.ofInt z).toInt8.toInt32.toInt), S))
    rw [if_neg (Nat.not_lt.mpr hs.1), hs.el _ (ix_z q hn).1, (ix_z q hn).2, ofi_ti]
  · refine l4_no hf rfl ?_
    show (if c < cx.2.2.2.2 then none else match rf_el (M, S) .byte c (Int32.ofInt a) with
      | some _ => some (st, (rf_wi M c (Int32.ofInt a).toNatClampNeg (Int32.ofInt z).toInt8.toInt32, S))
      | none => match rf_el (M, S) .boolean c (Int32.ofInt a) with
        | some _ => some (st, (rf_wi M c (Int32.ofInt a).toNatClampNeg (Int32.ofInt z &&& 1), S))
        | none => none) = none
    rw [if_neg (Nat.not_lt.mpr hs.1), hs.el_no M ha q, ga_nob2 hs]
theorem b_zs {c n : Nat} (hf : cx.1 i pc = some (.bastore, aux)) (hs : ga cx S c .boolean n) (hn : n ≤ 100000) (ha : inr a) (kk : 0 ≤ a ∧ a < n → ∀ M', M' = wi M c a.toNat (Int32.ofInt z &&& 1).toInt → lx cx (n0 - 1) i (pc + 1) ls st (M', S) Q) : lx cx n0 i pc ls (zv z :: zv a :: .ref c :: st) (M, S) Q := by
  by_cases q : 0 ≤ a ∧ a < n
  · refine l4 hf rfl rfl (st' := st) (h' := (wi M c a.toNat (Int32.ofInt z &&& 1).toInt, S)) ?_ (kk q _ rfl)
    show (if c < cx.2.2.2.2 then none else match rf_el (M, S) .byte c (Int32.ofInt a) with
      | some _ => some (st, (rf_wi M c (Int32.ofInt a).toNatClampNeg (Int32.ofInt z).toInt8.toInt32, S))
      | none => match rf_el (M, S) .boolean c (Int32.ofInt a) with
        | some _ => some (st, (rf_wi M c (Int32.ofInt a).toNatClampNeg (Int32.ofInt z &&& 1), S))
        | none => none) = some (st, (rf_wi M c a.toNat (Int32.ofInt (Int32.ofInt z &&& 1).toInt), S))
    rw [if_neg (Nat.not_lt.mpr hs.1), ga_nob hs]
    dsimp only
    rw [hs.el _ (ix_z q hn).1, (ix_z q hn).2, ofi_ti]
  · refine l4_no hf rfl ?_
    show (if c < cx.2.2.2.2 then none else match rf_el (M, S) .byte c (Int32.ofInt a) with
      | some _ => some (st, (rf_wi M c (Int32.ofInt a).toNatClampNeg (Int32.ofInt z).toInt8.toInt32, S))
      | none => match rf_el (M, S) .boolean c (Int32.ofInt a) with
        | some _ => some (st, (rf_wi M c (Int32.ofInt a).toNatClampNeg (Int32.ofInt z &&& 1), S))
        | none => none) = none
    rw [if_neg (Nat.not_lt.mpr hs.1), ga_nob hs, hs.el_no M ha q]
theorem b_aa {c n e : Nat} {C : String} (hf : cx.1 i pc = some (.aaload, aux)) (hs : ga cx S c (.object C) n) (hn : n ≤ 100000) (ha : inr a) (kk : 0 ≤ a ∧ a < n → M.2.2 c a.toNat = some e ∧ lx cx (n0 - 1) i (pc + 1) ls (.ref e :: st) (M, S) Q) : lx cx n0 i pc ls (zv a :: .ref c :: st) (M, S) Q := by
  by_cases q : 0 ≤ a ∧ a < n
  · exact l_aa hf hs hn q (kk q).1 (kk q).2
  · refine l4_no hf rfl ?_
    show (match rf_aa (M, S) c with
      | some (.object C, n) => match rf_el (M, S) (.object C) c (Int32.ofInt a) with
        | some v => some (v :: st, (M, S))
        | none => none
      | some (.array t, n) => match rf_el (M, S) (.array t) c (Int32.ofInt a) with
        | some v => some (v :: st, (M, S))
        | none => none
      | _ => none) = none
    rw [hs.aa]
    dsimp only
    rw [hs.el_no M ha q]
theorem b_as {c n e ci : Nat} {C : String} (hf : cx.1 i pc = some (.aastore, aux)) (hs : ga cx S c (.object C) n) (ho : go cx S e ci) (hc : (cx.2.2.2.1[ci]?).map (fun q => q.1) = some C) (hn : n ≤ 100000) (ha : inr a) (kk : 0 ≤ a ∧ a < n → ∀ M', M' = wq M c a.toNat e → lx cx (n0 - 1) i (pc + 1) ls st (M', S) Q) : lx cx n0 i pc ls (.ref e :: zv a :: .ref c :: st) (M, S) Q := by
  by_cases q : 0 ≤ a ∧ a < n
  · exact l_as hf hs ho hc hn q (kk q)
  · refine l4_no hf rfl ?_
    show (if c < cx.2.2.2.2 ∨ e < cx.2.2.2.2 then none else match rf_aa (M, S) c, rf_ob (M, S) e with
      | some (.object C, n), some ci => if (cx.2.2.2.1[ci]?).map (fun q => q.1) = some C ∧ ¬ (Int32.ofInt a < 0 ∨ n ≤ (Int32.ofInt a).toNatClampNeg) then some (st, (rf_wq M c (Int32.ofInt a).toNatClampNeg (some e), S)) else none
      | _, _ => none) = none
    rw [if_neg (fun q => q.elim (Nat.not_lt.mpr hs.1) (Nat.not_lt.mpr ho.1)), hs.aa, ho.ob]
    dsimp only
    rw [if_neg (fun w => w.2 (ix_no ha q))]
theorem b_st {idx j n : Nat} {kd z : Int} {as rest : List Value} (hf : cx.1 i pc = some (.invokestatic idx, [(kd, n), (z, j)])) (hk : ¬ 10 ≤ kd) (hn : as.length = n) (hc : (rest.map fun v => v.category).sum ≤ 8) (k : 0 < n0 → lx cx (n0 - 1) j 0 (lv_args 0 as) [] (M, S) (fun r h' => lx cx (n0 - 1) i (pc + 3) ls (r.toList ++ rest) h' Q)) : lx cx n0 i pc ls (as.reverse ++ rest) (M, S) Q := by
  refine lx_call hf (j := j) (as := as) (rest := rest) (fun d o ho => ?_) k
  subst hn
  have h1 : (as.reverse ++ rest).drop as.length = rest := by
    rw [← List.length_reverse]; exact List.drop_left
  have h2 : (as.reverse ++ rest).take as.length = as.reverse := by
    rw [← List.length_reverse]; exact List.take_left
  have e : rf_ex cx d i pc (.invokestatic idx, [(kd, as.length), (z, j)]) ls (as.reverse ++ rest) (M, S) = some (.inr (.inl (j, as, rest))) := by
    unfold rf_ex
    show (if 10 ≤ kd then _ else _) = _
    rw [if_neg hk]
    unfold rf_ca
    dsimp only
    rw [h1, if_pos ⟨by simp, hc⟩, h2, List.reverse_reverse]
    rfl
  rw [e] at ho
  injection ho with ho
  exact ho.symm
theorem b_iv {idx c ci j n : Nat} {kd : Int} {tg : List (Int × Nat)} {as rest : List Value} (hf : cx.1 i pc = some (.invokevirtual idx, (kd, n) :: tg)) (hk : ¬ 10 ≤ kd) (hs : go cx S c ci) (hl : rf_lk tg (ci : Int) = some j) (hn : as.length = n) (hc : (rest.map fun v => v.category).sum ≤ 8) (k : 0 < n0 → lx cx (n0 - 1) j 0 (lv_args 0 (.ref c :: as)) [] (M, S) (fun r h' => lx cx (n0 - 1) i (pc + 3) ls (r.toList ++ rest) h' Q)) : lx cx n0 i pc ls (as.reverse ++ .ref c :: rest) (M, S) Q := by
  refine lx_call hf (j := j) (as := .ref c :: as) (rest := rest) (fun d o ho => ?_) k
  subst hn
  have h1 : (as.reverse ++ .ref c :: rest).drop as.length = .ref c :: rest := by
    rw [← List.length_reverse]; exact List.drop_left
  have h2 : (as.reverse ++ .ref c :: rest).take as.length = as.reverse := by
    rw [← List.length_reverse]; exact List.take_left
  have e : rf_ex cx d i pc (.invokevirtual idx, (kd, as.length) :: tg) ls (as.reverse ++ .ref c :: rest) (M, S) = some (.inr (.inl (j, .ref c :: as, rest))) := by
    unfold rf_ex
    show (if 10 ≤ kd then _ else _) = _
    rw [if_neg hk]
    unfold rf_ca
    dsimp only
    rw [h1]
    dsimp only
    rw [hs.ob]
    dsimp only
    rw [hs.ky, hl]
    dsimp only
    rw [if_pos ⟨by simp, hc⟩, h2, List.reverse_reverse]
    rfl
  rw [e] at ho
  injection ho with ho
  exact ho.symm
theorem b_bi {J : Instr} {kd : Int} {k : Nat} (hf : cx.1 i pc = some (J, [(kd, k)])) (hk : rf_kd J = 5) (hd : 10 ≤ kd) (kk : ∀ d q, rf_bi cx kd d st h = some q → lx cx (n0 - 1) i (pc + 3) ls q.1 q.2 Q) : lx cx n0 i pc ls st h Q := by
  refine lx_step hf (fun d o ho => ?_)
  unfold rf_ex at ho
  simp only [hk] at ho
  have e : (if 10 ≤ kd then (rf_bi cx kd d st h).map (fun q => (Sum.inl (pc + 3, ls, q.1, q.2) : rf_O)) else (rf_ca cx J [(kd, k)] st h).map (fun q => Sum.inr (Sum.inl q))) = some o := ho
  rw [if_pos hd] at e
  cases hb : rf_bi cx kd d st h with
  | none => rw [hb] at e; cases e
  | some q =>
    rw [hb] at e
    injection e with e
    exact ⟨_, _, _, _, e.symm, kk d q hb⟩
end LB
