section LR0
variable {cx : rf_C} {n0 : Nat} {i pc : Nat} {ls : rf_L} {st : List Value} {h : rf_H} {Q : Option Value → rf_H → Prop} {I : Nat → Nat → Int32} {L : Nat → Nat → Int64} {R : Nat → Nat → Option Nat} {S : gS} {aux : List (Int × Nat)}
theorem l0 {J : Instr} {st' : List Value} (hf : cx.1 i pc = some (J, aux)) (hk : rf_kd J = 0) (he : rf_ar J st = some st') (k : lx cx (n0 - 1) i (pc + 1) ls st' h Q) : lx cx n0 i pc ls st h Q := by
  refine lx_to hf (pc' := pc + 1) (ls' := ls) (st' := st') (h' := h) (fun d => ?_) k
  unfold rf_ex
  simp only [hk, he, Option.map_some]
theorem l1 {J : Instr} {st' : List Value} {n : Nat} (hf : cx.1 i pc = some (J, aux)) (hk : rf_kd J = 1) (hn : rf_len J = n) (he : rf_lo J aux ls st = some st') (k : lx cx (n0 - 1) i (pc + n) ls st' h Q) : lx cx n0 i pc ls st h Q := by
  refine lx_to hf (pc' := pc + n) (ls' := ls) (st' := st') (h' := h) (fun d => ?_) k
  unfold rf_ex
  simp only [hk, he, hn, Option.map_some]
theorem l2 {J : Instr} {ls' : rf_L} {st' : List Value} {n : Nat} (hf : cx.1 i pc = some (J, aux)) (hk : rf_kd J = 2) (hn : rf_len J = n) (he : rf_so J (cx.2.1 i).2.2.1 ls st = some (ls', st')) (k : lx cx (n0 - 1) i (pc + n) ls' st' h Q) : lx cx n0 i pc ls st h Q := by
  refine lx_to hf (pc' := pc + n) (ls' := ls') (st' := st') (h' := h) (fun d => ?_) k
  unfold rf_ex
  simp only [hk, he, hn, Option.map_some]
theorem l3 {J : Instr} {pc' : Nat} {st' : List Value} (hf : cx.1 i pc = some (J, aux)) (hk : rf_kd J = 3) (he : rf_br cx.2.2.2.2 J aux pc st = some (pc', st')) (k : lx cx (n0 - 1) i pc' ls st' h Q) : lx cx n0 i pc ls st h Q := by
  refine lx_to hf (pc' := pc') (ls' := ls) (st' := st') (h' := h) (fun d => ?_) k
  unfold rf_ex
  simp only [hk, he, Option.map_some]
theorem l7 {J : Instr} {st' : List Value} {n : Nat} (hf : cx.1 i pc = some (J, aux)) (hk : rf_kd J = 7) (hn : rf_len J = n) (he : rf_po aux st = some st') (k : lx cx (n0 - 1) i (pc + n) ls st' h Q) : lx cx n0 i pc ls st h Q := by
  refine lx_to hf (pc' := pc + n) (ls' := ls) (st' := st') (h' := h) (fun d => ?_) k
  unfold rf_ex
  simp only [hk, he, hn, Option.map_some]
theorem l4 {J : Instr} {st' : List Value} {h' : rf_H} {n : Nat} (hf : cx.1 i pc = some (J, aux)) (hk : rf_kd J = 4) (hn : rf_len J = n) (he : rf_hp cx J aux st h = some (st', h')) (k : lx cx (n0 - 1) i (pc + n) ls st' h' Q) : lx cx n0 i pc ls st h Q := by
  refine lx_to hf (pc' := pc + n) (ls' := ls) (st' := st') (h' := h') (fun d => ?_) k
  unfold rf_ex
  simp only [hk, he, hn, Option.map_some]
theorem l_if0 {c : Jvm.ClassFile.Cond} {o : Int} {x : Int32} (hf : cx.1 i pc = some (.ifCond c o, aux)) (kt : rf_cc x 0 c = true → lx cx (n0 - 1) i (rf_tg aux) ls st h Q) (kf : ¬ rf_cc x 0 c = true → lx cx (n0 - 1) i (pc + 3) ls st h Q) : lx cx n0 i pc ls (.int x :: st) h Q := by
  by_cases hc : rf_cc x 0 c = true
  · exact l3 hf rfl (by show some (if rf_cc x 0 c = true then rf_tg aux else pc + 3, st) = _; rw [if_pos hc]) (kt hc)
  · exact l3 hf rfl (by show some (if rf_cc x 0 c = true then rf_tg aux else pc + 3, st) = _; rw [if_neg hc]) (kf hc)
theorem l_ic0 {c : Jvm.ClassFile.Cond} {o : Int} {x y : Int32} (hf : cx.1 i pc = some (.if_icmp c o, aux)) (kt : rf_cc x y c = true → lx cx (n0 - 1) i (rf_tg aux) ls st h Q) (kf : ¬ rf_cc x y c = true → lx cx (n0 - 1) i (pc + 3) ls st h Q) : lx cx n0 i pc ls (.int y :: .int x :: st) h Q := by
  by_cases hc : rf_cc x y c = true
  · exact l3 hf rfl (by show some (if rf_cc x y c = true then rf_tg aux else pc + 3, st) = _; rw [if_pos hc]) (kt hc)
  · exact l3 hf rfl (by show some (if rf_cc x y c = true then rf_tg aux else pc + 3, st) = _; rw [if_neg hc]) (kf hc)
theorem l_gf {idx a ci k : Nat} {v : Value} (hf : cx.1 i pc = some (.getfield idx, aux)) (hs : go cx S a ci) (hl : rf_lk aux (ci : Int) = some k) (hv : rf_rd (I, L, R) (cx.2.2.1 (ci : Int) k) a k = v) (kk : lx cx (n0 - 1) i (pc + 3) ls (v :: st) ((I, L, R), S) Q) : lx cx n0 i pc ls (.ref a :: st) ((I, L, R), S) Q := by
  refine l4 hf rfl rfl (st' := v :: st) (h' := ((I, L, R), S)) ?_ kk
  show (match rf_ob ((I, L, R), S) a with
    | some ci => match rf_lk aux (rf_ky cx.2.2.2.2 a ci) with
      | some k => some (rf_rd (I, L, R) (cx.2.2.1 (rf_ky cx.2.2.2.2 a ci) k) a k :: st, ((I, L, R), S))
      | none => none
    | none => none) = _
  rw [hs.ob]
  dsimp only
  rw [hs.ky, hl]
  dsimp only
  rw [hv]
theorem l_pf {idx a ci k : Nat} {v : Value} {M : rf_M} (hf : cx.1 i pc = some (.putfield idx, aux)) (hs : go cx S a ci) (hl : rf_lk aux (ci : Int) = some k) (hv : rf_wr (I, L, R) (cx.2.2.1 (ci : Int) k) a k v = some M) (kk : lx cx (n0 - 1) i (pc + 3) ls st (M, S) Q) : lx cx n0 i pc ls (v :: .ref a :: st) ((I, L, R), S) Q := by
  refine l4 hf rfl rfl (st' := st) (h' := (M, S)) ?_ kk
  show (if a < cx.2.2.2.2 then none else match rf_ob ((I, L, R), S) a with
    | some ci => match rf_lk aux (ci : Int) with
      | some k => match rf_wr (I, L, R) (cx.2.2.1 (ci : Int) k) a k v with
        | some M => some (st, (M, S))
        | none => none
      | none => none
    | none => none) = _
  rw [if_neg (Nat.not_lt.mpr hs.1), hs.ob]
  dsimp only
  rw [hl]
  dsimp only
  rw [hv]
end LR0
section LR1
variable {cx : rf_C} {n0 : Nat} {i pc : Nat} {ls : rf_L} {st : List Value} {h : rf_H} {Q : Option Value → rf_H → Prop} {M : rf_M} {S : gS} {aux : List (Int × Nat)} {a b z : Int}
theorem l_mgf {idx a ci k : Nat} {v : Value} (hf : cx.1 i pc = some (.getfield idx, aux)) (hs : go cx S a ci) (hl : rf_lk aux (ci : Int) = some k) (hv : rf_rd M (cx.2.2.1 (ci : Int) k) a k = v) (kk : lx cx (n0 - 1) i (pc + 3) ls (v :: st) (M, S) Q) : lx cx n0 i pc ls (.ref a :: st) (M, S) Q := l_gf hf hs hl hv kk
theorem l_mpf {idx a ci k : Nat} {v : Value} {M' : rf_M} (hf : cx.1 i pc = some (.putfield idx, aux)) (hs : go cx S a ci) (hl : rf_lk aux (ci : Int) = some k) (hv : rf_wr M (cx.2.2.1 (ci : Int) k) a k v = some M') (kk : lx cx (n0 - 1) i (pc + 3) ls st (M', S) Q) : lx cx n0 i pc ls (v :: .ref a :: st) (M, S) Q := l_pf hf hs hl hv kk
theorem l_bi {n : Int} (hf : cx.1 i pc = some (.bipush n, aux)) (hz : (Int8.ofInt n).toInt32 = Int32.ofInt n) (kk : lx cx (n0 - 1) i (pc + 2) ls (zv n :: st) h Q) : lx cx n0 i pc ls st h Q := l1 (n := 2) hf rfl rfl (st' := zv n :: st) (by show some (Value.int (Int8.ofInt n).toInt32 :: st) = _; rw [hz]) kk
theorem l_si {n : Int} (hf : cx.1 i pc = some (.sipush n, aux)) (hz : (Int16.ofInt n).toInt32 = Int32.ofInt n) (kk : lx cx (n0 - 1) i (pc + 3) ls (zv n :: st) h Q) : lx cx n0 i pc ls st h Q := l1 (n := 3) hf rfl rfl (st' := zv n :: st) (by show some (Value.int (Int16.ofInt n).toInt32 :: st) = _; rw [hz]) kk
theorem l_s1 {J : Instr} {n k : Nat} {v : Value} (hf : cx.1 i pc = some (J, aux)) (hk : rf_kd J = 2) (hn : rf_len J = n) (he : rf_so J (cx.2.1 i).2.2.1 ls (v :: st) = some (rf_s1 ls k v, st)) (kk : ∀ ls', rf_ld ls' k = some v → (∀ j w, k ≠ j → ¬ (j + 1 = k ∧ w.category = 2) → rf_ld ls j = some w → rf_ld ls' j = some w) → lx cx (n0 - 1) i (pc + n) ls' st h Q) : lx cx n0 i pc ls (v :: st) h Q := l2 hf hk hn he (kk _ (rf_ld_hd _ _ _) (fun _ _ h1 h2 h3 => rf_s1_ne h1 h3 h2))
theorem l_s2 {J : Instr} {n k : Nat} {v : Value} (hf : cx.1 i pc = some (J, aux)) (hk : rf_kd J = 2) (hn : rf_len J = n) (he : rf_so J (cx.2.1 i).2.2.1 ls (v :: st) = some (rf_s2 ls k v, st)) (kk : ∀ ls', rf_ld ls' k = some v → (∀ j w, k ≠ j → k + 1 ≠ j → ¬ (j + 1 = k ∧ w.category = 2) → rf_ld ls j = some w → rf_ld ls' j = some w) → lx cx (n0 - 1) i (pc + n) ls' st h Q) : lx cx n0 i pc ls (v :: st) h Q := l2 hf hk hn he (kk _ (rf_ld_hd _ _ _) (fun _ _ h1 h2 h3 h4 => rf_s2_ne h1 h2 h4 h3))
theorem l_ii {k : Nat} {n : Int} (hf : cx.1 i pc = some (.iinc k n, aux)) (hl : rf_ld ls k = some (zv z)) (hL : k < (cx.2.1 i).2.2.1) (kk : ∀ ls', rf_ld ls' k = some (zv (z + n)) → (∀ j w, k ≠ j → ¬ (j + 1 = k ∧ w.category = 2) → rf_ld ls j = some w → rf_ld ls' j = some w) → lx cx (n0 - 1) i (pc + 3) ls' st h Q) : lx cx n0 i pc ls st h Q := by
  refine l2 (n := 3) hf rfl rfl (ls' := rf_s1 ls k (zv (z + n))) (st' := st) ?_ (kk _ (rf_ld_hd _ _ _) (fun _ _ h1 h2 h3 => rf_s1_ne h1 h3 h2))
  show (match rf_ld ls k with
    | some (.int x) => if k < (cx.2.1 i).2.2.1 then some (rf_s1 ls k (.int (x + Int32.ofInt n)), st) else none
    | _ => none) = _
  rw [hl]
  dsimp only
  rw [if_pos hL, ← Int32.ofInt_add]
theorem l_add (hf : cx.1 i pc = some (.iadd, aux)) (kk : lx cx (n0 - 1) i (pc + 1) ls (zv (a + b) :: st) h Q) : lx cx n0 i pc ls (zv b :: zv a :: st) h Q := l0 hf rfl (st' := zv (a + b) :: st) (by show some (Value.int (Int32.ofInt a + Int32.ofInt b) :: st) = _; rw [← Int32.ofInt_add]) kk
theorem l_sub (hf : cx.1 i pc = some (.isub, aux)) (kk : lx cx (n0 - 1) i (pc + 1) ls (zv (a - b) :: st) h Q) : lx cx n0 i pc ls (zv b :: zv a :: st) h Q := l0 hf rfl (st' := zv (a - b) :: st) (by show some (Value.int (Int32.ofInt a - Int32.ofInt b) :: st) = _; rw [← Int32.ofInt_sub]) kk
theorem l_mul (hf : cx.1 i pc = some (.imul, aux)) (kk : lx cx (n0 - 1) i (pc + 1) ls (zv (a * b) :: st) h Q) : lx cx n0 i pc ls (zv b :: zv a :: st) h Q := l0 hf rfl (st' := zv (a * b) :: st) (by show some (Value.int (Int32.ofInt a * Int32.ofInt b) :: st) = _; rw [← Int32.ofInt_mul]) kk
theorem l_op {J : Instr} {T : Int32} {st' : List Value} (hf : cx.1 i pc = some (J, aux)) (hk : rf_kd J = 0) (he : rf_ar J st = some (.int T :: st')) (kk : lx cx (n0 - 1) i (pc + 1) ls (zv T.toInt :: st') h Q) : lx cx n0 i pc ls st h Q := l0 hf hk (st' := zv T.toInt :: st') (by rw [he]; show _ = some (Value.int (Int32.ofInt T.toInt) :: st'); rw [ofi_ti]) kk
theorem l_if {c : Jvm.ClassFile.Cond} {o : Int} (hf : cx.1 i pc = some (.ifCond c o, aux)) (ha : inr a) (kt : sx_cc c a 0 → lx cx (n0 - 1) i (rf_tg aux) ls st h Q) (kf : ¬ sx_cc c a 0 → lx cx (n0 - 1) i (pc + 3) ls st h Q) : lx cx n0 i pc ls (zv a :: st) h Q := by
  have e : ∀ k, rf_cc (Int32.ofInt a) 0 k = true ↔ sx_cc k a 0 := fun k => by
    rw [rf_cc_iff, ti_ofi ha]; rfl
  exact l_if0 hf (fun q => kt ((e c).mp q)) (fun q => kf (fun w => q ((e c).mpr w)))
theorem l_ic {c : Jvm.ClassFile.Cond} {o : Int} (hf : cx.1 i pc = some (.if_icmp c o, aux)) (ha : inr a) (hb : inr b) (kt : sx_cc c a b → lx cx (n0 - 1) i (rf_tg aux) ls st h Q) (kf : ¬ sx_cc c a b → lx cx (n0 - 1) i (pc + 3) ls st h Q) : lx cx n0 i pc ls (zv b :: zv a :: st) h Q := by
  have e : ∀ k, rf_cc (Int32.ofInt a) (Int32.ofInt b) k = true ↔ sx_cc k a b := fun k => by
    rw [rf_cc_iff, ti_ofi ha, ti_ofi hb]
  exact l_ic0 hf (fun q => kt ((e c).mp q)) (fun q => kf (fun w => q ((e c).mpr w)))
theorem l_gi {idx c ci k : Nat} (hf : cx.1 i pc = some (.getfield idx, aux)) (hs : go cx S c ci) (hl : rf_lk aux (ci : Int) = some k) (hv : ∀ M : rf_M, rf_rd M (cx.2.2.1 (ci : Int) k) c k = .int (M.1 c k)) (kk : lx cx (n0 - 1) i (pc + 3) ls (zv (gi M c k) :: st) (M, S) Q) : lx cx n0 i pc ls (.ref c :: st) (M, S) Q := l_mgf hf hs hl (by rw [hv]; show _ = Value.int (Int32.ofInt (M.1 c k).toInt); rw [ofi_ti]) kk
theorem l_gl {idx c ci k : Nat} (hf : cx.1 i pc = some (.getfield idx, aux)) (hs : go cx S c ci) (hl : rf_lk aux (ci : Int) = some k) (hv : ∀ M : rf_M, rf_rd M (cx.2.2.1 (ci : Int) k) c k = .long (M.2.1 c k)) (kk : lx cx (n0 - 1) i (pc + 3) ls (.long (gl M c k) :: st) (M, S) Q) : lx cx n0 i pc ls (.ref c :: st) (M, S) Q := l_mgf hf hs hl (hv M) kk
theorem l_sw {J : Instr} {pc' : Nat} {v : Int} (e : a = v) (hf : cx.1 i pc = some (J, aux)) (hk : rf_kd J = 3) (he : rf_br cx.2.2.2.2 J aux pc (zv v :: st) = some (pc', st)) (kk : lx cx (n0 - 1) i pc' ls st h Q) : lx cx n0 i pc ls (zv a :: st) h Q := by
  subst e; exact l3 hf hk he kk
theorem l_swl {q0 : Int} {q1 : Array (Int × Int)} {t : Nat} (hf : cx.1 i pc = some (.lookupswitch q0 q1, aux)) (ha : inr a) (he : rf_sw aux.tail (rf_tg aux) a = t) (kk : lx cx (n0 - 1) i t ls st h Q) : lx cx n0 i pc ls (zv a :: st) h Q := by
  refine l3 hf rfl (pc' := t) ?_ kk
  show some (rf_sw aux.tail (rf_tg aux) (Int32.ofInt a).toInt, st) = _
  rw [ti_ofi ha, he]
theorem l_swt {q0 lo hi : Int} {q1 : Array Int} (hf : cx.1 i pc = some (.tableswitch q0 lo hi q1, aux)) (ha : inr a) (he : a < lo ∨ hi < a) (kk : lx cx (n0 - 1) i (rf_tg aux) ls st h Q) : lx cx n0 i pc ls (zv a :: st) h Q := by
  refine l3 hf rfl (pc' := rf_tg aux) ?_ kk
  show (if (Int32.ofInt a).toInt < lo ∨ hi < (Int32.ofInt a).toInt then some (rf_tg aux, st) else _) = _
  rw [ti_ofi ha, if_pos he]
theorem l_ia {c n : Nat} (hf : cx.1 i pc = some (.iaload, aux)) (hs : ga cx S c .int n) (hn : n ≤ 100000) (hj : 0 ≤ a ∧ a < n) (kk : lx cx (n0 - 1) i (pc + 1) ls (zv (gi M c a.toNat) :: st) (M, S) Q) : lx cx n0 i pc ls (zv a :: .ref c :: st) (M, S) Q := by
  refine l4 hf rfl rfl (st' := zv (gi M c a.toNat) :: st) (h' := (M, S)) ?_ kk
  show (match rf_el (M, S) .int c (Int32.ofInt a) with | some v => some (v :: st, (M, S)) | none => none) = some (Value.int (Int32.ofInt (M.1 c a.toNat).toInt) :: st, (M, S))
  rw [hs.el _ (ix_z hj hn).1, (ix_z hj hn).2, ofi_ti]
  rfl
theorem l_la {c n : Nat} (hf : cx.1 i pc = some (.laload, aux)) (hs : ga cx S c .long n) (hn : n ≤ 100000) (hj : 0 ≤ a ∧ a < n) (kk : lx cx (n0 - 1) i (pc + 1) ls (.long (gl M c a.toNat) :: st) (M, S) Q) : lx cx n0 i pc ls (zv a :: .ref c :: st) (M, S) Q := by
  refine l4 hf rfl rfl (st' := .long (gl M c a.toNat) :: st) (h' := (M, S)) ?_ kk
  show (match rf_el (M, S) .long c (Int32.ofInt a) with | some v => some (v :: st, (M, S)) | none => none) = _
  rw [hs.el _ (ix_z hj hn).1, (ix_z hj hn).2]
  rfl
theorem l_ba {c n : Nat} (hf : cx.1 i pc = some (.baload, aux)) (hs : ga cx S c .byte n) (hn : n ≤ 100000) (hj : 0 ≤ a ∧ a < n) (kk : lx cx (n0 - 1) i (pc + 1) ls (zv (gi M c a.toNat) :: st) (M, S) Q) : lx cx n0 i pc ls (zv a :: .ref c :: st) (M, S) Q := by
  refine l4 hf rfl rfl (st' := zv (gi M c a.toNat) :: st) (h' := (M, S)) ?_ kk
  show (match rf_el (M, S) .byte c (Int32.ofInt a) with
    | some v => some (v :: st, (M, S))
    | none => match rf_el (M, S) .boolean c (Int32.ofInt a) with
      | some v => some (v :: st, (M, S))
      | none => none) = some (Value.int (Int32.ofInt (M.1 c a.toNat).toInt) :: st, (M, S))
  rw [hs.el _ (ix_z hj hn).1, (ix_z hj hn).2, ofi_ti]
  rfl
theorem l_za {c n : Nat} (hf : cx.1 i pc = some (.baload, aux)) (hs : ga cx S c .boolean n) (hn : n ≤ 100000) (hj : 0 ≤ a ∧ a < n) (kk : lx cx (n0 - 1) i (pc + 1) ls (zv (gi M c a.toNat) :: st) (M, S) Q) : lx cx n0 i pc ls (zv a :: .ref c :: st) (M, S) Q := by
  refine l4 hf rfl rfl (st' := zv (gi M c a.toNat) :: st) (h' := (M, S)) ?_ kk
  show (match rf_el (M, S) .byte c (Int32.ofInt a) with
    | some v => some (v :: st, (M, S))
    | none => match rf_el (M, S) .boolean c (Int32.ofInt a) with
      | some v => some (v :: st, (M, S))
      | none => none) = some (Value.int (Int32.ofInt (M.1 c a.toNat).toInt) :: st, (M, S))
  rw [ga_nob hs]
  dsimp only
  rw [hs.el _ (ix_z hj hn).1, (ix_z hj hn).2, ofi_ti]
  rfl
theorem l_gr {idx c ci k e : Nat} (hf : cx.1 i pc = some (.getfield idx, aux)) (hs : go cx S c ci) (hl : rf_lk aux (ci : Int) = some k) (hv : ∀ M : rf_M, rf_rd M (cx.2.2.1 (ci : Int) k) c k = va_rf (M.2.2 c k)) (hr : M.2.2 c k = some e) (kk : lx cx (n0 - 1) i (pc + 3) ls (.ref e :: st) (M, S) Q) : lx cx n0 i pc ls (.ref c :: st) (M, S) Q := l_mgf hf hs hl (by rw [hv, hr]; rfl) kk
theorem l_pi {idx c ci k : Nat} (hf : cx.1 i pc = some (.putfield idx, aux)) (hs : go cx S c ci) (hl : rf_lk aux (ci : Int) = some k) (hv : ∀ (M : rf_M) x, rf_wr M (cx.2.2.1 (ci : Int) k) c k (.int x) = some (rf_wi M c k x)) (kk : ∀ M', M' = wi M c k z → lx cx (n0 - 1) i (pc + 3) ls st (M', S) Q) : lx cx n0 i pc ls (zv z :: .ref c :: st) (M, S) Q := l_mpf hf hs hl (hv M _) (kk _ rfl)
theorem l_pb {idx c ci k : Nat} (hf : cx.1 i pc = some (.putfield idx, aux)) (hs : go cx S c ci) (hl : rf_lk aux (ci : Int) = some k) (hv : cx.2.2.1 (ci : Int) k = .boolean) (hz : z = 0 ∨ z = 1) (kk : ∀ M', M' = wi M c k z → lx cx (n0 - 1) i (pc + 3) ls st (M', S) Q) : lx cx n0 i pc ls (zv z :: .ref c :: st) (M, S) Q := by
  refine l_mpf hf hs hl (M' := wi M c k z) ?_ (kk _ rfl)
  rw [hv]
  rcases hz with rfl | rfl
  · show (if narrow .boolean (.int (Int32.ofInt 0)) = .int (Int32.ofInt 0) ∧ fits .boolean (.int (Int32.ofInt 0)) = true then some (rf_wi M c k (Int32.ofInt 0)) else none) = _
    rw [if_pos ⟨rfl, rfl⟩]; rfl
  · show (if narrow .boolean (.int (Int32.ofInt 1)) = .int (Int32.ofInt 1) ∧ fits .boolean (.int (Int32.ofInt 1)) = true then some (rf_wi M c k (Int32.ofInt 1)) else none) = _
    rw [if_pos ⟨rfl, rfl⟩]; rfl
theorem l_pl {idx c ci k : Nat} {x : Int64} (hf : cx.1 i pc = some (.putfield idx, aux)) (hs : go cx S c ci) (hl : rf_lk aux (ci : Int) = some k) (hv : ∀ (M : rf_M) x, rf_wr M (cx.2.2.1 (ci : Int) k) c k (.long x) = some (rf_wl M c k x)) (kk : ∀ M', M' = wl M c k x → lx cx (n0 - 1) i (pc + 3) ls st (M', S) Q) : lx cx n0 i pc ls (.long x :: .ref c :: st) (M, S) Q := l_mpf hf hs hl (hv M _) (kk _ rfl)
theorem l_pq {idx c ci k e : Nat} (hf : cx.1 i pc = some (.putfield idx, aux)) (hs : go cx S c ci) (hl : rf_lk aux (ci : Int) = some k) (hv : ∀ (M : rf_M) x, rf_wr M (cx.2.2.1 (ci : Int) k) c k (.ref x) = some (rf_wq M c k (some x))) (kk : ∀ M', M' = wq M c k e → lx cx (n0 - 1) i (pc + 3) ls st (M', S) Q) : lx cx n0 i pc ls (.ref e :: .ref c :: st) (M, S) Q := l_mpf hf hs hl (hv M _) (kk _ rfl)
theorem l_ist {c n : Nat} (hf : cx.1 i pc = some (.iastore, aux)) (hs : ga cx S c .int n) (hn : n ≤ 100000) (hj : 0 ≤ a ∧ a < n) (kk : ∀ M', M' = wi M c a.toNat z → lx cx (n0 - 1) i (pc + 1) ls st (M', S) Q) : lx cx n0 i pc ls (zv z :: zv a :: .ref c :: st) (M, S) Q := by
  refine l4 hf rfl rfl (st' := st) (h' := (wi M c a.toNat z, S)) ?_ (kk _ rfl)
  show (if c < cx.2.2.2.2 then none else match rf_el (M, S) .int c (Int32.ofInt a) with | some _ => some (st, (rf_wi M c (Int32.ofInt a).toNatClampNeg (Int32.ofInt z), S)) | none => none) = _
  rw [if_neg (Nat.not_lt.mpr hs.1), hs.el _ (ix_z hj hn).1, (ix_z hj hn).2]
  rfl
theorem l_ls {c n : Nat} {x : Int64} (hf : cx.1 i pc = some (.lastore, aux)) (hs : ga cx S c .long n) (hn : n ≤ 100000) (hj : 0 ≤ a ∧ a < n) (kk : ∀ M', M' = wl M c a.toNat x → lx cx (n0 - 1) i (pc + 1) ls st (M', S) Q) : lx cx n0 i pc ls (.long x :: zv a :: .ref c :: st) (M, S) Q := by
  refine l4 hf rfl rfl (st' := st) (h' := (wl M c a.toNat x, S)) ?_ (kk _ rfl)
  show (if c < cx.2.2.2.2 then none else match rf_el (M, S) .long c (Int32.ofInt a) with | some _ => some (st, (rf_wl M c (Int32.ofInt a).toNatClampNeg x, S)) | none => none) = _
  rw [if_neg (Nat.not_lt.mpr hs.1), hs.el _ (ix_z hj hn).1, (ix_z hj hn).2]
  rfl
theorem l_aa {c n e : Nat} {C : String} (hf : cx.1 i pc = some (.aaload, aux)) (hs : ga cx S c (.object C) n) (hn : n ≤ 100000) (hj : 0 ≤ a ∧ a < n) (hr : M.2.2 c a.toNat = some e) (kk : lx cx (n0 - 1) i (pc + 1) ls (.ref e :: st) (M, S) Q) : lx cx n0 i pc ls (zv a :: .ref c :: st) (M, S) Q := by
  refine l4 hf rfl rfl (st' := .ref e :: st) (h' := (M, S)) ?_ kk
  show (match rf_aa (M, S) c with
    | some (.object C, n) => match rf_el (M, S) (.object C) c (Int32.ofInt a) with
      | some v => some (v :: st, (M, S))
      | none => none
    | some (.array t, n) => match rf_el (M, S) (.array t) c (Int32.ofInt a) with
      | some v => some (v :: st, (M, S))
      | none => none
    | _ => none) = _
  rw [hs.aa]
  dsimp only
  rw [hs.el _ (ix_z hj hn).1, (ix_z hj hn).2]
  show some (va_rf (M.2.2 c a.toNat) :: st, (M, S)) = _
  rw [hr]; rfl
theorem l_as {c n e ci : Nat} {C : String} (hf : cx.1 i pc = some (.aastore, aux)) (hs : ga cx S c (.object C) n) (ho : go cx S e ci) (hc : (cx.2.2.2.1[ci]?).map (fun q => q.1) = some C) (hn : n ≤ 100000) (hj : 0 ≤ a ∧ a < n) (kk : ∀ M', M' = wq M c a.toNat e → lx cx (n0 - 1) i (pc + 1) ls st (M', S) Q) : lx cx n0 i pc ls (.ref e :: zv a :: .ref c :: st) (M, S) Q := by
  refine l4 hf rfl rfl (st' := st) (h' := (wq M c a.toNat e, S)) ?_ (kk _ rfl)
  show (if c < cx.2.2.2.2 ∨ e < cx.2.2.2.2 then none else match rf_aa (M, S) c, rf_ob (M, S) e with
    | some (.object C, n), some ci => if (cx.2.2.2.1[ci]?).map (fun q => q.1) = some C ∧ ¬ (Int32.ofInt a < 0 ∨ n ≤ (Int32.ofInt a).toNatClampNeg) then some (st, (rf_wq M c (Int32.ofInt a).toNatClampNeg (some e), S)) else none
    | _, _ => none) = _
  rw [if_neg (fun q => q.elim (Nat.not_lt.mpr hs.1) (Nat.not_lt.mpr ho.1)), hs.aa, ho.ob]
  dsimp only
  rw [if_pos ⟨hc, (ix_z hj hn).1⟩, (ix_z hj hn).2]
  rfl
theorem l_al {c n : Nat} {ty : FieldType} (hf : cx.1 i pc = some (.arraylength, aux)) (hs : ga cx S c ty n) (hz : nI n = Int32.ofInt z) (kk : lx cx (n0 - 1) i (pc + 1) ls (zv z :: st) (M, S) Q) : lx cx n0 i pc ls (.ref c :: st) (M, S) Q := by
  refine l4 hf rfl rfl (st' := zv z :: st) (h' := (M, S)) ?_ kk
  show (match rf_aa (M, S) c with | some q => some (Value.int (nI q.2) :: st, (M, S)) | none => none) = _
  rw [hs.aa]
  show some (Value.int (nI n) :: st, (M, S)) = _
  rw [hz]
theorem l_acn {o : Int} {x y : Nat} (hf : cx.1 i pc = some (.if_acmp .ne o, aux)) (hx : cx.2.2.2.2 ≤ x) (hy : cx.2.2.2.2 ≤ y) (kt : ¬ x = y → lx cx (n0 - 1) i (rf_tg aux) ls st h Q) (kf : x = y → lx cx (n0 - 1) i (pc + 3) ls st h Q) : lx cx n0 i pc ls (.ref y :: .ref x :: st) h Q := by
  refine l3 hf rfl (pc' := if x = y then pc + 3 else rf_tg aux) (st' := st) ?_ ?_
  · show (if x < cx.2.2.2.2 ∨ y < cx.2.2.2.2 then none else some (if x = y then pc + 3 else rf_tg aux, st)) = _
    rw [if_neg (fun q => q.elim (Nat.not_lt.mpr hx) (Nat.not_lt.mpr hy))]
  · by_cases e : x = y
    · rw [if_pos e]; exact kf e
    · rw [if_neg e]; exact kt e
end LR1
/-! rows for lx where an instruction may fail: what fails ends no run -/
section LB
variable {cx : rf_C} {n0 : Nat} {i pc : Nat} {ls : rf_L} {st : List Value} {h : rf_H} {Q : Option Value → rf_H → Prop} {M : rf_M} {S : gS} {aux : List (Int × Nat)} {a b z : Int}
theorem ix_no {n : Nat} (ha : inr a) (h : ¬ (0 ≤ a ∧ a < n)) : Int32.ofInt a < 0 ∨ n ≤ (Int32.ofInt a).toNatClampNeg := by
  by_cases q : a < 0
  · left
    rw [Int32.lt_iff_toInt_lt, ti_ofi ha]
    exact q
  · right
    have e : (Int32.ofInt a).toInt = ((a.toNat : Nat) : Int) := by rw [ti_ofi ha]; omega
    rw [ix_nat e]
    omega
theorem ga.el_no {c n : Nat} {ty : FieldType} (hs : ga cx S c ty n) (M : rf_M) (ha : inr a) (h : ¬ (0 ≤ a ∧ a < n)) : rf_el (M, S) ty c (Int32.ofInt a) = none := by
  unfold rf_el
  rw [hs.aa M]
  exact if_neg (fun q => q.2 (ix_no ha h))
theorem l4_no {J : Instr} (hf : cx.1 i pc = some (J, aux)) (hk : rf_kd J = 4) (he : rf_hp cx J aux st h = none) : lx cx n0 i pc ls st h Q := by
  refine lx_no hf (fun d => ?_)
  unfold rf_ex
  simp only [hk, he, Option.map_none]
theorem l0_no {J : Instr} (hf : cx.1 i pc = some (J, aux)) (hk : rf_kd J = 0) (he : rf_ar J st = none) : lx cx n0 i pc ls st h Q := by
  refine lx_no hf (fun d => ?_)
  unfold rf_ex
  simp only [hk, he, Option.map_none]
theorem b_ia {c n : Nat} (hf : cx.1 i pc = some (.iaload, aux)) (hs : ga cx S c .int n) (hn : n ≤ 100000) (ha : inr a) (kk : 0 ≤ a ∧ a < n → lx cx (n0 - 1) i (pc + 1) ls (zv (gi M c a.toNat) :: st) (M, S) Q) : lx cx n0 i pc ls (zv a :: .ref c :: st) (M, S) Q := by
  by_cases q : 0 ≤ a ∧ a < n
  · exact l_ia hf hs hn q (kk q)
  · refine l4_no hf rfl ?_
    show (match rf_el (M, S) .int c (Int32.ofInt a) with | some v => some (v :: st, (M, S)) | none => none) = none
    rw [hs.el_no M ha q]
theorem b_la {c n : Nat} (hf : cx.1 i pc = some (.laload, aux)) (hs : ga cx S c .long n) (hn : n ≤ 100000) (ha : inr a) (kk : 0 ≤ a ∧ a < n → lx cx (n0 - 1) i (pc + 1) ls (.long (gl M c a.toNat) :: st) (M, S) Q) : lx cx n0 i pc ls (zv a :: .ref c :: st) (M, S) Q := by
  by_cases q : 0 ≤ a ∧ a < n
  · exact l_la hf hs hn q (kk q)
  · refine l4_no hf rfl ?_
    show (match rf_el (M, S) .long c (Int32.ofInt a) with | some v => some (v :: st, (M, S)) | none => none) = none
    rw [hs.el_no M ha q]
theorem ga_nob2 {c n : Nat} (hs : ga cx S c .byte n) (M : rf_M) (j : Int32) : rf_el (M, S) .boolean c j = none := by
  unfold rf_el
  rw [hs.aa M]
  exact if_neg (fun q => by cases q.1)
theorem b_ba {c n : Nat} (hf : cx.1 i pc = some (.baload, aux)) (hs : ga cx S c .byte n) (hn : n ≤ 100000) (ha : inr a) (kk : 0 ≤ a ∧ a < n → lx cx (n0 - 1) i (pc + 1) ls (zv (gi M c a.toNat) :: st) (M, S) Q) : lx cx n0 i pc ls (zv a :: .ref c :: st) (M, S) Q := by
  by_cases q : 0 ≤ a ∧ a < n
  · exact l_ba hf hs hn q (kk q)
  · refine l4_no hf rfl ?_
    show (match rf_el (M, S) .byte c (Int32.ofInt a) with
      | some v => some (v :: st, (M, S))
      | none => match rf_el (M, S) .boolean c (Int32.ofInt a) with
        | some v => some (v :: st, (M, S))
        | none => none) = none
    rw [hs.el_no M ha q, ga_nob2 hs]
theorem b_za {c n : Nat} (hf : cx.1 i pc = some (.baload, aux)) (hs : ga cx S c .boolean n) (hn : n ≤ 100000) (ha : inr a) (kk : 0 ≤ a ∧ a < n → lx cx (n0 - 1) i (pc + 1) ls (zv (gi M c a.toNat) :: st) (M, S) Q) : lx cx n0 i pc ls (zv a :: .ref c :: st) (M, S) Q := by
  by_cases q : 0 ≤ a ∧ a < n
  · exact l_za hf hs hn q (kk q)
  · refine l4_no hf rfl ?_
    show (match rf_el (M, S) .byte c (Int32.ofInt a) with
      | some v => some (v :: st, (M, S))
      | none => match rf_el (M, S) .boolean c (Int32.ofInt a) with
        | some v => some (v :: st, (M, S))
        | none => none) = none
    rw [ga_nob hs, hs.el_no M ha q]
theorem b_is {c n : Nat} (hf : cx.1 i pc = some (.iastore, aux)) (hs : ga cx S c .int n) (hn : n ≤ 100000) (ha : inr a) (kk : 0 ≤ a ∧ a < n → ∀ M', M' = wi M c a.toNat z → lx cx (n0 - 1) i (pc + 1) ls st (M', S) Q) : lx cx n0 i pc ls (zv z :: zv a :: .ref c :: st) (M, S) Q := by
  by_cases q : 0 ≤ a ∧ a < n
  · exact l_ist hf hs hn q (kk q)
  · refine l4_no hf rfl ?_
    show (if c < cx.2.2.2.2 then none else match rf_el (M, S) .int c (Int32.ofInt a) with | some _ => some (st, (rf_wi M c (Int32.ofInt a).toNatClampNeg (Int32.ofInt z), S)) | none => none) = none
    rw [if_neg (Nat.not_lt.mpr hs.1), hs.el_no M ha q]
theorem b_ls {c n : Nat} {x : Int64} (hf : cx.1 i pc = some (.lastore, aux)) (hs : ga cx S c .long n) (hn : n ≤ 100000) (ha : inr a) (kk : 0 ≤ a ∧ a < n → ∀ M', M' = wl M c a.toNat x → lx cx (n0 - 1) i (pc + 1) ls st (M', S) Q) : lx cx n0 i pc ls (.long x :: zv a :: .ref c :: st) (M, S) Q := by
  by_cases q : 0 ≤ a ∧ a < n
  · exact l_ls hf hs hn q (kk q)
  · refine l4_no hf rfl ?_
    show (if c < cx.2.2.2.2 then none else match rf_el (M, S) .long c (Int32.ofInt a) with | some _ => some (st, (rf_wl M c (Int32.ofInt a).toNatClampNeg x, S)) | none => none) = none
    rw [if_neg (Nat.not_lt.mpr hs.1), hs.el_no M ha q]
theorem b_bs {c n : Nat} (hf : cx.1 i pc = some (.bastore, aux)) (hs : ga cx S c .byte n) (hn : n ≤ 100000) (ha : inr a) (kk : 0 ≤ a ∧ a < n → ∀ M', M' = wi M c a.toNat (Int32.ofInt z).toInt8.toInt32.toInt → lx cx (n0 - 1) i (pc + 1) ls st (M', S) Q) : lx cx n0 i pc ls (zv z :: zv a :: .ref c :: st) (M, S) Q := by
  by_cases q : 0 ≤ a ∧ a < n
  · refine l4 hf rfl rfl (st' := st) (h' := (wi M c a.toNat (Int32.ofInt z).toInt8.toInt32.toInt, S)) ?_ (kk q _ rfl)
    show (if c < cx.2.2.2.2 then none else match rf_el (M, S) .byte c (Int32.ofInt a) with
      | some _ => some (st, (rf_wi M c (Int32.ofInt a).toNatClampNeg (Int32.ofInt z).toInt8.toInt32, S))
      | none => match rf_el (M, S) .boolean c (Int32.ofInt a) with
        | some _ => some (st, (rf_wi M c (Int32.ofInt a).toNatClampNeg (Int32.ofInt z &&& 1), S))
        | none => none) = some (st, (rf_wi M c a.toNat (Int32.ofInt (Int32.ofInt z).toInt8.toInt32.toInt), S))
    rw [if_neg (Nat.not_lt.mpr hs.1), hs.el _ (ix_z q hn).1, (ix_z q hn).2, ofi_ti]
  · refine l4_no hf rfl ?_
    show (if c < cx.2.2.2.2 then none else match rf_el (M, S) .byte c (Int32.ofInt a) with
      | some _ => some (st, (rf_wi M c (Int32.ofInt a).toNatClampNeg (Int32.ofInt z).toInt8.toInt32, S))
      | none => match rf_el (M, S) .boolean c (Int32.ofInt a) with
        | some _ => some (st, (rf_wi M c (Int32.ofInt a).toNatClampNeg (Int32.ofInt z &&& 1), S))
        | none => none) = none
    rw [if_neg (Nat.not_lt.mpr hs.1), hs.el_no M ha q, ga_nob2 hs]
theorem b_zs {c n : Nat} (hf : cx.1 i pc = some (.bastore, aux)) (hs : ga cx S c .boolean n) (hn : n ≤ 100000) (ha : inr a) (kk : 0 ≤ a ∧ a < n → ∀ M', M' = wi M c a.toNat (Int32.ofInt z &&& 1).toInt → lx cx (n0 - 1) i (pc + 1) ls st (M', S) Q) : lx cx n0 i pc ls (zv z :: zv a :: .ref c :: st) (M, S) Q := by
  by_cases q : 0 ≤ a ∧ a < n
  · refine l4 hf rfl rfl (st' := st) (h' := (wi M c a.toNat (Int32.ofInt z &&& 1).toInt, S)) ?_ (kk q _ rfl)
    show (if c < cx.2.2.2.2 then none else match rf_el (M, S) .byte c (Int32.ofInt a) with
      | some _ => some (st, (rf_wi M c (Int32.ofInt a).toNatClampNeg (Int32.ofInt z).toInt8.toInt32, S))
      | none => match rf_el (M, S) .boolean c (Int32.ofInt a) with
        | some _ => some (st, (rf_wi M c (Int32.ofInt a).toNatClampNeg (Int32.ofInt z &&& 1), S))
        | none => none) = some (st, (rf_wi M c a.toNat (Int32.ofInt (Int32.ofInt z &&& 1).toInt), S))
    rw [if_neg (Nat.not_lt.mpr hs.1), ga_nob hs]
    dsimp only
    rw [hs.el _ (ix_z q hn).1, (ix_z q hn).2, ofi_ti]
  · refine l4_no hf rfl ?_
    show (if c < cx.2.2.2.2 then none else match rf_el (M, S) .byte c (Int32.ofInt a) with
      | some _ => some (st, (rf_wi M c (Int32.ofInt a).toNatClampNeg (Int32.ofInt z).toInt8.toInt32, S))
      | none => match rf_el (M, S) .boolean c (Int32.ofInt a) with
        | some _ => some (st, (rf_wi M c (Int32.ofInt a).toNatClampNeg (Int32.ofInt z &&& 1), S))
        | none => none) = none
    rw [if_neg (Nat.not_lt.mpr hs.1), ga_nob hs, hs.el_no M ha q]
theorem b_aa {c n e : Nat} {C : String} (hf : cx.1 i pc = some (.aaload, aux)) (hs : ga cx S c (.object C) n) (hn : n ≤ 100000) (ha : inr a) (kk : 0 ≤ a ∧ a < n → M.2.2 c a.toNat = some e ∧ lx cx (n0 - 1) i (pc + 1) ls (.ref e :: st) (M, S) Q) : lx cx n0 i pc ls (zv a :: .ref c :: st) (M, S) Q := by
  by_cases q : 0 ≤ a ∧ a < n
  · exact l_aa hf hs hn q (kk q).1 (kk q).2
  · refine l4_no hf rfl ?_
    show (match rf_aa (M, S) c with
      | some (.object C, n) => match rf_el (M, S) (.object C) c (Int32.ofInt a) with
        | some v => some (v :: st, (M, S))
        | none => none
      | some (.array t, n) => match rf_el (M, S) (.array t) c (Int32.ofInt a) with
        | some v => some (v :: st, (M, S))
        | none => none
      | _ => none) = none
    rw [hs.aa]
    dsimp only
    rw [hs.el_no M ha q]
theorem b_as {c n e ci : Nat} {C : String} (hf : cx.1 i pc = some (.aastore, aux)) (hs : ga cx S c (.object C) n) (ho : go cx S e ci) (hc : (cx.2.2.2.1[ci]?).map (fun q => q.1) = some C) (hn : n ≤ 100000) (ha : inr a) (kk : 0 ≤ a ∧ a < n → ∀ M', M' = wq M c a.toNat e → lx cx (n0 - 1) i (pc + 1) ls st (M', S) Q) : lx cx n0 i pc ls (.ref e :: zv a :: .ref c :: st) (M, S) Q := by
  by_cases q : 0 ≤ a ∧ a < n
  · exact l_as hf hs ho hc hn q (kk q)
  · refine l4_no hf rfl ?_
    show (if c < cx.2.2.2.2 ∨ e < cx.2.2.2.2 then none else match rf_aa (M, S) c, rf_ob (M, S) e with
      | some (.object C, n), some ci => if (cx.2.2.2.1[ci]?).map (fun q => q.1) = some C ∧ ¬ (Int32.ofInt a < 0 ∨ n ≤ (Int32.ofInt a).toNatClampNeg) then some (st, (rf_wq M c (Int32.ofInt a).toNatClampNeg (some e), S)) else none
      | _, _ => none) = none
    rw [if_neg (fun q => q.elim (Nat.not_lt.mpr hs.1) (Nat.not_lt.mpr ho.1)), hs.aa, ho.ob]
    dsimp only
    rw [if_neg (fun w => w.2 (ix_no ha q))]
theorem b_st {idx j n : Nat} {kd z : Int} {as rest : List Value} (hf : cx.1 i pc = some (.invokestatic idx, [(kd, n), (z, j)])) (hk : ¬ 10 ≤ kd) (hn : as.length = n) (hc : (rest.map fun v => v.category).sum ≤ 8) (k : 0 < n0 → lx cx (n0 - 1) j 0 (lv_args 0 as) [] (M, S) (fun r h' => lx cx (n0 - 1) i (pc + 3) ls (r.toList ++ rest) h' Q)) : lx cx n0 i pc ls (as.reverse ++ rest) (M, S) Q := by
  refine lx_call hf (j := j) (as := as) (rest := rest) (fun d o ho => ?_) k
  subst hn
  have h1 : (as.reverse ++ rest).drop as.length = rest := by
    rw [← List.length_reverse]; exact List.drop_left
  have h2 : (as.reverse ++ rest).take as.length = as.reverse := by
    rw [← List.length_reverse]; exact List.take_left
  have e : rf_ex cx d i pc (.invokestatic idx, [(kd, as.length), (z, j)]) ls (as.reverse ++ rest) (M, S) = some (.inr (.inl (j, as, rest))) := by
    unfold rf_ex
    show (if 10 ≤ kd then _ else _) = _
    rw [if_neg hk]
    unfold rf_ca
    dsimp only
    rw [h1, if_pos ⟨by simp, hc⟩, h2, List.reverse_reverse]
    rfl
  rw [e] at ho
  injection ho with ho
  exact ho.symm
theorem b_iv {idx c ci j n : Nat} {kd : Int} {tg : List (Int × Nat)} {as rest : List Value} (hf : cx.1 i pc = some (.invokevirtual idx, (kd, n) :: tg)) (hk : ¬ 10 ≤ kd) (hs : go cx S c ci) (hl : rf_lk tg (ci : Int) = some j) (hn : as.length = n) (hc : (rest.map fun v => v.category).sum ≤ 8) (k : 0 < n0 → lx cx (n0 - 1) j 0 (lv_args 0 (.ref c :: as)) [] (M, S) (fun r h' => lx cx (n0 - 1) i (pc + 3) ls (r.toList ++ rest) h' Q)) : lx cx n0 i pc ls (as.reverse ++ .ref c :: rest) (M, S) Q := by
  refine lx_call hf (j := j) (as := .ref c :: as) (rest := rest) (fun d o ho => ?_) k
  subst hn
  have h1 : (as.reverse ++ .ref c :: rest).drop as.length = .ref c :: rest := by
    rw [← List.length_reverse]; exact List.drop_left
  have h2 : (as.reverse ++ .ref c :: rest).take as.length = as.reverse := by
    rw [← List.length_reverse]; exact List.take_left
  have e : rf_ex cx d i pc (.invokevirtual idx, (kd, as.length) :: tg) ls (as.reverse ++ .ref c :: rest) (M, S) = some (.inr (.inl (j, .ref c :: as, rest))) := by
    unfold rf_ex
    show (if 10 ≤ kd then _ else _) = _
    rw [if_neg hk]
    unfold rf_ca
    dsimp only
    rw [h1]
    dsimp only
    rw [hs.ob]
    dsimp only
    rw [hs.ky, hl]
    dsimp only
    rw [if_pos ⟨by simp, hc⟩, h2, List.reverse_reverse]
    rfl
  rw [e] at ho
  injection ho with ho
  exact ho.symm
theorem b_bi {J : Instr} {kd : Int} {k : Nat} (hf : cx.1 i pc = some (J, [(kd, k)])) (hk : rf_kd J = 5) (hd : 10 ≤ kd) (kk : ∀ d q, rf_bi cx kd d st h = some q → lx cx (n0 - 1) i (pc + 3) ls q.1 q.2 Q) : lx cx n0 i pc ls st h Q := by
  refine lx_step hf (fun d o ho => ?_)
  unfold rf_ex at ho
  simp only [hk] at ho
  have e : (if 10 ≤ kd then (rf_bi cx kd d st h).map (fun q => (Sum.inl (pc + 3, ls, q.1, q.2) : rf_O)) else (rf_ca cx J [(kd, k)] st h).map (fun q => Sum.inr (Sum.inl q))) = some o := ho
  rw [if_pos hd] at e
  cases hb : rf_bi cx kd d st h with
  | none => rw [hb] at e; cases e
  | some q =>
    rw [hb] at e
    injection e with e
    exact ⟨_, _, _, _, e.symm, kk d q hb⟩
end LB
/-! answers, frames for lx -/
/-- the cells outside lo .. hi are as in B, and the references that never change are as they were made -/
def fl (lo hi : Nat) (B M : rf_M) : Prop := (∀ a k, ¬ (lo ≤ a ∧ a < hi) → M.1 a k = B.1 a k ∧ M.2.1 a k = B.2.1 a k ∧ M.2.2 a k = B.2.2 a k) ∧ kfr M
def vl_i (lo hi : Nat) (B : rf_M) (S : gS) (K : Int → rf_M → Prop) (r : Option Value) (h' : rf_H) : Prop := ∃ z M', r = some (zv z) ∧ h' = (M', S) ∧ fl lo hi B M' ∧ inr z ∧ K z M'
def vl_l (lo hi : Nat) (B : rf_M) (S : gS) (K : Int64 → rf_M → Prop) (r : Option Value) (h' : rf_H) : Prop := ∃ z M', r = some (.long z) ∧ h' = (M', S) ∧ fl lo hi B M' ∧ K z M'
def vl_v (lo hi : Nat) (B : rf_M) (S : gS) (K : rf_M → Prop) (r : Option Value) (h' : rf_H) : Prop := ∃ M', r = none ∧ h' = (M', S) ∧ fl lo hi B M' ∧ K M'
section FL
variable {B M M' : rf_M} {a k lo hi : Nat}
theorem fl.wi {z : Int} (h : fl lo hi B M) (h1 : lo ≤ a) (h2 : a < hi) (e : M' = wi M a k z) : fl lo hi B M' := by
  subst e
  refine ⟨fun a' k' q => ?_, h.2⟩
  have := h.1 a' k' q
  refine ⟨?_, this.2⟩
  show (rf_wi M a k _).1 a' k' = _
  rw [rf_wi_of _ _ (Or.inl (by omega))]
  exact this.1
theorem fl.wl {x : Int64} (h : fl lo hi B M) (h1 : lo ≤ a) (h2 : a < hi) (e : M' = wl M a k x) : fl lo hi B M' := by
  subst e
  refine ⟨fun a' k' q => ?_, h.2⟩
  have := h.1 a' k' q
  refine ⟨this.1, ?_, this.2.2⟩
  show gl (wl M a k x) a' k' = _
  rw [gl_of (Or.inl (by omega))]
  exact this.2.1
theorem fl.cpi {a2 sp dp n : Nat} (h : fl lo hi B M) (h1 : lo ≤ a) (h2 : a < hi) (e : M' = cpi M a2 sp a dp n) : fl lo hi B M' := by
  subst e
  refine ⟨fun a' k' q => ?_, h.2⟩
  have := h.1 a' k' q
  refine ⟨?_, this.2⟩
  show va_up M.1 a _ a' k' = _
  rw [va_up_of (by omega)]
  exact this.1
theorem fl.cpl {a2 sp dp n : Nat} (h : fl lo hi B M) (h1 : lo ≤ a) (h2 : a < hi) (e : M' = cpl M a2 sp a dp n) : fl lo hi B M' := by
  subst e
  refine ⟨fun a' k' q => ?_, h.2⟩
  have := h.1 a' k' q
  refine ⟨this.1, ?_, this.2.2⟩
  show va_up M.2.1 a _ a' k' = _
  rw [va_up_of (by omega)]
  exact this.2.1
theorem fl.wq' {e : Nat} (h : fl lo hi B M) (h1 : lo ≤ a) (h2 : a < hi) (hq : ∀ q ∈ rfF, q.1 ≠ a ∨ q.2.1 ≠ k) : fl lo hi B (wq M a k e) := by
  refine ⟨fun a' k' q => ?_, fun q hq' => ?_⟩
  · have := h.1 a' k' q
    refine ⟨this.1, this.2.1, ?_⟩
    show (rf_wq M a k _).2.2 a' k' = _
    rw [rf_wq_of _ _ (Or.inl (by omega))]
    exact this.2.2
  · show (rf_wq M a k _).2.2 q.1 q.2.1 = _
    rw [rf_wq_of _ _ (hq q hq')]
    exact h.2 q hq'
theorem fl.wqR {e : Nat} (h : fl 22 353 B M) (ha : a ∈ k7) (hM : M' = wq M a 0 e) : fl 22 353 B M' := by
  subst hM
  refine h.wq' ?_ (kl_7 ha) (fun q hq => ?_)
  · have := k7_or ha; omega
  · by_cases e : q.1 = a
    · exact Or.inr (rfF_R q hq (by rw [e]; exact ha))
    · exact Or.inl e
theorem fl.wqS {e : Nat} (h : fl 22 353 B M) (ha : a ∈ k4) (hM : M' = wq M (a + 3) k e) : fl 22 353 B M' := by
  subst hM
  have ho := k4_or ha
  refine h.wq' (by omega) (by omega) (fun q hq => Or.inl ?_)
  have := rfF_S q hq
  omega
theorem fl.wqQ {e : Nat} (h : fl 22 353 B M) (hM : M' = wq M 169 1 e) : fl 22 353 B M' := by
  subst hM
  refine h.wq' (by omega) (by omega) (fun q hq => ?_)
  by_cases e : q.1 = 169
  · exact Or.inr (rfF_Q q hq e)
  · exact Or.inl e
theorem fl.trans' {M'' : rf_M} (h : fl lo hi B M) (h' : fl lo hi M M'') : fl lo hi B M'' := ⟨fun a k q => ⟨(h'.1 a k q).1.trans (h.1 a k q).1, (h'.1 a k q).2.1.trans (h.1 a k q).2.1, (h'.1 a k q).2.2.trans (h.1 a k q).2.2⟩, h'.2⟩
theorem fl.rfl' (h : kfr M) : fl lo hi M M := ⟨fun _ _ _ => ⟨rfl, rfl, rfl⟩, h⟩
end FL
section LV
variable {cx : rf_C} {n0 : Nat} {i pc : Nat} {ls : rf_L} {st : List Value} {h : rf_H} {Q : Option Value → rf_H → Prop} {M : rf_M} {S : gS} {aux : List (Int × Nat)} {a b z : Int} {lo hi : Nat} {B : rf_M}
theorem l6 {J : Instr} {v : Option Value} (hf : cx.1 i pc = some (J, aux)) (hk : rf_kd J = 6) (he : ∀ w, rf_rt J (cx.2.1 i).2.2.2 st = some w → w = v) (hq : Q v h) : lx cx n0 i pc ls st h Q := by
  refine lx_ret hf (fun d o ho => ?_)
  unfold rf_ex at ho
  simp only [hk] at ho
  cases hr : rf_rt J (cx.2.1 i).2.2.2 st with
  | none => rw [hr] at ho; cases ho
  | some w =>
    rw [hr] at ho
    injection ho with ho
    exact ⟨w, ho.symm, by rw [he w hr]; exact hq⟩
theorem l_rb {K : Int → rf_M → Prop} (hf : cx.1 i pc = some (.ireturn, aux)) (hr : (cx.2.1 i).2.2.2 = some .boolean) (hz : z = 0 ∨ z = 1) (hR : fl lo hi B M) (hK : K z M) : lx cx n0 i pc ls [zv z] (M, S) (vl_i lo hi B S K) := by
  refine l6 hf rfl (v := some (zv z)) (fun w hw => ?_) ⟨z, M, rfl, rfl, hR, by rcases hz with rfl | rfl <;> exact ⟨by decide, by decide⟩, hK⟩
  rw [hr] at hw
  rcases hz with rfl | rfl
  · injection hw with hw; exact hw.symm
  · injection hw with hw; exact hw.symm
theorem l_ri {K : Int → rf_M → Prop} (hf : cx.1 i pc = some (.ireturn, aux)) (hr : (cx.2.1 i).2.2.2 = some .int) (hz : inr z) (hR : fl lo hi B M) (hK : K z M) : lx cx n0 i pc ls [zv z] (M, S) (vl_i lo hi B S K) := by
  refine l6 hf rfl (v := some (zv z)) (fun w hw => ?_) ⟨z, M, rfl, rfl, hR, hz, hK⟩
  rw [hr] at hw
  injection hw with hw; exact hw.symm
theorem l_rl {x : Int64} {K : Int64 → rf_M → Prop} (hf : cx.1 i pc = some (.lreturn, aux)) (hr : (cx.2.1 i).2.2.2 = some .long) (hR : fl lo hi B M) (hK : K x M) : lx cx n0 i pc ls [.long x] (M, S) (vl_l lo hi B S K) := by
  refine l6 hf rfl (v := some (.long x)) (fun w hw => ?_) ⟨x, M, rfl, rfl, hR, hK⟩
  rw [hr] at hw
  injection hw with hw; exact hw.symm
theorem l_rv {K : rf_M → Prop} (hf : cx.1 i pc = some (.return_, aux)) (hr : (cx.2.1 i).2.2.2 = none) (hR : fl lo hi B M) (hK : K M) : lx cx n0 i pc ls [] (M, S) (vl_v lo hi B S K) := by
  refine l6 hf rfl (v := none) (fun w hw => ?_) ⟨M, rfl, rfl, hR, hK⟩
  rw [hr] at hw
  injection hw with hw; exact hw.symm
theorem b_dv {x y : Int64} (hf : cx.1 i pc = some (.ldiv, aux)) (kk : ¬ y = 0 → lx cx (n0 - 1) i (pc + 1) ls (.long (x / y) :: st) h Q) : lx cx n0 i pc ls (.long y :: .long x :: st) h Q := by
  by_cases q : y = 0
  · exact l0_no hf rfl (if_pos q)
  · exact l0 hf rfl (if_neg q) (kk q)
theorem b_rm {x y : Int64} (hf : cx.1 i pc = some (.lrem, aux)) (kk : ¬ y = 0 → lx cx (n0 - 1) i (pc + 1) ls (.long (x - x / y * y) :: st) h Q) : lx cx n0 i pc ls (.long y :: .long x :: st) h Q := by
  by_cases q : y = 0
  · exact l0_no hf rfl (if_pos q)
  · exact l0 hf rfl (if_neg q) (kk q)
theorem cp_n {x : Int} (ha : inr x) (h : ¬ Int32.ofInt x < 0) : 0 ≤ x ∧ (Int32.ofInt x).toNatClampNeg = x.toNat := by
  have h0 : 0 ≤ x := by
    rw [Int32.lt_iff_toInt_lt, ti_ofi ha] at h
    have : (0 : Int32).toInt = 0 := rfl
    omega
  have e : (Int32.ofInt x).toInt = ((x.toNat : Nat) : Int) := by rw [ti_ofi ha]; omega
  exact ⟨h0, ix_nat e⟩
theorem b_cpi {c1 c2 n1 n2 : Nat} {sp dp n : Int} {J : Instr} {k0 : Nat} {rest : List Value} (hf : cx.1 i pc = some (J, [(11, k0)])) (hk : rf_kd J = 5) (hs2 : ga cx S c2 .int n2) (hs1 : ga cx S c1 .int n1) (h1 : inr sp) (h2 : inr dp) (h3 : inr n) (kk : (0 ≤ sp ∧ 0 ≤ dp ∧ 0 ≤ n) ∧ sp + n ≤ n2 ∧ dp + n ≤ n1 → ∀ M', M' = cpi M c2 sp.toNat c1 dp.toNat n.toNat → lx cx (n0 - 1) i (pc + 3) ls rest (M', S) Q) : lx cx n0 i pc ls (zv n :: zv dp :: .ref c1 :: zv sp :: .ref c2 :: rest) (M, S) Q := by
  refine b_bi hf hk (by decide) (fun d q e => ?_)
  unfold rf_bi at e
  rw [if_neg (by decide), if_pos rfl] at e
  dsimp only at e
  split at e
  · rename_i w
    have e1 := cp_n h1 w.2.2.2.1
    have e2 := cp_n h2 w.2.2.2.2.1
    have e3 := cp_n h3 w.2.2.2.2.2
    rw [hs1.aa, hs2.aa] at e
    dsimp only at e
    rw [e1.2, e2.2, e3.2] at e
    split at e
    · rename_i w2
      injection e with e
      rw [← e]
      exact kk ⟨⟨e1.1, e2.1, e3.1⟩, by omega, by omega⟩ _ rfl
    · cases e
  · cases e
theorem b_cpl {c1 c2 n1 n2 : Nat} {sp dp n : Int} {J : Instr} {k0 : Nat} {rest : List Value} (hf : cx.1 i pc = some (J, [(11, k0)])) (hk : rf_kd J = 5) (hs2 : ga cx S c2 .long n2) (hs1 : ga cx S c1 .long n1) (h1 : inr sp) (h2 : inr dp) (h3 : inr n) (kk : (0 ≤ sp ∧ 0 ≤ dp ∧ 0 ≤ n) ∧ sp + n ≤ n2 ∧ dp + n ≤ n1 → ∀ M', M' = cpl M c2 sp.toNat c1 dp.toNat n.toNat → lx cx (n0 - 1) i (pc + 3) ls rest (M', S) Q) : lx cx n0 i pc ls (zv n :: zv dp :: .ref c1 :: zv sp :: .ref c2 :: rest) (M, S) Q := by
  refine b_bi hf hk (by decide) (fun d q e => ?_)
  unfold rf_bi at e
  rw [if_neg (by decide), if_pos rfl] at e
  dsimp only at e
  split at e
  · rename_i w
    have e1 := cp_n h1 w.2.2.2.1
    have e2 := cp_n h2 w.2.2.2.2.1
    have e3 := cp_n h3 w.2.2.2.2.2
    rw [hs1.aa, hs2.aa] at e
    dsimp only at e
    rw [e1.2, e2.2, e3.2] at e
    split at e
    · rename_i w2
      injection e with e
      rw [← e]
      exact kk ⟨⟨e1.1, e2.1, e3.1⟩, by omega, by omega⟩ _ rfl
    · cases e
  · cases e
theorem b_mx {J : Instr} {k0 : Nat} (hf : cx.1 i pc = some (J, [(13, k0)])) (hk : rf_kd J = 5) (ha : inr a) (hb : inr b) (kk : lx cx (n0 - 1) i (pc + 3) ls (zv (if a < b then b else a) :: st) (M, S) Q) : lx cx n0 i pc ls (zv b :: zv a :: st) (M, S) Q := by
  have e : (if Int32.ofInt a < Int32.ofInt b then Int32.ofInt b else Int32.ofInt a) = Int32.ofInt (if a < b then b else a) := by
    have : Int32.ofInt a < Int32.ofInt b ↔ a < b := by
      rw [Int32.lt_iff_toInt_lt, ti_ofi ha, ti_ofi hb]
    by_cases q : a < b
    · rw [if_pos (this.mpr q), if_pos q]
    · rw [if_neg (fun z => q (this.mp z)), if_neg q]
  refine b_bi hf hk (by decide) (fun d q w => ?_)
  unfold rf_bi at w
  rw [if_neg (by decide), if_neg (by decide), if_neg (by decide), if_pos rfl] at w
  dsimp only at w
  split at w
  · injection w with w
    rw [← w]
    show lx cx (n0 - 1) i (pc + 3) ls (Value.int (if Int32.ofInt a < Int32.ofInt b then Int32.ofInt b else Int32.ofInt a) :: st) (M, S) Q
    rw [e]
    exact kk
  · cases w
end LV
