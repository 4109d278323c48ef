section LR0
variable {cx : rf_C} {n0 : Nat} {i pc : Nat} {ls : rf_L} {st : List Value} {h : rf_H} {Q : Option Value → rf_H → Prop} {I : Nat → Nat → Int32} {L : Nat → Nat → Int64} {R : Nat → Nat → Option Nat} {S : gS} {aux : List (Int × Nat)}
theorem l0 {J : Instr} {st' : List Value} (hf : cx.1 i pc = some (J, aux)) (hk : rf_kd J = 0) (he : rf_ar J st = some st') (k : lx cx (n0 - 1) i (pc + 1) ls st' h Q) : lx cx n0 i pc ls st h Q := by
  refine lx_to hf (pc' := pc + 1) (ls' := ls) (st' := st') (h' := h) (fun d => ?_) k
  unfold rf_ex
  simp only [hk, he, Option.map_some]
theorem l1 {J : Instr} {st' : List Value} {n : Nat} (hf : cx.1 i pc = some (J, aux)) (hk : rf_kd J = 1) (hn : rf_len J = n) (he : rf_lo J aux ls st = some st') (k : lx cx (n0 - 1) i (pc + n) ls st' h Q) : lx cx n0 i pc ls st h Q := by
  refine lx_to hf (pc' := pc + n) (ls' := ls) (st' := st') (h' := h) (fun d => ?_) k
  unfold rf_ex
  simp only [hk, he, hn, Option.map_some]
theorem l2 {J : Instr} {ls' : rf_L} {st' : List Value} {n : Nat} (hf : cx.1 i pc = some (J, aux)) (hk : rf_kd J = 2) (hn : rf_len J = n) (he : rf_so J (cx.2.1 i).2.2.1 ls st = some (ls', st')) (k : lx cx (n0 - 1) i (pc + n) ls' st' h Q) : lx cx n0 i pc ls st h Q := by
  refine lx_to hf (pc' := pc + n) (ls' := ls') (st' := st') (h' := h) (fun d => ?_) k
  unfold rf_ex
  simp only [hk, he, hn, Option.map_some]
theorem l3 {J : Instr} {pc' : Nat} {st' : List Value} (hf : cx.1 i pc = some (J, aux)) (hk : rf_kd J = 3) (he : rf_br cx.2.2.2.2 J aux pc st = some (pc', st')) (k : lx cx (n0 - 1) i pc' ls st' h Q) : lx cx n0 i pc ls st h Q := by
  refine lx_to hf (pc' := pc') (ls' := ls) (st' := st') (h' := h) (fun d => ?_) k
  unfold rf_ex
  simp only [hk, he, Option.map_some]
theorem l7 {J : Instr} {st' : List Value} {n : Nat} (hf : cx.1 i pc = some (J, aux)) (hk : rf_kd J = 7) (hn : rf_len J = n) (he : rf_po aux st = some st') (k : lx cx (n0 - 1) i (pc + n) ls st' h Q) : lx cx n0 i pc ls st h Q := by
  refine lx_to hf (pc' := pc + n) (ls' := ls) (st' := st') (h' := h) (fun d => ?_) k
  unfold rf_ex
  simp only [hk, he, hn, Option.map_some]
theorem l4 {J : Instr} {st' : List Value} {h' : rf_H} {n : Nat} (hf : cx.1 i pc = some (J, aux)) (hk : rf_kd J = 4) (hn : rf_len J = n) (he : rf_hp cx J aux st h = some (st', h')) (k : lx cx (n0 - 1) i (pc + n) ls st' h' Q) : lx cx n0 i pc ls st h Q := by
  refine lx_to hf (pc' := pc + n) (ls' := ls) (st' := st') (h' := h') (fun d => ?_) k
  unfold rf_ex
  simp only [hk, he, hn, Option.map_some]
theorem l_if0 {c : Jvm.ClassFile.Cond} {o : Int} {x : Int32} (hf : cx.1 i pc = some (.ifCond c o, aux)) (kt : rf_cc x 0 c = true → lx cx (n0 - 1) i (rf_tg aux) ls st h Q) (kf : ¬ rf_cc x 0 c = true → lx cx (n0 - 1) i (pc + 3) ls st h Q) : lx cx n0 i pc ls (.int x :: st) h Q := by
  by_cases hc : rf_cc x 0 c = true
  · exact l3 hf rfl (by show some (if rf_cc x 0 c = true then rf_tg aux else pc + 3, st) = _; rw [if_pos hc]) (kt hc)
  · exact l3 hf rfl (by show some (if rf_cc x 0 c = true then rf_tg aux else pc + 3, st) = _; rw [if_neg hc]) (kf hc)
theorem l_ic0 {c : Jvm.ClassFile.Cond} {o : Int} {x y : Int32} (hf : cx.1 i pc = some (.if_icmp c o, aux)) (kt : rf_cc x y c = true → lx cx (n0 - 1) i (rf_tg aux) ls st h Q) (kf : ¬ rf_cc x y c = true → lx cx (n0 - 1) i (pc + 3) ls st h Q) : lx cx n0 i pc ls (.int y :: .int x :: st) h Q := by
  by_cases hc : rf_cc x y c = true
  · exact l3 hf rfl (by show some (if rf_cc x y c = true then rf_tg aux else pc + 3, st) = _; rw [if_pos hc]) (kt hc)
  · exact l3 hf rfl (by show some (if rf_cc x y c = true then rf_tg aux else pc + 3, st) = _; rw [if_neg hc]) (kf hc)
theorem l_gf {idx a ci k : Nat} {v : Value} (hf : cx.1 i pc = some (.getfield idx, aux)) (hs : go cx S a ci) (hl : rf_lk aux (ci : Int) = some k) (hv : rf_rd (I, L, R) (cx.2.2.1 (ci : Int) k) a k = v) (kk : lx cx (n0 - 1) i (pc + 3) ls (v :: st) ((I, L, R), S) Q) : lx cx n0 i pc ls (.ref a :: st) ((I, L, R), S) Q := by
  refine l4 hf rfl rfl (st' := v :: st) (h' := ((I, L, R), S)) ?_ kk
  show (match rf_ob ((I, L, R), S) a with
    | some ci => match rf_lk aux (rf_ky cx.2.2.2.2 a ci) with
      | some k => some (rf_rd (I, L, R) (cx.2.2.1 (rf_ky cx.2.2.2.2 a ci) k) a k :: st, ((I, L, R), S))
      | none => none
    | none => none) = _
  rw [hs.ob]
  dsimp only
  rw [hs.ky, hl]
  dsimp only
  rw [hv]
theorem l_pf {idx a ci k : Nat} {v : Value} {M : rf_M} (hf : cx.1 i pc = some (.putfield idx, aux)) (hs : go cx S a ci) (hl : rf_lk aux (ci : Int) = some k) (hv : rf_wr (I, L, R) (cx.2.2.1 (ci : Int) k) a k v = some M) (kk : lx cx (n0 - 1) i (pc + 3) ls st (M, S) Q) : lx cx n0 i pc ls (v :: .ref a :: st) ((I, L, R), S) Q := by
  refine l4 hf rfl rfl (st' := st) (h' := (M, S)) ?_ kk
  show (if a < cx.2.2.2.2 then none else match rf_ob ((I, L, R), S) a with
    | some ci => match rf_lk aux (ci : Int) with
      | some k => match rf_wr (I, L, R) (cx.2.2.1 (ci : Int) k) a k v with
        | some M => some (st, (M, S))
        | none => none
      | none => none
    | none => none) = _
  rw [if_neg (Nat.not_lt.mpr hs.1), hs.ob]
  dsimp only
  rw [hl]
  dsimp only
  rw [hv]
end LR0
section LR1
variable {cx : rf_C} {n0 : Nat} {i pc : Nat} {ls : rf_L} {st : List Value} {h : rf_H} {Q : Option Value → rf_H → Prop} {M : rf_M} {S : gS} {aux : List (Int × Nat)} {a b z : Int}
theorem l_mgf {idx a ci k : Nat} {v : Value} (hf : cx.1 i pc = some (.getfield idx, aux)) (hs : go cx S a ci) (hl : rf_lk aux (ci : Int) = some k) (hv : rf_rd M (cx.2.2.1 (ci : Int) k) a k = v) (kk : lx cx (n0 - 1) i (pc + 3) ls (v :: st) (M, S) Q) : lx cx n0 i pc ls (.ref a :: st) (M, S) Q := l_gf hf hs hl hv kk
theorem l_mpf {idx a ci k : Nat} {v : Value} {M' : rf_M} (hf : cx.1 i pc = some (.putfield idx, aux)) (hs : go cx S a ci) (hl : rf_lk aux (ci : Int) = some k) (hv : rf_wr M (cx.2.2.1 (ci : Int) k) a k v = some M') (kk : lx cx (n0 - 1) i (pc + 3) ls st (M', S) Q) : lx cx n0 i pc ls (v :: .ref a :: st) (M, S) Q := l_pf hf hs hl hv kk
theorem l_bi {n : Int} (hf : cx.1 i pc = some (.bipush n, aux)) (hz : (Int8.ofInt n).toInt32 = Int32.ofInt n) (kk : lx cx (n0 - 1) i (pc + 2) ls (zv n :: st) h Q) : lx cx n0 i pc ls st h Q := l1 (n := 2) hf rfl rfl (st' := zv n :: st) (by show some (Value.int (Int8.ofInt n).toInt32 :: st) = _; rw [hz]) kk
theorem l_si {n : Int} (hf : cx.1 i pc = some (.sipush n, aux)) (hz : (Int16.ofInt n).toInt32 = Int32.ofInt n) (kk : lx cx (n0 - 1) i (pc + 3) ls (zv n :: st) h Q) : lx cx n0 i pc ls st h Q := l1 (n := 3) hf rfl rfl (st' := zv n :: st) (by show some (Value.int (Int16.ofInt n).toInt32 :: st) = _; rw [hz]) kk
theorem l_s1 {J : Instr} {n k : Nat} {v : Value} (hf : cx.1 i pc = some (J, aux)) (hk : rf_kd J = 2) (hn : rf_len J = n) (he : rf_so J (cx.2.1 i).2.2.1 ls (v :: st) = some (rf_s1 ls k v, st)) (kk : ∀ ls', rf_ld ls' k = some v → (∀ j w, k ≠ j → ¬ (j + 1 = k ∧ w.category = 2) → rf_ld ls j = some w → rf_ld ls' j = some w) → lx cx (n0 - 1) i (pc + n) ls' st h Q) : lx cx n0 i pc ls (v :: st) h Q := l2 hf hk hn he (kk _ (rf_ld_hd _ _ _) (fun _ _ h1 h2 h3 => rf_s1_ne h1 h3 h2))
theorem l_s2 {J : Instr} {n k : Nat} {v : Value} (hf : cx.1 i pc = some (J, aux)) (hk : rf_kd J = 2) (hn : rf_len J = n) (he : rf_so J (cx.2.1 i).2.2.1 ls (v :: st) = some (rf_s2 ls k v, st)) (kk : ∀ ls', rf_ld ls' k = some v → (∀ j w, k ≠ j → k + 1 ≠ j → ¬ (j + 1 = k ∧ w.category = 2) → rf_ld ls j = some w → rf_ld ls' j = some w) → lx cx (n0 - 1) i (pc + n) ls' st h Q) : lx cx n0 i pc ls (v :: st) h Q := l2 hf hk hn he (kk _ (rf_ld_hd _ _ _) (fun _ _ h1 h2 h3 h4 => rf_s2_ne h1 h2 h4 h3))
theorem l_ii {k : Nat} {n : Int} (hf : cx.1 i pc = some (.iinc k n, aux)) (hl : rf_ld ls k = some (zv z)) (hL : k < (cx.2.1 i).2.2.1) (kk : ∀ ls', rf_ld ls' k = some (zv (z + n)) → (∀ j w, k ≠ j → ¬ (j + 1 = k ∧ w.category = 2) → rf_ld ls j = some w → rf_ld ls' j = some w) → lx cx (n0 - 1) i (pc + 3) ls' st h Q) : lx cx n0 i pc ls st h Q := by
  refine l2 (n := 3) hf rfl rfl (ls' := rf_s1 ls k (zv (z + n))) (st' := st) ?_ (kk _ (rf_ld_hd _ _ _) (fun _ _ h1 h2 h3 => rf_s1_ne h1 h3 h2))
  show (match rf_ld ls k with
    | some (.int x) => if k < (cx.2.1 i).2.2.1 then some (rf_s1 ls k (.int (x + Int32.ofInt n)), st) else none
    | _ => none) = _
  rw [hl]
  dsimp only
  rw [if_pos hL, ← Int32.ofInt_add]
theorem l_add (hf : cx.1 i pc = some (.iadd, aux)) (kk : lx cx (n0 - 1) i (pc + 1) ls (zv (a + b) :: st) h Q) : lx cx n0 i pc ls (zv b :: zv a :: st) h Q := l0 hf rfl (st' := zv (a + b) :: st) (by show some (Value.int (Int32.ofInt a + Int32.ofInt b) :: st) = _; rw [← Int32.ofInt_add]) kk
theorem l_sub (hf : cx.1 i pc = some (.isub, aux)) (kk : lx cx (n0 - 1) i (pc + 1) ls (zv (a - b) :: st) h Q) : lx cx n0 i pc ls (zv b :: zv a :: st) h Q := l0 hf rfl (st' := zv (a - b) :: st) (by show some (Value.int (Int32.ofInt a - Int32.ofInt b) :: st) = _; rw [← Int32.ofInt_sub]) kk
theorem l_mul (hf : cx.1 i pc = some (.imul, aux)) (kk : lx cx (n0 - 1) i (pc + 1) ls (zv (a * b) :: st) h Q) : lx cx n0 i pc ls (zv b :: zv a :: st) h Q := l0 hf rfl (st' := zv (a * b) :: st) (by show some (Value.int (Int32.ofInt a * Int32.ofInt b) :: st) = _; rw [← Int32.ofInt_mul]) kk
theorem l_op {J : Instr} {T : Int32} {st' : List Value} (hf : cx.1 i pc = some (J, aux)) (hk : rf_kd J = 0) (he : rf_ar J st = some (.int T :: st')) (kk : lx cx (n0 - 1) i (pc + 1) ls (zv T.toInt :: st') h Q) : lx cx n0 i pc ls st h Q := l0 hf hk (st' := zv T.toInt :: st') (by rw [he]; show _ = some (Value.int (Int32.ofInt T.toInt) :: st'); rw [ofi_ti]) kk
theorem l_if {c : Jvm.ClassFile.Cond} {o : Int} (hf : cx.1 i pc = some (.ifCond c o, aux)) (ha : inr a) (kt : sx_cc c a 0 → lx cx (n0 - 1) i (rf_tg aux) ls st h Q) (kf : ¬ sx_cc c a 0 → lx cx (n0 - 1) i (pc + 3) ls st h Q) : lx cx n0 i pc ls (zv a :: st) h Q := by
  have e : ∀ k, rf_cc (Int32.ofInt a) 0 k = true ↔ sx_cc k a 0 := fun k => by
    rw [rf_cc_iff, ti_ofi ha]; rfl
  exact l_if0 hf (fun q => kt ((e c).mp q)) (fun q => kf (fun w => q ((e c).mpr w)))
theorem l_ic {c : Jvm.ClassFile.Cond} {o : Int} (hf : cx.1 i pc = some (.if_icmp c o, aux)) (ha : inr a) (hb : inr b) (kt : sx_cc c a b → lx cx (n0 - 1) i (rf_tg aux) ls st h Q) (kf : ¬ sx_cc c a b → lx cx (n0 - 1) i (pc + 3) ls st h Q) : lx cx n0 i pc ls (zv b :: zv a :: st) h Q := by
  have e : ∀ k, rf_cc (Int32.ofInt a) (Int32.ofInt b) k = true ↔ sx_cc k a b := fun k => by
    rw [rf_cc_iff, ti_ofi ha, ti_ofi hb]
  exact l_ic0 hf (fun q => kt ((e c).mp q)) (fun q => kf (fun w => q ((e c).mpr w)))
theorem l_gi {idx c ci k : Nat} (hf : cx.1 i pc = some (.getfield idx, aux)) (hs : go cx S c ci) (hl : rf_lk aux (ci : Int) = some k) (hv : ∀ M : rf_M, rf_rd M (cx.2.2.1 (ci : Int) k) c k = .int (M.1 c k)) (kk : lx cx (n0 - 1) i (pc + 3) ls (zv (gi M c k) :: st) (M, S) Q) : lx cx n0 i pc ls (.ref c :: st) (M, S) Q := l_mgf hf hs hl (by rw [hv]; show _ = Value.int (Int32.ofInt (M.1 c k).toInt); rw [ofi_ti]) kk
theorem l_gl {idx c ci k : Nat} (hf : cx.1 i pc = some (.getfield idx, aux)) (hs : go cx S c ci) (hl : rf_lk aux (ci : Int) = some k) (hv : ∀ M : rf_M, rf_rd M (cx.2.2.1 (ci : Int) k) c k = .long (M.2.1 c k)) (kk : lx cx (n0 - 1) i (pc + 3) ls (.long (gl M c k) :: st) (M, S) Q) : lx cx n0 i pc ls (.ref c :: st) (M, S) Q := l_mgf hf hs hl (hv M) kk
theorem l_sw {J : Instr} {pc' : Nat} {v : Int} (e : a = v) (hf : cx.1 i pc = some (J, aux)) (hk : rf_kd J = 3) (he : rf_br cx.2.2.2.2 J aux pc (zv v :: st) = some (pc', st)) (kk : lx cx (n0 - 1) i pc' ls st h Q) : lx cx n0 i pc ls (zv a :: st) h Q := by
  subst e; exact l3 hf hk he kk
theorem l_swl {q0 : Int} {q1 : Array (Int × Int)} {t : Nat} (hf : cx.1 i pc = some (.lookupswitch q0 q1, aux)) (ha : inr a) (he : rf_sw aux.tail (rf_tg aux) a = t) (kk : lx cx (n0 - 1) i t ls st h Q) : lx cx n0 i pc ls (zv a :: st) h Q := by
  refine l3 hf rfl (pc' := t) ?_ kk
  show some (rf_sw aux.tail (rf_tg aux) (Int32.ofInt a).toInt, st) = _
  rw [ti_ofi ha, he]
theorem l_swt {q0 lo hi : Int} {q1 : Array Int} (hf : cx.1 i pc = some (.tableswitch q0 lo hi q1, aux)) (ha : inr a) (he : a < lo ∨ hi < a) (kk : lx cx (n0 - 1) i (rf_tg aux) ls st h Q) : lx cx n0 i pc ls (zv a :: st) h Q := by
  refine l3 hf rfl (pc' := rf_tg aux) ?_ kk
  show (if (Int32.ofInt a).toInt < lo ∨ hi < (Int32.ofInt a).toInt then some (rf_tg aux, st) else _) = _
  rw [ti_ofi ha, if_pos he]
theorem l_ia {c n : Nat} (hf : cx.1 i pc = some (.iaload, aux)) (hs : ga cx S c .int n) (hn : n ≤ 100000) (hj : 0 ≤ a ∧ a < n) (kk : lx cx (n0 - 1) i (pc + 1) ls (zv (gi M c a.toNat) :: st) (M, S) Q) : lx cx n0 i pc ls (zv a :: .ref c :: st) (M, S) Q := by
  refine l4 hf rfl rfl (st' := zv (gi M c a.toNat) :: st) (h' := (M, S)) ?_ kk
  show (match rf_el (M, S) .int c (Int32.ofInt a) with | some v => some (v :: st, (M, S)) | none => none) = some (Value.int (Int32.ofInt (M.1 c a.toNat).toInt) :: st, (M, S))
  rw [hs.el _ (ix_z hj hn).1, (ix_z hj hn).2, ofi_ti]
  rfl
theorem l_la {c n : Nat} (hf : cx.1 i pc = some (.laload, aux)) (hs : ga cx S c .long n) (hn : n ≤ 100000) (hj : 0 ≤ a ∧ a < n) (kk : lx cx (n0 - 1) i (pc + 1) ls (.long (gl M c a.toNat) :: st) (M, S) Q) : lx cx n0 i pc ls (zv a :: .ref c :: st) (M, S) Q := by
  refine l4 hf rfl rfl (st' := .long (gl M c a.toNat) :: st) (h' := (M, S)) ?_ kk
  show (match rf_el (M, S) .long c (Int32.ofInt a) with | some v => some (v :: st, (M, S)) | none => none) = _
  rw [hs.el _ (ix_z hj hn).1, (ix_z hj hn).2]
  rfl
theorem l_ba {c n : Nat} (hf : cx.1 i pc = some (.baload, aux)) (hs : ga cx S c .byte n) (hn : n ≤ 100000) (hj : 0 ≤ a ∧ a < n) (kk : lx cx (n0 - 1) i (pc + 1) ls (zv (gi M c a.toNat) :: st) (M, S) Q) : lx cx n0 i pc ls (zv a :: .ref c :: st) (M, S) Q := by
  refine l4 hf rfl rfl (st' := zv (gi M c a.toNat) :: st) (h' := (M, S)) ?_ kk
  show (match rf_el (M, S) .byte c (Int32.ofInt a) with
    | some v => some (v :: st, (M, S))
    | none => match rf_el (M, S) .boolean c (Int32.ofInt a) with
      | some v => some (v :: st, (M, S))
      | none => none) = some (Value.int (Int32.ofInt (M.1 c a.toNat).toInt) :: st, (M, S))
  rw [hs.el _ (ix_z hj hn).1, (ix_z hj hn).2, ofi_ti]
  rfl
theorem l_za {c n : Nat} (hf : cx.1 i pc = some (.baload, aux)) (hs : ga cx S c .boolean n) (hn : n ≤ 100000) (hj : 0 ≤ a ∧ a < n) (kk : lx cx (n0 - 1) i (pc + 1) ls (zv (gi M c a.toNat) :: st) (M, S) Q) : lx cx n0 i pc ls (zv a :: .ref c :: st) (M, S) Q := by
  refine l4 hf rfl rfl (st' := zv (gi M c a.toNat) :: st) (h' := (M, S)) ?_ kk
  show (match rf_el (M, S) .byte c (Int32.ofInt a) with
    | some v => some (v :: st, (M, S))
    | none => match rf_el (M, S) .boolean c (Int32.ofInt a) with
      | some v => some (v :: st, (M, S))
      | none => none) = some (Value.int (Int32.ofInt (M.1 c a.toNat).toInt) :: st, (M, S))
  rw [ga_nob hs]
  dsimp only
  rw [hs.el _ (ix_z hj hn).1, (ix_z hj hn).2, ofi_ti]
  rfl
theorem l_gr {idx c ci k e : Nat} (hf : cx.1 i pc = some (.getfield idx, aux)) (hs : go cx S c ci) (hl : rf_lk aux (ci : Int) = some k) (hv : ∀ M : rf_M, rf_rd M (cx.2.2.1 (ci : Int) k) c k = va_rf (M.2.2 c k)) (hr : M.2.2 c k = some e) (kk : lx cx (n0 - 1) i (pc + 3) ls (.ref e :: st) (M, S) Q) : lx cx n0 i pc ls (.ref c :: st) (M, S) Q := l_mgf hf hs hl (by rw [hv, hr]; rfl) kk
theorem l_pi {idx c ci k : Nat} (hf : cx.1 i pc = some (.putfield idx, aux)) (hs : go cx S c ci) (hl : rf_lk aux (ci : Int) = some k) (hv : ∀ (M : rf_M) x, rf_wr M (cx.2.2.1 (ci : Int) k) c k (.int x) = some (rf_wi M c k x)) (kk : ∀ M', M' = wi M c k z → lx cx (n0 - 1) i (pc + 3) ls st (M', S) Q) : lx cx n0 i pc ls (zv z :: .ref c :: st) (M, S) Q := l_mpf hf hs hl (hv M _) (kk _ rfl)
theorem l_pb {idx c ci k : Nat} (hf : cx.1 i pc = some (.putfield idx, aux)) (hs : go cx S c ci) (hl : rf_lk aux (ci : Int) = some k) (hv : cx.2.2.1 (ci : Int) k = .boolean) (hz : z = 0 ∨ z = 1) (kk : ∀ M', M' = wi M c k z → lx cx (n0 - 1) i (pc + 3) ls st (M', S) Q) : lx cx n0 i pc ls (zv z :: .ref c :: st) (M, S) Q := by
  refine l_mpf hf hs hl (M' := wi M c k z) ?_ (kk _ rfl)
  rw [hv]
  rcases hz with rfl | rfl
  · show (if narrow .boolean (.int (Int32.ofInt 0)) = .int (Int32.ofInt 0) ∧ fits .boolean (.int (Int32.ofInt 0)) = true then some (rf_wi M c k (Int32.ofInt 0)) else none) = _
    rw [if_pos ⟨rfl, rfl⟩]; rfl
  · show (if narrow .boolean (.int (Int32.ofInt 1)) = .int (Int32.ofInt 1) ∧ fits .boolean (.int (Int32.ofInt 1)) = true then some (rf_wi M c k (Int32.ofInt 1)) else none) = _
    rw [if_pos ⟨rfl, rfl⟩]; rfl
theorem l_pl {idx c ci k : Nat} {x : Int64} (hf : cx.1 i pc = some (.putfield idx, aux)) (hs : go cx S c ci) (hl : rf_lk aux (ci : Int) = some k) (hv : ∀ (M : rf_M) x, rf_wr M (cx.2.2.1 (ci : Int) k) c k (.long x) = some (rf_wl M c k x)) (kk : ∀ M', M' = wl M c k x → lx cx (n0 - 1) i (pc + 3) ls st (M', S) Q) : lx cx n0 i pc ls (.long x :: .ref c :: st) (M, S) Q := l_mpf hf hs hl (hv M _) (kk _ rfl)
theorem l_pq {idx c ci k e : Nat} (hf : cx.1 i pc = some (.putfield idx, aux)) (hs : go cx S c ci) (hl : rf_lk aux (ci : Int) = some k) (hv : ∀ (M : rf_M) x, rf_wr M (cx.2.2.1 (ci : Int) k) c k (.ref x) = some (rf_wq M c k (some x))) (kk : ∀ M', M' = wq M c k e → lx cx (n0 - 1) i (pc + 3) ls st (M', S) Q) : lx cx n0 i pc ls (.ref e :: .ref c :: st) (M, S) Q := l_mpf hf hs hl (hv M _) (kk _ rfl)
theorem l_ist {c n : Nat} (hf : cx.1 i pc = some (.iastore, aux)) (hs : ga cx S c .int n) (hn : n ≤ 100000) (hj : 0 ≤ a ∧ a < n) (kk : ∀ M', M' = wi M c a.toNat z → lx cx (n0 - 1) i (pc + 1) ls st (M', S) Q) : lx cx n0 i pc ls (zv z :: zv a :: .ref c :: st) (M, S) Q := by
  refine l4 hf rfl rfl (st' := st) (h' := (wi M c a.toNat z, S)) ?_ (kk _ rfl)
  show (if c < cx.2.2.2.2 then none else match rf_el (M, S) .int c (Int32.ofInt a) with | some _ => some (st, (rf_wi M c (Int32.ofInt a).toNatClampNeg (Int32.ofInt z), S)) | none => none) = _
  rw [if_neg (Nat.not_lt.mpr hs.1), hs.el _ (ix_z hj hn).1, (ix_z hj hn).2]
  rfl
theorem l_ls {c n : Nat} {x : Int64} (hf : cx.1 i pc = some (.lastore, aux)) (hs : ga cx S c .long n) (hn : n ≤ 100000) (hj : 0 ≤ a ∧ a < n) (kk : ∀ M', M' = wl M c a.toNat x → lx cx (n0 - 1) i (pc + 1) ls st (M', S) Q) : lx cx n0 i pc ls (.long x :: zv a :: .ref c :: st) (M, S) Q := by
  refine l4 hf rfl rfl (st' := st) (h' := (wl M c a.toNat x, S)) ?_ (kk _ rfl)
  show (if c < cx.2.2.2.2 then none else match rf_el (M, S) .long c (Int32.ofInt a) with | some _ => some (st, (rf_wl M c (Int32.ofInt a).toNatClampNeg x, S)) | none => none) = _
  rw [if_neg (Nat.not_lt.mpr hs.1), hs.el _ (ix_z hj hn).1, (ix_z hj hn).2]
  rfl
theorem l_aa {c n e : Nat} {C : String} (hf : cx.1 i pc = some (.aaload, aux)) (hs : ga cx S c (.object C) n) (hn : n ≤ 100000) (hj : 0 ≤ a ∧ a < n) (hr : M.2.2 c a.toNat = some e) (kk : lx cx (n0 - 1) i (pc + 1) ls (.ref e :: st) (M, S) Q) : lx cx n0 i pc ls (zv a :: .ref c :: st) (M, S) Q := by
  refine l4 hf rfl rfl (st' := .ref e :: st) (h' := (M, S)) ?_ kk
  show (match rf_aa (M, S) c with
    | some (.object C, n) => match rf_el (M, S) (.object C) c (Int32.ofInt a) with
      | some v => some (v :: st, (M, S))
      | none => none
    | some (.array t, n) => match rf_el (M, S) (.array t) c (Int32.ofInt a) with
      | some v => some (v :: st, (M, S))
      | none => none
    | _ => none) = _
  rw [hs.aa]
  dsimp only
  rw [hs.el _ (ix_z hj hn).1, (ix_z hj hn).2]
  show some (va_rf (M.2.2 c a.toNat) :: st, (M, S)) = _
  rw [hr]; rfl
theorem l_as {c n e ci : Nat} {C : String} (hf : cx.1 i pc = some (.aastore, aux)) (hs : ga cx S c (.object C) n) (ho : go cx S e ci) (hc : (cx.2.2.2.1[ci]?).map (fun q => q.1) = some C) (hn : n ≤ 100000) (hj : 0 ≤ a ∧ a < n) (kk : ∀ M', M' = wq M c a.toNat e → lx cx (n0 - 1) i (pc + 1) ls st (M', S) Q) : lx cx n0 i pc ls (.ref e :: zv a :: .ref c :: st) (M, S) Q := by
  refine l4 hf rfl rfl (st' := st) (h' := (wq M c a.toNat e, S)) ?_ (kk _ rfl)
  show (if c < cx.2.2.2.2 ∨ e < cx.2.2.2.2 then none else match rf_aa (M, S) c, rf_ob (M, S) e with
    | some (.object C, n), some ci => if (cx.2.2.2.1[ci]?).map (fun q => q.1) = some C ∧ ¬ (Int32.ofInt a < 0 ∨ n ≤ (Int32.ofInt a).toNatClampNeg) then some (st, (rf_wq M c (Int32.ofInt a).toNatClampNeg (some e), S)) else none
    | _, _ => none) = _
  rw [if_neg (fun q => q.elim (Nat.not_lt.mpr hs.1) (Nat.not_lt.mpr ho.1)), hs.aa, ho.ob]
  dsimp only
  rw [if_pos ⟨hc, (ix_z hj hn).1⟩, (ix_z hj hn).2]
  rfl
theorem l_al {c n : Nat} {ty : FieldType} (hf : cx.1 i pc = some (.arraylength, aux)) (hs : ga cx S c ty n) (hz : nI n = Int32.ofInt z) (kk : lx cx (n0 - 1) i (pc + 1) ls (zv z :: st) (M, S) Q) : lx cx n0 i pc ls (.ref c :: st) (M, S) Q := by
  refine l4 hf rfl rfl (st' := zv z :: st) (h' := (M, S)) ?_ kk
  show (match rf_aa (M, S) c with | some q => some (Value.int (nI q.2) :: st, (M, S)) | none => none) = _
  rw [hs.aa]
  show some (Value.int (nI n) :: st, (M, S)) = _
  rw [hz]
theorem l_acn {o : Int} {x y : Nat} (hf : cx.1 i pc = some (.if_acmp .ne o, aux)) (hx : cx.2.2.2.2 ≤ x) (hy : cx.2.2.2.2 ≤ y) (kt : ¬ x = y → lx cx (n0 - 1) i (rf_tg aux) ls st h Q) (kf : x = y → lx cx (n0 - 1) i (pc + 3) ls st h Q) : lx cx n0 i pc ls (.ref y :: .ref x :: st) h Q := by
  refine l3 hf rfl (pc' := if x = y then pc + 3 else rf_tg aux) (st' := st) ?_ ?_
  · show (if x < cx.2.2.2.2 ∨ y < cx.2.2.2.2 then none else some (if x = y then pc + 3 else rf_tg aux, st)) = _
    rw [if_neg (fun q => q.elim (Nat.not_lt.mpr hx) (Nat.not_lt.mpr hy))]
  · by_cases e : x = y
    · rw [if_pos e]; exact kf e
    · rw [if_neg e]; exact kt e
end LR1
/-! rows for lx where an instruction may fail: what fails ends no run -/
section LB
variable {cx : rf_C} {n0 : Nat} {i pc : Nat} {ls : rf_L} {st : List Value} {h : rf_H} {Q : Option Value → rf_H → Prop} {M : rf_M} {S : gS} {aux : List (Int × Nat)} {a b z : Int}
theorem ix_no {n : Nat} (ha : inr a) (h : ¬ (0 ≤ a ∧ a < n)) : Int32.ofInt a < 0 ∨ n ≤ (Int32.ofInt a).toNatClampNeg := by
  by_cases q : a < 0
  · left
    rw [Int32.lt_iff_toInt_lt, ti_ofi ha]
    exact q
  · right
    have e : (Int32.ofInt a).toInt = ((a.toNat : Nat) : Int) := by rw [ti_ofi ha]; omega
    rw [ix_nat e]
    omega
theorem ga.el_no {c n : Nat} {ty : FieldType} (hs : ga cx S c ty n) (M : rf_M) (ha : inr a) (h : ¬ (0 ≤ a ∧ a < n)) : rf_el (M, S) ty c (Int32.ofInt a) = none := by
  unfold rf_el
  rw [hs.aa M]
  exact if_neg (fun q => q.2 (ix_no ha h))
theorem l4_no {J : Instr} (hf : cx.1 i pc = some (J, aux)) (hk : rf_kd J = 4) (he : rf_hp cx J aux st h = none) : lx cx n0 i pc ls st h Q := by
  refine lx_no hf (fun d => ?_)
  unfold rf_ex
  simp only [hk, he, Option.map_none]
theorem l0_no {J : Instr} (hf : cx.1 i pc = some (J, aux)) (hk : rf_kd J = 0) (he : rf_ar J st = none) : lx cx n0 i pc ls st h Q := by
  refine lx_no hf (fun d => ?_)
  unfold rf_ex
  simp only [hk, he, Option.map_none]
theorem b_ia {c n : Nat} (hf : cx.1 i pc = some (.iaload, aux)) (hs : ga cx S c .int n) (hn : n ≤ 100000) (ha : inr a) (kk : 0 ≤ a ∧ a < n → lx cx (n0 - 1) i (pc + 1) ls (zv (gi M c a.toNat) :: st) (M, S) Q) : lx cx n0 i pc ls (zv a :: .ref c :: st) (M, S) Q := by
  by_cases q : 0 ≤ a ∧ a < n
  · exact l_ia hf hs hn q (kk q)
  · refine l4_no hf rfl ?_
    show (match rf_el (M, S) .int c (Int32.ofInt a) with | some v => some (v :: st, (M, S)) | none => none) = none
    rw [hs.el_no M ha q]
theorem b_la {c n : Nat} (hf : cx.1 i pc = some (.laload, aux)) (hs : ga cx S c .long n) (hn : n ≤ 100000) (ha : inr a) (kk : 0 ≤ a ∧ a < n → lx cx (n0 - 1) i (pc + 1) ls (.long (gl M c a.toNat) :: st) (M, S) Q) : lx cx n0 i pc ls (zv a :: .ref c :: st) (M, S) Q := by
  by_cases q : 0 ≤ a ∧ a < n
  · exact l_la hf hs hn q (kk q)
  · refine l4_no hf rfl ?_
    show (match rf_el (M, S) .long c (Int32.ofInt a) with | some v => some (v :: st, (M, S)) | none => none) = none
    rw [hs.el_no M ha q]
theorem ga_nob2 {c n : Nat} (hs : ga cx S c .byte n) (M : rf_M) (j : Int32) : rf_el (M, S) .boolean c j = none := by
  unfold rf_el
  rw [hs.aa M]
  exact if_neg (fun q => by cases q.1)
theorem b_ba {c n : Nat} (hf : cx.1 i pc = some (.baload, aux)) (hs : ga cx S c .byte n) (hn : n ≤ 100000) (ha : inr a) (kk : 0 ≤ a ∧ a < n → lx cx (n0 - 1) i (pc + 1) ls (zv (gi M c a.toNat) :: st) (M, S) Q) : lx cx n0 i pc ls (zv a :: .ref c :: st) (M, S) Q := by
  by_cases q : 0 ≤ a ∧ a < n
  · exact l_ba hf hs hn q (kk q)
  · refine l4_no hf rfl ?_
    show (match rf_el (M, S) .byte c (Int32.ofInt a) with
      | some v => some (v :: st, (M, S))
      | none => match rf_el (M, S) .boolean c (Int32.ofInt a) with
        | some v => some (v :: st, (M, S))
        | none => none) = none
    rw [hs.el_no M ha q, ga_nob2 hs]
theorem b_za {c n : Nat} (hf : cx.1 i pc = some (.baload, aux)) (hs : ga cx S c .boolean n) (hn : n ≤ 100000) (ha : inr a) (kk : 0 ≤ a ∧ a < n → lx cx (n0 - 1) i (pc + 1) ls (zv (gi M c a.toNat) :: st) (M, S) Q) : lx cx n0 i pc ls (zv a :: .ref c :: st) (M, S) Q := by
  by_cases q : 0 ≤ a ∧ a < n
  · exact l_za hf hs hn q (kk q)
  · refine l4_no hf rfl ?_
    show (match rf_el (M, S) .byte c (Int32.ofInt a) with
      | some v => some (v :: st, (M, S))
      | none => match rf_el (M, S) .boolean c (Int32.ofInt a) with
        | some v => some (v :: st, (M, S))
        | none => none) = none
    rw [ga_nob hs, hs.el_no M ha q]
theorem b_is {c n : Nat} (hf : cx.1 i pc = some (.iastore, aux)) (hs : ga cx S c .int n) (hn : n ≤ 100000) (ha : inr a) (kk : 0 ≤ a ∧ a < n → ∀ M', M' = wi M c a.toNat z → lx cx (n0 - 1) i (pc + 1) ls st (M', S) Q) : lx cx n0 i pc ls (zv z :: zv a :: .ref c :: st) (M, S) Q := by
  by_cases q : 0 ≤ a ∧ a < n
  · exact l_ist hf hs hn q (kk q)
  · refine l4_no hf rfl ?_
    show (if c < cx.2.2.2.2 then none else match rf_el (M, S) .int c (Int32.ofInt a) with | some _ => some (st, (rf_wi M c (Int32.ofInt a).toNatClampNeg (Int32.ofInt z), S)) | none => none) = none
    rw [if_neg (Nat.not_lt.mpr hs.1), hs.el_no M ha q]
theorem b_ls {c n : Nat} {x : Int64} (hf : cx.1 i pc = some (.lastore, aux)) (hs : ga cx S c .long n) (hn : n ≤ 100000) (ha : inr a) (kk : 0 ≤ a ∧ a < n → ∀ M', M' = wl M c a.toNat x → lx cx (n0 - 1) i (pc + 1) ls st (M', S) Q) : lx cx n0 i pc ls (.long x :: zv a :: .ref c :: st) (M, S) Q := by
  by_cases q : 0 ≤ a ∧ a < n
  · exact l_ls hf hs hn q (kk q)
  · refine l4_no hf rfl ?_
    show (if c < cx.2.2.2.2 then none else match rf_el (M, S) .long c (Int32.ofInt a) with | some _ => some (st, (rf_wl M c (Int32.ofInt a).toNatClampNeg x, S)) | none => none) = none
    rw [if_neg (Nat.not_lt.mpr hs.1), hs.el_no M ha q]
theorem b_bs {c n : Nat} (hf : cx.1 i pc = some (.bastore, aux)) (hs : ga cx S c .byte n) (hn : n ≤ 100000) (ha : inr a) (kk : 0 ≤ a ∧ a < n → ∀ M', M' = wi M c a.toNat (Int32.ofInt z).toInt8.toInt32.toInt → lx cx (n0 - 1) i (pc + 1) ls st (M', S) Q) : lx cx n0 i pc ls (zv z :: zv a :: .ref c :: st) (M, S) Q := by
  by_cases q : 0 ≤ a ∧ a < n
  · refine l4 hf rfl rfl (st' := st) (h' := (wi M c a.toNat (Int32.ofInt z).toInt8.toInt32.toInt, S)) ?_ (kk q _ rfl)
    show (if c < cx.2.2.2.2 then none else match rf_el (M, S) .byte c (Int32.ofInt a) with
      | some _ => some (st, (rf_wi M c (Int32.ofInt a).toNatClampNeg (Int32.ofInt z).toInt8.toInt32, S))
      | none => match rf_el (M, S) .boolean c (Int32.ofInt a) with
        | some _ => some (st, (rf_wi M c (Int32.ofInt a).toNatClampNeg (Int32.ofInt z &&& 1), S))
        | none => none) = some (st, (rf_wi M c a.toNat (Int32.ofInt (Int32.ofInt z).toInt8.toInt32.toInt), S))
    rw [if_neg (Nat.not_lt.mpr hs.1), hs.el _ (ix_z q hn).1, (ix_z q hn).2, ofi_ti]
  · refine l4_no hf rfl ?_
    show (if c < cx.2.2.2.2 then none else match rf_el (M, S) .byte c (Int32.ofInt a) with
      | some _ => some (st, (rf_wi M c (Int32.ofInt a).toNatClampNeg (Int32.ofInt z).toInt8.toInt32, S))
      | none => match rf_el (M, S) .boolean c (Int32.ofInt a) with
        | some _ => some (st, (rf_wi M c (Int32.ofInt a).toNatClampNeg (Int32.ofInt z &&& 1), S))
        | none => none) = none
    rw [if_neg (Nat.not_lt.mpr hs.1), hs.el_no M ha q, ga_nob2 hs]
theorem b_zs {c n : Nat} (hf : cx.1 i pc = some (.bastore, aux)) (hs : ga cx S c .boolean n) (hn : n ≤ 100000) (ha : inr a) (kk : 0 ≤ a ∧ a < n → ∀ M', M' = wi M c a.toNat (Int32.ofInt z &&& 1).toInt → lx cx (n0 - 1) i (pc + 1) ls st (M', S) Q) : lx cx n0 i pc ls (zv z :: zv a :: .ref c :: st) (M, S) Q := by
  by_cases q : 0 ≤ a ∧ a < n
  · refine l4 hf rfl rfl (st' := st) (h' := (wi M c a.toNat (Int32.ofInt z &&& 1).toInt, S)) ?_ (kk q _ rfl)
    show (if c < cx.2.2.2.2 then none else match rf_el (M, S) .byte c (Int32.ofInt a) with
      | some _ => some (st, (rf_wi M c (Int32.ofInt a).toNatClampNeg (Int32.ofInt z).toInt8.toInt32, S))
      | none => match rf_el (M, S) .boolean c (Int32.ofInt a) with
        | some _ => some (st, (rf_wi M c (Int32.ofInt a).toNatClampNeg (Int32.ofInt z &&& 1), S))
        | none => none) = some (st, (rf_wi M c a.toNat (Int32.ofInt (Int32.ofInt z &&& 1).toInt), S))
    rw [if_neg (Nat.not_lt.mpr hs.1), ga_nob hs]
    dsimp only
    rw [hs.el _ (ix_z q hn).1, (ix_z q hn).2, ofi_ti]
  · refine l4_no hf rfl ?_
    show (if c < cx.2.2.2.2 then none else match rf_el (M, S) .byte c (Int32.ofInt a) with
      | some _ => some (st, (rf_wi M c (Int32.ofInt a).toNatClampNeg (Int32.ofInt z).toInt8.toInt32, S))
      | none => match rf_el (M, S) .boolean c (Int32.ofInt a) with
        | some _ => some (st, (rf_wi M c (Int32.ofInt a).toNatClampNeg (Int32.ofInt z &&& 1), S))
        | none => none) = none
    rw [if_neg (Nat.not_lt.mpr hs.1), ga_nob hs, hs.el_no M ha q]
theorem b_aa {c n e : Nat} {C : String} (hf : cx.1 i pc = some (.aaload, aux)) (hs : ga cx S c (.object C) n) (hn : n ≤ 100000) (ha : inr a) (kk : 0 ≤ a ∧ a < n → M.2.2 c a.toNat = some e ∧ lx cx (n0 - 1) i (pc + 1) ls (.ref e :: st) (M, S) Q) : lx cx n0 i pc ls (zv a :: .ref c :: st) (M, S) Q := by
  by_cases q : 0 ≤ a ∧ a < n
  · exact l_aa hf hs hn q (kk q).1 (kk q).2
  · refine l4_no hf rfl ?_
    show (match rf_aa (M, S) c with
      | some (.object C, n) => match rf_el (M, S) (.object C) c (Int32.ofInt a) with
        | some v => some (v :: st, (M, S))
        | none => none
      | some (.array t, n) => match rf_el (M, S) (.array t) c (Int32.ofInt a) with
        | some v => some (v :: st, (M, S))
        | none => none
      | _ => none) = none
    rw [hs.aa]
    dsimp only
    rw [hs.el_no M ha q]
theorem b_as {c n e ci : Nat} {C : String} (hf : cx.1 i pc = some (.aastore, aux)) (hs : ga cx S c (.object C) n) (ho : go cx S e ci) (hc : (cx.2.2.2.1[ci]?).map (fun q => q.1) = some C) (hn : n ≤ 100000) (ha : inr a) (kk : 0 ≤ a ∧ a < n → ∀ M', M' = wq M c a.toNat e → lx cx (n0 - 1) i (pc + 1) ls st (M', S) Q) : lx cx n0 i pc ls (.ref e :: zv a :: .ref c :: st) (M, S) Q := by
  by_cases q : 0 ≤ a ∧ a < n
  · exact l_as hf hs ho hc hn q (kk q)
  · refine l4_no hf rfl ?_
    show (if c < cx.2.2.2.2 ∨ e < cx.2.2.2.2 then none else match rf_aa (M, S) c, rf_ob (M, S) e with
      | some (.object C, n), some ci => if (cx.2.2.2.1[ci]?).map (fun q => q.1) = some C ∧ ¬ (Int32.ofInt a < 0 ∨ n ≤ (Int32.ofInt a).toNatClampNeg) then some (st, (rf_wq M c (Int32.ofInt a).toNatClampNeg (some e), S)) else none
      | _, _ => none) = none
    rw [if_neg (fun q => q.elim (Nat.not_lt.mpr hs.1) (Nat.not_lt.mpr ho.1)), hs.aa, ho.ob]
    dsimp only
    rw [if_neg (fun w => w.2 (ix_no ha q))]
theorem b_st {idx j n : Nat} {kd z : Int} {as rest : List Value} (hf : cx.1 i pc = some (.invokestatic idx, [(kd, n), (z, j)])) (hk : ¬ 10 ≤ kd) (hn : as.length = n) (hc : (rest.map fun v => v.category).sum ≤ 8) (k : 0 < n0 → lx cx (n0 - 1) j 0 (lv_args 0 as) [] (M, S) (fun r h' => lx cx (n0 - 1) i (pc + 3) ls (r.toList ++ rest) h' Q)) : lx cx n0 i pc ls (as.reverse ++ rest) (M, S) Q := by
  refine lx_call hf (j := j) (as := as) (rest := rest) (fun d o ho => ?_) k
  subst hn
  have h1 : (as.reverse ++ rest).drop as.length = rest := by
    rw [← List.length_reverse]; exact List.drop_left
  have h2 : (as.reverse ++ rest).take as.length = as.reverse := by
    rw [← List.length_reverse]; exact List.take_left
  have e : rf_ex cx d i pc (.invokestatic idx, [(kd, as.length), (z, j)]) ls (as.reverse ++ rest) (M, S) = some (.inr (.inl (j, as, rest))) := by
    unfold rf_ex
    show (if 10 ≤ kd then _ else _) = _
    rw [if_neg hk]
    unfold rf_ca
    dsimp only
    rw [h1, if_pos ⟨by simp, hc⟩, h2, List.reverse_reverse]
    rfl
  rw [e] at ho
  injection ho with ho
  exact ho.symm
theorem b_iv {idx c ci j n : Nat} {kd : Int} {tg : List (Int × Nat)} {as rest : List Value} (hf : cx.1 i pc = some (.invokevirtual idx, (kd, n) :: tg)) (hk : ¬ 10 ≤ kd) (hs : go cx S c ci) (hl : rf_lk tg (ci : Int) = some j) (hn : as.length = n) (hc : (rest.map fun v => v.category).sum ≤ 8) (k : 0 < n0 → lx cx (n0 - 1) j 0 (lv_args 0 (.ref c :: as)) [] (M, S) (fun r h' => lx cx (n0 - 1) i (pc + 3) ls (r.toList ++ rest) h' Q)) : lx cx n0 i pc ls (as.reverse ++ .ref c :: rest) (M, S) Q := by
  refine lx_call hf (j := j) (as := .ref c :: as) (rest := rest) (fun d o ho => ?_) k
  subst hn
  have h1 : (as.reverse ++ .ref c :: rest).drop as.length = .ref c :: rest := by
    rw [← List.length_reverse]; exact List.drop_left
  have h2 : (as.reverse ++ .ref c :: rest).take as.length = as.reverse := by
    rw [← List.length_reverse]; exact List.take_left
  have e : rf_ex cx d i pc (.invokevirtual idx, (kd, as.length) :: tg) ls (as.reverse ++ .ref c :: rest) (M, S) = some (.inr (.inl (j, .ref c :: as, rest))) := by
    unfold rf_ex
    show (if 10 ≤ kd then _ else _) = _
    rw [if_neg hk]
    unfold rf_ca
    dsimp only
    rw [h1]
    dsimp only
    rw [hs.ob]
    dsimp only
    rw [hs.ky, hl]
    dsimp only
    rw [if_pos ⟨by simp, hc⟩, h2, List.reverse_reverse]
    rfl
  rw [e] at ho
  injection ho with ho
  exact ho.symm
theorem b_bi {J : Instr} {kd : Int} {k : Nat} (hf : cx.1 i pc = some (J, [(kd, k)])) (hk : rf_kd J = 5) (hd : 10 ≤ kd) (kk : ∀ d q, rf_bi cx kd d st h = some q → lx cx (n0 - 1) i (pc + 3) ls q.1 q.2 Q) : lx cx n0 i pc ls st h Q := by
  refine lx_step hf (fun d o ho => ?_)
  unfold rf_ex at ho
  simp only [hk] at ho
  have e : (if 10 ≤ kd then (rf_bi cx kd d st h).map (fun q => (Sum.inl (pc + 3, ls, q.1, q.2) : rf_O)) else (rf_ca cx J [(kd, k)] st h).map (fun q => Sum.inr (Sum.inl q))) = some o := ho
  rw [if_pos hd] at e
  cases hb : rf_bi cx kd d st h with
  | none => rw [hb] at e; cases e
  | some q =>
    rw [hb] at e
    injection e with e
    exact ⟨_, _, _, _, e.symm, kk d q hb⟩
end LB
/-! answers, frames for lx -/
/-- the cells outside lo .. hi are as in B, and the references that never change are as they were made -/
def fl (lo hi : Nat) (B M : rf_M) : Prop := (∀ a k, ¬ (lo ≤ a ∧ a < hi) → M.1 a k = B.1 a k ∧ M.2.1 a k = B.2.1 a k ∧ M.2.2 a k = B.2.2 a k) ∧ kfr M
def vl_i (lo hi : Nat) (B : rf_M) (S : gS) (K : Int → rf_M → Prop) (r : Option Value) (h' : rf_H) : Prop := ∃ z M', r = some (zv z) ∧ h' = (M', S) ∧ fl lo hi B M' ∧ inr z ∧ K z M'
def vl_l (lo hi : Nat) (B : rf_M) (S : gS) (K : Int64 → rf_M → Prop) (r : Option Value) (h' : rf_H) : Prop := ∃ z M', r = some (.long z) ∧ h' = (M', S) ∧ fl lo hi B M' ∧ K z M'
def vl_v (lo hi : Nat) (B : rf_M) (S : gS) (K : rf_M → Prop) (r : Option Value) (h' : rf_H) : Prop := ∃ M', r = none ∧ h' = (M', S) ∧ fl lo hi B M' ∧ K M'
section FL
variable {B M M' : rf_M} {a k lo hi : Nat}
theorem fl.wi {z : Int} (h : fl lo hi B M) (h1 : lo ≤ a) (h2 : a < hi) (e : M' = wi M a k z) : fl lo hi B M' := by
  subst e
  refine ⟨fun a' k' q => ?_, h.2⟩
  have := h.1 a' k' q
  refine ⟨?_, this.2⟩
  show (rf_wi M a k _).1 a' k' = _
  rw [rf_wi_of _ _ (Or.inl (by omega))]
  exact this.1
theorem fl.wl {x : Int64} (h : fl lo hi B M) (h1 : lo ≤ a) (h2 : a < hi) (e : M' = wl M a k x) : fl lo hi B M' := by
  subst e
  refine ⟨fun a' k' q => ?_, h.2⟩
  have := h.1 a' k' q
  refine ⟨this.1, ?_, this.2.2⟩
  show gl (wl M a k x) a' k' = _
  rw [gl_of (Or.inl (by omega))]
  exact this.2.1
theorem fl.cpi {a2 sp dp n : Nat} (h : fl lo hi B M) (h1 : lo ≤ a) (h2 : a < hi) (e : M' = cpi M a2 sp a dp n) : fl lo hi B M' := by
  subst e
  refine ⟨fun a' k' q => ?_, h.2⟩
  have := h.1 a' k' q
  refine ⟨?_, this.2⟩
  show va_up M.1 a _ a' k' = _
  rw [va_up_of (by omega)]
  exact this.1
theorem fl.cpl {a2 sp dp n : Nat} (h : fl lo hi B M) (h1 : lo ≤ a) (h2 : a < hi) (e : M' = cpl M a2 sp a dp n) : fl lo hi B M' := by
  subst e
  refine ⟨fun a' k' q => ?_, h.2⟩
  have := h.1 a' k' q
  refine ⟨this.1, ?_, this.2.2⟩
  show va_up M.2.1 a _ a' k' = _
  rw [va_up_of (by omega)]
  exact this.2.1
theorem fl.wq' {e : Nat} (h : fl lo hi B M) (h1 : lo ≤ a) (h2 : a < hi) (hq : ∀ q ∈ rfF, q.1 ≠ a ∨ q.2.1 ≠ k) : fl lo hi B (wq M a k e) := by
  refine ⟨fun a' k' q => ?_, fun q hq' => ?_⟩
  · have := h.1 a' k' q
    refine ⟨this.1, this.2.1, ?_⟩
    show (rf_wq M a k _).2.2 a' k' = _
    rw [rf_wq_of _ _ (Or.inl (by omega))]
    exact this.2.2
  · show (rf_wq M a k _).2.2 q.1 q.2.1 = _
    rw [rf_wq_of _ _ (hq q hq')]
    exact h.2 q hq'
theorem fl.wqR {e : Nat} (h : fl 22 353 B M) (ha : a ∈ k7) (hM : M' = wq M a 0 e) : fl 22 353 B M' := by
  subst hM
  refine h.wq' ?_ (kl_7 ha) (fun q hq => ?_)
  · have := k7_or ha; omega
  · by_cases e : q.1 = a
    · exact Or.inr (rfF_R q hq (by rw [e]; exact ha))
    · exact Or.inl e
theorem fl.wqS {e : Nat} (h : fl 22 353 B M) (ha : a ∈ k4) (hM : M' = wq M (a + 3) k e) : fl 22 353 B M' := by
  subst hM
  have ho := k4_or ha
  refine h.wq' (by omega) (by omega) (fun q hq => Or.inl ?_)
  have := rfF_S q hq
  omega
theorem fl.wqQ {e : Nat} (h : fl 22 353 B M) (hM : M' = wq M 169 1 e) : fl 22 353 B M' := by
  subst hM
  refine h.wq' (by omega) (by omega) (fun q hq => ?_)
  by_cases e : q.1 = 169
  · exact Or.inr (rfF_Q q hq e)
  · exact Or.inl e
theorem fl.trans' {M'' : rf_M} (h : fl lo hi B M) (h' : fl lo hi M M'') : fl lo hi B M'' := ⟨fun a k q => ⟨(h'.1 a k q).1.trans (h.1 a k q).1, (h'.1 a k q).2.1.trans (h.1 a k q).2.1, (h'.1 a k q).2.2.trans (h.1 a k q).2.2⟩, h'.2⟩
theorem fl.rfl' (h : kfr M) : fl lo hi M M := ⟨fun _ _ _ => ⟨rfl, rfl, rfl⟩, h⟩
end FL
section LV
variable {cx : rf_C} {n0 : Nat} {i pc : Nat} {ls : rf_L} {st : List Value} {h : rf_H} {Q : Option Value → rf_H → Prop} {M : rf_M} {S : gS} {aux : List (Int × Nat)} {a b z : Int} {lo hi : Nat} {B : rf_M}
theorem l6 {J : Instr} {v : Option Value} (hf : cx.1 i pc = some (J, aux)) (hk : rf_kd J = 6) (he : ∀ w, rf_rt J (cx.2.1 i).2.2.2 st = some w → w = v) (hq : Q v h) : lx cx n0 i pc ls st h Q := by
  refine lx_ret hf (fun d o ho => ?_)
  unfold rf_ex at ho
  simp only [hk] at ho
  cases hr : rf_rt J (cx.2.1 i).2.2.2 st with
  | none => rw [hr] at ho; cases ho
  | some w =>
    rw [hr] at ho
    injection ho with ho
    exact ⟨w, ho.symm, by rw [he w hr]; exact hq⟩
theorem l_rb {K : Int → rf_M → Prop} (hf : cx.1 i pc = some (.ireturn, aux)) (hr : (cx.2.1 i).2.2.2 = some .boolean) (hz : z = 0 ∨ z = 1) (hR : fl lo hi B M) (hK : K z M) : lx cx n0 i pc ls [zv z] (M, S) (vl_i lo hi B S K) := by
  refine l6 hf rfl (v := some (zv z)) (fun w hw => ?_) ⟨z, M, rfl, rfl, hR, by rcases hz with rfl | rfl <;> exact ⟨by decide, by decide⟩, hK⟩
  rw [hr] at hw
  rcases hz with rfl | rfl
  · injection hw with hw; exact hw.symm
  · injection hw with hw; exact hw.symm
theorem l_ri {K : Int → rf_M → Prop} (hf : cx.1 i pc = some (.ireturn, aux)) (hr : (cx.2.1 i).2.2.2 = some .int) (hz : inr z) (hR : fl lo hi B M) (hK : K z M) : lx cx n0 i pc ls [zv z] (M, S) (vl_i lo hi B S K) := by
  refine l6 hf rfl (v := some (zv z)) (fun w hw => ?_) ⟨z, M, rfl, rfl, hR, hz, hK⟩
  rw [hr] at hw
  injection hw with hw; exact hw.symm
theorem l_rl {x : Int64} {K : Int64 → rf_M → Prop} (hf : cx.1 i pc = some (.lreturn, aux)) (hr : (cx.2.1 i).2.2.2 = some .long) (hR : fl lo hi B M) (hK : K x M) : lx cx n0 i pc ls [.long x] (M, S) (vl_l lo hi B S K) := by
  refine l6 hf rfl (v := some (.long x)) (fun w hw => ?_) ⟨x, M, rfl, rfl, hR, hK⟩
  rw [hr] at hw
  injection hw with hw; exact hw.symm
theorem l_rv {K : rf_M → Prop} (hf : cx.1 i pc = some (.return_, aux)) (hr : (cx.2.1 i).2.2.2 = none) (hR : fl lo hi B M) (hK : K M) : lx cx n0 i pc ls [] (M, S) (vl_v lo hi B S K) := by
  refine l6 hf rfl (v := none) (fun w hw => ?_) ⟨M, rfl, rfl, hR, hK⟩
  rw [hr] at hw
  injection hw with hw; exact hw.symm
theorem b_dv {x y : Int64} (hf : cx.1 i pc = some (.ldiv, aux)) (kk : ¬ y = 0 → lx cx (n0 - 1) i (pc + 1) ls (.long (x / y) :: st) h Q) : lx cx n0 i pc ls (.long y :: .long x :: st) h Q := by
  by_cases q : y = 0
  · exact l0_no hf rfl (if_pos q)
  · exact l0 hf rfl (if_neg q) (kk q)
theorem b_rm {x y : Int64} (hf : cx.1 i pc = some (.lrem, aux)) (kk : ¬ y = 0 → lx cx (n0 - 1) i (pc + 1) ls (.long (x - x / y * y) :: st) h Q) : lx cx n0 i pc ls (.long y :: .long x :: st) h Q := by
  by_cases q : y = 0
  · exact l0_no hf rfl (if_pos q)
  · exact l0 hf rfl (if_neg q) (kk q)
theorem cp_n {x : Int} (ha : inr x) (h : ¬ Int32.ofInt x < 0) : 0 ≤ x ∧ (Int32.ofInt x).toNatClampNeg = x.toNat := by
  have h0 : 0 ≤ x := by
    rw [Int32.lt_iff_toInt_lt, ti_ofi ha] at h
    have : (0 : Int32).toInt = 0 := rfl
    omega
  have e : (Int32.ofInt x).toInt = ((x.toNat : Nat) : Int) := by rw [ti_ofi ha]; omega
  exact ⟨h0, ix_nat e⟩
theorem b_cpi {c1 c2 n1 n2 : Nat} {sp dp n : Int} {J : Instr} {k0 : Nat} {rest : List Value} (hf : cx.1 i pc = some (J, [(11, k0)])) (hk : rf_kd J = 5) (hs2 : ga cx S c2 .int n2) (hs1 : ga cx S c1 .int n1) (h1 : inr sp) (h2 : inr dp) (h3 : inr n) (kk : (0 ≤ sp ∧ 0 ≤ dp ∧ 0 ≤ n) ∧ sp + n ≤ n2 ∧ dp + n ≤ n1 → ∀ M', M' = cpi M c2 sp.toNat c1 dp.toNat n.toNat → lx cx (n0 - 1) i (pc + 3) ls rest (M', S) Q) : lx cx n0 i pc ls (zv n :: zv dp :: .ref c1 :: zv sp :: .ref c2 :: rest) (M, S) Q := by
  refine b_bi hf hk (by decide) (fun d q e => ?_)
  unfold rf_bi at e
  rw [if_neg (by decide), if_pos rfl] at e
  dsimp only at e
  split at e
  · rename_i w
    have e1 := cp_n h1 w.2.2.2.1
    have e2 := cp_n h2 w.2.2.2.2.1
    have e3 := cp_n h3 w.2.2.2.2.2
    rw [hs1.aa, hs2.aa] at e
    dsimp only at e
    rw [e1.2, e2.2, e3.2] at e
    split at e
    · rename_i w2
      injection e with e
      rw [← e]
      exact kk ⟨⟨e1.1, e2.1, e3.1⟩, by omega, by omega⟩ _ rfl
    · cases e
  · cases e
theorem b_cpl {c1 c2 n1 n2 : Nat} {sp dp n : Int} {J : Instr} {k0 : Nat} {rest : List Value} (hf : cx.1 i pc = some (J, [(11, k0)])) (hk : rf_kd J = 5) (hs2 : ga cx S c2 .long n2) (hs1 : ga cx S c1 .long n1) (h1 : inr sp) (h2 : inr dp) (h3 : inr n) (kk : (0 ≤ sp ∧ 0 ≤ dp ∧ 0 ≤ n) ∧ sp + n ≤ n2 ∧ dp + n ≤ n1 → ∀ M', M' = cpl M c2 sp.toNat c1 dp.toNat n.toNat → lx cx (n0 - 1) i (pc + 3) ls rest (M', S) Q) : lx cx n0 i pc ls (zv n :: zv dp :: .ref c1 :: zv sp :: .ref c2 :: rest) (M, S) Q := by
  refine b_bi hf hk (by decide) (fun d q e => ?_)
  unfold rf_bi at e
  rw [if_neg (by decide), if_pos rfl] at e
  dsimp only at e
  split at e
  · rename_i w
    have e1 := cp_n h1 w.2.2.2.1
    have e2 := cp_n h2 w.2.2.2.2.1
    have e3 := cp_n h3 w.2.2.2.2.2
    rw [hs1.aa, hs2.aa] at e
    dsimp only at e
    rw [e1.2, e2.2, e3.2] at e
    split at e
    · rename_i w2
      injection e with e
      rw [← e]
      exact kk ⟨⟨e1.1, e2.1, e3.1⟩, by omega, by omega⟩ _ rfl
    · cases e
  · cases e
theorem b_mx {J : Instr} {k0 : Nat} (hf : cx.1 i pc = some (J, [(13, k0)])) (hk : rf_kd J = 5) (ha : inr a) (hb : inr b) (kk : lx cx (n0 - 1) i (pc + 3) ls (zv (if a < b then b else a) :: st) (M, S) Q) : lx cx n0 i pc ls (zv b :: zv a :: st) (M, S) Q := by
  have e : (if Int32.ofInt a < Int32.ofInt b then Int32.ofInt b else Int32.ofInt a) = Int32.ofInt (if a < b then b else a) := by
    have : Int32.ofInt a < Int32.ofInt b ↔ a < b := by
      rw [Int32.lt_iff_toInt_lt, ti_ofi ha, ti_ofi hb]
    by_cases q : a < b
    · rw [if_pos (this.mpr q), if_pos q]
    · rw [if_neg (fun z => q (this.mp z)), if_neg q]
  refine b_bi hf hk (by decide) (fun d q w => ?_)
  unfold rf_bi at w
  rw [if_neg (by decide), if_neg (by decide), if_neg (by decide), if_pos rfl] at w
  dsimp only at w
  split at w
  · injection w with w
    rw [← w]
    show lx cx (n0 - 1) i (pc + 3) ls (Value.int (if Int32.ofInt a < Int32.ofInt b then Int32.ofInt b else Int32.ofInt a) :: st) (M, S) Q
    rw [e]
    exact kk
  · cases w
end LV
/-! the program without its replay: its objects and what they hold (printed by wip/tools/vl3.py) -/
abbrev pb (fz : Bool) (S : gS) (a : Nat) (ty : FieldType) (n : Nat) : Prop := ga (cx0 fz) S a ty n ∧ a < 331
def j4 : List Nat := [187]
def j5 : List Nat := [193, 210, 226, 242, 258, 274, 290, 306, 322]
def j6 : List Nat := [196, 212, 228, 244, 260, 276, 292, 308]
def j7 : List Nat := [199, 215, 231, 247, 263, 279, 295, 311]
def j8 : List Nat := [201, 217, 233, 249, 265, 281, 297, 313]
theorem j4_or {a : Nat} (h : a ∈ j4) : a = 187 := by
  simpa only [j4, List.mem_cons, List.not_mem_nil, or_false] using h
theorem jl_4 {a : Nat} (h : a ∈ j4) : a < 331 := by
  have h := j4_or h; omega
theorem jo_4 {fz : Bool} {S : gS} {a : Nat} (hS : rl S) (h : a ∈ j4) : go (cx0 fz) S a 4 := by
  have h := j4_or h
  subst h
  all_goals exact ⟨Nat.le_of_ble_eq_true rfl, by decide, Nat.lt_of_le_of_lt (Nat.le_of_ble_eq_true rfl) hS.1, hS.2 _ (Nat.le_of_ble_eq_true rfl) (Nat.le_of_ble_eq_true rfl)⟩
theorem j5_or {a : Nat} (h : a ∈ j5) : a = 193 ∨ a = 210 ∨ a = 226 ∨ a = 242 ∨ a = 258 ∨ a = 274 ∨ a = 290 ∨ a = 306 ∨ a = 322 := by
  simpa only [j5, List.mem_cons, List.not_mem_nil, or_false] using h
theorem jl_5 {a : Nat} (h : a ∈ j5) : a < 331 := by
  have h := j5_or h; omega
theorem jo_5 {fz : Bool} {S : gS} {a : Nat} (hS : rl S) (h : a ∈ j5) : go (cx0 fz) S a 5 := by
  have h := j5_or h
  rcases h with rfl | rfl | rfl | rfl | rfl | rfl | rfl | rfl | rfl
  all_goals exact ⟨Nat.le_of_ble_eq_true rfl, by decide, Nat.lt_of_le_of_lt (Nat.le_of_ble_eq_true rfl) hS.1, hS.2 _ (Nat.le_of_ble_eq_true rfl) (Nat.le_of_ble_eq_true rfl)⟩
theorem j6_or {a : Nat} (h : a ∈ j6) : a = 196 ∨ a = 212 ∨ a = 228 ∨ a = 244 ∨ a = 260 ∨ a = 276 ∨ a = 292 ∨ a = 308 := by
  simpa only [j6, List.mem_cons, List.not_mem_nil, or_false] using h
theorem jl_6 {a : Nat} (h : a ∈ j6) : a < 331 := by
  have h := j6_or h; omega
theorem jo_6 {fz : Bool} {S : gS} {a : Nat} (hS : rl S) (h : a ∈ j6) : go (cx0 fz) S a 6 := by
  have h := j6_or h
  rcases h with rfl | rfl | rfl | rfl | rfl | rfl | rfl | rfl
  all_goals exact ⟨Nat.le_of_ble_eq_true rfl, by decide, Nat.lt_of_le_of_lt (Nat.le_of_ble_eq_true rfl) hS.1, hS.2 _ (Nat.le_of_ble_eq_true rfl) (Nat.le_of_ble_eq_true rfl)⟩
theorem j7_or {a : Nat} (h : a ∈ j7) : a = 199 ∨ a = 215 ∨ a = 231 ∨ a = 247 ∨ a = 263 ∨ a = 279 ∨ a = 295 ∨ a = 311 := by
  simpa only [j7, List.mem_cons, List.not_mem_nil, or_false] using h
theorem jl_7 {a : Nat} (h : a ∈ j7) : a < 331 := by
  have h := j7_or h; omega
theorem jo_7 {fz : Bool} {S : gS} {a : Nat} (hS : rl S) (h : a ∈ j7) : go (cx0 fz) S a 7 := by
  have h := j7_or h
  rcases h with rfl | rfl | rfl | rfl | rfl | rfl | rfl | rfl
  all_goals exact ⟨Nat.le_of_ble_eq_true rfl, by decide, Nat.lt_of_le_of_lt (Nat.le_of_ble_eq_true rfl) hS.1, hS.2 _ (Nat.le_of_ble_eq_true rfl) (Nat.le_of_ble_eq_true rfl)⟩
theorem j8_or {a : Nat} (h : a ∈ j8) : a = 201 ∨ a = 217 ∨ a = 233 ∨ a = 249 ∨ a = 265 ∨ a = 281 ∨ a = 297 ∨ a = 313 := by
  simpa only [j8, List.mem_cons, List.not_mem_nil, or_false] using h
theorem jl_8 {a : Nat} (h : a ∈ j8) : a < 331 := by
  have h := j8_or h; omega
theorem jo_8 {fz : Bool} {S : gS} {a : Nat} (hS : rl S) (h : a ∈ j8) : go (cx0 fz) S a 8 := by
  have h := j8_or h
  rcases h with rfl | rfl | rfl | rfl | rfl | rfl | rfl | rfl
  all_goals exact ⟨Nat.le_of_ble_eq_true rfl, by decide, Nat.lt_of_le_of_lt (Nat.le_of_ble_eq_true rfl) hS.1, hS.2 _ (Nat.le_of_ble_eq_true rfl) (Nat.le_of_ble_eq_true rfl)⟩
theorem jl_9 {a : Nat} (h : a ∈ k9) : a < 331 := by
  have h := k9_or h; omega
theorem jt_1_5 {fz : Bool} {S : gS} {a : Nat} (hS : rl S) (h : a ∈ k1) : pb fz S (a + 1) .int 40 := by
  have h := k1_or h
  rcases h with rfl | rfl | rfl | rfl | rfl | rfl | rfl | rfl | rfl | rfl | rfl | rfl
  all_goals exact ⟨⟨Nat.le_of_ble_eq_true rfl, by decide, Nat.lt_of_le_of_lt (Nat.le_of_ble_eq_true rfl) hS.1, hS.2 _ (Nat.le_of_ble_eq_true rfl) (Nat.le_of_ble_eq_true rfl)⟩, Nat.le_of_ble_eq_true rfl⟩
theorem jt_1_6 {fz : Bool} {S : gS} {a : Nat} (hS : rl S) (h : a ∈ k1) : pb fz S (a + 2) .int 40 := by
  have h := k1_or h
  rcases h with rfl | rfl | rfl | rfl | rfl | rfl | rfl | rfl | rfl | rfl | rfl | rfl
  all_goals exact ⟨⟨Nat.le_of_ble_eq_true rfl, by decide, Nat.lt_of_le_of_lt (Nat.le_of_ble_eq_true rfl) hS.1, hS.2 _ (Nat.le_of_ble_eq_true rfl) (Nat.le_of_ble_eq_true rfl)⟩, Nat.le_of_ble_eq_true rfl⟩
theorem jt_1_7 {fz : Bool} {S : gS} {a : Nat} (hS : rl S) (h : a ∈ k1) : pb fz S (a + 3) .int 40 := by
  have h := k1_or h
  rcases h with rfl | rfl | rfl | rfl | rfl | rfl | rfl | rfl | rfl | rfl | rfl | rfl
  all_goals exact ⟨⟨Nat.le_of_ble_eq_true rfl, by decide, Nat.lt_of_le_of_lt (Nat.le_of_ble_eq_true rfl) hS.1, hS.2 _ (Nat.le_of_ble_eq_true rfl) (Nat.le_of_ble_eq_true rfl)⟩, Nat.le_of_ble_eq_true rfl⟩
theorem jt_1_8 {fz : Bool} {S : gS} {a : Nat} (hS : rl S) (h : a ∈ k1) : pb fz S (a + 4) .int 40 := by
  have h := k1_or h
  rcases h with rfl | rfl | rfl | rfl | rfl | rfl | rfl | rfl | rfl | rfl | rfl | rfl
  all_goals exact ⟨⟨Nat.le_of_ble_eq_true rfl, by decide, Nat.lt_of_le_of_lt (Nat.le_of_ble_eq_true rfl) hS.1, hS.2 _ (Nat.le_of_ble_eq_true rfl) (Nat.le_of_ble_eq_true rfl)⟩, Nat.le_of_ble_eq_true rfl⟩
theorem jt_1_9 {fz : Bool} {S : gS} {a : Nat} (hS : rl S) (h : a ∈ k1) : pb fz S (a + 5) .int 40 := by
  have h := k1_or h
  rcases h with rfl | rfl | rfl | rfl | rfl | rfl | rfl | rfl | rfl | rfl | rfl | rfl
  all_goals exact ⟨⟨Nat.le_of_ble_eq_true rfl, by decide, Nat.lt_of_le_of_lt (Nat.le_of_ble_eq_true rfl) hS.1, hS.2 _ (Nat.le_of_ble_eq_true rfl) (Nat.le_of_ble_eq_true rfl)⟩, Nat.le_of_ble_eq_true rfl⟩
theorem jt_1_10 {fz : Bool} {S : gS} {a : Nat} (hS : rl S) (h : a ∈ k1) : pb fz S (a + 6) .int 40 := by
  have h := k1_or h
  rcases h with rfl | rfl | rfl | rfl | rfl | rfl | rfl | rfl | rfl | rfl | rfl | rfl
  all_goals exact ⟨⟨Nat.le_of_ble_eq_true rfl, by decide, Nat.lt_of_le_of_lt (Nat.le_of_ble_eq_true rfl) hS.1, hS.2 _ (Nat.le_of_ble_eq_true rfl) (Nat.le_of_ble_eq_true rfl)⟩, Nat.le_of_ble_eq_true rfl⟩
theorem jt_1_11 {fz : Bool} {S : gS} {a : Nat} (hS : rl S) (h : a ∈ k1) : pb fz S (a + 7) .int 40 := by
  have h := k1_or h
  rcases h with rfl | rfl | rfl | rfl | rfl | rfl | rfl | rfl | rfl | rfl | rfl | rfl
  all_goals exact ⟨⟨Nat.le_of_ble_eq_true rfl, by decide, Nat.lt_of_le_of_lt (Nat.le_of_ble_eq_true rfl) hS.1, hS.2 _ (Nat.le_of_ble_eq_true rfl) (Nat.le_of_ble_eq_true rfl)⟩, Nat.le_of_ble_eq_true rfl⟩
theorem jt_1_12 {fz : Bool} {S : gS} {a : Nat} (hS : rl S) (h : a ∈ k1) : pb fz S (a + 8) .int 40 := by
  have h := k1_or h
  rcases h with rfl | rfl | rfl | rfl | rfl | rfl | rfl | rfl | rfl | rfl | rfl | rfl
  all_goals exact ⟨⟨Nat.le_of_ble_eq_true rfl, by decide, Nat.lt_of_le_of_lt (Nat.le_of_ble_eq_true rfl) hS.1, hS.2 _ (Nat.le_of_ble_eq_true rfl) (Nat.le_of_ble_eq_true rfl)⟩, Nat.le_of_ble_eq_true rfl⟩
theorem jt_1_13 {fz : Bool} {S : gS} {a : Nat} (hS : rl S) (h : a ∈ k1) : pb fz S (a + 9) .int 40 := by
  have h := k1_or h
  rcases h with rfl | rfl | rfl | rfl | rfl | rfl | rfl | rfl | rfl | rfl | rfl | rfl
  all_goals exact ⟨⟨Nat.le_of_ble_eq_true rfl, by decide, Nat.lt_of_le_of_lt (Nat.le_of_ble_eq_true rfl) hS.1, hS.2 _ (Nat.le_of_ble_eq_true rfl) (Nat.le_of_ble_eq_true rfl)⟩, Nat.le_of_ble_eq_true rfl⟩
theorem jt_1_14 {fz : Bool} {S : gS} {a : Nat} (hS : rl S) (h : a ∈ k1) : pb fz S (a + 10) .int 160 := by
  have h := k1_or h
  rcases h with rfl | rfl | rfl | rfl | rfl | rfl | rfl | rfl | rfl | rfl | rfl | rfl
  all_goals exact ⟨⟨Nat.le_of_ble_eq_true rfl, by decide, Nat.lt_of_le_of_lt (Nat.le_of_ble_eq_true rfl) hS.1, hS.2 _ (Nat.le_of_ble_eq_true rfl) (Nat.le_of_ble_eq_true rfl)⟩, Nat.le_of_ble_eq_true rfl⟩
theorem jt_1_15 {fz : Bool} {S : gS} {a : Nat} (hS : rl S) (h : a ∈ k1) : pb fz S (a + 11) .int 160 := by
  have h := k1_or h
  rcases h with rfl | rfl | rfl | rfl | rfl | rfl | rfl | rfl | rfl | rfl | rfl | rfl
  all_goals exact ⟨⟨Nat.le_of_ble_eq_true rfl, by decide, Nat.lt_of_le_of_lt (Nat.le_of_ble_eq_true rfl) hS.1, hS.2 _ (Nat.le_of_ble_eq_true rfl) (Nat.le_of_ble_eq_true rfl)⟩, Nat.le_of_ble_eq_true rfl⟩
theorem jf_4_0 {M : rf_M} {a : Nat} (hM : kfr M) (h : a ∈ j4) : M.2.2 a 0 = some (a + 1) := by
  have h := j4_or h
  subst h
  · exact hM (187, 0, 188) (by decide)
theorem jt_4_0 {fz : Bool} {S : gS} {a : Nat} (hS : rl S) (h : a ∈ j4) : pb fz S (a + 1) .long 16 := by
  have h := j4_or h
  subst h
  all_goals exact ⟨⟨Nat.le_of_ble_eq_true rfl, by decide, Nat.lt_of_le_of_lt (Nat.le_of_ble_eq_true rfl) hS.1, hS.2 _ (Nat.le_of_ble_eq_true rfl) (Nat.le_of_ble_eq_true rfl)⟩, Nat.le_of_ble_eq_true rfl⟩
theorem jf_4_1 {M : rf_M} {a : Nat} (hM : kfr M) (h : a ∈ j4) : M.2.2 a 1 = some (a + 2) := by
  have h := j4_or h
  subst h
  · exact hM (187, 1, 189) (by decide)
theorem jt_4_1 {fz : Bool} {S : gS} {a : Nat} (hS : rl S) (h : a ∈ j4) : pb fz S (a + 2) .int 16 := by
  have h := j4_or h
  subst h
  all_goals exact ⟨⟨Nat.le_of_ble_eq_true rfl, by decide, Nat.lt_of_le_of_lt (Nat.le_of_ble_eq_true rfl) hS.1, hS.2 _ (Nat.le_of_ble_eq_true rfl) (Nat.le_of_ble_eq_true rfl)⟩, Nat.le_of_ble_eq_true rfl⟩
theorem jf_4_3 {M : rf_M} {a : Nat} (hM : kfr M) (h : a ∈ j4) : M.2.2 a 3 = some (a + 3) := by
  have h := j4_or h
  subst h
  · exact hM (187, 3, 190) (by decide)
theorem jt_4_3 {fz : Bool} {S : gS} {a : Nat} (hS : rl S) (h : a ∈ j4) : pb fz S (a + 3) (.object "MemoryTransactions$Program") 32 := by
  have h := j4_or h
  subst h
  all_goals exact ⟨⟨Nat.le_of_ble_eq_true rfl, by decide, Nat.lt_of_le_of_lt (Nat.le_of_ble_eq_true rfl) hS.1, hS.2 _ (Nat.le_of_ble_eq_true rfl) (Nat.le_of_ble_eq_true rfl)⟩, Nat.le_of_ble_eq_true rfl⟩
theorem jf_4_4 {M : rf_M} {a : Nat} (hM : kfr M) (h : a ∈ j4) : M.2.2 a 4 = some (a + 4) := by
  have h := j4_or h
  subst h
  · exact hM (187, 4, 191) (by decide)
theorem jt_4_4 {fz : Bool} {S : gS} {a : Nat} (hS : rl S) (h : a ∈ j4) : pb fz S (a + 4) .int 32 := by
  have h := j4_or h
  subst h
  all_goals exact ⟨⟨Nat.le_of_ble_eq_true rfl, by decide, Nat.lt_of_le_of_lt (Nat.le_of_ble_eq_true rfl) hS.1, hS.2 _ (Nat.le_of_ble_eq_true rfl) (Nat.le_of_ble_eq_true rfl)⟩, Nat.le_of_ble_eq_true rfl⟩
theorem jf_4_5 {M : rf_M} {a : Nat} (hM : kfr M) (h : a ∈ j4) : M.2.2 a 5 = some (a + 5) := by
  have h := j4_or h
  subst h
  · exact hM (187, 5, 192) (by decide)
theorem jt_4_5 {fz : Bool} {S : gS} {a : Nat} (hS : rl S) (h : a ∈ j4) : pb fz S (a + 5) .long 16 := by
  have h := j4_or h
  subst h
  all_goals exact ⟨⟨Nat.le_of_ble_eq_true rfl, by decide, Nat.lt_of_le_of_lt (Nat.le_of_ble_eq_true rfl) hS.1, hS.2 _ (Nat.le_of_ble_eq_true rfl) (Nat.le_of_ble_eq_true rfl)⟩, Nat.le_of_ble_eq_true rfl⟩
theorem jf_4_6 {M : rf_M} {a : Nat} (hM : kfr M) (h : a ∈ j4) : M.2.2 a 6 = some (a + 6) := by
  have h := j4_or h
  subst h
  · exact hM (187, 6, 193) (by decide)
theorem jt_4_6 {a : Nat} (h : a ∈ j4) : (a + 6) ∈ j5 := by
  have h := j4_or h
  subst h <;> decide
theorem jf_5_0 {M : rf_M} {a : Nat} (hM : kfr M) (h : a ∈ j5) : M.2.2 a 0 = some (a + 1) := by
  have h := j5_or h
  rcases h with rfl | rfl | rfl | rfl | rfl | rfl | rfl | rfl | rfl
  · exact hM (193, 0, 194) (by decide)
  · exact hM (210, 0, 211) (by decide)
  · exact hM (226, 0, 227) (by decide)
  · exact hM (242, 0, 243) (by decide)
  · exact hM (258, 0, 259) (by decide)
  · exact hM (274, 0, 275) (by decide)
  · exact hM (290, 0, 291) (by decide)
  · exact hM (306, 0, 307) (by decide)
  · exact hM (322, 0, 323) (by decide)
theorem jt_5_0 {fz : Bool} {S : gS} {a : Nat} (hS : rl S) (h : a ∈ j5) : pb fz S (a + 1) .long 60 := by
  have h := j5_or h
  rcases h with rfl | rfl | rfl | rfl | rfl | rfl | rfl | rfl | rfl
  all_goals exact ⟨⟨Nat.le_of_ble_eq_true rfl, by decide, Nat.lt_of_le_of_lt (Nat.le_of_ble_eq_true rfl) hS.1, hS.2 _ (Nat.le_of_ble_eq_true rfl) (Nat.le_of_ble_eq_true rfl)⟩, Nat.le_of_ble_eq_true rfl⟩
theorem jf_6_3 {M : rf_M} {a : Nat} (hM : kfr M) (h : a ∈ j6) : M.2.2 a 3 = some (a + 1) := by
  have h := j6_or h
  rcases h with rfl | rfl | rfl | rfl | rfl | rfl | rfl | rfl
  · exact hM (196, 3, 197) (by decide)
  · exact hM (212, 3, 213) (by decide)
  · exact hM (228, 3, 229) (by decide)
  · exact hM (244, 3, 245) (by decide)
  · exact hM (260, 3, 261) (by decide)
  · exact hM (276, 3, 277) (by decide)
  · exact hM (292, 3, 293) (by decide)
  · exact hM (308, 3, 309) (by decide)
theorem jt_6_3 {fz : Bool} {S : gS} {a : Nat} (hS : rl S) (h : a ∈ j6) : pb fz S (a + 1) .int 16 := by
  have h := j6_or h
  rcases h with rfl | rfl | rfl | rfl | rfl | rfl | rfl | rfl
  all_goals exact ⟨⟨Nat.le_of_ble_eq_true rfl, by decide, Nat.lt_of_le_of_lt (Nat.le_of_ble_eq_true rfl) hS.1, hS.2 _ (Nat.le_of_ble_eq_true rfl) (Nat.le_of_ble_eq_true rfl)⟩, Nat.le_of_ble_eq_true rfl⟩
theorem jf_6_4 {M : rf_M} {a : Nat} (hM : kfr M) (h : a ∈ j6) : M.2.2 a 4 = some (a + 3) := by
  have h := j6_or h
  rcases h with rfl | rfl | rfl | rfl | rfl | rfl | rfl | rfl
  · exact hM (196, 4, 199) (by decide)
  · exact hM (212, 4, 215) (by decide)
  · exact hM (228, 4, 231) (by decide)
  · exact hM (244, 4, 247) (by decide)
  · exact hM (260, 4, 263) (by decide)
  · exact hM (276, 4, 279) (by decide)
  · exact hM (292, 4, 295) (by decide)
  · exact hM (308, 4, 311) (by decide)
theorem jt_6_4 {a : Nat} (h : a ∈ j6) : (a + 3) ∈ j7 := by
  have h := j6_or h
  rcases h with rfl | rfl | rfl | rfl | rfl | rfl | rfl | rfl <;> decide
theorem jf_6_7 {M : rf_M} {a : Nat} (hM : kfr M) (h : a ∈ j6) : M.2.2 a 7 = some (a + 2) := by
  have h := j6_or h
  rcases h with rfl | rfl | rfl | rfl | rfl | rfl | rfl | rfl
  · exact hM (196, 7, 198) (by decide)
  · exact hM (212, 7, 214) (by decide)
  · exact hM (228, 7, 230) (by decide)
  · exact hM (244, 7, 246) (by decide)
  · exact hM (260, 7, 262) (by decide)
  · exact hM (276, 7, 278) (by decide)
  · exact hM (292, 7, 294) (by decide)
  · exact hM (308, 7, 310) (by decide)
theorem jt_6_7 {fz : Bool} {S : gS} {a : Nat} (hS : rl S) (h : a ∈ j6) : pb fz S (a + 2) .int 16 := by
  have h := j6_or h
  rcases h with rfl | rfl | rfl | rfl | rfl | rfl | rfl | rfl
  all_goals exact ⟨⟨Nat.le_of_ble_eq_true rfl, by decide, Nat.lt_of_le_of_lt (Nat.le_of_ble_eq_true rfl) hS.1, hS.2 _ (Nat.le_of_ble_eq_true rfl) (Nat.le_of_ble_eq_true rfl)⟩, Nat.le_of_ble_eq_true rfl⟩
theorem jf_7_4 {M : rf_M} {a : Nat} (hM : kfr M) (h : a ∈ j7) : M.2.2 a 4 = some (a + 1) := by
  have h := j7_or h
  rcases h with rfl | rfl | rfl | rfl | rfl | rfl | rfl | rfl
  · exact hM (199, 4, 200) (by decide)
  · exact hM (215, 4, 216) (by decide)
  · exact hM (231, 4, 232) (by decide)
  · exact hM (247, 4, 248) (by decide)
  · exact hM (263, 4, 264) (by decide)
  · exact hM (279, 4, 280) (by decide)
  · exact hM (295, 4, 296) (by decide)
  · exact hM (311, 4, 312) (by decide)
theorem jt_7_4 {fz : Bool} {S : gS} {a : Nat} (hS : rl S) (h : a ∈ j7) : pb fz S (a + 1) .int 16 := by
  have h := j7_or h
  rcases h with rfl | rfl | rfl | rfl | rfl | rfl | rfl | rfl
  all_goals exact ⟨⟨Nat.le_of_ble_eq_true rfl, by decide, Nat.lt_of_le_of_lt (Nat.le_of_ble_eq_true rfl) hS.1, hS.2 _ (Nat.le_of_ble_eq_true rfl) (Nat.le_of_ble_eq_true rfl)⟩, Nat.le_of_ble_eq_true rfl⟩
theorem jf_7_5 {M : rf_M} {a : Nat} (hM : kfr M) (h : a ∈ j7) : M.2.2 a 5 = some (a + 2) := by
  have h := j7_or h
  rcases h with rfl | rfl | rfl | rfl | rfl | rfl | rfl | rfl
  · exact hM (199, 5, 201) (by decide)
  · exact hM (215, 5, 217) (by decide)
  · exact hM (231, 5, 233) (by decide)
  · exact hM (247, 5, 249) (by decide)
  · exact hM (263, 5, 265) (by decide)
  · exact hM (279, 5, 281) (by decide)
  · exact hM (295, 5, 297) (by decide)
  · exact hM (311, 5, 313) (by decide)
theorem jt_7_5 {a : Nat} (h : a ∈ j7) : (a + 2) ∈ j8 := by
  have h := j7_or h
  rcases h with rfl | rfl | rfl | rfl | rfl | rfl | rfl | rfl <;> decide
theorem jf_7_7 {M : rf_M} {a : Nat} (hM : kfr M) (h : a ∈ j7) : M.2.2 a 7 = some (a + 10) := by
  have h := j7_or h
  rcases h with rfl | rfl | rfl | rfl | rfl | rfl | rfl | rfl
  · exact hM (199, 7, 209) (by decide)
  · exact hM (215, 7, 225) (by decide)
  · exact hM (231, 7, 241) (by decide)
  · exact hM (247, 7, 257) (by decide)
  · exact hM (263, 7, 273) (by decide)
  · exact hM (279, 7, 289) (by decide)
  · exact hM (295, 7, 305) (by decide)
  · exact hM (311, 7, 321) (by decide)
theorem jt_7_7 {fz : Bool} {S : gS} {a : Nat} (hS : rl S) (h : a ∈ j7) : pb fz S (a + 10) .long 16 := by
  have h := j7_or h
  rcases h with rfl | rfl | rfl | rfl | rfl | rfl | rfl | rfl
  all_goals exact ⟨⟨Nat.le_of_ble_eq_true rfl, by decide, Nat.lt_of_le_of_lt (Nat.le_of_ble_eq_true rfl) hS.1, hS.2 _ (Nat.le_of_ble_eq_true rfl) (Nat.le_of_ble_eq_true rfl)⟩, Nat.le_of_ble_eq_true rfl⟩
theorem jf_7_8 {M : rf_M} {a : Nat} (hM : kfr M) (h : a ∈ j7) : M.2.2 a 8 = some (stR a) := by
  have h := j7_or h
  rcases h with rfl | rfl | rfl | rfl | rfl | rfl | rfl | rfl
  · exact hM (199, 8, 187) (by decide)
  · exact hM (215, 8, 187) (by decide)
  · exact hM (231, 8, 187) (by decide)
  · exact hM (247, 8, 187) (by decide)
  · exact hM (263, 8, 187) (by decide)
  · exact hM (279, 8, 187) (by decide)
  · exact hM (295, 8, 187) (by decide)
  · exact hM (311, 8, 187) (by decide)
theorem jt_7_8 {a : Nat} (h : a ∈ j7) : (stR a) ∈ j4 := by
  have h := j7_or h
  rcases h with rfl | rfl | rfl | rfl | rfl | rfl | rfl | rfl <;> decide
theorem jf_7_9 {M : rf_M} {a : Nat} (hM : kfr M) (h : a ∈ j7) : M.2.2 a 9 = some (a + 11) := by
  have h := j7_or h
  rcases h with rfl | rfl | rfl | rfl | rfl | rfl | rfl | rfl
  · exact hM (199, 9, 210) (by decide)
  · exact hM (215, 9, 226) (by decide)
  · exact hM (231, 9, 242) (by decide)
  · exact hM (247, 9, 258) (by decide)
  · exact hM (263, 9, 274) (by decide)
  · exact hM (279, 9, 290) (by decide)
  · exact hM (295, 9, 306) (by decide)
  · exact hM (311, 9, 322) (by decide)
theorem jt_7_9 {a : Nat} (h : a ∈ j7) : (a + 11) ∈ j5 := by
  have h := j7_or h
  rcases h with rfl | rfl | rfl | rfl | rfl | rfl | rfl | rfl <;> decide
theorem jf_8_1 {M : rf_M} {a : Nat} (hM : kfr M) (h : a ∈ j8) : M.2.2 a 1 = some (a + 1) := by
  have h := j8_or h
  rcases h with rfl | rfl | rfl | rfl | rfl | rfl | rfl | rfl
  · exact hM (201, 1, 202) (by decide)
  · exact hM (217, 1, 218) (by decide)
  · exact hM (233, 1, 234) (by decide)
  · exact hM (249, 1, 250) (by decide)
  · exact hM (265, 1, 266) (by decide)
  · exact hM (281, 1, 282) (by decide)
  · exact hM (297, 1, 298) (by decide)
  · exact hM (313, 1, 314) (by decide)
theorem jt_8_1 {fz : Bool} {S : gS} {a : Nat} (hS : rl S) (h : a ∈ j8) : pb fz S (a + 1) .long 16 := by
  have h := j8_or h
  rcases h with rfl | rfl | rfl | rfl | rfl | rfl | rfl | rfl
  all_goals exact ⟨⟨Nat.le_of_ble_eq_true rfl, by decide, Nat.lt_of_le_of_lt (Nat.le_of_ble_eq_true rfl) hS.1, hS.2 _ (Nat.le_of_ble_eq_true rfl) (Nat.le_of_ble_eq_true rfl)⟩, Nat.le_of_ble_eq_true rfl⟩
theorem jf_8_2 {M : rf_M} {a : Nat} (hM : kfr M) (h : a ∈ j8) : M.2.2 a 2 = some (a + 2) := by
  have h := j8_or h
  rcases h with rfl | rfl | rfl | rfl | rfl | rfl | rfl | rfl
  · exact hM (201, 2, 203) (by decide)
  · exact hM (217, 2, 219) (by decide)
  · exact hM (233, 2, 235) (by decide)
  · exact hM (249, 2, 251) (by decide)
  · exact hM (265, 2, 267) (by decide)
  · exact hM (281, 2, 283) (by decide)
  · exact hM (297, 2, 299) (by decide)
  · exact hM (313, 2, 315) (by decide)
theorem jt_8_2 {fz : Bool} {S : gS} {a : Nat} (hS : rl S) (h : a ∈ j8) : pb fz S (a + 2) .long 10 := by
  have h := j8_or h
  rcases h with rfl | rfl | rfl | rfl | rfl | rfl | rfl | rfl
  all_goals exact ⟨⟨Nat.le_of_ble_eq_true rfl, by decide, Nat.lt_of_le_of_lt (Nat.le_of_ble_eq_true rfl) hS.1, hS.2 _ (Nat.le_of_ble_eq_true rfl) (Nat.le_of_ble_eq_true rfl)⟩, Nat.le_of_ble_eq_true rfl⟩
theorem jf_8_4 {M : rf_M} {a : Nat} (hM : kfr M) (h : a ∈ j8) : M.2.2 a 4 = some (a + 3) := by
  have h := j8_or h
  rcases h with rfl | rfl | rfl | rfl | rfl | rfl | rfl | rfl
  · exact hM (201, 4, 204) (by decide)
  · exact hM (217, 4, 220) (by decide)
  · exact hM (233, 4, 236) (by decide)
  · exact hM (249, 4, 252) (by decide)
  · exact hM (265, 4, 268) (by decide)
  · exact hM (281, 4, 284) (by decide)
  · exact hM (297, 4, 300) (by decide)
  · exact hM (313, 4, 316) (by decide)
theorem jt_8_4 {fz : Bool} {S : gS} {a : Nat} (hS : rl S) (h : a ∈ j8) : pb fz S (a + 3) .int 300 := by
  have h := j8_or h
  rcases h with rfl | rfl | rfl | rfl | rfl | rfl | rfl | rfl
  all_goals exact ⟨⟨Nat.le_of_ble_eq_true rfl, by decide, Nat.lt_of_le_of_lt (Nat.le_of_ble_eq_true rfl) hS.1, hS.2 _ (Nat.le_of_ble_eq_true rfl) (Nat.le_of_ble_eq_true rfl)⟩, Nat.le_of_ble_eq_true rfl⟩
theorem jf_8_5 {M : rf_M} {a : Nat} (hM : kfr M) (h : a ∈ j8) : M.2.2 a 5 = some (a + 4) := by
  have h := j8_or h
  rcases h with rfl | rfl | rfl | rfl | rfl | rfl | rfl | rfl
  · exact hM (201, 5, 205) (by decide)
  · exact hM (217, 5, 221) (by decide)
  · exact hM (233, 5, 237) (by decide)
  · exact hM (249, 5, 253) (by decide)
  · exact hM (265, 5, 269) (by decide)
  · exact hM (281, 5, 285) (by decide)
  · exact hM (297, 5, 301) (by decide)
  · exact hM (313, 5, 317) (by decide)
theorem jt_8_5 {fz : Bool} {S : gS} {a : Nat} (hS : rl S) (h : a ∈ j8) : pb fz S (a + 4) .int 8 := by
  have h := j8_or h
  rcases h with rfl | rfl | rfl | rfl | rfl | rfl | rfl | rfl
  all_goals exact ⟨⟨Nat.le_of_ble_eq_true rfl, by decide, Nat.lt_of_le_of_lt (Nat.le_of_ble_eq_true rfl) hS.1, hS.2 _ (Nat.le_of_ble_eq_true rfl) (Nat.le_of_ble_eq_true rfl)⟩, Nat.le_of_ble_eq_true rfl⟩
theorem jf_8_6 {M : rf_M} {a : Nat} (hM : kfr M) (h : a ∈ j8) : M.2.2 a 6 = some (a + 5) := by
  have h := j8_or h
  rcases h with rfl | rfl | rfl | rfl | rfl | rfl | rfl | rfl
  · exact hM (201, 6, 206) (by decide)
  · exact hM (217, 6, 222) (by decide)
  · exact hM (233, 6, 238) (by decide)
  · exact hM (249, 6, 254) (by decide)
  · exact hM (265, 6, 270) (by decide)
  · exact hM (281, 6, 286) (by decide)
  · exact hM (297, 6, 302) (by decide)
  · exact hM (313, 6, 318) (by decide)
theorem jt_8_6 {fz : Bool} {S : gS} {a : Nat} (hS : rl S) (h : a ∈ j8) : pb fz S (a + 5) .long 128 := by
  have h := j8_or h
  rcases h with rfl | rfl | rfl | rfl | rfl | rfl | rfl | rfl
  all_goals exact ⟨⟨Nat.le_of_ble_eq_true rfl, by decide, Nat.lt_of_le_of_lt (Nat.le_of_ble_eq_true rfl) hS.1, hS.2 _ (Nat.le_of_ble_eq_true rfl) (Nat.le_of_ble_eq_true rfl)⟩, Nat.le_of_ble_eq_true rfl⟩
theorem jf_8_7 {M : rf_M} {a : Nat} (hM : kfr M) (h : a ∈ j8) : M.2.2 a 7 = some (a + 6) := by
  have h := j8_or h
  rcases h with rfl | rfl | rfl | rfl | rfl | rfl | rfl | rfl
  · exact hM (201, 7, 207) (by decide)
  · exact hM (217, 7, 223) (by decide)
  · exact hM (233, 7, 239) (by decide)
  · exact hM (249, 7, 255) (by decide)
  · exact hM (265, 7, 271) (by decide)
  · exact hM (281, 7, 287) (by decide)
  · exact hM (297, 7, 303) (by decide)
  · exact hM (313, 7, 319) (by decide)
theorem jt_8_7 {fz : Bool} {S : gS} {a : Nat} (hS : rl S) (h : a ∈ j8) : pb fz S (a + 6) .long 80 := by
  have h := j8_or h
  rcases h with rfl | rfl | rfl | rfl | rfl | rfl | rfl | rfl
  all_goals exact ⟨⟨Nat.le_of_ble_eq_true rfl, by decide, Nat.lt_of_le_of_lt (Nat.le_of_ble_eq_true rfl) hS.1, hS.2 _ (Nat.le_of_ble_eq_true rfl) (Nat.le_of_ble_eq_true rfl)⟩, Nat.le_of_ble_eq_true rfl⟩
theorem jf_8_8 {M : rf_M} {a : Nat} (hM : kfr M) (h : a ∈ j8) : M.2.2 a 8 = some (a + 7) := by
  have h := j8_or h
  rcases h with rfl | rfl | rfl | rfl | rfl | rfl | rfl | rfl
  · exact hM (201, 8, 208) (by decide)
  · exact hM (217, 8, 224) (by decide)
  · exact hM (233, 8, 240) (by decide)
  · exact hM (249, 8, 256) (by decide)
  · exact hM (265, 8, 272) (by decide)
  · exact hM (281, 8, 288) (by decide)
  · exact hM (297, 8, 304) (by decide)
  · exact hM (313, 8, 320) (by decide)
theorem jt_8_8 {fz : Bool} {S : gS} {a : Nat} (hS : rl S) (h : a ∈ j8) : pb fz S (a + 7) .int 8 := by
  have h := j8_or h
  rcases h with rfl | rfl | rfl | rfl | rfl | rfl | rfl | rfl
  all_goals exact ⟨⟨Nat.le_of_ble_eq_true rfl, by decide, Nat.lt_of_le_of_lt (Nat.le_of_ble_eq_true rfl) hS.1, hS.2 _ (Nat.le_of_ble_eq_true rfl) (Nat.le_of_ble_eq_true rfl)⟩, Nat.le_of_ble_eq_true rfl⟩
theorem jc_24 {fz : Bool} {S : gS} (hS : rl S) : pb fz S 24 (.object "MemoryTransactions$Program") 12 := ⟨⟨Nat.le_of_ble_eq_true rfl, by decide, Nat.lt_of_le_of_lt (Nat.le_of_ble_eq_true rfl) hS.1, hS.2 _ (Nat.le_of_ble_eq_true rfl) (Nat.le_of_ble_eq_true rfl)⟩, Nat.le_of_ble_eq_true rfl⟩
theorem jc_188 {fz : Bool} {S : gS} (hS : rl S) : pb fz S 188 .long 16 := ⟨⟨Nat.le_of_ble_eq_true rfl, by decide, Nat.lt_of_le_of_lt (Nat.le_of_ble_eq_true rfl) hS.1, hS.2 _ (Nat.le_of_ble_eq_true rfl) (Nat.le_of_ble_eq_true rfl)⟩, Nat.le_of_ble_eq_true rfl⟩
theorem jc_189 {fz : Bool} {S : gS} (hS : rl S) : pb fz S 189 .int 16 := ⟨⟨Nat.le_of_ble_eq_true rfl, by decide, Nat.lt_of_le_of_lt (Nat.le_of_ble_eq_true rfl) hS.1, hS.2 _ (Nat.le_of_ble_eq_true rfl) (Nat.le_of_ble_eq_true rfl)⟩, Nat.le_of_ble_eq_true rfl⟩
theorem jc_195 {fz : Bool} {S : gS} (hS : rl S) : pb fz S 195 (.object "MemoryTransactions$Client") 8 := ⟨⟨Nat.le_of_ble_eq_true rfl, by decide, Nat.lt_of_le_of_lt (Nat.le_of_ble_eq_true rfl) hS.1, hS.2 _ (Nat.le_of_ble_eq_true rfl) (Nat.le_of_ble_eq_true rfl)⟩, Nat.le_of_ble_eq_true rfl⟩
theorem jc_325 {fz : Bool} {S : gS} (hS : rl S) : pb fz S 325 .int 300 := ⟨⟨Nat.le_of_ble_eq_true rfl, by decide, Nat.lt_of_le_of_lt (Nat.le_of_ble_eq_true rfl) hS.1, hS.2 _ (Nat.le_of_ble_eq_true rfl) (Nat.le_of_ble_eq_true rfl)⟩, Nat.le_of_ble_eq_true rfl⟩
theorem jc_326 {fz : Bool} {S : gS} (hS : rl S) : pb fz S 326 .int 300 := ⟨⟨Nat.le_of_ble_eq_true rfl, by decide, Nat.lt_of_le_of_lt (Nat.le_of_ble_eq_true rfl) hS.1, hS.2 _ (Nat.le_of_ble_eq_true rfl) (Nat.le_of_ble_eq_true rfl)⟩, Nat.le_of_ble_eq_true rfl⟩
theorem jc_327 {fz : Bool} {S : gS} (hS : rl S) : pb fz S 327 .int 300 := ⟨⟨Nat.le_of_ble_eq_true rfl, by decide, Nat.lt_of_le_of_lt (Nat.le_of_ble_eq_true rfl) hS.1, hS.2 _ (Nat.le_of_ble_eq_true rfl) (Nat.le_of_ble_eq_true rfl)⟩, Nat.le_of_ble_eq_true rfl⟩
theorem jc_328 {fz : Bool} {S : gS} (hS : rl S) : pb fz S 328 .int 300 := ⟨⟨Nat.le_of_ble_eq_true rfl, by decide, Nat.lt_of_le_of_lt (Nat.le_of_ble_eq_true rfl) hS.1, hS.2 _ (Nat.le_of_ble_eq_true rfl) (Nat.le_of_ble_eq_true rfl)⟩, Nat.le_of_ble_eq_true rfl⟩
theorem jc_329 {fz : Bool} {S : gS} (hS : rl S) : pb fz S 329 .int 300 := ⟨⟨Nat.le_of_ble_eq_true rfl, by decide, Nat.lt_of_le_of_lt (Nat.le_of_ble_eq_true rfl) hS.1, hS.2 _ (Nat.le_of_ble_eq_true rfl) (Nat.le_of_ble_eq_true rfl)⟩, Nat.le_of_ble_eq_true rfl⟩
theorem jc_330 {fz : Bool} {S : gS} (hS : rl S) : pb fz S 330 .long 300 := ⟨⟨Nat.le_of_ble_eq_true rfl, by decide, Nat.lt_of_le_of_lt (Nat.le_of_ble_eq_true rfl) hS.1, hS.2 _ (Nat.le_of_ble_eq_true rfl) (Nat.le_of_ble_eq_true rfl)⟩, Nat.le_of_ble_eq_true rfl⟩
theorem clA_mem3 {i : Int} (h : 0 ≤ i ∧ i < 8) : clA i ∈ j6 := by
  have : ∀ n, n < 8 → 196 + 16 * n ∈ j6 := by decide
  exact this i.toNat (by omega)
theorem j7_k {a : Nat} (h : a ∈ j7) : a ∈ k7 := by
  have h := j7_or h
  rcases h with rfl | rfl | rfl | rfl | rfl | rfl | rfl | rfl <;> decide
theorem fl.wqR3 {B M M' : rf_M} {a e : Nat} (h : fl 22 331 B M) (ha : a ∈ j7) (hM : M' = wq M a 0 e) : fl 22 331 B M' := by
  subst hM
  refine h.wq' ?_ (jl_7 ha) (fun q hq => ?_)
  · have := j7_or ha; omega
  · by_cases e : q.1 = a
    · exact Or.inr (rfF_R q hq (by rw [e]; exact j7_k ha))
    · exact Or.inl e
theorem fl.wqS3 {B M M' : rf_M} {a k e : Nat} (h : fl 22 331 B M) (ha : a ∈ j4) (hM : M' = wq M (a + 3) k e) : fl 22 331 B M' := by
  subst hM
  have ho := j4_or ha
  refine h.wq' (by omega) (by omega) (fun q hq => Or.inl ?_)
  have := rfF_S q hq
  omega
/-! the program with its replay or without: what holds of both (printed by wip/tools/merge_eh.py) -/
abbrev gwH (w : Bool) : Nat := cond w 353 331
abbrev gwP (w fz : Bool) (S : gS) (a : Nat) (ty : FieldType) (n : Nat) : Prop := ga (cx0 fz) S a ty n ∧ a < gwH w
def gwL4 (w : Bool) : List Nat := 187 :: cond w [332] []
def gwL5 (w : Bool) : List Nat := 193 :: 210 :: 226 :: 242 :: 258 :: 274 :: 290 :: 306 :: 322 :: cond w [338, 351] []
def gwL6 (w : Bool) : List Nat := 196 :: 212 :: 228 :: 244 :: 260 :: 276 :: 292 :: 308 :: cond w [] []
def gwL7 (w : Bool) : List Nat := 199 :: 215 :: 231 :: 247 :: 263 :: 279 :: 295 :: 311 :: cond w [340] []
def gwL8 (w : Bool) : List Nat := 201 :: 217 :: 233 :: 249 :: 265 :: 281 :: 297 :: 313 :: cond w [342] []
theorem jgb {w : Bool} {a : Nat} (h : Nat.ble (a + 1) 331 = true) : a < gwH w := by
  have h := Nat.le_of_ble_eq_true h
  cases w with
  | false => exact h
  | true => exact Nat.le_trans h (Nat.le_of_ble_eq_true rfl)
theorem jgl_4 {w : Bool} {a : Nat} (h : a ∈ gwL4 w) : a < (gwH w) := by
  cases w with
  | false => exact jl_4 h
  | true => exact kl_4 h
theorem jgo_4 {w : Bool} {fz : Bool} {S : gS} {a : Nat} (hS : rl S) (h : a ∈ gwL4 w) : go (cx0 fz) S a 4 := by
  cases w with
  | false => exact jo_4 hS h
  | true => exact ko_4 hS h
theorem jgl_5 {w : Bool} {a : Nat} (h : a ∈ gwL5 w) : a < (gwH w) := by
  cases w with
  | false => exact jl_5 h
  | true => exact kl_5 h
theorem jgo_5 {w : Bool} {fz : Bool} {S : gS} {a : Nat} (hS : rl S) (h : a ∈ gwL5 w) : go (cx0 fz) S a 5 := by
  cases w with
  | false => exact jo_5 hS h
  | true => exact ko_5 hS h
theorem jgl_6 {w : Bool} {a : Nat} (h : a ∈ gwL6 w) : a < (gwH w) := by
  cases w with
  | false => exact jl_6 h
  | true => exact kl_6 h
theorem jgo_6 {w : Bool} {fz : Bool} {S : gS} {a : Nat} (hS : rl S) (h : a ∈ gwL6 w) : go (cx0 fz) S a 6 := by
  cases w with
  | false => exact jo_6 hS h
  | true => exact ko_6 hS h
theorem jgl_7 {w : Bool} {a : Nat} (h : a ∈ gwL7 w) : a < (gwH w) := by
  cases w with
  | false => exact jl_7 h
  | true => exact kl_7 h
theorem jgo_7 {w : Bool} {fz : Bool} {S : gS} {a : Nat} (hS : rl S) (h : a ∈ gwL7 w) : go (cx0 fz) S a 7 := by
  cases w with
  | false => exact jo_7 hS h
  | true => exact ko_7 hS h
theorem jgl_8 {w : Bool} {a : Nat} (h : a ∈ gwL8 w) : a < (gwH w) := by
  cases w with
  | false => exact jl_8 h
  | true => exact kl_8 h
theorem jgo_8 {w : Bool} {fz : Bool} {S : gS} {a : Nat} (hS : rl S) (h : a ∈ gwL8 w) : go (cx0 fz) S a 8 := by
  cases w with
  | false => exact jo_8 hS h
  | true => exact ko_8 hS h
theorem jgl_9 {w : Bool} {a : Nat} (h : a ∈ k9) : a < (gwH w) := by
  cases w with
  | false => exact jl_9 h
  | true => exact kl_9 h
theorem jgt_1_5 {w : Bool} {fz : Bool} {S : gS} {a : Nat} (hS : rl S) (h : a ∈ k1) : gwP w fz S (a + 1) .int 40 := by
  cases w with
  | false => exact jt_1_5 hS h
  | true => exact kt_1_5 hS h
theorem jgt_1_6 {w : Bool} {fz : Bool} {S : gS} {a : Nat} (hS : rl S) (h : a ∈ k1) : gwP w fz S (a + 2) .int 40 := by
  cases w with
  | false => exact jt_1_6 hS h
  | true => exact kt_1_6 hS h
theorem jgt_1_7 {w : Bool} {fz : Bool} {S : gS} {a : Nat} (hS : rl S) (h : a ∈ k1) : gwP w fz S (a + 3) .int 40 := by
  cases w with
  | false => exact jt_1_7 hS h
  | true => exact kt_1_7 hS h
theorem jgt_1_8 {w : Bool} {fz : Bool} {S : gS} {a : Nat} (hS : rl S) (h : a ∈ k1) : gwP w fz S (a + 4) .int 40 := by
  cases w with
  | false => exact jt_1_8 hS h
  | true => exact kt_1_8 hS h
theorem jgt_1_9 {w : Bool} {fz : Bool} {S : gS} {a : Nat} (hS : rl S) (h : a ∈ k1) : gwP w fz S (a + 5) .int 40 := by
  cases w with
  | false => exact jt_1_9 hS h
  | true => exact kt_1_9 hS h
theorem jgt_1_10 {w : Bool} {fz : Bool} {S : gS} {a : Nat} (hS : rl S) (h : a ∈ k1) : gwP w fz S (a + 6) .int 40 := by
  cases w with
  | false => exact jt_1_10 hS h
  | true => exact kt_1_10 hS h
theorem jgt_1_11 {w : Bool} {fz : Bool} {S : gS} {a : Nat} (hS : rl S) (h : a ∈ k1) : gwP w fz S (a + 7) .int 40 := by
  cases w with
  | false => exact jt_1_11 hS h
  | true => exact kt_1_11 hS h
theorem jgt_1_12 {w : Bool} {fz : Bool} {S : gS} {a : Nat} (hS : rl S) (h : a ∈ k1) : gwP w fz S (a + 8) .int 40 := by
  cases w with
  | false => exact jt_1_12 hS h
  | true => exact kt_1_12 hS h
theorem jgt_1_13 {w : Bool} {fz : Bool} {S : gS} {a : Nat} (hS : rl S) (h : a ∈ k1) : gwP w fz S (a + 9) .int 40 := by
  cases w with
  | false => exact jt_1_13 hS h
  | true => exact kt_1_13 hS h
theorem jgt_1_14 {w : Bool} {fz : Bool} {S : gS} {a : Nat} (hS : rl S) (h : a ∈ k1) : gwP w fz S (a + 10) .int 160 := by
  cases w with
  | false => exact jt_1_14 hS h
  | true => exact kt_1_14 hS h
theorem jgt_1_15 {w : Bool} {fz : Bool} {S : gS} {a : Nat} (hS : rl S) (h : a ∈ k1) : gwP w fz S (a + 11) .int 160 := by
  cases w with
  | false => exact jt_1_15 hS h
  | true => exact kt_1_15 hS h
theorem jgf_4_0 {w : Bool} {M : rf_M} {a : Nat} (hM : kfr M) (h : a ∈ gwL4 w) : M.2.2 a 0 = some (a + 1) := by
  cases w with
  | false => exact jf_4_0 hM h
  | true => exact kf_4_0 hM h
theorem jgt_4_0 {w : Bool} {fz : Bool} {S : gS} {a : Nat} (hS : rl S) (h : a ∈ gwL4 w) : gwP w fz S (a + 1) .long 16 := by
  cases w with
  | false => exact jt_4_0 hS h
  | true => exact kt_4_0 hS h
theorem jgf_4_1 {w : Bool} {M : rf_M} {a : Nat} (hM : kfr M) (h : a ∈ gwL4 w) : M.2.2 a 1 = some (a + 2) := by
  cases w with
  | false => exact jf_4_1 hM h
  | true => exact kf_4_1 hM h
theorem jgt_4_1 {w : Bool} {fz : Bool} {S : gS} {a : Nat} (hS : rl S) (h : a ∈ gwL4 w) : gwP w fz S (a + 2) .int 16 := by
  cases w with
  | false => exact jt_4_1 hS h
  | true => exact kt_4_1 hS h
theorem jgf_4_3 {w : Bool} {M : rf_M} {a : Nat} (hM : kfr M) (h : a ∈ gwL4 w) : M.2.2 a 3 = some (a + 3) := by
  cases w with
  | false => exact jf_4_3 hM h
  | true => exact kf_4_3 hM h
theorem jgt_4_3 {w : Bool} {fz : Bool} {S : gS} {a : Nat} (hS : rl S) (h : a ∈ gwL4 w) : gwP w fz S (a + 3) (.object "MemoryTransactions$Program") 32 := by
  cases w with
  | false => exact jt_4_3 hS h
  | true => exact kt_4_3 hS h
theorem jgf_4_4 {w : Bool} {M : rf_M} {a : Nat} (hM : kfr M) (h : a ∈ gwL4 w) : M.2.2 a 4 = some (a + 4) := by
  cases w with
  | false => exact jf_4_4 hM h
  | true => exact kf_4_4 hM h
theorem jgt_4_4 {w : Bool} {fz : Bool} {S : gS} {a : Nat} (hS : rl S) (h : a ∈ gwL4 w) : gwP w fz S (a + 4) .int 32 := by
  cases w with
  | false => exact jt_4_4 hS h
  | true => exact kt_4_4 hS h
theorem jgf_4_5 {w : Bool} {M : rf_M} {a : Nat} (hM : kfr M) (h : a ∈ gwL4 w) : M.2.2 a 5 = some (a + 5) := by
  cases w with
  | false => exact jf_4_5 hM h
  | true => exact kf_4_5 hM h
theorem jgt_4_5 {w : Bool} {fz : Bool} {S : gS} {a : Nat} (hS : rl S) (h : a ∈ gwL4 w) : gwP w fz S (a + 5) .long 16 := by
  cases w with
  | false => exact jt_4_5 hS h
  | true => exact kt_4_5 hS h
theorem jgf_4_6 {w : Bool} {M : rf_M} {a : Nat} (hM : kfr M) (h : a ∈ gwL4 w) : M.2.2 a 6 = some (a + 6) := by
  cases w with
  | false => exact jf_4_6 hM h
  | true => exact kf_4_6 hM h
theorem jgt_4_6 {w : Bool} {a : Nat} (h : a ∈ gwL4 w) : (a + 6) ∈ gwL5 w := by
  cases w with
  | false => exact jt_4_6 h
  | true => exact kt_4_6 h
theorem jgf_5_0 {w : Bool} {M : rf_M} {a : Nat} (hM : kfr M) (h : a ∈ gwL5 w) : M.2.2 a 0 = some (a + 1) := by
  cases w with
  | false => exact jf_5_0 hM h
  | true => exact kf_5_0 hM h
theorem jgt_5_0 {w : Bool} {fz : Bool} {S : gS} {a : Nat} (hS : rl S) (h : a ∈ gwL5 w) : gwP w fz S (a + 1) .long 60 := by
  cases w with
  | false => exact jt_5_0 hS h
  | true => exact kt_5_0 hS h
theorem jgf_6_3 {w : Bool} {M : rf_M} {a : Nat} (hM : kfr M) (h : a ∈ gwL6 w) : M.2.2 a 3 = some (a + 1) := by
  cases w with
  | false => exact jf_6_3 hM h
  | true => exact kf_6_3 hM h
theorem jgt_6_3 {w : Bool} {fz : Bool} {S : gS} {a : Nat} (hS : rl S) (h : a ∈ gwL6 w) : gwP w fz S (a + 1) .int 16 := by
  cases w with
  | false => exact jt_6_3 hS h
  | true => exact kt_6_3 hS h
theorem jgf_6_4 {w : Bool} {M : rf_M} {a : Nat} (hM : kfr M) (h : a ∈ gwL6 w) : M.2.2 a 4 = some (a + 3) := by
  cases w with
  | false => exact jf_6_4 hM h
  | true => exact kf_6_4 hM h
theorem jgt_6_4 {w : Bool} {a : Nat} (h : a ∈ gwL6 w) : (a + 3) ∈ gwL7 w := by
  cases w with
  | false => exact jt_6_4 h
  | true => exact kt_6_4 h
theorem jgf_6_7 {w : Bool} {M : rf_M} {a : Nat} (hM : kfr M) (h : a ∈ gwL6 w) : M.2.2 a 7 = some (a + 2) := by
  cases w with
  | false => exact jf_6_7 hM h
  | true => exact kf_6_7 hM h
theorem jgt_6_7 {w : Bool} {fz : Bool} {S : gS} {a : Nat} (hS : rl S) (h : a ∈ gwL6 w) : gwP w fz S (a + 2) .int 16 := by
  cases w with
  | false => exact jt_6_7 hS h
  | true => exact kt_6_7 hS h
theorem jgf_7_4 {w : Bool} {M : rf_M} {a : Nat} (hM : kfr M) (h : a ∈ gwL7 w) : M.2.2 a 4 = some (a + 1) := by
  cases w with
  | false => exact jf_7_4 hM h
  | true => exact kf_7_4 hM h
theorem jgt_7_4 {w : Bool} {fz : Bool} {S : gS} {a : Nat} (hS : rl S) (h : a ∈ gwL7 w) : gwP w fz S (a + 1) .int 16 := by
  cases w with
  | false => exact jt_7_4 hS h
  | true => exact kt_7_4 hS h
theorem jgf_7_5 {w : Bool} {M : rf_M} {a : Nat} (hM : kfr M) (h : a ∈ gwL7 w) : M.2.2 a 5 = some (a + 2) := by
  cases w with
  | false => exact jf_7_5 hM h
  | true => exact kf_7_5 hM h
theorem jgt_7_5 {w : Bool} {a : Nat} (h : a ∈ gwL7 w) : (a + 2) ∈ gwL8 w := by
  cases w with
  | false => exact jt_7_5 h
  | true => exact kt_7_5 h
theorem jgf_7_7 {w : Bool} {M : rf_M} {a : Nat} (hM : kfr M) (h : a ∈ gwL7 w) : M.2.2 a 7 = some (a + 10) := by
  cases w with
  | false => exact jf_7_7 hM h
  | true => exact kf_7_7 hM h
theorem jgt_7_7 {w : Bool} {fz : Bool} {S : gS} {a : Nat} (hS : rl S) (h : a ∈ gwL7 w) : gwP w fz S (a + 10) .long 16 := by
  cases w with
  | false => exact jt_7_7 hS h
  | true => exact kt_7_7 hS h
theorem jgf_7_8 {w : Bool} {M : rf_M} {a : Nat} (hM : kfr M) (h : a ∈ gwL7 w) : M.2.2 a 8 = some (stR a) := by
  cases w with
  | false => exact jf_7_8 hM h
  | true => exact kf_7_8 hM h
theorem jgt_7_8 {w : Bool} {a : Nat} (h : a ∈ gwL7 w) : (stR a) ∈ gwL4 w := by
  cases w with
  | false => exact jt_7_8 h
  | true => exact kt_7_8 h
theorem jgf_7_9 {w : Bool} {M : rf_M} {a : Nat} (hM : kfr M) (h : a ∈ gwL7 w) : M.2.2 a 9 = some (a + 11) := by
  cases w with
  | false => exact jf_7_9 hM h
  | true => exact kf_7_9 hM h
theorem jgt_7_9 {w : Bool} {a : Nat} (h : a ∈ gwL7 w) : (a + 11) ∈ gwL5 w := by
  cases w with
  | false => exact jt_7_9 h
  | true => exact kt_7_9 h
theorem jgf_8_1 {w : Bool} {M : rf_M} {a : Nat} (hM : kfr M) (h : a ∈ gwL8 w) : M.2.2 a 1 = some (a + 1) := by
  cases w with
  | false => exact jf_8_1 hM h
  | true => exact kf_8_1 hM h
theorem jgt_8_1 {w : Bool} {fz : Bool} {S : gS} {a : Nat} (hS : rl S) (h : a ∈ gwL8 w) : gwP w fz S (a + 1) .long 16 := by
  cases w with
  | false => exact jt_8_1 hS h
  | true => exact kt_8_1 hS h
theorem jgf_8_2 {w : Bool} {M : rf_M} {a : Nat} (hM : kfr M) (h : a ∈ gwL8 w) : M.2.2 a 2 = some (a + 2) := by
  cases w with
  | false => exact jf_8_2 hM h
  | true => exact kf_8_2 hM h
theorem jgt_8_2 {w : Bool} {fz : Bool} {S : gS} {a : Nat} (hS : rl S) (h : a ∈ gwL8 w) : gwP w fz S (a + 2) .long 10 := by
  cases w with
  | false => exact jt_8_2 hS h
  | true => exact kt_8_2 hS h
theorem jgf_8_4 {w : Bool} {M : rf_M} {a : Nat} (hM : kfr M) (h : a ∈ gwL8 w) : M.2.2 a 4 = some (a + 3) := by
  cases w with
  | false => exact jf_8_4 hM h
  | true => exact kf_8_4 hM h
theorem jgt_8_4 {w : Bool} {fz : Bool} {S : gS} {a : Nat} (hS : rl S) (h : a ∈ gwL8 w) : gwP w fz S (a + 3) .int 300 := by
  cases w with
  | false => exact jt_8_4 hS h
  | true => exact kt_8_4 hS h
theorem jgf_8_5 {w : Bool} {M : rf_M} {a : Nat} (hM : kfr M) (h : a ∈ gwL8 w) : M.2.2 a 5 = some (a + 4) := by
  cases w with
  | false => exact jf_8_5 hM h
  | true => exact kf_8_5 hM h
theorem jgt_8_5 {w : Bool} {fz : Bool} {S : gS} {a : Nat} (hS : rl S) (h : a ∈ gwL8 w) : gwP w fz S (a + 4) .int 8 := by
  cases w with
  | false => exact jt_8_5 hS h
  | true => exact kt_8_5 hS h
theorem jgf_8_6 {w : Bool} {M : rf_M} {a : Nat} (hM : kfr M) (h : a ∈ gwL8 w) : M.2.2 a 6 = some (a + 5) := by
  cases w with
  | false => exact jf_8_6 hM h
  | true => exact kf_8_6 hM h
theorem jgt_8_6 {w : Bool} {fz : Bool} {S : gS} {a : Nat} (hS : rl S) (h : a ∈ gwL8 w) : gwP w fz S (a + 5) .long 128 := by
  cases w with
  | false => exact jt_8_6 hS h
  | true => exact kt_8_6 hS h
theorem jgf_8_7 {w : Bool} {M : rf_M} {a : Nat} (hM : kfr M) (h : a ∈ gwL8 w) : M.2.2 a 7 = some (a + 6) := by
  cases w with
  | false => exact jf_8_7 hM h
  | true => exact kf_8_7 hM h
theorem jgt_8_7 {w : Bool} {fz : Bool} {S : gS} {a : Nat} (hS : rl S) (h : a ∈ gwL8 w) : gwP w fz S (a + 6) .long 80 := by
  cases w with
  | false => exact jt_8_7 hS h
  | true => exact kt_8_7 hS h
theorem jgf_8_8 {w : Bool} {M : rf_M} {a : Nat} (hM : kfr M) (h : a ∈ gwL8 w) : M.2.2 a 8 = some (a + 7) := by
  cases w with
  | false => exact jf_8_8 hM h
  | true => exact kf_8_8 hM h
theorem jgt_8_8 {w : Bool} {fz : Bool} {S : gS} {a : Nat} (hS : rl S) (h : a ∈ gwL8 w) : gwP w fz S (a + 7) .int 8 := by
  cases w with
  | false => exact jt_8_8 hS h
  | true => exact kt_8_8 hS h
theorem jgc_24 {w : Bool} {fz : Bool} {S : gS} (hS : rl S) : gwP w fz S 24 (.object "MemoryTransactions$Program") 12 := by
  cases w with
  | false => exact jc_24 hS
  | true => exact kc_24 hS
theorem jgc_188 {w : Bool} {fz : Bool} {S : gS} (hS : rl S) : gwP w fz S 188 .long 16 := by
  cases w with
  | false => exact jc_188 hS
  | true => exact kc_188 hS
theorem jgc_189 {w : Bool} {fz : Bool} {S : gS} (hS : rl S) : gwP w fz S 189 .int 16 := by
  cases w with
  | false => exact jc_189 hS
  | true => exact kc_189 hS
theorem jgc_195 {w : Bool} {fz : Bool} {S : gS} (hS : rl S) : gwP w fz S 195 (.object "MemoryTransactions$Client") 8 := by
  cases w with
  | false => exact jc_195 hS
  | true => exact kc_195 hS
theorem jgc_325 {w : Bool} {fz : Bool} {S : gS} (hS : rl S) : gwP w fz S 325 .int 300 := by
  cases w with
  | false => exact jc_325 hS
  | true => exact kc_325 hS
theorem jgc_326 {w : Bool} {fz : Bool} {S : gS} (hS : rl S) : gwP w fz S 326 .int 300 := by
  cases w with
  | false => exact jc_326 hS
  | true => exact kc_326 hS
theorem jgc_327 {w : Bool} {fz : Bool} {S : gS} (hS : rl S) : gwP w fz S 327 .int 300 := by
  cases w with
  | false => exact jc_327 hS
  | true => exact kc_327 hS
theorem jgc_328 {w : Bool} {fz : Bool} {S : gS} (hS : rl S) : gwP w fz S 328 .int 300 := by
  cases w with
  | false => exact jc_328 hS
  | true => exact kc_328 hS
theorem jgc_329 {w : Bool} {fz : Bool} {S : gS} (hS : rl S) : gwP w fz S 329 .int 300 := by
  cases w with
  | false => exact jc_329 hS
  | true => exact kc_329 hS
theorem jgc_330 {w : Bool} {fz : Bool} {S : gS} (hS : rl S) : gwP w fz S 330 .long 300 := by
  cases w with
  | false => exact jc_330 hS
  | true => exact kc_330 hS
theorem clA_memg {w : Bool} {i : Int} (h : 0 ≤ i ∧ i < 8) : clA i ∈ gwL6 w := by
  cases w with
  | false => exact clA_mem3 h
  | true => exact clA_mem h
theorem fl.wqRg {w : Bool} {B M M' : rf_M} {a e : Nat} (h : fl 22 (gwH w) B M) (ha : a ∈ gwL7 w) (hM : M' = wq M a 0 e) : fl 22 (gwH w) B M' := by
  cases w with
  | false => exact fl.wqR3 h ha hM
  | true => exact fl.wqR h ha hM
theorem fl.wqSg {w : Bool} {B M M' : rf_M} {a k e : Nat} (h : fl 22 (gwH w) B M) (ha : a ∈ gwL4 w) (hM : M' = wq M (a + 3) k e) : fl 22 (gwH w) B M' := by
  cases w with
  | false => exact fl.wqS3 h ha hM
  | true => exact fl.wqS h ha hM
