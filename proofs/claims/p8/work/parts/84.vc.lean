/-! see wip/tools/vc.py -/
/-! THE REFERENCE AS FORMULAS: ints as numbers, reads and writes of slots, rows over them -/
def gi (M : rf_M) (a k : Nat) : Int := (M.1 a k).toInt
def wi (M : rf_M) (a k : Nat) (z : Int) : rf_M := rf_wi M a k (Int32.ofInt z)
def gl (M : rf_M) (a k : Nat) : Int64 := M.2.1 a k
def wl (M : rf_M) (a k : Nat) (x : Int64) : rf_M := rf_wl M a k x
def inr (z : Int) : Prop := -2147483648 ≤ z ∧ z ≤ 2147483647
abbrev zv (z : Int) : Value := .int (Int32.ofInt z)
theorem inr_ti (x : Int32) : inr x.toInt := ⟨Int32.le_toInt x, by have := Int32.toInt_lt x; omega⟩
theorem inr_gi (M : rf_M) (a k : Nat) : inr (gi M a k) := inr_ti _
theorem ofi_ti (x : Int32) : Int32.ofInt x.toInt = x := Int32.ofInt_toInt x
theorem ti_ofi {z : Int} (h : inr z) : (Int32.ofInt z).toInt = z := Int32.toInt_ofInt_of_le (by have := h.1; omega) (by have := h.2; omega)
theorem gi_at {M : rf_M} {a k : Nat} {z : Int} (h : inr z) : gi (wi M a k z) a k = z := by
  show ((rf_wi M a k (Int32.ofInt z)).1 a k).toInt = z
  rw [rf_wi_at, ti_ofi h]
theorem gi_of {M : rf_M} {a k a' k' : Nat} {z : Int} (h : a' ≠ a ∨ k' ≠ k) : gi (wi M a k z) a' k' = gi M a' k' := by
  show ((rf_wi M a k (Int32.ofInt z)).1 a' k').toInt = _
  rw [rf_wi_of _ _ h]; rfl
theorem gi_wl (M : rf_M) (a k a' k' : Nat) (x : Int64) : gi (wl M a k x) a' k' = gi M a' k' := rfl
theorem gl_wi (M : rf_M) (a k a' k' : Nat) (z : Int) : gl (wi M a k z) a' k' = gl M a' k' := rfl
theorem gl_at (M : rf_M) (a k : Nat) (x : Int64) : gl (wl M a k x) a k = x := rf_up2s _ _ _ _
theorem gl_of {M : rf_M} {a k a' k' : Nat} {x : Int64} (h : a' ≠ a ∨ k' ≠ k) : gl (wl M a k x) a' k' = gl M a' k' := rf_up2 _ _ h
theorem li_of {ls : rf_L} {k : Nat} {z : Int} {st : List Value} (h : rf_ld ls k = some (zv z)) : rf_li ls k st = some (zv z :: st) := by unfold rf_li; rw [h]
theorem ll_of {ls : rf_L} {k : Nat} {x : Int64} {st : List Value} (h : rf_ld ls k = some (.long x)) : rf_ll ls k st = some (.long x :: st) := by unfold rf_ll; rw [h]
theorem la_of {ls : rf_L} {k a : Nat} {st : List Value} (h : rf_ld ls k = some (.ref a)) : rf_la ls k st = some (.ref a :: st) := by unfold rf_la; rw [h]
/-- the cells of the program, and all references, are as in B -/
def fq (B M : rf_M) : Prop := M.2.2 = B.2.2 ∧ ∀ a k, a < 353 → M.1 a k = B.1 a k ∧ M.2.1 a k = B.2.1 a k
theorem fq.rfl' (B : rf_M) : fq B B := ⟨rfl, fun _ _ _ => ⟨rfl, rfl⟩⟩
theorem fq.trans {B M M' : rf_M} (h : fq B M) (h' : fq M M') : fq B M' := ⟨h'.1.trans h.1, fun a k q => ⟨(h'.2 a k q).1.trans (h.2 a k q).1, (h'.2 a k q).2.trans (h.2 a k q).2⟩⟩
theorem fq_wi (M : rf_M) {c k : Nat} {z : Int} (hc : 353 ≤ c) : fq M (wi M c k z) := ⟨rfl, fun a k' q => ⟨rf_wi_of _ _ (Or.inl (by omega)), rfl⟩⟩
theorem fq_wl (M : rf_M) {c k : Nat} {x : Int64} (hc : 353 ≤ c) : fq M (wl M c k x) := ⟨rfl, fun a k' q => ⟨rfl, rf_up2 _ _ (Or.inl (by omega))⟩⟩
section VC
variable {cx : rf_C} {d : Nat × Nat} {i pc : Nat} {ls : rf_L} {st : List Value} {h : rf_H} {Q : Option Value → rf_H → Prop} {M : rf_M} {S : gS} {aux : List (Int × Nat)} {a b z : Int}
theorem n_bi {n : Int} (hf : cx.1 i pc = some (.bipush n, aux)) (hz : (Int8.ofInt n).toInt32 = Int32.ofInt n) (kk : gx cx d i (pc + 2) ls (zv n :: st) h Q) : gx cx d i pc ls st h Q := g1 (n := 2) hf rfl rfl (st' := zv n :: st) (by show some (Value.int (Int8.ofInt n).toInt32 :: st) = _; rw [hz]) kk
theorem n_si {n : Int} (hf : cx.1 i pc = some (.sipush n, aux)) (hz : (Int16.ofInt n).toInt32 = Int32.ofInt n) (kk : gx cx d i (pc + 3) ls (zv n :: st) h Q) : gx cx d i pc ls st h Q := g1 (n := 3) hf rfl rfl (st' := zv n :: st) (by show some (Value.int (Int16.ofInt n).toInt32 :: st) = _; rw [hz]) kk
theorem n_s1 {J : Instr} {n k : Nat} {v : Value} (hf : cx.1 i pc = some (J, aux)) (hk : rf_kd J = 2) (hn : rf_len J = n) (he : rf_so J (cx.2.1 i).2.2.1 ls (v :: st) = some (rf_s1 ls k v, st)) (kk : ∀ ls', rf_ld ls' k = some v → (∀ j w, k ≠ j → ¬ (j + 1 = k ∧ w.category = 2) → rf_ld ls j = some w → rf_ld ls' j = some w) → gx cx d i (pc + n) ls' st h Q) : gx cx d i pc ls (v :: st) h Q := g2 hf hk hn he (kk _ (rf_ld_hd _ _ _) (fun _ _ h1 h2 h3 => rf_s1_ne h1 h3 h2))
theorem n_s2 {J : Instr} {n k : Nat} {v : Value} (hf : cx.1 i pc = some (J, aux)) (hk : rf_kd J = 2) (hn : rf_len J = n) (he : rf_so J (cx.2.1 i).2.2.1 ls (v :: st) = some (rf_s2 ls k v, st)) (kk : ∀ ls', rf_ld ls' k = some v → (∀ j w, k ≠ j → k + 1 ≠ j → ¬ (j + 1 = k ∧ w.category = 2) → rf_ld ls j = some w → rf_ld ls' j = some w) → gx cx d i (pc + n) ls' st h Q) : gx cx d i pc ls (v :: st) h Q := g2 hf hk hn he (kk _ (rf_ld_hd _ _ _) (fun _ _ h1 h2 h3 h4 => rf_s2_ne h1 h2 h4 h3))
theorem n_ii {k : Nat} {n : Int} (hf : cx.1 i pc = some (.iinc k n, aux)) (hl : rf_ld ls k = some (zv z)) (hL : k < (cx.2.1 i).2.2.1) (kk : ∀ ls', rf_ld ls' k = some (zv (z + n)) → (∀ j w, k ≠ j → ¬ (j + 1 = k ∧ w.category = 2) → rf_ld ls j = some w → rf_ld ls' j = some w) → gx cx d i (pc + 3) ls' st h Q) : gx cx d i pc ls st h Q := by
  refine g2 (n := 3) hf rfl rfl (ls' := rf_s1 ls k (zv (z + n))) (st' := st) ?_ (kk _ (rf_ld_hd _ _ _) (fun _ _ h1 h2 h3 => rf_s1_ne h1 h3 h2))
  show (match rf_ld ls k with
    | some (.int x) => if k < (cx.2.1 i).2.2.1 then some (rf_s1 ls k (.int (x + Int32.ofInt n)), st) else none
    | _ => none) = _
  rw [hl]
  dsimp only
  rw [if_pos hL, ← Int32.ofInt_add]
theorem n_add (hf : cx.1 i pc = some (.iadd, aux)) (kk : gx cx d i (pc + 1) ls (zv (a + b) :: st) h Q) : gx cx d i pc ls (zv b :: zv a :: st) h Q := g0 hf rfl (st' := zv (a + b) :: st) (by show some (Value.int (Int32.ofInt a + Int32.ofInt b) :: st) = _; rw [← Int32.ofInt_add]) kk
theorem n_sub (hf : cx.1 i pc = some (.isub, aux)) (kk : gx cx d i (pc + 1) ls (zv (a - b) :: st) h Q) : gx cx d i pc ls (zv b :: zv a :: st) h Q := g0 hf rfl (st' := zv (a - b) :: st) (by show some (Value.int (Int32.ofInt a - Int32.ofInt b) :: st) = _; rw [← Int32.ofInt_sub]) kk
theorem n_mul (hf : cx.1 i pc = some (.imul, aux)) (kk : gx cx d i (pc + 1) ls (zv (a * b) :: st) h Q) : gx cx d i pc ls (zv b :: zv a :: st) h Q := g0 hf rfl (st' := zv (a * b) :: st) (by show some (Value.int (Int32.ofInt a * Int32.ofInt b) :: st) = _; rw [← Int32.ofInt_mul]) kk
theorem n_op {J : Instr} {T : Int32} {st' : List Value} (hf : cx.1 i pc = some (J, aux)) (hk : rf_kd J = 0) (he : rf_ar J st = some (.int T :: st')) (kk : gx cx d i (pc + 1) ls (zv T.toInt :: st') h Q) : gx cx d i pc ls st h Q := g0 hf hk (st' := zv T.toInt :: st') (by rw [he]; show _ = some (Value.int (Int32.ofInt T.toInt) :: st'); rw [ofi_ti]) kk
theorem n_if {c : Jvm.ClassFile.Cond} {o : Int} (hf : cx.1 i pc = some (.ifCond c o, aux)) (ha : inr a) (kt : sx_cc c a 0 → gx cx d i (rf_tg aux) ls st h Q) (kf : ¬ sx_cc c a 0 → gx cx d i (pc + 3) ls st h Q) : gx cx d i pc ls (zv a :: st) h Q := by
  have e : ∀ k, rf_cc (Int32.ofInt a) 0 k = true ↔ sx_cc k a 0 := fun k => by
    rw [rf_cc_iff, ti_ofi ha]; rfl
  exact g_if hf (fun q => kt ((e c).mp q)) (fun q => kf (fun w => q ((e c).mpr w)))
theorem n_ic {c : Jvm.ClassFile.Cond} {o : Int} (hf : cx.1 i pc = some (.if_icmp c o, aux)) (ha : inr a) (hb : inr b) (kt : sx_cc c a b → gx cx d i (rf_tg aux) ls st h Q) (kf : ¬ sx_cc c a b → gx cx d i (pc + 3) ls st h Q) : gx cx d i pc ls (zv b :: zv a :: st) h Q := by
  have e : ∀ k, rf_cc (Int32.ofInt a) (Int32.ofInt b) k = true ↔ sx_cc k a b := fun k => by
    rw [rf_cc_iff, ti_ofi ha, ti_ofi hb]
  exact g_ic hf (fun q => kt ((e c).mp q)) (fun q => kf (fun w => q ((e c).mpr w)))
theorem n_gi {idx c ci k : Nat} (hf : cx.1 i pc = some (.getfield idx, aux)) (hs : go cx S c ci) (hl : rf_lk aux (ci : Int) = some k) (hv : ∀ M : rf_M, rf_rd M (cx.2.2.1 (ci : Int) k) c k = .int (M.1 c k)) (kk : gx cx d i (pc + 3) ls (zv (gi M c k) :: st) (M, S) Q) : gx cx d i pc ls (.ref c :: st) (M, S) Q := m_gf hf hs hl (by rw [hv]; show _ = Value.int (Int32.ofInt (M.1 c k).toInt); rw [ofi_ti]) kk
theorem n_gl {idx c ci k : Nat} (hf : cx.1 i pc = some (.getfield idx, aux)) (hs : go cx S c ci) (hl : rf_lk aux (ci : Int) = some k) (hv : ∀ M : rf_M, rf_rd M (cx.2.2.1 (ci : Int) k) c k = .long (M.2.1 c k)) (kk : gx cx d i (pc + 3) ls (.long (gl M c k) :: st) (M, S) Q) : gx cx d i pc ls (.ref c :: st) (M, S) Q := m_gf hf hs hl (hv M) kk
theorem n_gr {idx c ci k e : Nat} {B : rf_M} (hf : cx.1 i pc = some (.getfield idx, aux)) (hs : go cx S c ci) (hl : rf_lk aux (ci : Int) = some k) (hv : ∀ M : rf_M, rf_rd M (cx.2.2.1 (ci : Int) k) c k = va_rf (M.2.2 c k)) (hR : fq B M) (hr : B.2.2 c k = some e) (kk : gx cx d i (pc + 3) ls (.ref e :: st) (M, S) Q) : gx cx d i pc ls (.ref c :: st) (M, S) Q := m_gf hf hs hl (by rw [hv, hR.1, hr]; rfl) kk
theorem n_pi {idx c ci k : Nat} (hc : 353 ≤ c) (hf : cx.1 i pc = some (.putfield idx, aux)) (hs : go cx S c ci) (hl : rf_lk aux (ci : Int) = some k) (hv : ∀ (M : rf_M) x, rf_wr M (cx.2.2.1 (ci : Int) k) c k (.int x) = some (rf_wi M c k x)) (kk : ∀ M', M' = wi M c k z → fq M M' → gx cx d i (pc + 3) ls st (M', S) Q) : gx cx d i pc ls (zv z :: .ref c :: st) (M, S) Q := m_pf hf hs hl (hv M _) (kk _ rfl (fq_wi M hc))
theorem n_pb {idx c ci k : Nat} (hc : 353 ≤ c) (hf : cx.1 i pc = some (.putfield idx, aux)) (hs : go cx S c ci) (hl : rf_lk aux (ci : Int) = some k) (hv : cx.2.2.1 (ci : Int) k = .boolean) (hz : z = 0 ∨ z = 1) (kk : ∀ M', M' = wi M c k z → fq M M' → gx cx d i (pc + 3) ls st (M', S) Q) : gx cx d i pc ls (zv z :: .ref c :: st) (M, S) Q := by
  refine m_pf hf hs hl (M' := wi M c k z) ?_ (kk _ rfl (fq_wi M hc))
  rw [hv]
  rcases hz with rfl | rfl
  · show (if narrow .boolean (.int (Int32.ofInt 0)) = .int (Int32.ofInt 0) ∧ fits .boolean (.int (Int32.ofInt 0)) = true then some (rf_wi M c k (Int32.ofInt 0)) else none) = _
    rw [if_pos ⟨rfl, rfl⟩]; rfl
  · show (if narrow .boolean (.int (Int32.ofInt 1)) = .int (Int32.ofInt 1) ∧ fits .boolean (.int (Int32.ofInt 1)) = true then some (rf_wi M c k (Int32.ofInt 1)) else none) = _
    rw [if_pos ⟨rfl, rfl⟩]; rfl
theorem n_pl {idx c ci k : Nat} {x : Int64} (hc : 353 ≤ c) (hf : cx.1 i pc = some (.putfield idx, aux)) (hs : go cx S c ci) (hl : rf_lk aux (ci : Int) = some k) (hv : ∀ (M : rf_M) x, rf_wr M (cx.2.2.1 (ci : Int) k) c k (.long x) = some (rf_wl M c k x)) (kk : ∀ M', M' = wl M c k x → fq M M' → gx cx d i (pc + 3) ls st (M', S) Q) : gx cx d i pc ls (.long x :: .ref c :: st) (M, S) Q := m_pf hf hs hl (hv M _) (kk _ rfl (fq_wl M hc))
theorem ix_z {n : Nat} (h : 0 ≤ a ∧ a < n) (hn : n ≤ 100000) : ¬ (Int32.ofInt a < 0 ∨ n ≤ (Int32.ofInt a).toNatClampNeg) ∧ (Int32.ofInt a).toNatClampNeg = a.toNat := by
  have e : (Int32.ofInt a).toInt = ((a.toNat : Nat) : Int) := by rw [ti_ofi ⟨by omega, by omega⟩]; omega
  exact ⟨ix_ok e (by omega), ix_nat e⟩
theorem n_ia {c n : Nat} (hf : cx.1 i pc = some (.iaload, aux)) (hs : ga cx S c .int n) (hn : n ≤ 100000) (hj : 0 ≤ a ∧ a < n) (kk : gx cx d i (pc + 1) ls (zv (gi M c a.toNat) :: st) (M, S) Q) : gx cx d i pc ls (zv a :: .ref c :: st) (M, S) Q := by
  refine g4 hf rfl rfl (st' := zv (gi M c a.toNat) :: st) (h' := (M, S)) ?_ kk
  show (match rf_el (M, S) .int c (Int32.ofInt a) with | some v => some (v :: st, (M, S)) | none => none) = some (Value.int (Int32.ofInt (M.1 c a.toNat).toInt) :: st, (M, S))
  rw [hs.el _ (ix_z hj hn).1, (ix_z hj hn).2, ofi_ti]
  rfl
theorem n_la {c n : Nat} (hf : cx.1 i pc = some (.laload, aux)) (hs : ga cx S c .long n) (hn : n ≤ 100000) (hj : 0 ≤ a ∧ a < n) (kk : gx cx d i (pc + 1) ls (.long (gl M c a.toNat) :: st) (M, S) Q) : gx cx d i pc ls (zv a :: .ref c :: st) (M, S) Q := by
  refine g4 hf rfl rfl (st' := .long (gl M c a.toNat) :: st) (h' := (M, S)) ?_ kk
  show (match rf_el (M, S) .long c (Int32.ofInt a) with | some v => some (v :: st, (M, S)) | none => none) = _
  rw [hs.el _ (ix_z hj hn).1, (ix_z hj hn).2]
  rfl
theorem n_ba {c n : Nat} (hf : cx.1 i pc = some (.baload, aux)) (hs : ga cx S c .byte n) (hn : n ≤ 100000) (hj : 0 ≤ a ∧ a < n) (kk : gx cx d i (pc + 1) ls (zv (gi M c a.toNat) :: st) (M, S) Q) : gx cx d i pc ls (zv a :: .ref c :: st) (M, S) Q := by
  refine g4 hf rfl rfl (st' := zv (gi M c a.toNat) :: st) (h' := (M, S)) ?_ kk
  show (match rf_el (M, S) .byte c (Int32.ofInt a) with
    | some v => some (v :: st, (M, S))
    | none => match rf_el (M, S) .boolean c (Int32.ofInt a) with
      | some v => some (v :: st, (M, S))
      | none => none) = some (Value.int (Int32.ofInt (M.1 c a.toNat).toInt) :: st, (M, S))
  rw [hs.el _ (ix_z hj hn).1, (ix_z hj hn).2, ofi_ti]
  rfl
theorem ga_nob {c n : Nat} (hs : ga cx S c .boolean n) (M : rf_M) (j : Int32) : rf_el (M, S) .byte c j = none := by
  unfold rf_el
  rw [hs.aa M]
  exact if_neg (fun q => by cases q.1)
theorem n_za {c n : Nat} (hf : cx.1 i pc = some (.baload, aux)) (hs : ga cx S c .boolean n) (hn : n ≤ 100000) (hj : 0 ≤ a ∧ a < n) (kk : gx cx d i (pc + 1) ls (zv (gi M c a.toNat) :: st) (M, S) Q) : gx cx d i pc ls (zv a :: .ref c :: st) (M, S) Q := by
  refine g4 hf rfl rfl (st' := zv (gi M c a.toNat) :: st) (h' := (M, S)) ?_ kk
  show (match rf_el (M, S) .byte c (Int32.ofInt a) with
    | some v => some (v :: st, (M, S))
    | none => match rf_el (M, S) .boolean c (Int32.ofInt a) with
      | some v => some (v :: st, (M, S))
      | none => none) = some (Value.int (Int32.ofInt (M.1 c a.toNat).toInt) :: st, (M, S))
  rw [ga_nob hs]
  dsimp only
  rw [hs.el _ (ix_z hj hn).1, (ix_z hj hn).2, ofi_ti]
  rfl
theorem n_is {c n : Nat} (hc : 353 ≤ c) (hf : cx.1 i pc = some (.iastore, aux)) (hs : ga cx S c .int n) (hn : n ≤ 100000) (hj : 0 ≤ a ∧ a < n) (kk : ∀ M', M' = wi M c a.toNat z → fq M M' → gx cx d i (pc + 1) ls st (M', S) Q) : gx cx d i pc ls (zv z :: zv a :: .ref c :: st) (M, S) Q := by
  refine g4 hf rfl rfl (st' := st) (h' := (wi M c a.toNat z, S)) ?_ (kk _ rfl (fq_wi M hc))
  show (if c < cx.2.2.2.2 then none else match rf_el (M, S) .int c (Int32.ofInt a) with | some _ => some (st, (rf_wi M c (Int32.ofInt a).toNatClampNeg (Int32.ofInt z), S)) | none => none) = _
  rw [if_neg (Nat.not_lt.mpr hs.1), hs.el _ (ix_z hj hn).1, (ix_z hj hn).2]
  rfl
theorem n_ls {c n : Nat} {x : Int64} (hc : 353 ≤ c) (hf : cx.1 i pc = some (.lastore, aux)) (hs : ga cx S c .long n) (hn : n ≤ 100000) (hj : 0 ≤ a ∧ a < n) (kk : ∀ M', M' = wl M c a.toNat x → fq M M' → gx cx d i (pc + 1) ls st (M', S) Q) : gx cx d i pc ls (.long x :: zv a :: .ref c :: st) (M, S) Q := by
  refine g4 hf rfl rfl (st' := st) (h' := (wl M c a.toNat x, S)) ?_ (kk _ rfl (fq_wl M hc))
  show (if c < cx.2.2.2.2 then none else match rf_el (M, S) .long c (Int32.ofInt a) with | some _ => some (st, (rf_wl M c (Int32.ofInt a).toNatClampNeg x, S)) | none => none) = _
  rw [if_neg (Nat.not_lt.mpr hs.1), hs.el _ (ix_z hj hn).1, (ix_z hj hn).2]
  rfl
theorem n_bs {c n : Nat} (hc : 353 ≤ c) (hf : cx.1 i pc = some (.bastore, aux)) (hs : ga cx S c .byte n) (hn : n ≤ 100000) (hj : 0 ≤ a ∧ a < n) (kk : ∀ M', M' = wi M c a.toNat (Int32.ofInt z).toInt8.toInt32.toInt → fq M M' → gx cx d i (pc + 1) ls st (M', S) Q) : gx cx d i pc ls (zv z :: zv a :: .ref c :: st) (M, S) Q := by
  refine g4 hf rfl rfl (st' := st) (h' := (wi M c a.toNat (Int32.ofInt z).toInt8.toInt32.toInt, S)) ?_ (kk _ rfl (fq_wi M hc))
  show (if c < cx.2.2.2.2 then none else match rf_el (M, S) .byte c (Int32.ofInt a) with
    | some _ => some (st, (rf_wi M c (Int32.ofInt a).toNatClampNeg (Int32.ofInt z).toInt8.toInt32, S))
    | none => match rf_el (M, S) .boolean c (Int32.ofInt a) with
      | some _ => some (st, (rf_wi M c (Int32.ofInt a).toNatClampNeg (Int32.ofInt z &&& 1), S))
      | none => none) = some (st, (rf_wi M c a.toNat (Int32.ofInt (Int32.ofInt z).toInt8.toInt32.toInt), S))
  rw [if_neg (Nat.not_lt.mpr hs.1), hs.el _ (ix_z hj hn).1, (ix_z hj hn).2, ofi_ti]
theorem n_zs {c n : Nat} (hc : 353 ≤ c) (hf : cx.1 i pc = some (.bastore, aux)) (hs : ga cx S c .boolean n) (hn : n ≤ 100000) (hj : 0 ≤ a ∧ a < n) (kk : ∀ M', M' = wi M c a.toNat (Int32.ofInt z &&& 1).toInt → fq M M' → gx cx d i (pc + 1) ls st (M', S) Q) : gx cx d i pc ls (zv z :: zv a :: .ref c :: st) (M, S) Q := by
  refine g4 hf rfl rfl (st' := st) (h' := (wi M c a.toNat (Int32.ofInt z &&& 1).toInt, S)) ?_ (kk _ rfl (fq_wi M hc))
  show (if c < cx.2.2.2.2 then none else match rf_el (M, S) .byte c (Int32.ofInt a) with
    | some _ => some (st, (rf_wi M c (Int32.ofInt a).toNatClampNeg (Int32.ofInt z).toInt8.toInt32, S))
    | none => match rf_el (M, S) .boolean c (Int32.ofInt a) with
      | some _ => some (st, (rf_wi M c (Int32.ofInt a).toNatClampNeg (Int32.ofInt z &&& 1), S))
      | none => none) = some (st, (rf_wi M c a.toNat (Int32.ofInt (Int32.ofInt z &&& 1).toInt), S))
  rw [if_neg (Nat.not_lt.mpr hs.1), ga_nob hs]
  dsimp only
  rw [hs.el _ (ix_z hj hn).1, (ix_z hj hn).2, ofi_ti]
theorem n_sw {J : Instr} {pc' : Nat} {v : Int} (e : a = v) (hf : cx.1 i pc = some (J, aux)) (hk : rf_kd J = 3) (he : rf_br cx.2.2.2.2 J aux pc (zv v :: st) = some (pc', st)) (kk : gx cx d i pc' ls st h Q) : gx cx d i pc ls (zv a :: st) h Q := by
  subst e; exact g3 hf hk he kk
theorem n_swl {q0 : Int} {q1 : Array (Int × Int)} {t : Nat} (hf : cx.1 i pc = some (.lookupswitch q0 q1, aux)) (ha : inr a) (he : rf_sw aux.tail (rf_tg aux) a = t) (kk : gx cx d i t ls st h Q) : gx cx d i pc ls (zv a :: st) h Q := by
  refine g3 hf rfl (pc' := t) ?_ kk
  show some (rf_sw aux.tail (rf_tg aux) (Int32.ofInt a).toInt, st) = _
  rw [ti_ofi ha, he]
theorem n_swt {q0 lo hi : Int} {q1 : Array Int} (hf : cx.1 i pc = some (.tableswitch q0 lo hi q1, aux)) (ha : inr a) (he : a < lo ∨ hi < a) (kk : gx cx d i (rf_tg aux) ls st h Q) : gx cx d i pc ls (zv a :: st) h Q := by
  refine g3 hf rfl (pc' := rf_tg aux) ?_ kk
  show (if (Int32.ofInt a).toInt < lo ∨ hi < (Int32.ofInt a).toInt then some (rf_tg aux, st) else _) = _
  rw [ti_ofi ha, if_pos he]
/-- answers -/
def vq_i (B : rf_M) (S : gS) (K : Int → rf_M → Prop) (r : Option Value) (h' : rf_H) : Prop := ∃ z M', r = some (zv z) ∧ h' = (M', S) ∧ fq B M' ∧ K z M'
def vq_l (B : rf_M) (S : gS) (K : Int64 → rf_M → Prop) (r : Option Value) (h' : rf_H) : Prop := ∃ z M', r = some (.long z) ∧ h' = (M', S) ∧ fq B M' ∧ K z M'
def vq_v (B : rf_M) (S : gS) (K : rf_M → Prop) (r : Option Value) (h' : rf_H) : Prop := ∃ M', r = none ∧ h' = (M', S) ∧ fq B M' ∧ K M'
theorem n_rb {B : rf_M} {K : Int → rf_M → Prop} (hf : cx.1 i pc = some (.ireturn, aux)) (hr : (cx.2.1 i).2.2.2 = some .boolean) (hz : z = 0 ∨ z = 1) (hR : fq B M) (hK : K z M) : gx cx d i pc ls [zv z] (M, S) (vq_i B S K) := by
  refine gx_ret hf (v := some (zv z)) ?_ ⟨z, M, rfl, rfl, hR, hK⟩
  show (rf_rt .ireturn (cx.2.1 i).2.2.2 [zv z]).map _ = _
  rw [hr]
  rcases hz with rfl | rfl <;> rfl
end VC
